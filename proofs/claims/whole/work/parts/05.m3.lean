-- X7_comesTo
def f7_comesTo_177 (now : Nat → Int32) (taint : Int32) (knows : Nat → Int32) (isThere : Nat → Int32) (taints : Nat → Int32) (known : Nat → Int32) (isOther : Int32) (x1 : Int32) (x2 : Int32) (x3 : Int32) (y1 : Int32) : Option ((Nat → Int32) × (Nat → Int32) × (Nat → Int32) × Int32) :=
  ck (isb y1) <|
    ck (inb x2 21) <|
    ck (inb x2 21) <|
    some ((upd isThere x2.toNatClampNeg (1 : Int32)), (upd taints x2.toNatClampNeg x3), known, y1)
def f7_comesTo_153 (now : Nat → Int32) (taint : Int32) (knows : Nat → Int32) (isThere : Nat → Int32) (taints : Nat → Int32) (known : Nat → Int32) (isOther : Int32) (x1 : Int32) (x2 : Int32) (x3 : Int32) (y0 : Int32) : Option ((Nat → Int32) × (Nat → Int32) × (Nat → Int32) × Int32) :=
  if isOther = 0 then
    (ck (inb x2 21) <|
    if y0 = (taints x2.toNatClampNeg) then
    (f7_comesTo_177 now taint knows isThere taints known isOther x1 x2 y0 (0 : Int32))
    else (f7_comesTo_177 now taint knows isThere taints known isOther x1 x2 y0 (1 : Int32)))
    else (f7_comesTo_177 now taint knows isThere taints known isOther x1 x2 y0 (1 : Int32))
def f7_comesTo_126 (now : Nat → Int32) (taint : Int32) (knows : Nat → Int32) (isThere : Nat → Int32) (taints : Nat → Int32) (known : Nat → Int32) (isOther : Int32) (x1 : Int32) (x2 : Int32) (x3 : Int32) : Option ((Nat → Int32) × (Nat → Int32) × (Nat → Int32) × Int32) :=
  ck (inb x2 21) <|
    if (isThere x2.toNatClampNeg) = 0 then
    (f7_comesTo_153 now taint knows isThere taints known isOther x1 x2 x3 taint)
    else (ck (inb x2 21) <|
    f7_comesTo_153 now taint knows isThere taints known isOther x1 x2 x3 ((taints x2.toNatClampNeg) ||| taint))
def f7_comesTo_108 (now : Nat → Int32) (taint : Int32) (knows : Nat → Int32) (k23 : (Nat → Int32) × (Nat → Int32) × (Nat → Int32) × Int32 × Int32 × Int32 × Int32 → Option ((Nat → Int32) × (Nat → Int32) × (Nat → Int32) × Int32)) (isThere : Nat → Int32) (taints : Nat → Int32) (known : Nat → Int32) (isOther : Int32) (x1 : Int32) (x2 : Int32) (x3 : Int32) (x4 : Int32) (x5 : Int32) (y1 : Int32) : Option ((Nat → Int32) × (Nat → Int32) × (Nat → Int32) × Int32) :=
  ck (isb y1) <|
    ck (inb x4 126) <|
    k23 (isThere, taints, (upd known x4.toNatClampNeg x5), y1, x1, x2, (x3 + (1 : Int32)))
def f7_comesTo_72 (now : Nat → Int32) (taint : Int32) (knows : Nat → Int32) (k23 : (Nat → Int32) × (Nat → Int32) × (Nat → Int32) × Int32 × Int32 × Int32 × Int32 → Option ((Nat → Int32) × (Nat → Int32) × (Nat → Int32) × Int32)) (isThere : Nat → Int32) (taints : Nat → Int32) (known : Nat → Int32) (isOther : Int32) (x1 : Int32) (x2 : Int32) (x3 : Int32) (x4 : Int32) (y0 : Int32) : Option ((Nat → Int32) × (Nat → Int32) × (Nat → Int32) × Int32) :=
  if isOther = 0 then
    (ck (inb x2 21) <|
    if (isThere x2.toNatClampNeg) = 0 then
    (f7_comesTo_108 now taint knows k23 isThere taints known isOther x1 x2 x3 x4 y0 (1 : Int32))
    else (ck (inb x4 126) <|
    if y0 = (known x4.toNatClampNeg) then
    (f7_comesTo_108 now taint knows k23 isThere taints known isOther x1 x2 x3 x4 y0 (0 : Int32))
    else (f7_comesTo_108 now taint knows k23 isThere taints known isOther x1 x2 x3 x4 y0 (1 : Int32))))
    else (f7_comesTo_108 now taint knows k23 isThere taints known isOther x1 x2 x3 x4 y0 (1 : Int32))
def f7_comesTo_66 (now : Nat → Int32) (taint : Int32) (knows : Nat → Int32) (k23 : (Nat → Int32) × (Nat → Int32) × (Nat → Int32) × Int32 × Int32 × Int32 × Int32 → Option ((Nat → Int32) × (Nat → Int32) × (Nat → Int32) × Int32)) (isThere : Nat → Int32) (taints : Nat → Int32) (known : Nat → Int32) (isOther : Int32) (x1 : Int32) (x2 : Int32) (x3 : Int32) (x4 : Int32) : Option ((Nat → Int32) × (Nat → Int32) × (Nat → Int32) × Int32) :=
  ck (inb x3 6) <|
    f7_comesTo_72 now taint knows k23 isThere taints known isOther x1 x2 x3 x4 (knows x3.toNatClampNeg)
def f7_comesTo_23b (now : Nat → Int32) (taint : Int32) (knows : Nat → Int32) (k23 : (Nat → Int32) × (Nat → Int32) × (Nat → Int32) × Int32 × Int32 × Int32 × Int32 → Option ((Nat → Int32) × (Nat → Int32) × (Nat → Int32) × Int32)) (isThere : Nat → Int32) (taints : Nat → Int32) (known : Nat → Int32) (isOther : Int32) (x1 : Int32) (x2 : Int32) (x3 : Int32) : Option ((Nat → Int32) × (Nat → Int32) × (Nat → Int32) × Int32) :=
  if (6 : Int32) ≤ x3 then
    (f7_comesTo_126 now taint knows isThere taints known isOther x1 x2 x3)
    else (ck (inb x2 21) <|
    if (isThere x2.toNatClampNeg) = 0 then
    (f7_comesTo_66 now taint knows k23 isThere taints known isOther x1 x2 x3 (((6 : Int32) * x2) + x3))
    else (ck (inb (((6 : Int32) * x2) + x3) 126) <|
    ck (inb x3 6) <|
    if (known (((6 : Int32) * x2) + x3).toNatClampNeg) = (knows x3.toNatClampNeg) then
    (f7_comesTo_66 now taint knows k23 isThere taints known isOther x1 x2 x3 (((6 : Int32) * x2) + x3))
    else (f7_comesTo_72 now taint knows k23 isThere taints known isOther x1 x2 x3 (((6 : Int32) * x2) + x3) (-1 : Int32))))
def f7_comesTo_23 (now : Nat → Int32) (taint : Int32) (knows : Nat → Int32) (n : Nat) (s : (Nat → Int32) × (Nat → Int32) × (Nat → Int32) × Int32 × Int32 × Int32 × Int32) : Option ((Nat → Int32) × (Nat → Int32) × (Nat → Int32) × Int32) := itf (fun k s => f7_comesTo_23b now taint knows k s.1 s.2.1 s.2.2.1 s.2.2.2.1 s.2.2.2.2.1 s.2.2.2.2.2.1 s.2.2.2.2.2.2) n s
def f7_comesTo (now : Nat → Int32) (taint : Int32) (knows : Nat → Int32) (isThere : Nat → Int32) (taints : Nat → Int32) (known : Nat → Int32) (isOther : Int32) (v0 : Int32) : Option ((Nat → Int32) × (Nat → Int32) × (Nat → Int32) × Int32) :=
  if (now 0) ≤ v0 then
    (f7_comesTo_23 now taint knows 1000 (isThere, taints, known, isOther, v0, (now 0), (0 : Int32)))
    else (f7_comesTo_23 now taint knows 1000 (isThere, taints, known, isOther, v0, v0, (0 : Int32)))
def rm7_comesTo : Room := { frames := 0, cells := 0, slots := 0, locals := 0 }
theorem hm7_comesTo_0 : ∀ w ∈ u_ws RX7 TX7 24, w ∈ wsX7_comesTo := by decide +kernel
theorem hm7_comesTo_1 : Cond.fieldLink RX7 170 "SecretStepsModel" "isOther" "Z" ∈ wsX7_comesTo := by decide +kernel
theorem hm7_comesTo_2 : Cond.fieldLink RX7 35 "SecretStepsModel" "taints" "[I" ∈ wsX7_comesTo := by decide +kernel
theorem hm7_comesTo_3 : Cond.fieldLink RX7 31 "SecretStepsModel" "isThere" "[Z" ∈ wsX7_comesTo := by decide +kernel
theorem hm7_comesTo_4 : Cond.fieldLink RX7 173 "SecretStepsModel" "taint" "I" ∈ wsX7_comesTo := by decide +kernel
theorem hm7_comesTo_5 : Cond.fieldLink RX7 38 "SecretStepsModel" "known" "[I" ∈ wsX7_comesTo := by decide +kernel
theorem hm7_comesTo_6 : Cond.fieldLink RX7 41 "SecretStepsModel" "knows" "[I" ∈ wsX7_comesTo := by decide +kernel
theorem hm7_comesTo_7 : Cond.fieldLink RX7 7 "SecretStepsModel" "now" "[I" ∈ wsX7_comesTo := by decide +kernel
set_option maxHeartbeats 4000000 in
set_option maxRecDepth 100000 in
theorem k7_comesTo_177 {p : Program} {l : Launch} {e : Env} {s : State} {m : MethodId} {args : Array Value} {below : List Frame} {meth : Method} {c : Code} {G : gG} {A : Nat → Prop} {Q : State → Prop} {mo mo_now mo_aside mo_past mo_refusals mo_text mo_vars mo_sights mo_isThere mo_taints mo_known mo_knows mo_letters mo_numbers : Nat} (C : CX p s m args meth c G A cX7_comesTo 6 RX7 wsX7_comesTo) {states : Int32} {length : Int32} {many : Int32} {steps : Int32} {isCut : Int32} {at_ : Int32} {isFaulty : Int32} {orders : Int32} {hash : Int64} {now : Nat → Int32} {taint : Int32} {knows : Nat → Int32} {isThere : Nat → Int32} {taints : Nat → Int32} {known : Nat → Int32} {isOther : Int32} {x1 : Int32} {x2 : Int32} {x3 : Int32} {y1 : Int32} {res : (Nat → Int32) × (Nat → Int32) × (Nat → Int32) × Int32} (hR : ∀ (lv : List (Nat × Value)) (pc : Nat), decode cX7_comesTo pc = .ok (.return_, 1) → GG p l e rm7_comesTo s m args below meth c G A 6 0 0 Q [(mo, oB 7 [.ref mo_now, .ref mo_aside, .ref mo_past, .int states, .ref mo_refusals, .ref mo_text, .int length, .ref mo_vars, .ref mo_sights, .int many, .int steps, .int isCut, .ref mo_isThere, .ref mo_taints, .ref mo_known, .int taint, .ref mo_knows, .int res.2.2.2, .int at_, .int isFaulty, .int orders, .ref mo_letters, .ref mo_numbers, .long hash]), (mo_now, aI G 104 now), (mo_isThere, aZ G 21 res.1), (mo_taints, aI G 21 res.2.1), (mo_known, aI G 126 res.2.2.1), (mo_knows, aI G 6 knows)] lv pc [])
    (hf : f7_comesTo_177 now taint knows isThere taints known isOther x1 x2 x3 y1 = some res) : GG p l e rm7_comesTo s m args below meth c G A 6 0 0 Q [(mo, oB 7 [.ref mo_now, .ref mo_aside, .ref mo_past, .int states, .ref mo_refusals, .ref mo_text, .int length, .ref mo_vars, .ref mo_sights, .int many, .int steps, .int isCut, .ref mo_isThere, .ref mo_taints, .ref mo_known, .int taint, .ref mo_knows, .int isOther, .int at_, .int isFaulty, .int orders, .ref mo_letters, .ref mo_numbers, .long hash]), (mo_now, aI G 104 now), (mo_isThere, aZ G 21 isThere), (mo_taints, aI G 21 taints), (mo_known, aI G 126 known), (mo_knows, aI G 6 knows)] [(0, .ref mo), (1, .int x1), (2, .int x2), (3, .int x3)] 177 [.int y1, .ref mo] := by
  unfold f7_comesTo_177 at hf
  obtain ⟨h1, hf⟩ := ck_some hf
  refine g_put (C0 := RX7) (T := TX7) (N := 24) (ci := 7) (ty := .boolean) (WS' := [(mo, oB 7 [.ref mo_now, .ref mo_aside, .ref mo_past, .int states, .ref mo_refusals, .ref mo_text, .int length, .ref mo_vars, .ref mo_sights, .int many, .int steps, .int isCut, .ref mo_isThere, .ref mo_taints, .ref mo_known, .int taint, .ref mo_knows, .int y1, .int at_, .int isFaulty, .int orders, .ref mo_letters, .ref mo_numbers, .long hash]), (mo_now, aI G 104 now), (mo_isThere, aZ G 21 isThere), (mo_taints, aI G 21 taints), (mo_known, aI G 126 known), (mo_knows, aI G 6 knows)]) C hm7_comesTo_0 tyX7 tyX7_ok nmX7 0 rfl rfl 17 (by decide) hm7_comesTo_1 rfl rfl (isb_n h1) (isb_f h1) (Nat.le_of_ble_eq_true rfl) dX7_comesTo_177 rfl ?_
  refine g_aload_n C dX7_comesTo_180 rfl 0 rfl ?_
  refine g_get (C0 := RX7) (T := TX7) (N := 24) (ci := 7) (v := .ref mo_taints) C hm7_comesTo_0 0 rfl rfl 13 (by decide) hm7_comesTo_2 rfl dX7_comesTo_181 ?_
  refine g_iload_n C dX7_comesTo_184 rfl 2 rfl ?_
  refine g_iload_n C dX7_comesTo_185 rfl 3 rfl ?_
  obtain ⟨h2, hf⟩ := ck_some hf
  refine g_iast (n := 21) (WS' := [(mo, oB 7 [.ref mo_now, .ref mo_aside, .ref mo_past, .int states, .ref mo_refusals, .ref mo_text, .int length, .ref mo_vars, .ref mo_sights, .int many, .int steps, .int isCut, .ref mo_isThere, .ref mo_taints, .ref mo_known, .int taint, .ref mo_knows, .int y1, .int at_, .int isFaulty, .int orders, .ref mo_letters, .ref mo_numbers, .long hash]), (mo_now, aI G 104 now), (mo_isThere, aZ G 21 isThere), (mo_taints, aI G 21 (upd taints x2.toNatClampNeg x3)), (mo_known, aI G 126 known), (mo_knows, aI G 6 knows)]) C 3 rfl h2 rfl dX7_comesTo_186 rfl ?_
  refine g_aload_n C dX7_comesTo_187 rfl 0 rfl ?_
  refine g_get (C0 := RX7) (T := TX7) (N := 24) (ci := 7) (v := .ref mo_isThere) C hm7_comesTo_0 0 rfl rfl 12 (by decide) hm7_comesTo_3 rfl dX7_comesTo_188 ?_
  refine g_iload_n C dX7_comesTo_191 rfl 2 rfl ?_
  refine g_iconst (v := (1 : Int32)) C dX7_comesTo_192 (by decide +kernel) ?_
  obtain ⟨h3, hf⟩ := ck_some hf
  refine g_zast (n := 21) (WS' := [(mo, oB 7 [.ref mo_now, .ref mo_aside, .ref mo_past, .int states, .ref mo_refusals, .ref mo_text, .int length, .ref mo_vars, .ref mo_sights, .int many, .int steps, .int isCut, .ref mo_isThere, .ref mo_taints, .ref mo_known, .int taint, .ref mo_knows, .int y1, .int at_, .int isFaulty, .int orders, .ref mo_letters, .ref mo_numbers, .long hash]), (mo_now, aI G 104 now), (mo_isThere, aZ G 21 (upd isThere x2.toNatClampNeg (1 : Int32))), (mo_taints, aI G 21 (upd taints x2.toNatClampNeg x3)), (mo_known, aI G 126 known), (mo_knows, aI G 6 knows)]) C 2 rfl h3 rfl (by decide +kernel) dX7_comesTo_193 rfl ?_
  obtain rfl := Option.some.inj hf
  exact hR _ _ dX7_comesTo_194
set_option maxHeartbeats 4000000 in
set_option maxRecDepth 100000 in
theorem k7_comesTo_153 {p : Program} {l : Launch} {e : Env} {s : State} {m : MethodId} {args : Array Value} {below : List Frame} {meth : Method} {c : Code} {G : gG} {A : Nat → Prop} {Q : State → Prop} {mo mo_now mo_aside mo_past mo_refusals mo_text mo_vars mo_sights mo_isThere mo_taints mo_known mo_knows mo_letters mo_numbers : Nat} (C : CX p s m args meth c G A cX7_comesTo 6 RX7 wsX7_comesTo) {states : Int32} {length : Int32} {many : Int32} {steps : Int32} {isCut : Int32} {at_ : Int32} {isFaulty : Int32} {orders : Int32} {hash : Int64} {now : Nat → Int32} {taint : Int32} {knows : Nat → Int32} {isThere : Nat → Int32} {taints : Nat → Int32} {known : Nat → Int32} {isOther : Int32} {x1 : Int32} {x2 : Int32} {x3 : Int32} {y0 : Int32} {res : (Nat → Int32) × (Nat → Int32) × (Nat → Int32) × Int32} (hR : ∀ (lv : List (Nat × Value)) (pc : Nat), decode cX7_comesTo pc = .ok (.return_, 1) → GG p l e rm7_comesTo s m args below meth c G A 6 0 0 Q [(mo, oB 7 [.ref mo_now, .ref mo_aside, .ref mo_past, .int states, .ref mo_refusals, .ref mo_text, .int length, .ref mo_vars, .ref mo_sights, .int many, .int steps, .int isCut, .ref mo_isThere, .ref mo_taints, .ref mo_known, .int taint, .ref mo_knows, .int res.2.2.2, .int at_, .int isFaulty, .int orders, .ref mo_letters, .ref mo_numbers, .long hash]), (mo_now, aI G 104 now), (mo_isThere, aZ G 21 res.1), (mo_taints, aI G 21 res.2.1), (mo_known, aI G 126 res.2.2.1), (mo_knows, aI G 6 knows)] lv pc [])
    (hf : f7_comesTo_153 now taint knows isThere taints known isOther x1 x2 x3 y0 = some res) : GG p l e rm7_comesTo s m args below meth c G A 6 0 0 Q [(mo, oB 7 [.ref mo_now, .ref mo_aside, .ref mo_past, .int states, .ref mo_refusals, .ref mo_text, .int length, .ref mo_vars, .ref mo_sights, .int many, .int steps, .int isCut, .ref mo_isThere, .ref mo_taints, .ref mo_known, .int taint, .ref mo_knows, .int isOther, .int at_, .int isFaulty, .int orders, .ref mo_letters, .ref mo_numbers, .long hash]), (mo_now, aI G 104 now), (mo_isThere, aZ G 21 isThere), (mo_taints, aI G 21 taints), (mo_known, aI G 126 known), (mo_knows, aI G 6 knows)] [(0, .ref mo), (1, .int x1), (2, .int x2), (3, .int x3)] 153 [.int y0] := by
  unfold f7_comesTo_153 at hf
  refine g_istore_n (lv' := [(0, .ref mo), (1, .int x1), (2, .int x2), (3, .int y0)]) C dX7_comesTo_153 rfl (by decide) [1, 2, 3, 0] rfl ?_
  refine g_aload_n C dX7_comesTo_154 rfl 0 rfl ?_
  refine g_aload_n C dX7_comesTo_155 rfl 0 rfl ?_
  refine g_get (C0 := RX7) (T := TX7) (N := 24) (ci := 7) (v := .int isOther) C hm7_comesTo_0 0 rfl rfl 17 (by decide) hm7_comesTo_1 rfl dX7_comesTo_156 ?_
  refine g_if_ne (tgt := 172) C dX7_comesTo_159 (by decide) (fun c4 => ?_) (fun c4 => ?_)
  · replace hf := ite_f c4 hf
    refine g_iconst (v := (1 : Int32)) C dX7_comesTo_172 (by decide +kernel) ?_
    refine g_goto (tgt := 177) C dX7_comesTo_173 (by decide) ?_
    exact k7_comesTo_177 C hR hf
  · replace hf := ite_t c4 hf
    refine g_iload_n C dX7_comesTo_162 rfl 3 rfl ?_
    refine g_aload_n C dX7_comesTo_163 rfl 0 rfl ?_
    refine g_get (C0 := RX7) (T := TX7) (N := 24) (ci := 7) (v := .ref mo_taints) C hm7_comesTo_0 0 rfl rfl 13 (by decide) hm7_comesTo_2 rfl dX7_comesTo_164 ?_
    refine g_iload_n C dX7_comesTo_167 rfl 2 rfl ?_
    obtain ⟨h5, hf⟩ := ck_some hf
    refine g_iald (n := 21) (v := (taints x2.toNatClampNeg)) C 3 rfl h5 rfl rfl dX7_comesTo_168 ?_
    refine g_icmp_eq (tgt := 176) C dX7_comesTo_169 (by decide) (fun c6 => ?_) (fun c6 => ?_)
    · replace hf := ite_t c6 hf
      refine g_iconst (v := (0 : Int32)) C dX7_comesTo_176 (by decide +kernel) ?_
      exact k7_comesTo_177 C hR hf
    · replace hf := ite_f c6 hf
      refine g_iconst (v := (1 : Int32)) C dX7_comesTo_172 (by decide +kernel) ?_
      refine g_goto (tgt := 177) C dX7_comesTo_173 (by decide) ?_
      exact k7_comesTo_177 C hR hf
set_option maxHeartbeats 4000000 in
set_option maxRecDepth 100000 in
theorem k7_comesTo_126 {p : Program} {l : Launch} {e : Env} {s : State} {m : MethodId} {args : Array Value} {below : List Frame} {meth : Method} {c : Code} {G : gG} {A : Nat → Prop} {Q : State → Prop} {mo mo_now mo_aside mo_past mo_refusals mo_text mo_vars mo_sights mo_isThere mo_taints mo_known mo_knows mo_letters mo_numbers : Nat} (C : CX p s m args meth c G A cX7_comesTo 6 RX7 wsX7_comesTo) {states : Int32} {length : Int32} {many : Int32} {steps : Int32} {isCut : Int32} {at_ : Int32} {isFaulty : Int32} {orders : Int32} {hash : Int64} {now : Nat → Int32} {taint : Int32} {knows : Nat → Int32} {isThere : Nat → Int32} {taints : Nat → Int32} {known : Nat → Int32} {isOther : Int32} {x1 : Int32} {x2 : Int32} {x3 : Int32} {res : (Nat → Int32) × (Nat → Int32) × (Nat → Int32) × Int32} (hR : ∀ (lv : List (Nat × Value)) (pc : Nat), decode cX7_comesTo pc = .ok (.return_, 1) → GG p l e rm7_comesTo s m args below meth c G A 6 0 0 Q [(mo, oB 7 [.ref mo_now, .ref mo_aside, .ref mo_past, .int states, .ref mo_refusals, .ref mo_text, .int length, .ref mo_vars, .ref mo_sights, .int many, .int steps, .int isCut, .ref mo_isThere, .ref mo_taints, .ref mo_known, .int taint, .ref mo_knows, .int res.2.2.2, .int at_, .int isFaulty, .int orders, .ref mo_letters, .ref mo_numbers, .long hash]), (mo_now, aI G 104 now), (mo_isThere, aZ G 21 res.1), (mo_taints, aI G 21 res.2.1), (mo_known, aI G 126 res.2.2.1), (mo_knows, aI G 6 knows)] lv pc [])
    (hf : f7_comesTo_126 now taint knows isThere taints known isOther x1 x2 x3 = some res) : GG p l e rm7_comesTo s m args below meth c G A 6 0 0 Q [(mo, oB 7 [.ref mo_now, .ref mo_aside, .ref mo_past, .int states, .ref mo_refusals, .ref mo_text, .int length, .ref mo_vars, .ref mo_sights, .int many, .int steps, .int isCut, .ref mo_isThere, .ref mo_taints, .ref mo_known, .int taint, .ref mo_knows, .int isOther, .int at_, .int isFaulty, .int orders, .ref mo_letters, .ref mo_numbers, .long hash]), (mo_now, aI G 104 now), (mo_isThere, aZ G 21 isThere), (mo_taints, aI G 21 taints), (mo_known, aI G 126 known), (mo_knows, aI G 6 knows)] [(0, .ref mo), (1, .int x1), (2, .int x2), (3, .int x3)] 126 [] := by
  unfold f7_comesTo_126 at hf
  refine g_aload_n C dX7_comesTo_126 rfl 0 rfl ?_
  refine g_get (C0 := RX7) (T := TX7) (N := 24) (ci := 7) (v := .ref mo_isThere) C hm7_comesTo_0 0 rfl rfl 12 (by decide) hm7_comesTo_3 rfl dX7_comesTo_127 ?_
  refine g_iload_n C dX7_comesTo_130 rfl 2 rfl ?_
  obtain ⟨h7, hf⟩ := ck_some hf
  refine g_zald (n := 21) (v := (isThere x2.toNatClampNeg)) C 2 rfl h7 rfl rfl dX7_comesTo_131 ?_
  refine g_if_eq (tgt := 149) C dX7_comesTo_132 (by decide) (fun c8 => ?_) (fun c8 => ?_)
  · replace hf := ite_t c8 hf
    refine g_aload_n C dX7_comesTo_149 rfl 0 rfl ?_
    refine g_get (C0 := RX7) (T := TX7) (N := 24) (ci := 7) (v := .int taint) C hm7_comesTo_0 0 rfl rfl 15 (by decide) hm7_comesTo_4 rfl dX7_comesTo_150 ?_
    exact k7_comesTo_153 C hR hf
  · replace hf := ite_f c8 hf
    refine g_aload_n C dX7_comesTo_135 rfl 0 rfl ?_
    refine g_get (C0 := RX7) (T := TX7) (N := 24) (ci := 7) (v := .ref mo_taints) C hm7_comesTo_0 0 rfl rfl 13 (by decide) hm7_comesTo_2 rfl dX7_comesTo_136 ?_
    refine g_iload_n C dX7_comesTo_139 rfl 2 rfl ?_
    obtain ⟨h9, hf⟩ := ck_some hf
    refine g_iald (n := 21) (v := (taints x2.toNatClampNeg)) C 3 rfl h9 rfl rfl dX7_comesTo_140 ?_
    refine g_aload_n C dX7_comesTo_141 rfl 0 rfl ?_
    refine g_get (C0 := RX7) (T := TX7) (N := 24) (ci := 7) (v := .int taint) C hm7_comesTo_0 0 rfl rfl 15 (by decide) hm7_comesTo_4 rfl dX7_comesTo_142 ?_
    refine g_ior C dX7_comesTo_145 ?_
    refine g_goto (tgt := 153) C dX7_comesTo_146 (by decide) ?_
    exact k7_comesTo_153 C hR hf
set_option maxHeartbeats 4000000 in
set_option maxRecDepth 100000 in
theorem k7_comesTo_108 {p : Program} {l : Launch} {e : Env} {s : State} {m : MethodId} {args : Array Value} {below : List Frame} {meth : Method} {c : Code} {G : gG} {A : Nat → Prop} {Q : State → Prop} {mo mo_now mo_aside mo_past mo_refusals mo_text mo_vars mo_sights mo_isThere mo_taints mo_known mo_knows mo_letters mo_numbers : Nat} (C : CX p s m args meth c G A cX7_comesTo 6 RX7 wsX7_comesTo) {states : Int32} {length : Int32} {many : Int32} {steps : Int32} {isCut : Int32} {at_ : Int32} {isFaulty : Int32} {orders : Int32} {hash : Int64} {now : Nat → Int32} {taint : Int32} {knows : Nat → Int32} {k23 : (Nat → Int32) × (Nat → Int32) × (Nat → Int32) × Int32 × Int32 × Int32 × Int32 → Option ((Nat → Int32) × (Nat → Int32) × (Nat → Int32) × Int32)} {isThere : Nat → Int32} {taints : Nat → Int32} {known : Nat → Int32} {isOther : Int32} {x1 : Int32} {x2 : Int32} {x3 : Int32} {x4 : Int32} {x5 : Int32} {y1 : Int32} {res : (Nat → Int32) × (Nat → Int32) × (Nat → Int32) × Int32} (hR : ∀ (lv : List (Nat × Value)) (pc : Nat), decode cX7_comesTo pc = .ok (.return_, 1) → GG p l e rm7_comesTo s m args below meth c G A 6 0 0 Q [(mo, oB 7 [.ref mo_now, .ref mo_aside, .ref mo_past, .int states, .ref mo_refusals, .ref mo_text, .int length, .ref mo_vars, .ref mo_sights, .int many, .int steps, .int isCut, .ref mo_isThere, .ref mo_taints, .ref mo_known, .int taint, .ref mo_knows, .int res.2.2.2, .int at_, .int isFaulty, .int orders, .ref mo_letters, .ref mo_numbers, .long hash]), (mo_now, aI G 104 now), (mo_isThere, aZ G 21 res.1), (mo_taints, aI G 21 res.2.1), (mo_known, aI G 126 res.2.2.1), (mo_knows, aI G 6 knows)] lv pc [])
    (hk23 : ∀ s', k23 s' = some res → GG p l e rm7_comesTo s m args below meth c G A 6 0 0 Q [(mo, oB 7 [.ref mo_now, .ref mo_aside, .ref mo_past, .int states, .ref mo_refusals, .ref mo_text, .int length, .ref mo_vars, .ref mo_sights, .int many, .int steps, .int isCut, .ref mo_isThere, .ref mo_taints, .ref mo_known, .int taint, .ref mo_knows, .int s'.2.2.2.1, .int at_, .int isFaulty, .int orders, .ref mo_letters, .ref mo_numbers, .long hash]), (mo_now, aI G 104 now), (mo_isThere, aZ G 21 s'.1), (mo_taints, aI G 21 s'.2.1), (mo_known, aI G 126 s'.2.2.1), (mo_knows, aI G 6 knows)] [(0, .ref mo), (1, .int s'.2.2.2.2.1), (2, .int s'.2.2.2.2.2.1), (3, .int s'.2.2.2.2.2.2)] 23 [])
    (hf : f7_comesTo_108 now taint knows k23 isThere taints known isOther x1 x2 x3 x4 x5 y1 = some res) : GG p l e rm7_comesTo s m args below meth c G A 6 0 0 Q [(mo, oB 7 [.ref mo_now, .ref mo_aside, .ref mo_past, .int states, .ref mo_refusals, .ref mo_text, .int length, .ref mo_vars, .ref mo_sights, .int many, .int steps, .int isCut, .ref mo_isThere, .ref mo_taints, .ref mo_known, .int taint, .ref mo_knows, .int isOther, .int at_, .int isFaulty, .int orders, .ref mo_letters, .ref mo_numbers, .long hash]), (mo_now, aI G 104 now), (mo_isThere, aZ G 21 isThere), (mo_taints, aI G 21 taints), (mo_known, aI G 126 known), (mo_knows, aI G 6 knows)] [(0, .ref mo), (1, .int x1), (2, .int x2), (3, .int x3), (4, .int x4), (5, .int x5)] 108 [.int y1, .ref mo] := by
  unfold f7_comesTo_108 at hf
  obtain ⟨h10, hf⟩ := ck_some hf
  refine g_put (C0 := RX7) (T := TX7) (N := 24) (ci := 7) (ty := .boolean) (WS' := [(mo, oB 7 [.ref mo_now, .ref mo_aside, .ref mo_past, .int states, .ref mo_refusals, .ref mo_text, .int length, .ref mo_vars, .ref mo_sights, .int many, .int steps, .int isCut, .ref mo_isThere, .ref mo_taints, .ref mo_known, .int taint, .ref mo_knows, .int y1, .int at_, .int isFaulty, .int orders, .ref mo_letters, .ref mo_numbers, .long hash]), (mo_now, aI G 104 now), (mo_isThere, aZ G 21 isThere), (mo_taints, aI G 21 taints), (mo_known, aI G 126 known), (mo_knows, aI G 6 knows)]) C hm7_comesTo_0 tyX7 tyX7_ok nmX7 0 rfl rfl 17 (by decide) hm7_comesTo_1 rfl rfl (isb_n h10) (isb_f h10) (Nat.le_of_ble_eq_true rfl) dX7_comesTo_108 rfl ?_
  refine g_aload_n C dX7_comesTo_111 rfl 0 rfl ?_
  refine g_get (C0 := RX7) (T := TX7) (N := 24) (ci := 7) (v := .ref mo_known) C hm7_comesTo_0 0 rfl rfl 14 (by decide) hm7_comesTo_5 rfl dX7_comesTo_112 ?_
  refine g_iload C dX7_comesTo_115 4 rfl ?_
  refine g_iload C dX7_comesTo_117 5 rfl ?_
  obtain ⟨h11, hf⟩ := ck_some hf
  refine g_iast (n := 126) (WS' := [(mo, oB 7 [.ref mo_now, .ref mo_aside, .ref mo_past, .int states, .ref mo_refusals, .ref mo_text, .int length, .ref mo_vars, .ref mo_sights, .int many, .int steps, .int isCut, .ref mo_isThere, .ref mo_taints, .ref mo_known, .int taint, .ref mo_knows, .int y1, .int at_, .int isFaulty, .int orders, .ref mo_letters, .ref mo_numbers, .long hash]), (mo_now, aI G 104 now), (mo_isThere, aZ G 21 isThere), (mo_taints, aI G 21 taints), (mo_known, aI G 126 (upd known x4.toNatClampNeg x5)), (mo_knows, aI G 6 knows)]) C 4 rfl h11 rfl dX7_comesTo_119 rfl ?_
  refine g_iinc (v := (x3 + (1 : Int32))) (lv' := [(0, .ref mo), (1, .int x1), (2, .int x2), (3, .int (x3 + (1 : Int32))), (4, .int x4), (5, .int x5)]) C dX7_comesTo_120 3 rfl rfl (by decide) [1, 2, 3, 0, 4, 5] rfl ?_
  refine g_goto (tgt := 23) C dX7_comesTo_123 (by decide) ?_
  refine g_lv (lv' := [(0, .ref mo), (1, .int x1), (2, .int x2), (3, .int (x3 + (1 : Int32)))]) [0, 1, 2, 3] rfl ?_
  exact hk23 _ hf
set_option maxHeartbeats 4000000 in
set_option maxRecDepth 100000 in
theorem k7_comesTo_72 {p : Program} {l : Launch} {e : Env} {s : State} {m : MethodId} {args : Array Value} {below : List Frame} {meth : Method} {c : Code} {G : gG} {A : Nat → Prop} {Q : State → Prop} {mo mo_now mo_aside mo_past mo_refusals mo_text mo_vars mo_sights mo_isThere mo_taints mo_known mo_knows mo_letters mo_numbers : Nat} (C : CX p s m args meth c G A cX7_comesTo 6 RX7 wsX7_comesTo) {states : Int32} {length : Int32} {many : Int32} {steps : Int32} {isCut : Int32} {at_ : Int32} {isFaulty : Int32} {orders : Int32} {hash : Int64} {now : Nat → Int32} {taint : Int32} {knows : Nat → Int32} {k23 : (Nat → Int32) × (Nat → Int32) × (Nat → Int32) × Int32 × Int32 × Int32 × Int32 → Option ((Nat → Int32) × (Nat → Int32) × (Nat → Int32) × Int32)} {isThere : Nat → Int32} {taints : Nat → Int32} {known : Nat → Int32} {isOther : Int32} {x1 : Int32} {x2 : Int32} {x3 : Int32} {x4 : Int32} {y0 : Int32} {res : (Nat → Int32) × (Nat → Int32) × (Nat → Int32) × Int32} (hR : ∀ (lv : List (Nat × Value)) (pc : Nat), decode cX7_comesTo pc = .ok (.return_, 1) → GG p l e rm7_comesTo s m args below meth c G A 6 0 0 Q [(mo, oB 7 [.ref mo_now, .ref mo_aside, .ref mo_past, .int states, .ref mo_refusals, .ref mo_text, .int length, .ref mo_vars, .ref mo_sights, .int many, .int steps, .int isCut, .ref mo_isThere, .ref mo_taints, .ref mo_known, .int taint, .ref mo_knows, .int res.2.2.2, .int at_, .int isFaulty, .int orders, .ref mo_letters, .ref mo_numbers, .long hash]), (mo_now, aI G 104 now), (mo_isThere, aZ G 21 res.1), (mo_taints, aI G 21 res.2.1), (mo_known, aI G 126 res.2.2.1), (mo_knows, aI G 6 knows)] lv pc [])
    (hk23 : ∀ s', k23 s' = some res → GG p l e rm7_comesTo s m args below meth c G A 6 0 0 Q [(mo, oB 7 [.ref mo_now, .ref mo_aside, .ref mo_past, .int states, .ref mo_refusals, .ref mo_text, .int length, .ref mo_vars, .ref mo_sights, .int many, .int steps, .int isCut, .ref mo_isThere, .ref mo_taints, .ref mo_known, .int taint, .ref mo_knows, .int s'.2.2.2.1, .int at_, .int isFaulty, .int orders, .ref mo_letters, .ref mo_numbers, .long hash]), (mo_now, aI G 104 now), (mo_isThere, aZ G 21 s'.1), (mo_taints, aI G 21 s'.2.1), (mo_known, aI G 126 s'.2.2.1), (mo_knows, aI G 6 knows)] [(0, .ref mo), (1, .int s'.2.2.2.2.1), (2, .int s'.2.2.2.2.2.1), (3, .int s'.2.2.2.2.2.2)] 23 [])
    (hf : f7_comesTo_72 now taint knows k23 isThere taints known isOther x1 x2 x3 x4 y0 = some res) : GG p l e rm7_comesTo s m args below meth c G A 6 0 0 Q [(mo, oB 7 [.ref mo_now, .ref mo_aside, .ref mo_past, .int states, .ref mo_refusals, .ref mo_text, .int length, .ref mo_vars, .ref mo_sights, .int many, .int steps, .int isCut, .ref mo_isThere, .ref mo_taints, .ref mo_known, .int taint, .ref mo_knows, .int isOther, .int at_, .int isFaulty, .int orders, .ref mo_letters, .ref mo_numbers, .long hash]), (mo_now, aI G 104 now), (mo_isThere, aZ G 21 isThere), (mo_taints, aI G 21 taints), (mo_known, aI G 126 known), (mo_knows, aI G 6 knows)] [(0, .ref mo), (1, .int x1), (2, .int x2), (3, .int x3), (4, .int x4)] 72 [.int y0] := by
  unfold f7_comesTo_72 at hf
  refine g_istore (lv' := [(0, .ref mo), (1, .int x1), (2, .int x2), (3, .int x3), (4, .int x4), (5, .int y0)]) C dX7_comesTo_72 (by decide) [1, 2, 3, 4, 5, 0] rfl ?_
  refine g_aload_n C dX7_comesTo_74 rfl 0 rfl ?_
  refine g_aload_n C dX7_comesTo_75 rfl 0 rfl ?_
  refine g_get (C0 := RX7) (T := TX7) (N := 24) (ci := 7) (v := .int isOther) C hm7_comesTo_0 0 rfl rfl 17 (by decide) hm7_comesTo_1 rfl dX7_comesTo_76 ?_
  refine g_if_ne (tgt := 103) C dX7_comesTo_79 (by decide) (fun c12 => ?_) (fun c12 => ?_)
  · replace hf := ite_f c12 hf
    refine g_iconst (v := (1 : Int32)) C dX7_comesTo_103 (by decide +kernel) ?_
    refine g_goto (tgt := 108) C dX7_comesTo_104 (by decide) ?_
    exact k7_comesTo_108 C hR hk23 hf
  · replace hf := ite_t c12 hf
    refine g_aload_n C dX7_comesTo_82 rfl 0 rfl ?_
    refine g_get (C0 := RX7) (T := TX7) (N := 24) (ci := 7) (v := .ref mo_isThere) C hm7_comesTo_0 0 rfl rfl 12 (by decide) hm7_comesTo_3 rfl dX7_comesTo_83 ?_
    refine g_iload_n C dX7_comesTo_86 rfl 2 rfl ?_
    obtain ⟨h13, hf⟩ := ck_some hf
    refine g_zald (n := 21) (v := (isThere x2.toNatClampNeg)) C 2 rfl h13 rfl rfl dX7_comesTo_87 ?_
    refine g_if_eq (tgt := 103) C dX7_comesTo_88 (by decide) (fun c14 => ?_) (fun c14 => ?_)
    · replace hf := ite_t c14 hf
      refine g_iconst (v := (1 : Int32)) C dX7_comesTo_103 (by decide +kernel) ?_
      refine g_goto (tgt := 108) C dX7_comesTo_104 (by decide) ?_
      exact k7_comesTo_108 C hR hk23 hf
    · replace hf := ite_f c14 hf
      refine g_iload C dX7_comesTo_91 5 rfl ?_
      refine g_aload_n C dX7_comesTo_93 rfl 0 rfl ?_
      refine g_get (C0 := RX7) (T := TX7) (N := 24) (ci := 7) (v := .ref mo_known) C hm7_comesTo_0 0 rfl rfl 14 (by decide) hm7_comesTo_5 rfl dX7_comesTo_94 ?_
      refine g_iload C dX7_comesTo_97 4 rfl ?_
      obtain ⟨h15, hf⟩ := ck_some hf
      refine g_iald (n := 126) (v := (known x4.toNatClampNeg)) C 4 rfl h15 rfl rfl dX7_comesTo_99 ?_
      refine g_icmp_eq (tgt := 107) C dX7_comesTo_100 (by decide) (fun c16 => ?_) (fun c16 => ?_)
      · replace hf := ite_t c16 hf
        refine g_iconst (v := (0 : Int32)) C dX7_comesTo_107 (by decide +kernel) ?_
        exact k7_comesTo_108 C hR hk23 hf
      · replace hf := ite_f c16 hf
        refine g_iconst (v := (1 : Int32)) C dX7_comesTo_103 (by decide +kernel) ?_
        refine g_goto (tgt := 108) C dX7_comesTo_104 (by decide) ?_
        exact k7_comesTo_108 C hR hk23 hf
set_option maxHeartbeats 4000000 in
set_option maxRecDepth 100000 in
theorem k7_comesTo_66 {p : Program} {l : Launch} {e : Env} {s : State} {m : MethodId} {args : Array Value} {below : List Frame} {meth : Method} {c : Code} {G : gG} {A : Nat → Prop} {Q : State → Prop} {mo mo_now mo_aside mo_past mo_refusals mo_text mo_vars mo_sights mo_isThere mo_taints mo_known mo_knows mo_letters mo_numbers : Nat} (C : CX p s m args meth c G A cX7_comesTo 6 RX7 wsX7_comesTo) {states : Int32} {length : Int32} {many : Int32} {steps : Int32} {isCut : Int32} {at_ : Int32} {isFaulty : Int32} {orders : Int32} {hash : Int64} {now : Nat → Int32} {taint : Int32} {knows : Nat → Int32} {k23 : (Nat → Int32) × (Nat → Int32) × (Nat → Int32) × Int32 × Int32 × Int32 × Int32 → Option ((Nat → Int32) × (Nat → Int32) × (Nat → Int32) × Int32)} {isThere : Nat → Int32} {taints : Nat → Int32} {known : Nat → Int32} {isOther : Int32} {x1 : Int32} {x2 : Int32} {x3 : Int32} {x4 : Int32} {res : (Nat → Int32) × (Nat → Int32) × (Nat → Int32) × Int32} (hR : ∀ (lv : List (Nat × Value)) (pc : Nat), decode cX7_comesTo pc = .ok (.return_, 1) → GG p l e rm7_comesTo s m args below meth c G A 6 0 0 Q [(mo, oB 7 [.ref mo_now, .ref mo_aside, .ref mo_past, .int states, .ref mo_refusals, .ref mo_text, .int length, .ref mo_vars, .ref mo_sights, .int many, .int steps, .int isCut, .ref mo_isThere, .ref mo_taints, .ref mo_known, .int taint, .ref mo_knows, .int res.2.2.2, .int at_, .int isFaulty, .int orders, .ref mo_letters, .ref mo_numbers, .long hash]), (mo_now, aI G 104 now), (mo_isThere, aZ G 21 res.1), (mo_taints, aI G 21 res.2.1), (mo_known, aI G 126 res.2.2.1), (mo_knows, aI G 6 knows)] lv pc [])
    (hk23 : ∀ s', k23 s' = some res → GG p l e rm7_comesTo s m args below meth c G A 6 0 0 Q [(mo, oB 7 [.ref mo_now, .ref mo_aside, .ref mo_past, .int states, .ref mo_refusals, .ref mo_text, .int length, .ref mo_vars, .ref mo_sights, .int many, .int steps, .int isCut, .ref mo_isThere, .ref mo_taints, .ref mo_known, .int taint, .ref mo_knows, .int s'.2.2.2.1, .int at_, .int isFaulty, .int orders, .ref mo_letters, .ref mo_numbers, .long hash]), (mo_now, aI G 104 now), (mo_isThere, aZ G 21 s'.1), (mo_taints, aI G 21 s'.2.1), (mo_known, aI G 126 s'.2.2.1), (mo_knows, aI G 6 knows)] [(0, .ref mo), (1, .int s'.2.2.2.2.1), (2, .int s'.2.2.2.2.2.1), (3, .int s'.2.2.2.2.2.2)] 23 [])
    (hf : f7_comesTo_66 now taint knows k23 isThere taints known isOther x1 x2 x3 x4 = some res) : GG p l e rm7_comesTo s m args below meth c G A 6 0 0 Q [(mo, oB 7 [.ref mo_now, .ref mo_aside, .ref mo_past, .int states, .ref mo_refusals, .ref mo_text, .int length, .ref mo_vars, .ref mo_sights, .int many, .int steps, .int isCut, .ref mo_isThere, .ref mo_taints, .ref mo_known, .int taint, .ref mo_knows, .int isOther, .int at_, .int isFaulty, .int orders, .ref mo_letters, .ref mo_numbers, .long hash]), (mo_now, aI G 104 now), (mo_isThere, aZ G 21 isThere), (mo_taints, aI G 21 taints), (mo_known, aI G 126 known), (mo_knows, aI G 6 knows)] [(0, .ref mo), (1, .int x1), (2, .int x2), (3, .int x3), (4, .int x4)] 66 [] := by
  unfold f7_comesTo_66 at hf
  refine g_aload_n C dX7_comesTo_66 rfl 0 rfl ?_
  refine g_get (C0 := RX7) (T := TX7) (N := 24) (ci := 7) (v := .ref mo_knows) C hm7_comesTo_0 0 rfl rfl 16 (by decide) hm7_comesTo_6 rfl dX7_comesTo_67 ?_
  refine g_iload_n C dX7_comesTo_70 rfl 3 rfl ?_
  obtain ⟨h17, hf⟩ := ck_some hf
  refine g_iald (n := 6) (v := (knows x3.toNatClampNeg)) C 5 rfl h17 rfl rfl dX7_comesTo_71 ?_
  exact k7_comesTo_72 C hR hk23 hf
set_option maxHeartbeats 4000000 in
set_option maxRecDepth 100000 in
theorem k7_comesTo_23b {p : Program} {l : Launch} {e : Env} {s : State} {m : MethodId} {args : Array Value} {below : List Frame} {meth : Method} {c : Code} {G : gG} {A : Nat → Prop} {Q : State → Prop} {mo mo_now mo_aside mo_past mo_refusals mo_text mo_vars mo_sights mo_isThere mo_taints mo_known mo_knows mo_letters mo_numbers : Nat} (C : CX p s m args meth c G A cX7_comesTo 6 RX7 wsX7_comesTo) {states : Int32} {length : Int32} {many : Int32} {steps : Int32} {isCut : Int32} {at_ : Int32} {isFaulty : Int32} {orders : Int32} {hash : Int64} {now : Nat → Int32} {taint : Int32} {knows : Nat → Int32} {k23 : (Nat → Int32) × (Nat → Int32) × (Nat → Int32) × Int32 × Int32 × Int32 × Int32 → Option ((Nat → Int32) × (Nat → Int32) × (Nat → Int32) × Int32)} {isThere : Nat → Int32} {taints : Nat → Int32} {known : Nat → Int32} {isOther : Int32} {x1 : Int32} {x2 : Int32} {x3 : Int32} {res : (Nat → Int32) × (Nat → Int32) × (Nat → Int32) × Int32} (hR : ∀ (lv : List (Nat × Value)) (pc : Nat), decode cX7_comesTo pc = .ok (.return_, 1) → GG p l e rm7_comesTo s m args below meth c G A 6 0 0 Q [(mo, oB 7 [.ref mo_now, .ref mo_aside, .ref mo_past, .int states, .ref mo_refusals, .ref mo_text, .int length, .ref mo_vars, .ref mo_sights, .int many, .int steps, .int isCut, .ref mo_isThere, .ref mo_taints, .ref mo_known, .int taint, .ref mo_knows, .int res.2.2.2, .int at_, .int isFaulty, .int orders, .ref mo_letters, .ref mo_numbers, .long hash]), (mo_now, aI G 104 now), (mo_isThere, aZ G 21 res.1), (mo_taints, aI G 21 res.2.1), (mo_known, aI G 126 res.2.2.1), (mo_knows, aI G 6 knows)] lv pc [])
    (hk23 : ∀ s', k23 s' = some res → GG p l e rm7_comesTo s m args below meth c G A 6 0 0 Q [(mo, oB 7 [.ref mo_now, .ref mo_aside, .ref mo_past, .int states, .ref mo_refusals, .ref mo_text, .int length, .ref mo_vars, .ref mo_sights, .int many, .int steps, .int isCut, .ref mo_isThere, .ref mo_taints, .ref mo_known, .int taint, .ref mo_knows, .int s'.2.2.2.1, .int at_, .int isFaulty, .int orders, .ref mo_letters, .ref mo_numbers, .long hash]), (mo_now, aI G 104 now), (mo_isThere, aZ G 21 s'.1), (mo_taints, aI G 21 s'.2.1), (mo_known, aI G 126 s'.2.2.1), (mo_knows, aI G 6 knows)] [(0, .ref mo), (1, .int s'.2.2.2.2.1), (2, .int s'.2.2.2.2.2.1), (3, .int s'.2.2.2.2.2.2)] 23 [])
    (hf : f7_comesTo_23b now taint knows k23 isThere taints known isOther x1 x2 x3 = some res) : GG p l e rm7_comesTo s m args below meth c G A 6 0 0 Q [(mo, oB 7 [.ref mo_now, .ref mo_aside, .ref mo_past, .int states, .ref mo_refusals, .ref mo_text, .int length, .ref mo_vars, .ref mo_sights, .int many, .int steps, .int isCut, .ref mo_isThere, .ref mo_taints, .ref mo_known, .int taint, .ref mo_knows, .int isOther, .int at_, .int isFaulty, .int orders, .ref mo_letters, .ref mo_numbers, .long hash]), (mo_now, aI G 104 now), (mo_isThere, aZ G 21 isThere), (mo_taints, aI G 21 taints), (mo_known, aI G 126 known), (mo_knows, aI G 6 knows)] [(0, .ref mo), (1, .int x1), (2, .int x2), (3, .int x3)] 23 [] := by
  unfold f7_comesTo_23b at hf
  refine g_iload_n C dX7_comesTo_23 rfl 3 rfl ?_
  refine g_bipush (v := (6 : Int32)) C dX7_comesTo_24 (by decide +kernel) ?_
  refine g_icmp_ge (tgt := 126) C dX7_comesTo_26 (by decide) (fun c18 => ?_) (fun c18 => ?_)
  · replace hf := ite_t c18 hf
    exact k7_comesTo_126 C hR hf
  · replace hf := ite_f c18 hf
    refine g_bipush (v := (6 : Int32)) C dX7_comesTo_29 (by decide +kernel) ?_
    refine g_iload_n C dX7_comesTo_31 rfl 2 rfl ?_
    refine g_imul C dX7_comesTo_32 ?_
    refine g_iload_n C dX7_comesTo_33 rfl 3 rfl ?_
    refine g_iadd C dX7_comesTo_34 ?_
    refine g_istore (lv' := [(0, .ref mo), (1, .int x1), (2, .int x2), (3, .int x3), (4, .int (((6 : Int32) * x2) + x3))]) C dX7_comesTo_35 (by decide) [1, 2, 3, 4, 0] rfl ?_
    refine g_aload_n C dX7_comesTo_37 rfl 0 rfl ?_
    refine g_get (C0 := RX7) (T := TX7) (N := 24) (ci := 7) (v := .ref mo_isThere) C hm7_comesTo_0 0 rfl rfl 12 (by decide) hm7_comesTo_3 rfl dX7_comesTo_38 ?_
    refine g_iload_n C dX7_comesTo_41 rfl 2 rfl ?_
    obtain ⟨h19, hf⟩ := ck_some hf
    refine g_zald (n := 21) (v := (isThere x2.toNatClampNeg)) C 2 rfl h19 rfl rfl dX7_comesTo_42 ?_
    refine g_if_eq (tgt := 66) C dX7_comesTo_43 (by decide) (fun c20 => ?_) (fun c20 => ?_)
    · replace hf := ite_t c20 hf
      exact k7_comesTo_66 C hR hk23 hf
    · replace hf := ite_f c20 hf
      refine g_aload_n C dX7_comesTo_46 rfl 0 rfl ?_
      refine g_get (C0 := RX7) (T := TX7) (N := 24) (ci := 7) (v := .ref mo_known) C hm7_comesTo_0 0 rfl rfl 14 (by decide) hm7_comesTo_5 rfl dX7_comesTo_47 ?_
      refine g_iload C dX7_comesTo_50 4 rfl ?_
      obtain ⟨h21, hf⟩ := ck_some hf
      refine g_iald (n := 126) (v := (known (((6 : Int32) * x2) + x3).toNatClampNeg)) C 4 rfl h21 rfl rfl dX7_comesTo_52 ?_
      refine g_aload_n C dX7_comesTo_53 rfl 0 rfl ?_
      refine g_get (C0 := RX7) (T := TX7) (N := 24) (ci := 7) (v := .ref mo_knows) C hm7_comesTo_0 0 rfl rfl 16 (by decide) hm7_comesTo_6 rfl dX7_comesTo_54 ?_
      refine g_iload_n C dX7_comesTo_57 rfl 3 rfl ?_
      obtain ⟨h22, hf⟩ := ck_some hf
      refine g_iald (n := 6) (v := (knows x3.toNatClampNeg)) C 5 rfl h22 rfl rfl dX7_comesTo_58 ?_
      refine g_icmp_eq (tgt := 66) C dX7_comesTo_59 (by decide) (fun c23 => ?_) (fun c23 => ?_)
      · replace hf := ite_t c23 hf
        exact k7_comesTo_66 C hR hk23 hf
      · replace hf := ite_f c23 hf
        refine g_iconst (v := (-1 : Int32)) C dX7_comesTo_62 (by decide +kernel) ?_
        refine g_goto (tgt := 72) C dX7_comesTo_63 (by decide) ?_
        exact k7_comesTo_72 C hR hk23 hf
set_option maxHeartbeats 4000000 in
set_option maxRecDepth 100000 in
theorem k7_comesTo_23 {p : Program} {l : Launch} {e : Env} {s : State} {m : MethodId} {args : Array Value} {below : List Frame} {meth : Method} {c : Code} {G : gG} {A : Nat → Prop} {Q : State → Prop} {mo mo_now mo_aside mo_past mo_refusals mo_text mo_vars mo_sights mo_isThere mo_taints mo_known mo_knows mo_letters mo_numbers : Nat} (C : CX p s m args meth c G A cX7_comesTo 6 RX7 wsX7_comesTo) {states : Int32} {length : Int32} {many : Int32} {steps : Int32} {isCut : Int32} {at_ : Int32} {isFaulty : Int32} {orders : Int32} {hash : Int64} {now : Nat → Int32} {taint : Int32} {knows : Nat → Int32} {res : (Nat → Int32) × (Nat → Int32) × (Nat → Int32) × Int32} (hR : ∀ (lv : List (Nat × Value)) (pc : Nat), decode cX7_comesTo pc = .ok (.return_, 1) → GG p l e rm7_comesTo s m args below meth c G A 6 0 0 Q [(mo, oB 7 [.ref mo_now, .ref mo_aside, .ref mo_past, .int states, .ref mo_refusals, .ref mo_text, .int length, .ref mo_vars, .ref mo_sights, .int many, .int steps, .int isCut, .ref mo_isThere, .ref mo_taints, .ref mo_known, .int taint, .ref mo_knows, .int res.2.2.2, .int at_, .int isFaulty, .int orders, .ref mo_letters, .ref mo_numbers, .long hash]), (mo_now, aI G 104 now), (mo_isThere, aZ G 21 res.1), (mo_taints, aI G 21 res.2.1), (mo_known, aI G 126 res.2.2.1), (mo_knows, aI G 6 knows)] lv pc []) : ∀ (n : Nat) (s1 : (Nat → Int32) × (Nat → Int32) × (Nat → Int32) × Int32 × Int32 × Int32 × Int32), f7_comesTo_23 now taint knows n s1 = some res → GG p l e rm7_comesTo s m args below meth c G A 6 0 0 Q [(mo, oB 7 [.ref mo_now, .ref mo_aside, .ref mo_past, .int states, .ref mo_refusals, .ref mo_text, .int length, .ref mo_vars, .ref mo_sights, .int many, .int steps, .int isCut, .ref mo_isThere, .ref mo_taints, .ref mo_known, .int taint, .ref mo_knows, .int s1.2.2.2.1, .int at_, .int isFaulty, .int orders, .ref mo_letters, .ref mo_numbers, .long hash]), (mo_now, aI G 104 now), (mo_isThere, aZ G 21 s1.1), (mo_taints, aI G 21 s1.2.1), (mo_known, aI G 126 s1.2.2.1), (mo_knows, aI G 6 knows)] [(0, .ref mo), (1, .int s1.2.2.2.2.1), (2, .int s1.2.2.2.2.2.1), (3, .int s1.2.2.2.2.2.2)] 23 [] :=
  itf_ind (fun k s1 ih hf => k7_comesTo_23b C hR ih hf)
set_option maxHeartbeats 4000000 in
set_option maxRecDepth 100000 in
theorem c7_comesTo {l : Launch} {G : gG} {mo mo_now mo_aside mo_past mo_refusals mo_text mo_vars mo_sights mo_isThere mo_taints mo_known mo_knows mo_letters mo_numbers : Nat} {now : Nat → Int32} {states : Int32} {length : Int32} {many : Int32} {steps : Int32} {isCut : Int32} {isThere : Nat → Int32} {taints : Nat → Int32} {known : Nat → Int32} {taint : Int32} {knows : Nat → Int32} {isOther : Int32} {at_ : Int32} {isFaulty : Int32} {orders : Int32} {hash : Int64} {v0 : Int32} {res : (Nat → Int32) × (Nat → Int32) × (Nat → Int32) × Int32} (hf : f7_comesTo now taint knows isThere taints known isOther v0 = some res) : MV l yX7_comesTo wsX7_comesTo rm7_comesTo G [.ref mo, .int v0] [(mo, oB 7 [.ref mo_now, .ref mo_aside, .ref mo_past, .int states, .ref mo_refusals, .ref mo_text, .int length, .ref mo_vars, .ref mo_sights, .int many, .int steps, .int isCut, .ref mo_isThere, .ref mo_taints, .ref mo_known, .int taint, .ref mo_knows, .int isOther, .int at_, .int isFaulty, .int orders, .ref mo_letters, .ref mo_numbers, .long hash]), (mo_now, aI G 104 now), (mo_isThere, aZ G 21 isThere), (mo_taints, aI G 21 taints), (mo_known, aI G 126 known), (mo_knows, aI G 6 knows)] [(mo, oB 7 [.ref mo_now, .ref mo_aside, .ref mo_past, .int states, .ref mo_refusals, .ref mo_text, .int length, .ref mo_vars, .ref mo_sights, .int many, .int steps, .int isCut, .ref mo_isThere, .ref mo_taints, .ref mo_known, .int taint, .ref mo_knows, .int res.2.2.2, .int at_, .int isFaulty, .int orders, .ref mo_letters, .ref mo_numbers, .long hash]), (mo_now, aI G 104 now), (mo_isThere, aZ G 21 res.1), (mo_taints, aI G 21 res.2.1), (mo_known, aI G 126 res.2.2.1), (mo_knows, aI G 6 knows)] := by
  refine MV_of (cc := cX7_comesTo) (nL := 6) (lv := [(0, .ref mo), (1, .int v0)]) (by decide +kernel) rfl (Nat.le_of_ble_eq_true rfl) rfl ?_
  intro p e s m args below meth c A Q C hR
  unfold f7_comesTo at hf
  refine g_iload_n C dX7_comesTo_0 rfl 1 rfl ?_
  refine g_aload_n C dX7_comesTo_1 rfl 0 rfl ?_
  refine g_get (C0 := RX7) (T := TX7) (N := 24) (ci := 7) (v := .ref mo_now) C hm7_comesTo_0 0 rfl rfl 0 (by decide) hm7_comesTo_7 rfl dX7_comesTo_2 ?_
  refine g_iconst (v := (0 : Int32)) C dX7_comesTo_5 (by decide +kernel) ?_
  refine g_iald (n := 104) (v := (now 0)) C 1 rfl (by decide +kernel) (by decide +kernel) rfl dX7_comesTo_6 ?_
  refine g_icmp_ge (tgt := 14) C dX7_comesTo_7 (by decide) (fun c24 => ?_) (fun c24 => ?_)
  · replace hf := ite_t c24 hf
    refine g_aload_n C dX7_comesTo_14 rfl 0 rfl ?_
    refine g_get (C0 := RX7) (T := TX7) (N := 24) (ci := 7) (v := .ref mo_now) C hm7_comesTo_0 0 rfl rfl 0 (by decide) hm7_comesTo_7 rfl dX7_comesTo_15 ?_
    refine g_iconst (v := (0 : Int32)) C dX7_comesTo_18 (by decide +kernel) ?_
    refine g_iald (n := 104) (v := (now 0)) C 1 rfl (by decide +kernel) (by decide +kernel) rfl dX7_comesTo_19 ?_
    refine g_istore_n (lv' := [(0, .ref mo), (1, .int v0), (2, .int (now 0))]) C dX7_comesTo_20 rfl (by decide) [1, 2, 0] rfl ?_
    refine g_iconst (v := (0 : Int32)) C dX7_comesTo_21 (by decide +kernel) ?_
    refine g_istore_n (lv' := [(0, .ref mo), (1, .int v0), (2, .int (now 0)), (3, .int (0 : Int32))]) C dX7_comesTo_22 rfl (by decide) [1, 2, 3, 0] rfl ?_
    exact k7_comesTo_23 C hR _ _ hf
  · replace hf := ite_f c24 hf
    refine g_iload_n C dX7_comesTo_10 rfl 1 rfl ?_
    refine g_goto (tgt := 20) C dX7_comesTo_11 (by decide) ?_
    refine g_istore_n (lv' := [(0, .ref mo), (1, .int v0), (2, .int v0)]) C dX7_comesTo_20 rfl (by decide) [1, 2, 0] rfl ?_
    refine g_iconst (v := (0 : Int32)) C dX7_comesTo_21 (by decide +kernel) ?_
    refine g_istore_n (lv' := [(0, .ref mo), (1, .int v0), (2, .int v0), (3, .int (0 : Int32))]) C dX7_comesTo_22 rfl (by decide) [1, 2, 3, 0] rfl ?_
    exact k7_comesTo_23 C hR _ _ hf

-- X7_takes
def f7_takes_12b (taints : Nat → Int32) (known : Nat → Int32) (k12 : Int32 × (Nat → Int32) × Int32 × Int32 → Option (Int32 × (Nat → Int32))) (taint : Int32) (knows : Nat → Int32) (x1 : Int32) (x2 : Int32) : Option (Int32 × (Nat → Int32)) :=
  if (6 : Int32) ≤ x2 then
    (some (taint, knows))
    else (ck (inb (((6 : Int32) * x1) + x2) 126) <|
    ck (inb x2 6) <|
    k12 (taint, (upd knows x2.toNatClampNeg (known (((6 : Int32) * x1) + x2).toNatClampNeg)), x1, (x2 + (1 : Int32))))
def f7_takes_12 (taints : Nat → Int32) (known : Nat → Int32) (n : Nat) (s : Int32 × (Nat → Int32) × Int32 × Int32) : Option (Int32 × (Nat → Int32)) := itf (fun k s => f7_takes_12b taints known k s.1 s.2.1 s.2.2.1 s.2.2.2) n s
def f7_takes (taints : Nat → Int32) (known : Nat → Int32) (taint : Int32) (knows : Nat → Int32) (v0 : Int32) : Option (Int32 × (Nat → Int32)) :=
  ck (inb v0 21) <|
    f7_takes_12 taints known 1000 ((taints v0.toNatClampNeg), knows, v0, (0 : Int32))
def rm7_takes : Room := { frames := 0, cells := 0, slots := 0, locals := 0 }
theorem hm7_takes_0 : ∀ w ∈ u_ws RX7 TX7 24, w ∈ wsX7_takes := by decide +kernel
theorem hm7_takes_1 : Cond.fieldLink RX7 41 "SecretStepsModel" "knows" "[I" ∈ wsX7_takes := by decide +kernel
theorem hm7_takes_2 : Cond.fieldLink RX7 38 "SecretStepsModel" "known" "[I" ∈ wsX7_takes := by decide +kernel
theorem hm7_takes_3 : Cond.fieldLink RX7 35 "SecretStepsModel" "taints" "[I" ∈ wsX7_takes := by decide +kernel
theorem hm7_takes_4 : Cond.fieldLink RX7 173 "SecretStepsModel" "taint" "I" ∈ wsX7_takes := by decide +kernel
set_option maxHeartbeats 4000000 in
set_option maxRecDepth 100000 in
theorem k7_takes_12b {p : Program} {l : Launch} {e : Env} {s : State} {m : MethodId} {args : Array Value} {below : List Frame} {meth : Method} {c : Code} {G : gG} {A : Nat → Prop} {Q : State → Prop} {mo mo_now mo_aside mo_past mo_refusals mo_text mo_vars mo_sights mo_isThere mo_taints mo_known mo_knows mo_letters mo_numbers : Nat} (C : CX p s m args meth c G A cX7_takes 3 RX7 wsX7_takes) {states : Int32} {length : Int32} {many : Int32} {steps : Int32} {isCut : Int32} {isOther : Int32} {at_ : Int32} {isFaulty : Int32} {orders : Int32} {hash : Int64} {taints : Nat → Int32} {known : Nat → Int32} {k12 : Int32 × (Nat → Int32) × Int32 × Int32 → Option (Int32 × (Nat → Int32))} {taint : Int32} {knows : Nat → Int32} {x1 : Int32} {x2 : Int32} {res : Int32 × (Nat → Int32)} (hR : ∀ (lv : List (Nat × Value)) (pc : Nat), decode cX7_takes pc = .ok (.return_, 1) → GG p l e rm7_takes s m args below meth c G A 3 0 0 Q [(mo, oB 7 [.ref mo_now, .ref mo_aside, .ref mo_past, .int states, .ref mo_refusals, .ref mo_text, .int length, .ref mo_vars, .ref mo_sights, .int many, .int steps, .int isCut, .ref mo_isThere, .ref mo_taints, .ref mo_known, .int res.1, .ref mo_knows, .int isOther, .int at_, .int isFaulty, .int orders, .ref mo_letters, .ref mo_numbers, .long hash]), (mo_taints, aI G 21 taints), (mo_known, aI G 126 known), (mo_knows, aI G 6 res.2)] lv pc [])
    (hk12 : ∀ s', k12 s' = some res → GG p l e rm7_takes s m args below meth c G A 3 0 0 Q [(mo, oB 7 [.ref mo_now, .ref mo_aside, .ref mo_past, .int states, .ref mo_refusals, .ref mo_text, .int length, .ref mo_vars, .ref mo_sights, .int many, .int steps, .int isCut, .ref mo_isThere, .ref mo_taints, .ref mo_known, .int s'.1, .ref mo_knows, .int isOther, .int at_, .int isFaulty, .int orders, .ref mo_letters, .ref mo_numbers, .long hash]), (mo_taints, aI G 21 taints), (mo_known, aI G 126 known), (mo_knows, aI G 6 s'.2.1)] [(0, .ref mo), (1, .int s'.2.2.1), (2, .int s'.2.2.2)] 12 [])
    (hf : f7_takes_12b taints known k12 taint knows x1 x2 = some res) : GG p l e rm7_takes s m args below meth c G A 3 0 0 Q [(mo, oB 7 [.ref mo_now, .ref mo_aside, .ref mo_past, .int states, .ref mo_refusals, .ref mo_text, .int length, .ref mo_vars, .ref mo_sights, .int many, .int steps, .int isCut, .ref mo_isThere, .ref mo_taints, .ref mo_known, .int taint, .ref mo_knows, .int isOther, .int at_, .int isFaulty, .int orders, .ref mo_letters, .ref mo_numbers, .long hash]), (mo_taints, aI G 21 taints), (mo_known, aI G 126 known), (mo_knows, aI G 6 knows)] [(0, .ref mo), (1, .int x1), (2, .int x2)] 12 [] := by
  unfold f7_takes_12b at hf
  refine g_iload_n C dX7_takes_12 rfl 2 rfl ?_
  refine g_bipush (v := (6 : Int32)) C dX7_takes_13 (by decide +kernel) ?_
  refine g_icmp_ge (tgt := 41) C dX7_takes_15 (by decide) (fun c1 => ?_) (fun c1 => ?_)
  · replace hf := ite_t c1 hf
    obtain rfl := Option.some.inj hf
    exact hR _ _ dX7_takes_41
  · replace hf := ite_f c1 hf
    refine g_aload_n C dX7_takes_18 rfl 0 rfl ?_
    refine g_get (C0 := RX7) (T := TX7) (N := 24) (ci := 7) (v := .ref mo_knows) C hm7_takes_0 0 rfl rfl 16 (by decide) hm7_takes_1 rfl dX7_takes_19 ?_
    refine g_iload_n C dX7_takes_22 rfl 2 rfl ?_
    refine g_aload_n C dX7_takes_23 rfl 0 rfl ?_
    refine g_get (C0 := RX7) (T := TX7) (N := 24) (ci := 7) (v := .ref mo_known) C hm7_takes_0 0 rfl rfl 14 (by decide) hm7_takes_2 rfl dX7_takes_24 ?_
    refine g_bipush (v := (6 : Int32)) C dX7_takes_27 (by decide +kernel) ?_
    refine g_iload_n C dX7_takes_29 rfl 1 rfl ?_
    refine g_imul C dX7_takes_30 ?_
    refine g_iload_n C dX7_takes_31 rfl 2 rfl ?_
    refine g_iadd C dX7_takes_32 ?_
    obtain ⟨h2, hf⟩ := ck_some hf
    refine g_iald (n := 126) (v := (known (((6 : Int32) * x1) + x2).toNatClampNeg)) C 2 rfl h2 rfl rfl dX7_takes_33 ?_
    obtain ⟨h3, hf⟩ := ck_some hf
    refine g_iast (n := 6) (WS' := [(mo, oB 7 [.ref mo_now, .ref mo_aside, .ref mo_past, .int states, .ref mo_refusals, .ref mo_text, .int length, .ref mo_vars, .ref mo_sights, .int many, .int steps, .int isCut, .ref mo_isThere, .ref mo_taints, .ref mo_known, .int taint, .ref mo_knows, .int isOther, .int at_, .int isFaulty, .int orders, .ref mo_letters, .ref mo_numbers, .long hash]), (mo_taints, aI G 21 taints), (mo_known, aI G 126 known), (mo_knows, aI G 6 (upd knows x2.toNatClampNeg (known (((6 : Int32) * x1) + x2).toNatClampNeg)))]) C 3 rfl h3 rfl dX7_takes_34 rfl ?_
    refine g_iinc (v := (x2 + (1 : Int32))) (lv' := [(0, .ref mo), (1, .int x1), (2, .int (x2 + (1 : Int32)))]) C dX7_takes_35 2 rfl rfl (by decide) [1, 2, 0] rfl ?_
    refine g_goto (tgt := 12) C dX7_takes_38 (by decide) ?_
    exact hk12 _ hf
set_option maxHeartbeats 4000000 in
set_option maxRecDepth 100000 in
theorem k7_takes_12 {p : Program} {l : Launch} {e : Env} {s : State} {m : MethodId} {args : Array Value} {below : List Frame} {meth : Method} {c : Code} {G : gG} {A : Nat → Prop} {Q : State → Prop} {mo mo_now mo_aside mo_past mo_refusals mo_text mo_vars mo_sights mo_isThere mo_taints mo_known mo_knows mo_letters mo_numbers : Nat} (C : CX p s m args meth c G A cX7_takes 3 RX7 wsX7_takes) {states : Int32} {length : Int32} {many : Int32} {steps : Int32} {isCut : Int32} {isOther : Int32} {at_ : Int32} {isFaulty : Int32} {orders : Int32} {hash : Int64} {taints : Nat → Int32} {known : Nat → Int32} {res : Int32 × (Nat → Int32)} (hR : ∀ (lv : List (Nat × Value)) (pc : Nat), decode cX7_takes pc = .ok (.return_, 1) → GG p l e rm7_takes s m args below meth c G A 3 0 0 Q [(mo, oB 7 [.ref mo_now, .ref mo_aside, .ref mo_past, .int states, .ref mo_refusals, .ref mo_text, .int length, .ref mo_vars, .ref mo_sights, .int many, .int steps, .int isCut, .ref mo_isThere, .ref mo_taints, .ref mo_known, .int res.1, .ref mo_knows, .int isOther, .int at_, .int isFaulty, .int orders, .ref mo_letters, .ref mo_numbers, .long hash]), (mo_taints, aI G 21 taints), (mo_known, aI G 126 known), (mo_knows, aI G 6 res.2)] lv pc []) : ∀ (n : Nat) (s1 : Int32 × (Nat → Int32) × Int32 × Int32), f7_takes_12 taints known n s1 = some res → GG p l e rm7_takes s m args below meth c G A 3 0 0 Q [(mo, oB 7 [.ref mo_now, .ref mo_aside, .ref mo_past, .int states, .ref mo_refusals, .ref mo_text, .int length, .ref mo_vars, .ref mo_sights, .int many, .int steps, .int isCut, .ref mo_isThere, .ref mo_taints, .ref mo_known, .int s1.1, .ref mo_knows, .int isOther, .int at_, .int isFaulty, .int orders, .ref mo_letters, .ref mo_numbers, .long hash]), (mo_taints, aI G 21 taints), (mo_known, aI G 126 known), (mo_knows, aI G 6 s1.2.1)] [(0, .ref mo), (1, .int s1.2.2.1), (2, .int s1.2.2.2)] 12 [] :=
  itf_ind (fun k s1 ih hf => k7_takes_12b C hR ih hf)
set_option maxHeartbeats 4000000 in
set_option maxRecDepth 100000 in
theorem c7_takes {l : Launch} {G : gG} {mo mo_now mo_aside mo_past mo_refusals mo_text mo_vars mo_sights mo_isThere mo_taints mo_known mo_knows mo_letters mo_numbers : Nat} {states : Int32} {length : Int32} {many : Int32} {steps : Int32} {isCut : Int32} {taints : Nat → Int32} {known : Nat → Int32} {taint : Int32} {knows : Nat → Int32} {isOther : Int32} {at_ : Int32} {isFaulty : Int32} {orders : Int32} {hash : Int64} {v0 : Int32} {res : Int32 × (Nat → Int32)} (hf : f7_takes taints known taint knows v0 = some res) : MV l yX7_takes wsX7_takes rm7_takes G [.ref mo, .int v0] [(mo, oB 7 [.ref mo_now, .ref mo_aside, .ref mo_past, .int states, .ref mo_refusals, .ref mo_text, .int length, .ref mo_vars, .ref mo_sights, .int many, .int steps, .int isCut, .ref mo_isThere, .ref mo_taints, .ref mo_known, .int taint, .ref mo_knows, .int isOther, .int at_, .int isFaulty, .int orders, .ref mo_letters, .ref mo_numbers, .long hash]), (mo_taints, aI G 21 taints), (mo_known, aI G 126 known), (mo_knows, aI G 6 knows)] [(mo, oB 7 [.ref mo_now, .ref mo_aside, .ref mo_past, .int states, .ref mo_refusals, .ref mo_text, .int length, .ref mo_vars, .ref mo_sights, .int many, .int steps, .int isCut, .ref mo_isThere, .ref mo_taints, .ref mo_known, .int res.1, .ref mo_knows, .int isOther, .int at_, .int isFaulty, .int orders, .ref mo_letters, .ref mo_numbers, .long hash]), (mo_taints, aI G 21 taints), (mo_known, aI G 126 known), (mo_knows, aI G 6 res.2)] := by
  refine MV_of (cc := cX7_takes) (nL := 3) (lv := [(0, .ref mo), (1, .int v0)]) (by decide +kernel) rfl (Nat.le_of_ble_eq_true rfl) rfl ?_
  intro p e s m args below meth c A Q C hR
  unfold f7_takes at hf
  refine g_aload_n C dX7_takes_0 rfl 0 rfl ?_
  refine g_aload_n C dX7_takes_1 rfl 0 rfl ?_
  refine g_get (C0 := RX7) (T := TX7) (N := 24) (ci := 7) (v := .ref mo_taints) C hm7_takes_0 0 rfl rfl 13 (by decide) hm7_takes_3 rfl dX7_takes_2 ?_
  refine g_iload_n C dX7_takes_5 rfl 1 rfl ?_
  obtain ⟨h4, hf⟩ := ck_some hf
  refine g_iald (n := 21) (v := (taints v0.toNatClampNeg)) C 1 rfl h4 rfl rfl dX7_takes_6 ?_
  refine g_put (C0 := RX7) (T := TX7) (N := 24) (ci := 7) (ty := .int) (WS' := [(mo, oB 7 [.ref mo_now, .ref mo_aside, .ref mo_past, .int states, .ref mo_refusals, .ref mo_text, .int length, .ref mo_vars, .ref mo_sights, .int many, .int steps, .int isCut, .ref mo_isThere, .ref mo_taints, .ref mo_known, .int (taints v0.toNatClampNeg), .ref mo_knows, .int isOther, .int at_, .int isFaulty, .int orders, .ref mo_letters, .ref mo_numbers, .long hash]), (mo_taints, aI G 21 taints), (mo_known, aI G 126 known), (mo_knows, aI G 6 knows)]) C hm7_takes_0 tyX7 tyX7_ok nmX7 0 rfl rfl 15 (by decide) hm7_takes_4 rfl rfl rfl rfl (Nat.le_of_ble_eq_true rfl) dX7_takes_7 rfl ?_
  refine g_iconst (v := (0 : Int32)) C dX7_takes_10 (by decide +kernel) ?_
  refine g_istore_n (lv' := [(0, .ref mo), (1, .int v0), (2, .int (0 : Int32))]) C dX7_takes_11 rfl (by decide) [1, 2, 0] rfl ?_
  exact k7_takes_12 C hR _ _ hf

-- X7_tells
def f7_tells_26 (taint : Int32) (knows : Nat → Int32) (x1 : Int32) (x2 : Int32) (x3 : Int32) (y1 : Int32) : Option (Int32 × (Nat → Int32)) :=
  ck (inb x1 6) <|
    some (y1, (upd knows x1.toNatClampNeg x3))
def f7_tells (taint : Int32) (knows : Nat → Int32) (v0 : Int32) (v1 : Int32) (v2 : Int32) : Option (Int32 × (Nat → Int32)) :=
  if v1 = 0 then
    (f7_tells_26 taint knows v0 v1 v2 (taint &&& ((sl32 (1 : Int32) v0) ^^^ (-1 : Int32))))
    else (f7_tells_26 taint knows v0 v1 v2 (taint ||| (sl32 (1 : Int32) v0)))
def rm7_tells : Room := { frames := 0, cells := 0, slots := 0, locals := 0 }
theorem hm7_tells_0 : ∀ w ∈ u_ws RX7 TX7 24, w ∈ wsX7_tells := by decide +kernel
theorem hm7_tells_1 : Cond.fieldLink RX7 173 "SecretStepsModel" "taint" "I" ∈ wsX7_tells := by decide +kernel
theorem hm7_tells_2 : Cond.fieldLink RX7 41 "SecretStepsModel" "knows" "[I" ∈ wsX7_tells := by decide +kernel
set_option maxHeartbeats 4000000 in
set_option maxRecDepth 100000 in
theorem k7_tells_26 {p : Program} {l : Launch} {e : Env} {s : State} {m : MethodId} {args : Array Value} {below : List Frame} {meth : Method} {c : Code} {G : gG} {A : Nat → Prop} {Q : State → Prop} {mo mo_now mo_aside mo_past mo_refusals mo_text mo_vars mo_sights mo_isThere mo_taints mo_known mo_knows mo_letters mo_numbers : Nat} (C : CX p s m args meth c G A cX7_tells 4 RX7 wsX7_tells) {states : Int32} {length : Int32} {many : Int32} {steps : Int32} {isCut : Int32} {isOther : Int32} {at_ : Int32} {isFaulty : Int32} {orders : Int32} {hash : Int64} {taint : Int32} {knows : Nat → Int32} {x1 : Int32} {x2 : Int32} {x3 : Int32} {y1 : Int32} {res : Int32 × (Nat → Int32)} (hR : ∀ (lv : List (Nat × Value)) (pc : Nat), decode cX7_tells pc = .ok (.return_, 1) → GG p l e rm7_tells s m args below meth c G A 4 0 0 Q [(mo, oB 7 [.ref mo_now, .ref mo_aside, .ref mo_past, .int states, .ref mo_refusals, .ref mo_text, .int length, .ref mo_vars, .ref mo_sights, .int many, .int steps, .int isCut, .ref mo_isThere, .ref mo_taints, .ref mo_known, .int res.1, .ref mo_knows, .int isOther, .int at_, .int isFaulty, .int orders, .ref mo_letters, .ref mo_numbers, .long hash]), (mo_knows, aI G 6 res.2)] lv pc [])
    (hf : f7_tells_26 taint knows x1 x2 x3 y1 = some res) : GG p l e rm7_tells s m args below meth c G A 4 0 0 Q [(mo, oB 7 [.ref mo_now, .ref mo_aside, .ref mo_past, .int states, .ref mo_refusals, .ref mo_text, .int length, .ref mo_vars, .ref mo_sights, .int many, .int steps, .int isCut, .ref mo_isThere, .ref mo_taints, .ref mo_known, .int taint, .ref mo_knows, .int isOther, .int at_, .int isFaulty, .int orders, .ref mo_letters, .ref mo_numbers, .long hash]), (mo_knows, aI G 6 knows)] [(0, .ref mo), (1, .int x1), (2, .int x2), (3, .int x3)] 26 [.int y1, .ref mo] := by
  unfold f7_tells_26 at hf
  refine g_put (C0 := RX7) (T := TX7) (N := 24) (ci := 7) (ty := .int) (WS' := [(mo, oB 7 [.ref mo_now, .ref mo_aside, .ref mo_past, .int states, .ref mo_refusals, .ref mo_text, .int length, .ref mo_vars, .ref mo_sights, .int many, .int steps, .int isCut, .ref mo_isThere, .ref mo_taints, .ref mo_known, .int y1, .ref mo_knows, .int isOther, .int at_, .int isFaulty, .int orders, .ref mo_letters, .ref mo_numbers, .long hash]), (mo_knows, aI G 6 knows)]) C hm7_tells_0 tyX7 tyX7_ok nmX7 0 rfl rfl 15 (by decide) hm7_tells_1 rfl rfl rfl rfl (Nat.le_of_ble_eq_true rfl) dX7_tells_26 rfl ?_
  refine g_aload_n C dX7_tells_29 rfl 0 rfl ?_
  refine g_get (C0 := RX7) (T := TX7) (N := 24) (ci := 7) (v := .ref mo_knows) C hm7_tells_0 0 rfl rfl 16 (by decide) hm7_tells_2 rfl dX7_tells_30 ?_
  refine g_iload_n C dX7_tells_33 rfl 1 rfl ?_
  refine g_iload_n C dX7_tells_34 rfl 3 rfl ?_
  obtain ⟨h1, hf⟩ := ck_some hf
  refine g_iast (n := 6) (WS' := [(mo, oB 7 [.ref mo_now, .ref mo_aside, .ref mo_past, .int states, .ref mo_refusals, .ref mo_text, .int length, .ref mo_vars, .ref mo_sights, .int many, .int steps, .int isCut, .ref mo_isThere, .ref mo_taints, .ref mo_known, .int y1, .ref mo_knows, .int isOther, .int at_, .int isFaulty, .int orders, .ref mo_letters, .ref mo_numbers, .long hash]), (mo_knows, aI G 6 (upd knows x1.toNatClampNeg x3))]) C 1 rfl h1 rfl dX7_tells_35 rfl ?_
  obtain rfl := Option.some.inj hf
  exact hR _ _ dX7_tells_36
set_option maxHeartbeats 4000000 in
set_option maxRecDepth 100000 in
theorem c7_tells {l : Launch} {G : gG} {mo mo_now mo_aside mo_past mo_refusals mo_text mo_vars mo_sights mo_isThere mo_taints mo_known mo_knows mo_letters mo_numbers : Nat} {states : Int32} {length : Int32} {many : Int32} {steps : Int32} {isCut : Int32} {taint : Int32} {knows : Nat → Int32} {isOther : Int32} {at_ : Int32} {isFaulty : Int32} {orders : Int32} {hash : Int64} {v0 : Int32} {v1 : Int32} {v2 : Int32} {res : Int32 × (Nat → Int32)} (hf : f7_tells taint knows v0 v1 v2 = some res) : MV l yX7_tells wsX7_tells rm7_tells G [.ref mo, .int v0, .int v1, .int v2] [(mo, oB 7 [.ref mo_now, .ref mo_aside, .ref mo_past, .int states, .ref mo_refusals, .ref mo_text, .int length, .ref mo_vars, .ref mo_sights, .int many, .int steps, .int isCut, .ref mo_isThere, .ref mo_taints, .ref mo_known, .int taint, .ref mo_knows, .int isOther, .int at_, .int isFaulty, .int orders, .ref mo_letters, .ref mo_numbers, .long hash]), (mo_knows, aI G 6 knows)] [(mo, oB 7 [.ref mo_now, .ref mo_aside, .ref mo_past, .int states, .ref mo_refusals, .ref mo_text, .int length, .ref mo_vars, .ref mo_sights, .int many, .int steps, .int isCut, .ref mo_isThere, .ref mo_taints, .ref mo_known, .int res.1, .ref mo_knows, .int isOther, .int at_, .int isFaulty, .int orders, .ref mo_letters, .ref mo_numbers, .long hash]), (mo_knows, aI G 6 res.2)] := by
  refine MV_of (cc := cX7_tells) (nL := 4) (lv := [(0, .ref mo), (1, .int v0), (2, .int v1), (3, .int v2)]) (by decide +kernel) rfl (Nat.le_of_ble_eq_true rfl) rfl ?_
  intro p e s m args below meth c A Q C hR
  unfold f7_tells at hf
  refine g_aload_n C dX7_tells_0 rfl 0 rfl ?_
  refine g_iload_n C dX7_tells_1 rfl 2 rfl ?_
  refine g_if_eq (tgt := 16) C dX7_tells_2 (by decide) (fun c2 => ?_) (fun c2 => ?_)
  · replace hf := ite_t c2 hf
    refine g_aload_n C dX7_tells_16 rfl 0 rfl ?_
    refine g_get (C0 := RX7) (T := TX7) (N := 24) (ci := 7) (v := .int taint) C hm7_tells_0 0 rfl rfl 15 (by decide) hm7_tells_1 rfl dX7_tells_17 ?_
    refine g_iconst (v := (1 : Int32)) C dX7_tells_20 (by decide +kernel) ?_
    refine g_iload_n C dX7_tells_21 rfl 1 rfl ?_
    refine g_ishl C dX7_tells_22 ?_
    refine g_iconst (v := (-1 : Int32)) C dX7_tells_23 (by decide +kernel) ?_
    refine g_ixor C dX7_tells_24 ?_
    refine g_iand C dX7_tells_25 ?_
    exact k7_tells_26 C hR hf
  · replace hf := ite_f c2 hf
    refine g_aload_n C dX7_tells_5 rfl 0 rfl ?_
    refine g_get (C0 := RX7) (T := TX7) (N := 24) (ci := 7) (v := .int taint) C hm7_tells_0 0 rfl rfl 15 (by decide) hm7_tells_1 rfl dX7_tells_6 ?_
    refine g_iconst (v := (1 : Int32)) C dX7_tells_9 (by decide +kernel) ?_
    refine g_iload_n C dX7_tells_10 rfl 1 rfl ?_
    refine g_ishl C dX7_tells_11 ?_
    refine g_ior C dX7_tells_12 ?_
    refine g_goto (tgt := 26) C dX7_tells_13 (by decide) ?_
    exact k7_tells_26 C hR hf

-- X7_tellsPick
def f7_tellsPick_80 (taint : Int32) (knows : Nat → Int32) (x1 : Int32) (x2 : Int32) (x3 : Int32) (x4 : Int32) : Option (Int32 × (Nat → Int32)) :=
  if x4 = 0 then
    ((f7_has taint x1).bind <| fun q6 =>
    if q6 = 0 then
    ((f7_has taint x2).bind <| fun q12 =>
    if q12 = 0 then
    ((f7_has taint x3).bind <| fun q18 =>
    if q18 = 0 then
    (if x4 = 0 then
    ((f7_tells taint knows x1 (0 : Int32) (-1 : Int32)).bind <| fun q21 =>
    some (q21.1, q21.2))
    else (ck (inb x2 6) <|
    (f7_tells taint knows x1 (0 : Int32) (knows x2.toNatClampNeg)).bind <| fun q23 =>
    some (q23.1, q23.2)))
    else (if x4 = 0 then
    ((f7_tells taint knows x1 (1 : Int32) (-1 : Int32)).bind <| fun q25 =>
    some (q25.1, q25.2))
    else (ck (inb x2 6) <|
    (f7_tells taint knows x1 (1 : Int32) (knows x2.toNatClampNeg)).bind <| fun q27 =>
    some (q27.1, q27.2))))
    else (if x4 = 0 then
    ((f7_tells taint knows x1 (1 : Int32) (-1 : Int32)).bind <| fun q15 =>
    some (q15.1, q15.2))
    else (ck (inb x2 6) <|
    (f7_tells taint knows x1 (1 : Int32) (knows x2.toNatClampNeg)).bind <| fun q17 =>
    some (q17.1, q17.2))))
    else (if x4 = 0 then
    ((f7_tells taint knows x1 (1 : Int32) (-1 : Int32)).bind <| fun q9 =>
    some (q9.1, q9.2))
    else (ck (inb x2 6) <|
    (f7_tells taint knows x1 (1 : Int32) (knows x2.toNatClampNeg)).bind <| fun q11 =>
    some (q11.1, q11.2))))
    else (if x4 = 0 then
    ((f7_tells taint knows x1 (0 : Int32) (-1 : Int32)).bind <| fun q3 =>
    some (q3.1, q3.2))
    else (ck (inb x2 6) <|
    (f7_tells taint knows x1 (0 : Int32) (knows x2.toNatClampNeg)).bind <| fun q5 =>
    some (q5.1, q5.2)))
def f7_tellsPick_78 (taint : Int32) (knows : Nat → Int32) (x1 : Int32) (x2 : Int32) (x3 : Int32) (y0 : Int32) : Option (Int32 × (Nat → Int32)) :=
  f7_tellsPick_80 taint knows x1 x2 x3 y0
def f7_tellsPick_77 (taint : Int32) (knows : Nat → Int32) (x1 : Int32) (x2 : Int32) (x3 : Int32) : Option (Int32 × (Nat → Int32)) :=
  f7_tellsPick_78 taint knows x1 x2 x3 (0 : Int32)
def f7_tellsPick_24 (taint : Int32) (knows : Nat → Int32) (x1 : Int32) (x2 : Int32) (x3 : Int32) (y0 : Int32) : Option (Int32 × (Nat → Int32)) :=
  (f7_has taint y0).bind <| fun q28 =>
    ck (inb y0 6) <|
    (f7_tells taint knows x1 q28 (knows y0.toNatClampNeg)).bind <| fun q30 =>
    some (q30.1, q30.2)
def f7_tellsPick (taint : Int32) (knows : Nat → Int32) (v0 : Int32) (v1 : Int32) (v2 : Int32) : Option (Int32 × (Nat → Int32)) :=
  ck (inb v0 6) <|
    if (knows v0.toNatClampNeg) = (-1 : Int32) then
    (ck (inb v1 6) <|
    if (knows v1.toNatClampNeg) = (-1 : Int32) then
    (f7_tellsPick_77 taint knows v0 v1 v2)
    else (ck (inb v1 6) <|
    ck (inb v2 6) <|
    if (knows v1.toNatClampNeg) = (knows v2.toNatClampNeg) then
    (f7_tellsPick_78 taint knows v0 v1 v2 (1 : Int32))
    else (f7_tellsPick_77 taint knows v0 v1 v2)))
    else (ck (inb v0 6) <|
    if (knows v0.toNatClampNeg) = 0 then
    (f7_tellsPick_24 taint knows v0 v1 v2 v2)
    else (f7_tellsPick_24 taint knows v0 v1 v2 v1))
def rm7_tellsPick : Room := { frames := 1, cells := 0, slots := 0, locals := 23 }
theorem hm7_tellsPick_0 : ∀ w ∈ u_ws RX7 TX7 24, w ∈ wsX7_tellsPick := by decide +kernel
theorem hm7_tellsPick_1 : Cond.fieldLink RX7 41 "SecretStepsModel" "knows" "[I" ∈ wsX7_tellsPick := by decide +kernel
theorem hm7_tellsPick_2 : Cond.fieldLink RX7 173 "SecretStepsModel" "taint" "I" ∈ wsX7_tellsPick := by decide +kernel
set_option maxHeartbeats 4000000 in
set_option maxRecDepth 100000 in
theorem k7_tellsPick_80 {p : Program} {l : Launch} {e : Env} {s : State} {m : MethodId} {args : Array Value} {below : List Frame} {meth : Method} {c : Code} {G : gG} {A : Nat → Prop} {Q : State → Prop} {mo mo_now mo_aside mo_past mo_refusals mo_text mo_vars mo_sights mo_isThere mo_taints mo_known mo_knows mo_letters mo_numbers : Nat} (C : CX p s m args meth c G A cX7_tellsPick 5 RX7 wsX7_tellsPick) {states : Int32} {length : Int32} {many : Int32} {steps : Int32} {isCut : Int32} {isOther : Int32} {at_ : Int32} {isFaulty : Int32} {orders : Int32} {hash : Int64} {taint : Int32} {knows : Nat → Int32} {x1 : Int32} {x2 : Int32} {x3 : Int32} {x4 : Int32} {res : Int32 × (Nat → Int32)} (hR : ∀ (lv : List (Nat × Value)) (pc : Nat), decode cX7_tellsPick pc = .ok (.return_, 1) → GG p l e rm7_tellsPick s m args below meth c G A 5 0 0 Q [(mo, oB 7 [.ref mo_now, .ref mo_aside, .ref mo_past, .int states, .ref mo_refusals, .ref mo_text, .int length, .ref mo_vars, .ref mo_sights, .int many, .int steps, .int isCut, .ref mo_isThere, .ref mo_taints, .ref mo_known, .int res.1, .ref mo_knows, .int isOther, .int at_, .int isFaulty, .int orders, .ref mo_letters, .ref mo_numbers, .long hash]), (mo_knows, aI G 6 res.2)] lv pc [])
    (hf : f7_tellsPick_80 taint knows x1 x2 x3 x4 = some res) : GG p l e rm7_tellsPick s m args below meth c G A 5 0 0 Q [(mo, oB 7 [.ref mo_now, .ref mo_aside, .ref mo_past, .int states, .ref mo_refusals, .ref mo_text, .int length, .ref mo_vars, .ref mo_sights, .int many, .int steps, .int isCut, .ref mo_isThere, .ref mo_taints, .ref mo_known, .int taint, .ref mo_knows, .int isOther, .int at_, .int isFaulty, .int orders, .ref mo_letters, .ref mo_numbers, .long hash]), (mo_knows, aI G 6 knows)] [(0, .ref mo), (1, .int x1), (2, .int x2), (3, .int x3), (4, .int x4)] 80 [] := by
  unfold f7_tellsPick_80 at hf
  refine g_aload_n C dX7_tellsPick_80 rfl 0 rfl ?_
  refine g_iload_n C dX7_tellsPick_81 rfl 1 rfl ?_
  refine g_iload C dX7_tellsPick_82 4 rfl ?_
  refine g_if_ne (tgt := 124) C dX7_tellsPick_84 (by decide) (fun c1 => ?_) (fun c1 => ?_)
  · replace hf := ite_f c1 hf
    refine g_iconst (v := (0 : Int32)) C dX7_tellsPick_124 (by decide +kernel) ?_
    refine g_iload C dX7_tellsPick_125 4 rfl ?_
    refine g_if_eq (tgt := 139) C dX7_tellsPick_127 (by decide) (fun c2 => ?_) (fun c2 => ?_)
    · replace hf := ite_t c2 hf
      refine g_iconst (v := (-1 : Int32)) C dX7_tellsPick_139 (by decide +kernel) ?_
      obtain ⟨q3, hq3, hf⟩ := bs hf
      refine g_callVv (n := 3) (As := [.int x1, .int (0 : Int32), .int (-1 : Int32)]) (rest := []) (wc := [(mo, oB 7 [.ref mo_now, .ref mo_aside, .ref mo_past, .int states, .ref mo_refusals, .ref mo_text, .int length, .ref mo_vars, .ref mo_sights, .int many, .int steps, .int isCut, .ref mo_isThere, .ref mo_taints, .ref mo_known, .int taint, .ref mo_knows, .int isOther, .int at_, .int isFaulty, .int orders, .ref mo_letters, .ref mo_numbers, .long hash]), (mo_knows, aI G 6 knows)]) (w1 := [(mo, oB 7 [.ref mo_now, .ref mo_aside, .ref mo_past, .int states, .ref mo_refusals, .ref mo_text, .int length, .ref mo_vars, .ref mo_sights, .int many, .int steps, .int isCut, .ref mo_isThere, .ref mo_taints, .ref mo_known, .int q3.1, .ref mo_knows, .int isOther, .int at_, .int isFaulty, .int orders, .ref mo_letters, .ref mo_numbers, .long hash]), (mo_knows, aI G 6 q3.2)]) (wr := []) (WS' := [(mo, oB 7 [.ref mo_now, .ref mo_aside, .ref mo_past, .int states, .ref mo_refusals, .ref mo_text, .int length, .ref mo_vars, .ref mo_sights, .int many, .int steps, .int isCut, .ref mo_isThere, .ref mo_taints, .ref mo_known, .int q3.1, .ref mo_knows, .int isOther, .int at_, .int isFaulty, .int orders, .ref mo_letters, .ref mo_numbers, .long hash]), (mo_knows, aI G 6 q3.2)]) C (c7_tells hq3) gX7_tellsPick_X7_tells (by decide +kernel) rfl rfl rfl rfl rfl rfl ⟨by decide, by decide⟩ rfl [0, 1] [] [0, 1] rfl (by decide) rfl (by decide) (by decide) rfl (by decide) (Nat.le_of_ble_eq_true rfl) ⟨Nat.zero_le _, Nat.zero_le _⟩ rfl dX7_tellsPick_140 ?_
      obtain rfl := Option.some.inj hf
      exact hR _ _ dX7_tellsPick_143
    · replace hf := ite_f c2 hf
      refine g_aload_n C dX7_tellsPick_130 rfl 0 rfl ?_
      refine g_get (C0 := RX7) (T := TX7) (N := 24) (ci := 7) (v := .ref mo_knows) C hm7_tellsPick_0 0 rfl rfl 16 (by decide) hm7_tellsPick_1 rfl dX7_tellsPick_131 ?_
      refine g_iload_n C dX7_tellsPick_134 rfl 2 rfl ?_
      obtain ⟨h4, hf⟩ := ck_some hf
      refine g_iald (n := 6) (v := (knows x2.toNatClampNeg)) C 1 rfl h4 rfl rfl dX7_tellsPick_135 ?_
      refine g_goto (tgt := 140) C dX7_tellsPick_136 (by decide) ?_
      obtain ⟨q5, hq5, hf⟩ := bs hf
      refine g_callVv (n := 3) (As := [.int x1, .int (0 : Int32), .int (knows x2.toNatClampNeg)]) (rest := []) (wc := [(mo, oB 7 [.ref mo_now, .ref mo_aside, .ref mo_past, .int states, .ref mo_refusals, .ref mo_text, .int length, .ref mo_vars, .ref mo_sights, .int many, .int steps, .int isCut, .ref mo_isThere, .ref mo_taints, .ref mo_known, .int taint, .ref mo_knows, .int isOther, .int at_, .int isFaulty, .int orders, .ref mo_letters, .ref mo_numbers, .long hash]), (mo_knows, aI G 6 knows)]) (w1 := [(mo, oB 7 [.ref mo_now, .ref mo_aside, .ref mo_past, .int states, .ref mo_refusals, .ref mo_text, .int length, .ref mo_vars, .ref mo_sights, .int many, .int steps, .int isCut, .ref mo_isThere, .ref mo_taints, .ref mo_known, .int q5.1, .ref mo_knows, .int isOther, .int at_, .int isFaulty, .int orders, .ref mo_letters, .ref mo_numbers, .long hash]), (mo_knows, aI G 6 q5.2)]) (wr := []) (WS' := [(mo, oB 7 [.ref mo_now, .ref mo_aside, .ref mo_past, .int states, .ref mo_refusals, .ref mo_text, .int length, .ref mo_vars, .ref mo_sights, .int many, .int steps, .int isCut, .ref mo_isThere, .ref mo_taints, .ref mo_known, .int q5.1, .ref mo_knows, .int isOther, .int at_, .int isFaulty, .int orders, .ref mo_letters, .ref mo_numbers, .long hash]), (mo_knows, aI G 6 q5.2)]) C (c7_tells hq5) gX7_tellsPick_X7_tells (by decide +kernel) rfl rfl rfl rfl rfl rfl ⟨by decide, by decide⟩ rfl [0, 1] [] [0, 1] rfl (by decide) rfl (by decide) (by decide) rfl (by decide) (Nat.le_of_ble_eq_true rfl) ⟨Nat.zero_le _, Nat.zero_le _⟩ rfl dX7_tellsPick_140 ?_
      obtain rfl := Option.some.inj hf
      exact hR _ _ dX7_tellsPick_143
  · replace hf := ite_t c1 hf
    refine g_aload_n C dX7_tellsPick_87 rfl 0 rfl ?_
    refine g_get (C0 := RX7) (T := TX7) (N := 24) (ci := 7) (v := .int taint) C hm7_tellsPick_0 0 rfl rfl 15 (by decide) hm7_tellsPick_2 rfl dX7_tellsPick_88 ?_
    refine g_iload_n C dX7_tellsPick_91 rfl 1 rfl ?_
    obtain ⟨q6, hq6, hf⟩ := bs hf
    refine g_callSi (n := 2) (As := [.int taint, .int x1]) (rest := [.int x1, .ref mo]) (wc := []) (w1 := []) (wr := [(mo, oB 7 [.ref mo_now, .ref mo_aside, .ref mo_past, .int states, .ref mo_refusals, .ref mo_text, .int length, .ref mo_vars, .ref mo_sights, .int many, .int steps, .int isCut, .ref mo_isThere, .ref mo_taints, .ref mo_known, .int taint, .ref mo_knows, .int isOther, .int at_, .int isFaulty, .int orders, .ref mo_letters, .ref mo_numbers, .long hash]), (mo_knows, aI G 6 knows)]) (WS' := [(mo, oB 7 [.ref mo_now, .ref mo_aside, .ref mo_past, .int states, .ref mo_refusals, .ref mo_text, .int length, .ref mo_vars, .ref mo_sights, .int many, .int steps, .int isCut, .ref mo_isThere, .ref mo_taints, .ref mo_known, .int taint, .ref mo_knows, .int isOther, .int at_, .int isFaulty, .int orders, .ref mo_letters, .ref mo_numbers, .long hash]), (mo_knows, aI G 6 knows)]) C (c7_has hq6) gX7_tellsPick_X7_has (by decide +kernel) rfl rfl rfl ⟨by decide, by decide⟩ rfl [] [0, 1] [0, 1] rfl (by decide) rfl (by decide) (by decide) rfl (by decide) (Nat.le_of_ble_eq_true rfl) ⟨Nat.zero_le _, Nat.zero_le _⟩ rfl dX7_tellsPick_92 ?_
    refine g_if_ne (tgt := 120) C dX7_tellsPick_95 (by decide) (fun c7 => ?_) (fun c7 => ?_)
    · replace hf := ite_f c7 hf
      refine g_iconst (v := (1 : Int32)) C dX7_tellsPick_120 (by decide +kernel) ?_
      refine g_goto (tgt := 125) C dX7_tellsPick_121 (by decide) ?_
      refine g_iload C dX7_tellsPick_125 4 rfl ?_
      refine g_if_eq (tgt := 139) C dX7_tellsPick_127 (by decide) (fun c8 => ?_) (fun c8 => ?_)
      · replace hf := ite_t c8 hf
        refine g_iconst (v := (-1 : Int32)) C dX7_tellsPick_139 (by decide +kernel) ?_
        obtain ⟨q9, hq9, hf⟩ := bs hf
        refine g_callVv (n := 3) (As := [.int x1, .int (1 : Int32), .int (-1 : Int32)]) (rest := []) (wc := [(mo, oB 7 [.ref mo_now, .ref mo_aside, .ref mo_past, .int states, .ref mo_refusals, .ref mo_text, .int length, .ref mo_vars, .ref mo_sights, .int many, .int steps, .int isCut, .ref mo_isThere, .ref mo_taints, .ref mo_known, .int taint, .ref mo_knows, .int isOther, .int at_, .int isFaulty, .int orders, .ref mo_letters, .ref mo_numbers, .long hash]), (mo_knows, aI G 6 knows)]) (w1 := [(mo, oB 7 [.ref mo_now, .ref mo_aside, .ref mo_past, .int states, .ref mo_refusals, .ref mo_text, .int length, .ref mo_vars, .ref mo_sights, .int many, .int steps, .int isCut, .ref mo_isThere, .ref mo_taints, .ref mo_known, .int q9.1, .ref mo_knows, .int isOther, .int at_, .int isFaulty, .int orders, .ref mo_letters, .ref mo_numbers, .long hash]), (mo_knows, aI G 6 q9.2)]) (wr := []) (WS' := [(mo, oB 7 [.ref mo_now, .ref mo_aside, .ref mo_past, .int states, .ref mo_refusals, .ref mo_text, .int length, .ref mo_vars, .ref mo_sights, .int many, .int steps, .int isCut, .ref mo_isThere, .ref mo_taints, .ref mo_known, .int q9.1, .ref mo_knows, .int isOther, .int at_, .int isFaulty, .int orders, .ref mo_letters, .ref mo_numbers, .long hash]), (mo_knows, aI G 6 q9.2)]) C (c7_tells hq9) gX7_tellsPick_X7_tells (by decide +kernel) rfl rfl rfl rfl rfl rfl ⟨by decide, by decide⟩ rfl [0, 1] [] [0, 1] rfl (by decide) rfl (by decide) (by decide) rfl (by decide) (Nat.le_of_ble_eq_true rfl) ⟨Nat.zero_le _, Nat.zero_le _⟩ rfl dX7_tellsPick_140 ?_
        obtain rfl := Option.some.inj hf
        exact hR _ _ dX7_tellsPick_143
      · replace hf := ite_f c8 hf
        refine g_aload_n C dX7_tellsPick_130 rfl 0 rfl ?_
        refine g_get (C0 := RX7) (T := TX7) (N := 24) (ci := 7) (v := .ref mo_knows) C hm7_tellsPick_0 0 rfl rfl 16 (by decide) hm7_tellsPick_1 rfl dX7_tellsPick_131 ?_
        refine g_iload_n C dX7_tellsPick_134 rfl 2 rfl ?_
        obtain ⟨h10, hf⟩ := ck_some hf
        refine g_iald (n := 6) (v := (knows x2.toNatClampNeg)) C 1 rfl h10 rfl rfl dX7_tellsPick_135 ?_
        refine g_goto (tgt := 140) C dX7_tellsPick_136 (by decide) ?_
        obtain ⟨q11, hq11, hf⟩ := bs hf
        refine g_callVv (n := 3) (As := [.int x1, .int (1 : Int32), .int (knows x2.toNatClampNeg)]) (rest := []) (wc := [(mo, oB 7 [.ref mo_now, .ref mo_aside, .ref mo_past, .int states, .ref mo_refusals, .ref mo_text, .int length, .ref mo_vars, .ref mo_sights, .int many, .int steps, .int isCut, .ref mo_isThere, .ref mo_taints, .ref mo_known, .int taint, .ref mo_knows, .int isOther, .int at_, .int isFaulty, .int orders, .ref mo_letters, .ref mo_numbers, .long hash]), (mo_knows, aI G 6 knows)]) (w1 := [(mo, oB 7 [.ref mo_now, .ref mo_aside, .ref mo_past, .int states, .ref mo_refusals, .ref mo_text, .int length, .ref mo_vars, .ref mo_sights, .int many, .int steps, .int isCut, .ref mo_isThere, .ref mo_taints, .ref mo_known, .int q11.1, .ref mo_knows, .int isOther, .int at_, .int isFaulty, .int orders, .ref mo_letters, .ref mo_numbers, .long hash]), (mo_knows, aI G 6 q11.2)]) (wr := []) (WS' := [(mo, oB 7 [.ref mo_now, .ref mo_aside, .ref mo_past, .int states, .ref mo_refusals, .ref mo_text, .int length, .ref mo_vars, .ref mo_sights, .int many, .int steps, .int isCut, .ref mo_isThere, .ref mo_taints, .ref mo_known, .int q11.1, .ref mo_knows, .int isOther, .int at_, .int isFaulty, .int orders, .ref mo_letters, .ref mo_numbers, .long hash]), (mo_knows, aI G 6 q11.2)]) C (c7_tells hq11) gX7_tellsPick_X7_tells (by decide +kernel) rfl rfl rfl rfl rfl rfl ⟨by decide, by decide⟩ rfl [0, 1] [] [0, 1] rfl (by decide) rfl (by decide) (by decide) rfl (by decide) (Nat.le_of_ble_eq_true rfl) ⟨Nat.zero_le _, Nat.zero_le _⟩ rfl dX7_tellsPick_140 ?_
        obtain rfl := Option.some.inj hf
        exact hR _ _ dX7_tellsPick_143
    · replace hf := ite_t c7 hf
      refine g_aload_n C dX7_tellsPick_98 rfl 0 rfl ?_
      refine g_get (C0 := RX7) (T := TX7) (N := 24) (ci := 7) (v := .int taint) C hm7_tellsPick_0 0 rfl rfl 15 (by decide) hm7_tellsPick_2 rfl dX7_tellsPick_99 ?_
      refine g_iload_n C dX7_tellsPick_102 rfl 2 rfl ?_
      obtain ⟨q12, hq12, hf⟩ := bs hf
      refine g_callSi (n := 2) (As := [.int taint, .int x2]) (rest := [.int x1, .ref mo]) (wc := []) (w1 := []) (wr := [(mo, oB 7 [.ref mo_now, .ref mo_aside, .ref mo_past, .int states, .ref mo_refusals, .ref mo_text, .int length, .ref mo_vars, .ref mo_sights, .int many, .int steps, .int isCut, .ref mo_isThere, .ref mo_taints, .ref mo_known, .int taint, .ref mo_knows, .int isOther, .int at_, .int isFaulty, .int orders, .ref mo_letters, .ref mo_numbers, .long hash]), (mo_knows, aI G 6 knows)]) (WS' := [(mo, oB 7 [.ref mo_now, .ref mo_aside, .ref mo_past, .int states, .ref mo_refusals, .ref mo_text, .int length, .ref mo_vars, .ref mo_sights, .int many, .int steps, .int isCut, .ref mo_isThere, .ref mo_taints, .ref mo_known, .int taint, .ref mo_knows, .int isOther, .int at_, .int isFaulty, .int orders, .ref mo_letters, .ref mo_numbers, .long hash]), (mo_knows, aI G 6 knows)]) C (c7_has hq12) gX7_tellsPick_X7_has (by decide +kernel) rfl rfl rfl ⟨by decide, by decide⟩ rfl [] [0, 1] [0, 1] rfl (by decide) rfl (by decide) (by decide) rfl (by decide) (Nat.le_of_ble_eq_true rfl) ⟨Nat.zero_le _, Nat.zero_le _⟩ rfl dX7_tellsPick_103 ?_
      refine g_if_ne (tgt := 120) C dX7_tellsPick_106 (by decide) (fun c13 => ?_) (fun c13 => ?_)
      · replace hf := ite_f c13 hf
        refine g_iconst (v := (1 : Int32)) C dX7_tellsPick_120 (by decide +kernel) ?_
        refine g_goto (tgt := 125) C dX7_tellsPick_121 (by decide) ?_
        refine g_iload C dX7_tellsPick_125 4 rfl ?_
        refine g_if_eq (tgt := 139) C dX7_tellsPick_127 (by decide) (fun c14 => ?_) (fun c14 => ?_)
        · replace hf := ite_t c14 hf
          refine g_iconst (v := (-1 : Int32)) C dX7_tellsPick_139 (by decide +kernel) ?_
          obtain ⟨q15, hq15, hf⟩ := bs hf
          refine g_callVv (n := 3) (As := [.int x1, .int (1 : Int32), .int (-1 : Int32)]) (rest := []) (wc := [(mo, oB 7 [.ref mo_now, .ref mo_aside, .ref mo_past, .int states, .ref mo_refusals, .ref mo_text, .int length, .ref mo_vars, .ref mo_sights, .int many, .int steps, .int isCut, .ref mo_isThere, .ref mo_taints, .ref mo_known, .int taint, .ref mo_knows, .int isOther, .int at_, .int isFaulty, .int orders, .ref mo_letters, .ref mo_numbers, .long hash]), (mo_knows, aI G 6 knows)]) (w1 := [(mo, oB 7 [.ref mo_now, .ref mo_aside, .ref mo_past, .int states, .ref mo_refusals, .ref mo_text, .int length, .ref mo_vars, .ref mo_sights, .int many, .int steps, .int isCut, .ref mo_isThere, .ref mo_taints, .ref mo_known, .int q15.1, .ref mo_knows, .int isOther, .int at_, .int isFaulty, .int orders, .ref mo_letters, .ref mo_numbers, .long hash]), (mo_knows, aI G 6 q15.2)]) (wr := []) (WS' := [(mo, oB 7 [.ref mo_now, .ref mo_aside, .ref mo_past, .int states, .ref mo_refusals, .ref mo_text, .int length, .ref mo_vars, .ref mo_sights, .int many, .int steps, .int isCut, .ref mo_isThere, .ref mo_taints, .ref mo_known, .int q15.1, .ref mo_knows, .int isOther, .int at_, .int isFaulty, .int orders, .ref mo_letters, .ref mo_numbers, .long hash]), (mo_knows, aI G 6 q15.2)]) C (c7_tells hq15) gX7_tellsPick_X7_tells (by decide +kernel) rfl rfl rfl rfl rfl rfl ⟨by decide, by decide⟩ rfl [0, 1] [] [0, 1] rfl (by decide) rfl (by decide) (by decide) rfl (by decide) (Nat.le_of_ble_eq_true rfl) ⟨Nat.zero_le _, Nat.zero_le _⟩ rfl dX7_tellsPick_140 ?_
          obtain rfl := Option.some.inj hf
          exact hR _ _ dX7_tellsPick_143
        · replace hf := ite_f c14 hf
          refine g_aload_n C dX7_tellsPick_130 rfl 0 rfl ?_
          refine g_get (C0 := RX7) (T := TX7) (N := 24) (ci := 7) (v := .ref mo_knows) C hm7_tellsPick_0 0 rfl rfl 16 (by decide) hm7_tellsPick_1 rfl dX7_tellsPick_131 ?_
          refine g_iload_n C dX7_tellsPick_134 rfl 2 rfl ?_
          obtain ⟨h16, hf⟩ := ck_some hf
          refine g_iald (n := 6) (v := (knows x2.toNatClampNeg)) C 1 rfl h16 rfl rfl dX7_tellsPick_135 ?_
          refine g_goto (tgt := 140) C dX7_tellsPick_136 (by decide) ?_
          obtain ⟨q17, hq17, hf⟩ := bs hf
          refine g_callVv (n := 3) (As := [.int x1, .int (1 : Int32), .int (knows x2.toNatClampNeg)]) (rest := []) (wc := [(mo, oB 7 [.ref mo_now, .ref mo_aside, .ref mo_past, .int states, .ref mo_refusals, .ref mo_text, .int length, .ref mo_vars, .ref mo_sights, .int many, .int steps, .int isCut, .ref mo_isThere, .ref mo_taints, .ref mo_known, .int taint, .ref mo_knows, .int isOther, .int at_, .int isFaulty, .int orders, .ref mo_letters, .ref mo_numbers, .long hash]), (mo_knows, aI G 6 knows)]) (w1 := [(mo, oB 7 [.ref mo_now, .ref mo_aside, .ref mo_past, .int states, .ref mo_refusals, .ref mo_text, .int length, .ref mo_vars, .ref mo_sights, .int many, .int steps, .int isCut, .ref mo_isThere, .ref mo_taints, .ref mo_known, .int q17.1, .ref mo_knows, .int isOther, .int at_, .int isFaulty, .int orders, .ref mo_letters, .ref mo_numbers, .long hash]), (mo_knows, aI G 6 q17.2)]) (wr := []) (WS' := [(mo, oB 7 [.ref mo_now, .ref mo_aside, .ref mo_past, .int states, .ref mo_refusals, .ref mo_text, .int length, .ref mo_vars, .ref mo_sights, .int many, .int steps, .int isCut, .ref mo_isThere, .ref mo_taints, .ref mo_known, .int q17.1, .ref mo_knows, .int isOther, .int at_, .int isFaulty, .int orders, .ref mo_letters, .ref mo_numbers, .long hash]), (mo_knows, aI G 6 q17.2)]) C (c7_tells hq17) gX7_tellsPick_X7_tells (by decide +kernel) rfl rfl rfl rfl rfl rfl ⟨by decide, by decide⟩ rfl [0, 1] [] [0, 1] rfl (by decide) rfl (by decide) (by decide) rfl (by decide) (Nat.le_of_ble_eq_true rfl) ⟨Nat.zero_le _, Nat.zero_le _⟩ rfl dX7_tellsPick_140 ?_
          obtain rfl := Option.some.inj hf
          exact hR _ _ dX7_tellsPick_143
      · replace hf := ite_t c13 hf
        refine g_aload_n C dX7_tellsPick_109 rfl 0 rfl ?_
        refine g_get (C0 := RX7) (T := TX7) (N := 24) (ci := 7) (v := .int taint) C hm7_tellsPick_0 0 rfl rfl 15 (by decide) hm7_tellsPick_2 rfl dX7_tellsPick_110 ?_
        refine g_iload_n C dX7_tellsPick_113 rfl 3 rfl ?_
        obtain ⟨q18, hq18, hf⟩ := bs hf
        refine g_callSi (n := 2) (As := [.int taint, .int x3]) (rest := [.int x1, .ref mo]) (wc := []) (w1 := []) (wr := [(mo, oB 7 [.ref mo_now, .ref mo_aside, .ref mo_past, .int states, .ref mo_refusals, .ref mo_text, .int length, .ref mo_vars, .ref mo_sights, .int many, .int steps, .int isCut, .ref mo_isThere, .ref mo_taints, .ref mo_known, .int taint, .ref mo_knows, .int isOther, .int at_, .int isFaulty, .int orders, .ref mo_letters, .ref mo_numbers, .long hash]), (mo_knows, aI G 6 knows)]) (WS' := [(mo, oB 7 [.ref mo_now, .ref mo_aside, .ref mo_past, .int states, .ref mo_refusals, .ref mo_text, .int length, .ref mo_vars, .ref mo_sights, .int many, .int steps, .int isCut, .ref mo_isThere, .ref mo_taints, .ref mo_known, .int taint, .ref mo_knows, .int isOther, .int at_, .int isFaulty, .int orders, .ref mo_letters, .ref mo_numbers, .long hash]), (mo_knows, aI G 6 knows)]) C (c7_has hq18) gX7_tellsPick_X7_has (by decide +kernel) rfl rfl rfl ⟨by decide, by decide⟩ rfl [] [0, 1] [0, 1] rfl (by decide) rfl (by decide) (by decide) rfl (by decide) (Nat.le_of_ble_eq_true rfl) ⟨Nat.zero_le _, Nat.zero_le _⟩ rfl dX7_tellsPick_114 ?_
        refine g_if_eq (tgt := 124) C dX7_tellsPick_117 (by decide) (fun c19 => ?_) (fun c19 => ?_)
        · replace hf := ite_t c19 hf
          refine g_iconst (v := (0 : Int32)) C dX7_tellsPick_124 (by decide +kernel) ?_
          refine g_iload C dX7_tellsPick_125 4 rfl ?_
          refine g_if_eq (tgt := 139) C dX7_tellsPick_127 (by decide) (fun c20 => ?_) (fun c20 => ?_)
          · replace hf := ite_t c20 hf
            refine g_iconst (v := (-1 : Int32)) C dX7_tellsPick_139 (by decide +kernel) ?_
            obtain ⟨q21, hq21, hf⟩ := bs hf
            refine g_callVv (n := 3) (As := [.int x1, .int (0 : Int32), .int (-1 : Int32)]) (rest := []) (wc := [(mo, oB 7 [.ref mo_now, .ref mo_aside, .ref mo_past, .int states, .ref mo_refusals, .ref mo_text, .int length, .ref mo_vars, .ref mo_sights, .int many, .int steps, .int isCut, .ref mo_isThere, .ref mo_taints, .ref mo_known, .int taint, .ref mo_knows, .int isOther, .int at_, .int isFaulty, .int orders, .ref mo_letters, .ref mo_numbers, .long hash]), (mo_knows, aI G 6 knows)]) (w1 := [(mo, oB 7 [.ref mo_now, .ref mo_aside, .ref mo_past, .int states, .ref mo_refusals, .ref mo_text, .int length, .ref mo_vars, .ref mo_sights, .int many, .int steps, .int isCut, .ref mo_isThere, .ref mo_taints, .ref mo_known, .int q21.1, .ref mo_knows, .int isOther, .int at_, .int isFaulty, .int orders, .ref mo_letters, .ref mo_numbers, .long hash]), (mo_knows, aI G 6 q21.2)]) (wr := []) (WS' := [(mo, oB 7 [.ref mo_now, .ref mo_aside, .ref mo_past, .int states, .ref mo_refusals, .ref mo_text, .int length, .ref mo_vars, .ref mo_sights, .int many, .int steps, .int isCut, .ref mo_isThere, .ref mo_taints, .ref mo_known, .int q21.1, .ref mo_knows, .int isOther, .int at_, .int isFaulty, .int orders, .ref mo_letters, .ref mo_numbers, .long hash]), (mo_knows, aI G 6 q21.2)]) C (c7_tells hq21) gX7_tellsPick_X7_tells (by decide +kernel) rfl rfl rfl rfl rfl rfl ⟨by decide, by decide⟩ rfl [0, 1] [] [0, 1] rfl (by decide) rfl (by decide) (by decide) rfl (by decide) (Nat.le_of_ble_eq_true rfl) ⟨Nat.zero_le _, Nat.zero_le _⟩ rfl dX7_tellsPick_140 ?_
            obtain rfl := Option.some.inj hf
            exact hR _ _ dX7_tellsPick_143
          · replace hf := ite_f c20 hf
            refine g_aload_n C dX7_tellsPick_130 rfl 0 rfl ?_
            refine g_get (C0 := RX7) (T := TX7) (N := 24) (ci := 7) (v := .ref mo_knows) C hm7_tellsPick_0 0 rfl rfl 16 (by decide) hm7_tellsPick_1 rfl dX7_tellsPick_131 ?_
            refine g_iload_n C dX7_tellsPick_134 rfl 2 rfl ?_
            obtain ⟨h22, hf⟩ := ck_some hf
            refine g_iald (n := 6) (v := (knows x2.toNatClampNeg)) C 1 rfl h22 rfl rfl dX7_tellsPick_135 ?_
            refine g_goto (tgt := 140) C dX7_tellsPick_136 (by decide) ?_
            obtain ⟨q23, hq23, hf⟩ := bs hf
            refine g_callVv (n := 3) (As := [.int x1, .int (0 : Int32), .int (knows x2.toNatClampNeg)]) (rest := []) (wc := [(mo, oB 7 [.ref mo_now, .ref mo_aside, .ref mo_past, .int states, .ref mo_refusals, .ref mo_text, .int length, .ref mo_vars, .ref mo_sights, .int many, .int steps, .int isCut, .ref mo_isThere, .ref mo_taints, .ref mo_known, .int taint, .ref mo_knows, .int isOther, .int at_, .int isFaulty, .int orders, .ref mo_letters, .ref mo_numbers, .long hash]), (mo_knows, aI G 6 knows)]) (w1 := [(mo, oB 7 [.ref mo_now, .ref mo_aside, .ref mo_past, .int states, .ref mo_refusals, .ref mo_text, .int length, .ref mo_vars, .ref mo_sights, .int many, .int steps, .int isCut, .ref mo_isThere, .ref mo_taints, .ref mo_known, .int q23.1, .ref mo_knows, .int isOther, .int at_, .int isFaulty, .int orders, .ref mo_letters, .ref mo_numbers, .long hash]), (mo_knows, aI G 6 q23.2)]) (wr := []) (WS' := [(mo, oB 7 [.ref mo_now, .ref mo_aside, .ref mo_past, .int states, .ref mo_refusals, .ref mo_text, .int length, .ref mo_vars, .ref mo_sights, .int many, .int steps, .int isCut, .ref mo_isThere, .ref mo_taints, .ref mo_known, .int q23.1, .ref mo_knows, .int isOther, .int at_, .int isFaulty, .int orders, .ref mo_letters, .ref mo_numbers, .long hash]), (mo_knows, aI G 6 q23.2)]) C (c7_tells hq23) gX7_tellsPick_X7_tells (by decide +kernel) rfl rfl rfl rfl rfl rfl ⟨by decide, by decide⟩ rfl [0, 1] [] [0, 1] rfl (by decide) rfl (by decide) (by decide) rfl (by decide) (Nat.le_of_ble_eq_true rfl) ⟨Nat.zero_le _, Nat.zero_le _⟩ rfl dX7_tellsPick_140 ?_
            obtain rfl := Option.some.inj hf
            exact hR _ _ dX7_tellsPick_143
        · replace hf := ite_f c19 hf
          refine g_iconst (v := (1 : Int32)) C dX7_tellsPick_120 (by decide +kernel) ?_
          refine g_goto (tgt := 125) C dX7_tellsPick_121 (by decide) ?_
          refine g_iload C dX7_tellsPick_125 4 rfl ?_
          refine g_if_eq (tgt := 139) C dX7_tellsPick_127 (by decide) (fun c24 => ?_) (fun c24 => ?_)
          · replace hf := ite_t c24 hf
            refine g_iconst (v := (-1 : Int32)) C dX7_tellsPick_139 (by decide +kernel) ?_
            obtain ⟨q25, hq25, hf⟩ := bs hf
            refine g_callVv (n := 3) (As := [.int x1, .int (1 : Int32), .int (-1 : Int32)]) (rest := []) (wc := [(mo, oB 7 [.ref mo_now, .ref mo_aside, .ref mo_past, .int states, .ref mo_refusals, .ref mo_text, .int length, .ref mo_vars, .ref mo_sights, .int many, .int steps, .int isCut, .ref mo_isThere, .ref mo_taints, .ref mo_known, .int taint, .ref mo_knows, .int isOther, .int at_, .int isFaulty, .int orders, .ref mo_letters, .ref mo_numbers, .long hash]), (mo_knows, aI G 6 knows)]) (w1 := [(mo, oB 7 [.ref mo_now, .ref mo_aside, .ref mo_past, .int states, .ref mo_refusals, .ref mo_text, .int length, .ref mo_vars, .ref mo_sights, .int many, .int steps, .int isCut, .ref mo_isThere, .ref mo_taints, .ref mo_known, .int q25.1, .ref mo_knows, .int isOther, .int at_, .int isFaulty, .int orders, .ref mo_letters, .ref mo_numbers, .long hash]), (mo_knows, aI G 6 q25.2)]) (wr := []) (WS' := [(mo, oB 7 [.ref mo_now, .ref mo_aside, .ref mo_past, .int states, .ref mo_refusals, .ref mo_text, .int length, .ref mo_vars, .ref mo_sights, .int many, .int steps, .int isCut, .ref mo_isThere, .ref mo_taints, .ref mo_known, .int q25.1, .ref mo_knows, .int isOther, .int at_, .int isFaulty, .int orders, .ref mo_letters, .ref mo_numbers, .long hash]), (mo_knows, aI G 6 q25.2)]) C (c7_tells hq25) gX7_tellsPick_X7_tells (by decide +kernel) rfl rfl rfl rfl rfl rfl ⟨by decide, by decide⟩ rfl [0, 1] [] [0, 1] rfl (by decide) rfl (by decide) (by decide) rfl (by decide) (Nat.le_of_ble_eq_true rfl) ⟨Nat.zero_le _, Nat.zero_le _⟩ rfl dX7_tellsPick_140 ?_
            obtain rfl := Option.some.inj hf
            exact hR _ _ dX7_tellsPick_143
          · replace hf := ite_f c24 hf
            refine g_aload_n C dX7_tellsPick_130 rfl 0 rfl ?_
            refine g_get (C0 := RX7) (T := TX7) (N := 24) (ci := 7) (v := .ref mo_knows) C hm7_tellsPick_0 0 rfl rfl 16 (by decide) hm7_tellsPick_1 rfl dX7_tellsPick_131 ?_
            refine g_iload_n C dX7_tellsPick_134 rfl 2 rfl ?_
            obtain ⟨h26, hf⟩ := ck_some hf
            refine g_iald (n := 6) (v := (knows x2.toNatClampNeg)) C 1 rfl h26 rfl rfl dX7_tellsPick_135 ?_
            refine g_goto (tgt := 140) C dX7_tellsPick_136 (by decide) ?_
            obtain ⟨q27, hq27, hf⟩ := bs hf
            refine g_callVv (n := 3) (As := [.int x1, .int (1 : Int32), .int (knows x2.toNatClampNeg)]) (rest := []) (wc := [(mo, oB 7 [.ref mo_now, .ref mo_aside, .ref mo_past, .int states, .ref mo_refusals, .ref mo_text, .int length, .ref mo_vars, .ref mo_sights, .int many, .int steps, .int isCut, .ref mo_isThere, .ref mo_taints, .ref mo_known, .int taint, .ref mo_knows, .int isOther, .int at_, .int isFaulty, .int orders, .ref mo_letters, .ref mo_numbers, .long hash]), (mo_knows, aI G 6 knows)]) (w1 := [(mo, oB 7 [.ref mo_now, .ref mo_aside, .ref mo_past, .int states, .ref mo_refusals, .ref mo_text, .int length, .ref mo_vars, .ref mo_sights, .int many, .int steps, .int isCut, .ref mo_isThere, .ref mo_taints, .ref mo_known, .int q27.1, .ref mo_knows, .int isOther, .int at_, .int isFaulty, .int orders, .ref mo_letters, .ref mo_numbers, .long hash]), (mo_knows, aI G 6 q27.2)]) (wr := []) (WS' := [(mo, oB 7 [.ref mo_now, .ref mo_aside, .ref mo_past, .int states, .ref mo_refusals, .ref mo_text, .int length, .ref mo_vars, .ref mo_sights, .int many, .int steps, .int isCut, .ref mo_isThere, .ref mo_taints, .ref mo_known, .int q27.1, .ref mo_knows, .int isOther, .int at_, .int isFaulty, .int orders, .ref mo_letters, .ref mo_numbers, .long hash]), (mo_knows, aI G 6 q27.2)]) C (c7_tells hq27) gX7_tellsPick_X7_tells (by decide +kernel) rfl rfl rfl rfl rfl rfl ⟨by decide, by decide⟩ rfl [0, 1] [] [0, 1] rfl (by decide) rfl (by decide) (by decide) rfl (by decide) (Nat.le_of_ble_eq_true rfl) ⟨Nat.zero_le _, Nat.zero_le _⟩ rfl dX7_tellsPick_140 ?_
            obtain rfl := Option.some.inj hf
            exact hR _ _ dX7_tellsPick_143
set_option maxHeartbeats 4000000 in
set_option maxRecDepth 100000 in
theorem k7_tellsPick_78 {p : Program} {l : Launch} {e : Env} {s : State} {m : MethodId} {args : Array Value} {below : List Frame} {meth : Method} {c : Code} {G : gG} {A : Nat → Prop} {Q : State → Prop} {mo mo_now mo_aside mo_past mo_refusals mo_text mo_vars mo_sights mo_isThere mo_taints mo_known mo_knows mo_letters mo_numbers : Nat} (C : CX p s m args meth c G A cX7_tellsPick 5 RX7 wsX7_tellsPick) {states : Int32} {length : Int32} {many : Int32} {steps : Int32} {isCut : Int32} {isOther : Int32} {at_ : Int32} {isFaulty : Int32} {orders : Int32} {hash : Int64} {taint : Int32} {knows : Nat → Int32} {x1 : Int32} {x2 : Int32} {x3 : Int32} {y0 : Int32} {res : Int32 × (Nat → Int32)} (hR : ∀ (lv : List (Nat × Value)) (pc : Nat), decode cX7_tellsPick pc = .ok (.return_, 1) → GG p l e rm7_tellsPick s m args below meth c G A 5 0 0 Q [(mo, oB 7 [.ref mo_now, .ref mo_aside, .ref mo_past, .int states, .ref mo_refusals, .ref mo_text, .int length, .ref mo_vars, .ref mo_sights, .int many, .int steps, .int isCut, .ref mo_isThere, .ref mo_taints, .ref mo_known, .int res.1, .ref mo_knows, .int isOther, .int at_, .int isFaulty, .int orders, .ref mo_letters, .ref mo_numbers, .long hash]), (mo_knows, aI G 6 res.2)] lv pc [])
    (hf : f7_tellsPick_78 taint knows x1 x2 x3 y0 = some res) : GG p l e rm7_tellsPick s m args below meth c G A 5 0 0 Q [(mo, oB 7 [.ref mo_now, .ref mo_aside, .ref mo_past, .int states, .ref mo_refusals, .ref mo_text, .int length, .ref mo_vars, .ref mo_sights, .int many, .int steps, .int isCut, .ref mo_isThere, .ref mo_taints, .ref mo_known, .int taint, .ref mo_knows, .int isOther, .int at_, .int isFaulty, .int orders, .ref mo_letters, .ref mo_numbers, .long hash]), (mo_knows, aI G 6 knows)] [(0, .ref mo), (1, .int x1), (2, .int x2), (3, .int x3)] 78 [.int y0] := by
  unfold f7_tellsPick_78 at hf
  refine g_istore (lv' := [(0, .ref mo), (1, .int x1), (2, .int x2), (3, .int x3), (4, .int y0)]) C dX7_tellsPick_78 (by decide) [1, 2, 3, 4, 0] rfl ?_
  exact k7_tellsPick_80 C hR hf
set_option maxHeartbeats 4000000 in
set_option maxRecDepth 100000 in
theorem k7_tellsPick_77 {p : Program} {l : Launch} {e : Env} {s : State} {m : MethodId} {args : Array Value} {below : List Frame} {meth : Method} {c : Code} {G : gG} {A : Nat → Prop} {Q : State → Prop} {mo mo_now mo_aside mo_past mo_refusals mo_text mo_vars mo_sights mo_isThere mo_taints mo_known mo_knows mo_letters mo_numbers : Nat} (C : CX p s m args meth c G A cX7_tellsPick 5 RX7 wsX7_tellsPick) {states : Int32} {length : Int32} {many : Int32} {steps : Int32} {isCut : Int32} {isOther : Int32} {at_ : Int32} {isFaulty : Int32} {orders : Int32} {hash : Int64} {taint : Int32} {knows : Nat → Int32} {x1 : Int32} {x2 : Int32} {x3 : Int32} {res : Int32 × (Nat → Int32)} (hR : ∀ (lv : List (Nat × Value)) (pc : Nat), decode cX7_tellsPick pc = .ok (.return_, 1) → GG p l e rm7_tellsPick s m args below meth c G A 5 0 0 Q [(mo, oB 7 [.ref mo_now, .ref mo_aside, .ref mo_past, .int states, .ref mo_refusals, .ref mo_text, .int length, .ref mo_vars, .ref mo_sights, .int many, .int steps, .int isCut, .ref mo_isThere, .ref mo_taints, .ref mo_known, .int res.1, .ref mo_knows, .int isOther, .int at_, .int isFaulty, .int orders, .ref mo_letters, .ref mo_numbers, .long hash]), (mo_knows, aI G 6 res.2)] lv pc [])
    (hf : f7_tellsPick_77 taint knows x1 x2 x3 = some res) : GG p l e rm7_tellsPick s m args below meth c G A 5 0 0 Q [(mo, oB 7 [.ref mo_now, .ref mo_aside, .ref mo_past, .int states, .ref mo_refusals, .ref mo_text, .int length, .ref mo_vars, .ref mo_sights, .int many, .int steps, .int isCut, .ref mo_isThere, .ref mo_taints, .ref mo_known, .int taint, .ref mo_knows, .int isOther, .int at_, .int isFaulty, .int orders, .ref mo_letters, .ref mo_numbers, .long hash]), (mo_knows, aI G 6 knows)] [(0, .ref mo), (1, .int x1), (2, .int x2), (3, .int x3)] 77 [] := by
  unfold f7_tellsPick_77 at hf
  refine g_iconst (v := (0 : Int32)) C dX7_tellsPick_77 (by decide +kernel) ?_
  exact k7_tellsPick_78 C hR hf
set_option maxHeartbeats 4000000 in
set_option maxRecDepth 100000 in
theorem k7_tellsPick_24 {p : Program} {l : Launch} {e : Env} {s : State} {m : MethodId} {args : Array Value} {below : List Frame} {meth : Method} {c : Code} {G : gG} {A : Nat → Prop} {Q : State → Prop} {mo mo_now mo_aside mo_past mo_refusals mo_text mo_vars mo_sights mo_isThere mo_taints mo_known mo_knows mo_letters mo_numbers : Nat} (C : CX p s m args meth c G A cX7_tellsPick 5 RX7 wsX7_tellsPick) {states : Int32} {length : Int32} {many : Int32} {steps : Int32} {isCut : Int32} {isOther : Int32} {at_ : Int32} {isFaulty : Int32} {orders : Int32} {hash : Int64} {taint : Int32} {knows : Nat → Int32} {x1 : Int32} {x2 : Int32} {x3 : Int32} {y0 : Int32} {res : Int32 × (Nat → Int32)} (hR : ∀ (lv : List (Nat × Value)) (pc : Nat), decode cX7_tellsPick pc = .ok (.return_, 1) → GG p l e rm7_tellsPick s m args below meth c G A 5 0 0 Q [(mo, oB 7 [.ref mo_now, .ref mo_aside, .ref mo_past, .int states, .ref mo_refusals, .ref mo_text, .int length, .ref mo_vars, .ref mo_sights, .int many, .int steps, .int isCut, .ref mo_isThere, .ref mo_taints, .ref mo_known, .int res.1, .ref mo_knows, .int isOther, .int at_, .int isFaulty, .int orders, .ref mo_letters, .ref mo_numbers, .long hash]), (mo_knows, aI G 6 res.2)] lv pc [])
    (hf : f7_tellsPick_24 taint knows x1 x2 x3 y0 = some res) : GG p l e rm7_tellsPick s m args below meth c G A 5 0 0 Q [(mo, oB 7 [.ref mo_now, .ref mo_aside, .ref mo_past, .int states, .ref mo_refusals, .ref mo_text, .int length, .ref mo_vars, .ref mo_sights, .int many, .int steps, .int isCut, .ref mo_isThere, .ref mo_taints, .ref mo_known, .int taint, .ref mo_knows, .int isOther, .int at_, .int isFaulty, .int orders, .ref mo_letters, .ref mo_numbers, .long hash]), (mo_knows, aI G 6 knows)] [(0, .ref mo), (1, .int x1), (2, .int x2), (3, .int x3)] 24 [.int y0] := by
  unfold f7_tellsPick_24 at hf
  refine g_istore (lv' := [(0, .ref mo), (1, .int x1), (2, .int x2), (3, .int x3), (4, .int y0)]) C dX7_tellsPick_24 (by decide) [1, 2, 3, 4, 0] rfl ?_
  refine g_aload_n C dX7_tellsPick_26 rfl 0 rfl ?_
  refine g_iload_n C dX7_tellsPick_27 rfl 1 rfl ?_
  refine g_aload_n C dX7_tellsPick_28 rfl 0 rfl ?_
  refine g_get (C0 := RX7) (T := TX7) (N := 24) (ci := 7) (v := .int taint) C hm7_tellsPick_0 0 rfl rfl 15 (by decide) hm7_tellsPick_2 rfl dX7_tellsPick_29 ?_
  refine g_iload C dX7_tellsPick_32 4 rfl ?_
  obtain ⟨q28, hq28, hf⟩ := bs hf
  refine g_callSi (n := 2) (As := [.int taint, .int y0]) (rest := [.int x1, .ref mo]) (wc := []) (w1 := []) (wr := [(mo, oB 7 [.ref mo_now, .ref mo_aside, .ref mo_past, .int states, .ref mo_refusals, .ref mo_text, .int length, .ref mo_vars, .ref mo_sights, .int many, .int steps, .int isCut, .ref mo_isThere, .ref mo_taints, .ref mo_known, .int taint, .ref mo_knows, .int isOther, .int at_, .int isFaulty, .int orders, .ref mo_letters, .ref mo_numbers, .long hash]), (mo_knows, aI G 6 knows)]) (WS' := [(mo, oB 7 [.ref mo_now, .ref mo_aside, .ref mo_past, .int states, .ref mo_refusals, .ref mo_text, .int length, .ref mo_vars, .ref mo_sights, .int many, .int steps, .int isCut, .ref mo_isThere, .ref mo_taints, .ref mo_known, .int taint, .ref mo_knows, .int isOther, .int at_, .int isFaulty, .int orders, .ref mo_letters, .ref mo_numbers, .long hash]), (mo_knows, aI G 6 knows)]) C (c7_has hq28) gX7_tellsPick_X7_has (by decide +kernel) rfl rfl rfl ⟨by decide, by decide⟩ rfl [] [0, 1] [0, 1] rfl (by decide) rfl (by decide) (by decide) rfl (by decide) (Nat.le_of_ble_eq_true rfl) ⟨Nat.zero_le _, Nat.zero_le _⟩ rfl dX7_tellsPick_34 ?_
  refine g_aload_n C dX7_tellsPick_37 rfl 0 rfl ?_
  refine g_get (C0 := RX7) (T := TX7) (N := 24) (ci := 7) (v := .ref mo_knows) C hm7_tellsPick_0 0 rfl rfl 16 (by decide) hm7_tellsPick_1 rfl dX7_tellsPick_38 ?_
  refine g_iload C dX7_tellsPick_41 4 rfl ?_
  obtain ⟨h29, hf⟩ := ck_some hf
  refine g_iald (n := 6) (v := (knows y0.toNatClampNeg)) C 1 rfl h29 rfl rfl dX7_tellsPick_43 ?_
  obtain ⟨q30, hq30, hf⟩ := bs hf
  refine g_callVv (n := 3) (As := [.int x1, .int q28, .int (knows y0.toNatClampNeg)]) (rest := []) (wc := [(mo, oB 7 [.ref mo_now, .ref mo_aside, .ref mo_past, .int states, .ref mo_refusals, .ref mo_text, .int length, .ref mo_vars, .ref mo_sights, .int many, .int steps, .int isCut, .ref mo_isThere, .ref mo_taints, .ref mo_known, .int taint, .ref mo_knows, .int isOther, .int at_, .int isFaulty, .int orders, .ref mo_letters, .ref mo_numbers, .long hash]), (mo_knows, aI G 6 knows)]) (w1 := [(mo, oB 7 [.ref mo_now, .ref mo_aside, .ref mo_past, .int states, .ref mo_refusals, .ref mo_text, .int length, .ref mo_vars, .ref mo_sights, .int many, .int steps, .int isCut, .ref mo_isThere, .ref mo_taints, .ref mo_known, .int q30.1, .ref mo_knows, .int isOther, .int at_, .int isFaulty, .int orders, .ref mo_letters, .ref mo_numbers, .long hash]), (mo_knows, aI G 6 q30.2)]) (wr := []) (WS' := [(mo, oB 7 [.ref mo_now, .ref mo_aside, .ref mo_past, .int states, .ref mo_refusals, .ref mo_text, .int length, .ref mo_vars, .ref mo_sights, .int many, .int steps, .int isCut, .ref mo_isThere, .ref mo_taints, .ref mo_known, .int q30.1, .ref mo_knows, .int isOther, .int at_, .int isFaulty, .int orders, .ref mo_letters, .ref mo_numbers, .long hash]), (mo_knows, aI G 6 q30.2)]) C (c7_tells hq30) gX7_tellsPick_X7_tells (by decide +kernel) rfl rfl rfl rfl rfl rfl ⟨by decide, by decide⟩ rfl [0, 1] [] [0, 1] rfl (by decide) rfl (by decide) (by decide) rfl (by decide) (Nat.le_of_ble_eq_true rfl) ⟨Nat.zero_le _, Nat.zero_le _⟩ rfl dX7_tellsPick_44 ?_
  obtain rfl := Option.some.inj hf
  exact hR _ _ dX7_tellsPick_47
set_option maxHeartbeats 4000000 in
set_option maxRecDepth 100000 in
theorem c7_tellsPick {l : Launch} {G : gG} {mo mo_now mo_aside mo_past mo_refusals mo_text mo_vars mo_sights mo_isThere mo_taints mo_known mo_knows mo_letters mo_numbers : Nat} {states : Int32} {length : Int32} {many : Int32} {steps : Int32} {isCut : Int32} {taint : Int32} {knows : Nat → Int32} {isOther : Int32} {at_ : Int32} {isFaulty : Int32} {orders : Int32} {hash : Int64} {v0 : Int32} {v1 : Int32} {v2 : Int32} {res : Int32 × (Nat → Int32)} (hf : f7_tellsPick taint knows v0 v1 v2 = some res) : MV l yX7_tellsPick wsX7_tellsPick rm7_tellsPick G [.ref mo, .int v0, .int v1, .int v2] [(mo, oB 7 [.ref mo_now, .ref mo_aside, .ref mo_past, .int states, .ref mo_refusals, .ref mo_text, .int length, .ref mo_vars, .ref mo_sights, .int many, .int steps, .int isCut, .ref mo_isThere, .ref mo_taints, .ref mo_known, .int taint, .ref mo_knows, .int isOther, .int at_, .int isFaulty, .int orders, .ref mo_letters, .ref mo_numbers, .long hash]), (mo_knows, aI G 6 knows)] [(mo, oB 7 [.ref mo_now, .ref mo_aside, .ref mo_past, .int states, .ref mo_refusals, .ref mo_text, .int length, .ref mo_vars, .ref mo_sights, .int many, .int steps, .int isCut, .ref mo_isThere, .ref mo_taints, .ref mo_known, .int res.1, .ref mo_knows, .int isOther, .int at_, .int isFaulty, .int orders, .ref mo_letters, .ref mo_numbers, .long hash]), (mo_knows, aI G 6 res.2)] := by
  refine MV_of (cc := cX7_tellsPick) (nL := 5) (lv := [(0, .ref mo), (1, .int v0), (2, .int v1), (3, .int v2)]) (by decide +kernel) rfl (Nat.le_of_ble_eq_true rfl) rfl ?_
  intro p e s m args below meth c A Q C hR
  unfold f7_tellsPick at hf
  refine g_aload_n C dX7_tellsPick_0 rfl 0 rfl ?_
  refine g_get (C0 := RX7) (T := TX7) (N := 24) (ci := 7) (v := .ref mo_knows) C hm7_tellsPick_0 0 rfl rfl 16 (by decide) hm7_tellsPick_1 rfl dX7_tellsPick_1 ?_
  refine g_iload_n C dX7_tellsPick_4 rfl 1 rfl ?_
  obtain ⟨h31, hf⟩ := ck_some hf
  refine g_iald (n := 6) (v := (knows v0.toNatClampNeg)) C 1 rfl h31 rfl rfl dX7_tellsPick_5 ?_
  refine g_iconst (v := (-1 : Int32)) C dX7_tellsPick_6 (by decide +kernel) ?_
  refine g_icmp_eq (tgt := 48) C dX7_tellsPick_7 (by decide) (fun c32 => ?_) (fun c32 => ?_)
  · replace hf := ite_t c32 hf
    refine g_aload_n C dX7_tellsPick_48 rfl 0 rfl ?_
    refine g_get (C0 := RX7) (T := TX7) (N := 24) (ci := 7) (v := .ref mo_knows) C hm7_tellsPick_0 0 rfl rfl 16 (by decide) hm7_tellsPick_1 rfl dX7_tellsPick_49 ?_
    refine g_iload_n C dX7_tellsPick_52 rfl 2 rfl ?_
    obtain ⟨h33, hf⟩ := ck_some hf
    refine g_iald (n := 6) (v := (knows v1.toNatClampNeg)) C 1 rfl h33 rfl rfl dX7_tellsPick_53 ?_
    refine g_iconst (v := (-1 : Int32)) C dX7_tellsPick_54 (by decide +kernel) ?_
    refine g_icmp_eq (tgt := 77) C dX7_tellsPick_55 (by decide) (fun c34 => ?_) (fun c34 => ?_)
    · replace hf := ite_t c34 hf
      exact k7_tellsPick_77 C hR hf
    · replace hf := ite_f c34 hf
      refine g_aload_n C dX7_tellsPick_58 rfl 0 rfl ?_
      refine g_get (C0 := RX7) (T := TX7) (N := 24) (ci := 7) (v := .ref mo_knows) C hm7_tellsPick_0 0 rfl rfl 16 (by decide) hm7_tellsPick_1 rfl dX7_tellsPick_59 ?_
      refine g_iload_n C dX7_tellsPick_62 rfl 2 rfl ?_
      obtain ⟨h35, hf⟩ := ck_some hf
      refine g_iald (n := 6) (v := (knows v1.toNatClampNeg)) C 1 rfl h35 rfl rfl dX7_tellsPick_63 ?_
      refine g_aload_n C dX7_tellsPick_64 rfl 0 rfl ?_
      refine g_get (C0 := RX7) (T := TX7) (N := 24) (ci := 7) (v := .ref mo_knows) C hm7_tellsPick_0 0 rfl rfl 16 (by decide) hm7_tellsPick_1 rfl dX7_tellsPick_65 ?_
      refine g_iload_n C dX7_tellsPick_68 rfl 3 rfl ?_
      obtain ⟨h36, hf⟩ := ck_some hf
      refine g_iald (n := 6) (v := (knows v2.toNatClampNeg)) C 1 rfl h36 rfl rfl dX7_tellsPick_69 ?_
      refine g_icmp_ne (tgt := 77) C dX7_tellsPick_70 (by decide) (fun c37 => ?_) (fun c37 => ?_)
      · replace hf := ite_f c37 hf
        exact k7_tellsPick_77 C hR hf
      · replace hf := ite_t c37 hf
        refine g_iconst (v := (1 : Int32)) C dX7_tellsPick_73 (by decide +kernel) ?_
        refine g_goto (tgt := 78) C dX7_tellsPick_74 (by decide) ?_
        exact k7_tellsPick_78 C hR hf
  · replace hf := ite_f c32 hf
    refine g_aload_n C dX7_tellsPick_10 rfl 0 rfl ?_
    refine g_get (C0 := RX7) (T := TX7) (N := 24) (ci := 7) (v := .ref mo_knows) C hm7_tellsPick_0 0 rfl rfl 16 (by decide) hm7_tellsPick_1 rfl dX7_tellsPick_11 ?_
    refine g_iload_n C dX7_tellsPick_14 rfl 1 rfl ?_
    obtain ⟨h38, hf⟩ := ck_some hf
    refine g_iald (n := 6) (v := (knows v0.toNatClampNeg)) C 1 rfl h38 rfl rfl dX7_tellsPick_15 ?_
    refine g_if_eq (tgt := 23) C dX7_tellsPick_16 (by decide) (fun c39 => ?_) (fun c39 => ?_)
    · replace hf := ite_t c39 hf
      refine g_iload_n C dX7_tellsPick_23 rfl 3 rfl ?_
      exact k7_tellsPick_24 C hR hf
    · replace hf := ite_f c39 hf
      refine g_iload_n C dX7_tellsPick_19 rfl 2 rfl ?_
      refine g_goto (tgt := 24) C dX7_tellsPick_20 (by decide) ?_
      exact k7_tellsPick_24 C hR hf

-- X7_tellsTwo
def f7_tellsTwo_80 (now : Nat → Int32) (taint : Int32) (knows : Nat → Int32) (x1 : Int32) (x2 : Int32) (x3 : Int32) (x4 : Int32) (x5 : Int32) : Option (Int32 × (Nat → Int32)) :=
  (f7_has taint x2).bind <| fun q1 =>
    if q1 = 0 then
    ((f7_has taint x3).bind <| fun q9 =>
    if q9 = 0 then
    (if x5 = 0 then
    ((f7_tells taint knows x2 (0 : Int32) (-1 : Int32)).bind <| fun q12 =>
    some (q12.1, q12.2))
    else (ck (inb x2 6) <|
    ck (inb x3 6) <|
    (f7_comesOut now x1 (knows x2.toNatClampNeg) (knows x3.toNatClampNeg)).bind <| fun q15 =>
    (f7_tells taint knows x2 (0 : Int32) q15).bind <| fun q16 =>
    some (q16.1, q16.2)))
    else (if x5 = 0 then
    ((f7_tells taint knows x2 (1 : Int32) (-1 : Int32)).bind <| fun q18 =>
    some (q18.1, q18.2))
    else (ck (inb x2 6) <|
    ck (inb x3 6) <|
    (f7_comesOut now x1 (knows x2.toNatClampNeg) (knows x3.toNatClampNeg)).bind <| fun q21 =>
    (f7_tells taint knows x2 (1 : Int32) q21).bind <| fun q22 =>
    some (q22.1, q22.2))))
    else (if x5 = 0 then
    ((f7_tells taint knows x2 (1 : Int32) (-1 : Int32)).bind <| fun q4 =>
    some (q4.1, q4.2))
    else (ck (inb x2 6) <|
    ck (inb x3 6) <|
    (f7_comesOut now x1 (knows x2.toNatClampNeg) (knows x3.toNatClampNeg)).bind <| fun q7 =>
    (f7_tells taint knows x2 (1 : Int32) q7).bind <| fun q8 =>
    some (q8.1, q8.2)))
def f7_tellsTwo_78 (now : Nat → Int32) (taint : Int32) (knows : Nat → Int32) (x1 : Int32) (x2 : Int32) (x3 : Int32) (x4 : Int32) (y0 : Int32) : Option (Int32 × (Nat → Int32)) :=
  f7_tellsTwo_80 now taint knows x1 x2 x3 x4 y0
def f7_tellsTwo_77 (now : Nat → Int32) (taint : Int32) (knows : Nat → Int32) (x1 : Int32) (x2 : Int32) (x3 : Int32) (x4 : Int32) : Option (Int32 × (Nat → Int32)) :=
  f7_tellsTwo_78 now taint knows x1 x2 x3 x4 (0 : Int32)
def f7_tellsTwo_40 (now : Nat → Int32) (taint : Int32) (knows : Nat → Int32) (x1 : Int32) (x2 : Int32) (x3 : Int32) (x4 : Int32) : Option (Int32 × (Nat → Int32)) :=
  if x4 = 0 then
    (ck (inb x2 6) <|
    if (knows x2.toNatClampNeg) = (-1 : Int32) then
    (f7_tellsTwo_77 now taint knows x1 x2 x3 x4)
    else (ck (inb x3 6) <|
    if (knows x3.toNatClampNeg) = (-1 : Int32) then
    (f7_tellsTwo_77 now taint knows x1 x2 x3 x4)
    else (f7_tellsTwo_78 now taint knows x1 x2 x3 x4 (1 : Int32))))
    else ((f7_tells taint knows x2 (0 : Int32) (0 : Int32)).bind <| fun q28 =>
    some (q28.1, q28.2))
def f7_tellsTwo_37 (now : Nat → Int32) (taint : Int32) (knows : Nat → Int32) (x1 : Int32) (x2 : Int32) (x3 : Int32) : Option (Int32 × (Nat → Int32)) :=
  f7_tellsTwo_40 now taint knows x1 x2 x3 (0 : Int32)
def f7_tellsTwo (now : Nat → Int32) (taint : Int32) (knows : Nat → Int32) (v0 : Int32) (v1 : Int32) (v2 : Int32) : Option (Int32 × (Nat → Int32)) :=
  if v0 = (4 : Int32) then
    (if v1 = v2 then
    (f7_tellsTwo_40 now taint knows v0 v1 v2 (1 : Int32))
    else (if v0 = (3 : Int32) then
    (ck (inb v1 6) <|
    if (knows v1.toNatClampNeg) = 0 then
    (f7_tellsTwo_40 now taint knows v0 v1 v2 (1 : Int32))
    else (ck (inb v2 6) <|
    if (knows v2.toNatClampNeg) = 0 then
    (f7_tellsTwo_40 now taint knows v0 v1 v2 (1 : Int32))
    else (f7_tellsTwo_37 now taint knows v0 v1 v2)))
    else (f7_tellsTwo_37 now taint knows v0 v1 v2)))
    else (if v0 = (3 : Int32) then
    (ck (inb v1 6) <|
    if (knows v1.toNatClampNeg) = 0 then
    (f7_tellsTwo_40 now taint knows v0 v1 v2 (1 : Int32))
    else (ck (inb v2 6) <|
    if (knows v2.toNatClampNeg) = 0 then
    (f7_tellsTwo_40 now taint knows v0 v1 v2 (1 : Int32))
    else (f7_tellsTwo_37 now taint knows v0 v1 v2)))
    else (f7_tellsTwo_37 now taint knows v0 v1 v2))
def rm7_tellsTwo : Room := { frames := 2, cells := 0, slots := 0, locals := 44 }
theorem hm7_tellsTwo_0 : ∀ w ∈ u_ws RX7 TX7 24, w ∈ wsX7_tellsTwo := by decide +kernel
theorem hm7_tellsTwo_1 : Cond.fieldLink RX7 173 "SecretStepsModel" "taint" "I" ∈ wsX7_tellsTwo := by decide +kernel
theorem hm7_tellsTwo_2 : Cond.fieldLink RX7 41 "SecretStepsModel" "knows" "[I" ∈ wsX7_tellsTwo := by decide +kernel
set_option maxHeartbeats 4000000 in
set_option maxRecDepth 100000 in
theorem k7_tellsTwo_80 {p : Program} {l : Launch} {e : Env} {s : State} {m : MethodId} {args : Array Value} {below : List Frame} {meth : Method} {c : Code} {G : gG} {A : Nat → Prop} {Q : State → Prop} {mo mo_now mo_aside mo_past mo_refusals mo_text mo_vars mo_sights mo_isThere mo_taints mo_known mo_knows mo_letters mo_numbers : Nat} (C : CX p s m args meth c G A cX7_tellsTwo 6 RX7 wsX7_tellsTwo) {states : Int32} {length : Int32} {many : Int32} {steps : Int32} {isCut : Int32} {isOther : Int32} {at_ : Int32} {isFaulty : Int32} {orders : Int32} {hash : Int64} {now : Nat → Int32} {taint : Int32} {knows : Nat → Int32} {x1 : Int32} {x2 : Int32} {x3 : Int32} {x4 : Int32} {x5 : Int32} {res : Int32 × (Nat → Int32)} (hR : ∀ (lv : List (Nat × Value)) (pc : Nat), decode cX7_tellsTwo pc = .ok (.return_, 1) → GG p l e rm7_tellsTwo s m args below meth c G A 6 0 0 Q [(mo, oB 7 [.ref mo_now, .ref mo_aside, .ref mo_past, .int states, .ref mo_refusals, .ref mo_text, .int length, .ref mo_vars, .ref mo_sights, .int many, .int steps, .int isCut, .ref mo_isThere, .ref mo_taints, .ref mo_known, .int res.1, .ref mo_knows, .int isOther, .int at_, .int isFaulty, .int orders, .ref mo_letters, .ref mo_numbers, .long hash]), (mo_now, aI G 104 now), (mo_knows, aI G 6 res.2)] lv pc [])
    (hf : f7_tellsTwo_80 now taint knows x1 x2 x3 x4 x5 = some res) : GG p l e rm7_tellsTwo s m args below meth c G A 6 0 0 Q [(mo, oB 7 [.ref mo_now, .ref mo_aside, .ref mo_past, .int states, .ref mo_refusals, .ref mo_text, .int length, .ref mo_vars, .ref mo_sights, .int many, .int steps, .int isCut, .ref mo_isThere, .ref mo_taints, .ref mo_known, .int taint, .ref mo_knows, .int isOther, .int at_, .int isFaulty, .int orders, .ref mo_letters, .ref mo_numbers, .long hash]), (mo_now, aI G 104 now), (mo_knows, aI G 6 knows)] [(0, .ref mo), (1, .int x1), (2, .int x2), (3, .int x3), (4, .int x4), (5, .int x5)] 80 [] := by
  unfold f7_tellsTwo_80 at hf
  refine g_aload_n C dX7_tellsTwo_80 rfl 0 rfl ?_
  refine g_iload_n C dX7_tellsTwo_81 rfl 2 rfl ?_
  refine g_aload_n C dX7_tellsTwo_82 rfl 0 rfl ?_
  refine g_get (C0 := RX7) (T := TX7) (N := 24) (ci := 7) (v := .int taint) C hm7_tellsTwo_0 0 rfl rfl 15 (by decide) hm7_tellsTwo_1 rfl dX7_tellsTwo_83 ?_
  refine g_iload_n C dX7_tellsTwo_86 rfl 2 rfl ?_
  obtain ⟨q1, hq1, hf⟩ := bs hf
  refine g_callSi (n := 2) (As := [.int taint, .int x2]) (rest := [.int x2, .ref mo]) (wc := []) (w1 := []) (wr := [(mo, oB 7 [.ref mo_now, .ref mo_aside, .ref mo_past, .int states, .ref mo_refusals, .ref mo_text, .int length, .ref mo_vars, .ref mo_sights, .int many, .int steps, .int isCut, .ref mo_isThere, .ref mo_taints, .ref mo_known, .int taint, .ref mo_knows, .int isOther, .int at_, .int isFaulty, .int orders, .ref mo_letters, .ref mo_numbers, .long hash]), (mo_now, aI G 104 now), (mo_knows, aI G 6 knows)]) (WS' := [(mo, oB 7 [.ref mo_now, .ref mo_aside, .ref mo_past, .int states, .ref mo_refusals, .ref mo_text, .int length, .ref mo_vars, .ref mo_sights, .int many, .int steps, .int isCut, .ref mo_isThere, .ref mo_taints, .ref mo_known, .int taint, .ref mo_knows, .int isOther, .int at_, .int isFaulty, .int orders, .ref mo_letters, .ref mo_numbers, .long hash]), (mo_now, aI G 104 now), (mo_knows, aI G 6 knows)]) C (c7_has hq1) gX7_tellsTwo_X7_has (by decide +kernel) rfl rfl rfl ⟨by decide, by decide⟩ rfl [] [0, 1, 2] [0, 1, 2] rfl (by decide) rfl (by decide) (by decide) rfl (by decide) (Nat.le_of_ble_eq_true rfl) ⟨Nat.zero_le _, Nat.zero_le _⟩ rfl dX7_tellsTwo_87 ?_
  refine g_if_ne (tgt := 104) C dX7_tellsTwo_90 (by decide) (fun c2 => ?_) (fun c2 => ?_)
  · replace hf := ite_f c2 hf
    refine g_iconst (v := (1 : Int32)) C dX7_tellsTwo_104 (by decide +kernel) ?_
    refine g_goto (tgt := 109) C dX7_tellsTwo_105 (by decide) ?_
    refine g_iload C dX7_tellsTwo_109 5 rfl ?_
    refine g_if_eq (tgt := 134) C dX7_tellsTwo_111 (by decide) (fun c3 => ?_) (fun c3 => ?_)
    · replace hf := ite_t c3 hf
      refine g_iconst (v := (-1 : Int32)) C dX7_tellsTwo_134 (by decide +kernel) ?_
      obtain ⟨q4, hq4, hf⟩ := bs hf
      refine g_callVv (n := 3) (As := [.int x2, .int (1 : Int32), .int (-1 : Int32)]) (rest := []) (wc := [(mo, oB 7 [.ref mo_now, .ref mo_aside, .ref mo_past, .int states, .ref mo_refusals, .ref mo_text, .int length, .ref mo_vars, .ref mo_sights, .int many, .int steps, .int isCut, .ref mo_isThere, .ref mo_taints, .ref mo_known, .int taint, .ref mo_knows, .int isOther, .int at_, .int isFaulty, .int orders, .ref mo_letters, .ref mo_numbers, .long hash]), (mo_knows, aI G 6 knows)]) (w1 := [(mo, oB 7 [.ref mo_now, .ref mo_aside, .ref mo_past, .int states, .ref mo_refusals, .ref mo_text, .int length, .ref mo_vars, .ref mo_sights, .int many, .int steps, .int isCut, .ref mo_isThere, .ref mo_taints, .ref mo_known, .int q4.1, .ref mo_knows, .int isOther, .int at_, .int isFaulty, .int orders, .ref mo_letters, .ref mo_numbers, .long hash]), (mo_knows, aI G 6 q4.2)]) (wr := [(mo_now, aI G 104 now)]) (WS' := [(mo, oB 7 [.ref mo_now, .ref mo_aside, .ref mo_past, .int states, .ref mo_refusals, .ref mo_text, .int length, .ref mo_vars, .ref mo_sights, .int many, .int steps, .int isCut, .ref mo_isThere, .ref mo_taints, .ref mo_known, .int q4.1, .ref mo_knows, .int isOther, .int at_, .int isFaulty, .int orders, .ref mo_letters, .ref mo_numbers, .long hash]), (mo_now, aI G 104 now), (mo_knows, aI G 6 q4.2)]) C (c7_tells hq4) gX7_tellsTwo_X7_tells (by decide +kernel) rfl rfl rfl rfl rfl rfl ⟨by decide, by decide⟩ rfl [0, 2] [1] [1, 0, 2] rfl (by decide) rfl (by decide) (by decide) rfl (by decide) (Nat.le_of_ble_eq_true rfl) ⟨Nat.zero_le _, Nat.zero_le _⟩ rfl dX7_tellsTwo_135 ?_
      obtain rfl := Option.some.inj hf
      exact hR _ _ dX7_tellsTwo_138
    · replace hf := ite_f c3 hf
      refine g_aload_n C dX7_tellsTwo_114 rfl 0 rfl ?_
      refine g_iload_n C dX7_tellsTwo_115 rfl 1 rfl ?_
      refine g_aload_n C dX7_tellsTwo_116 rfl 0 rfl ?_
      refine g_get (C0 := RX7) (T := TX7) (N := 24) (ci := 7) (v := .ref mo_knows) C hm7_tellsTwo_0 0 rfl rfl 16 (by decide) hm7_tellsTwo_2 rfl dX7_tellsTwo_117 ?_
      refine g_iload_n C dX7_tellsTwo_120 rfl 2 rfl ?_
      obtain ⟨h5, hf⟩ := ck_some hf
      refine g_iald (n := 6) (v := (knows x2.toNatClampNeg)) C 2 rfl h5 rfl rfl dX7_tellsTwo_121 ?_
      refine g_aload_n C dX7_tellsTwo_122 rfl 0 rfl ?_
      refine g_get (C0 := RX7) (T := TX7) (N := 24) (ci := 7) (v := .ref mo_knows) C hm7_tellsTwo_0 0 rfl rfl 16 (by decide) hm7_tellsTwo_2 rfl dX7_tellsTwo_123 ?_
      refine g_iload_n C dX7_tellsTwo_126 rfl 3 rfl ?_
      obtain ⟨h6, hf⟩ := ck_some hf
      refine g_iald (n := 6) (v := (knows x3.toNatClampNeg)) C 2 rfl h6 rfl rfl dX7_tellsTwo_127 ?_
      obtain ⟨q7, hq7, hf⟩ := bs hf
      refine g_callVi (n := 3) (As := [.int x1, .int (knows x2.toNatClampNeg), .int (knows x3.toNatClampNeg)]) (rest := [.int (1 : Int32), .int x2, .ref mo]) (wc := [(mo, oB 7 [.ref mo_now, .ref mo_aside, .ref mo_past, .int states, .ref mo_refusals, .ref mo_text, .int length, .ref mo_vars, .ref mo_sights, .int many, .int steps, .int isCut, .ref mo_isThere, .ref mo_taints, .ref mo_known, .int taint, .ref mo_knows, .int isOther, .int at_, .int isFaulty, .int orders, .ref mo_letters, .ref mo_numbers, .long hash]), (mo_now, aI G 104 now)]) (w1 := [(mo, oB 7 [.ref mo_now, .ref mo_aside, .ref mo_past, .int states, .ref mo_refusals, .ref mo_text, .int length, .ref mo_vars, .ref mo_sights, .int many, .int steps, .int isCut, .ref mo_isThere, .ref mo_taints, .ref mo_known, .int taint, .ref mo_knows, .int isOther, .int at_, .int isFaulty, .int orders, .ref mo_letters, .ref mo_numbers, .long hash]), (mo_now, aI G 104 now)]) (wr := [(mo_knows, aI G 6 knows)]) (WS' := [(mo, oB 7 [.ref mo_now, .ref mo_aside, .ref mo_past, .int states, .ref mo_refusals, .ref mo_text, .int length, .ref mo_vars, .ref mo_sights, .int many, .int steps, .int isCut, .ref mo_isThere, .ref mo_taints, .ref mo_known, .int taint, .ref mo_knows, .int isOther, .int at_, .int isFaulty, .int orders, .ref mo_letters, .ref mo_numbers, .long hash]), (mo_now, aI G 104 now), (mo_knows, aI G 6 knows)]) C (c7_comesOut hq7) gX7_tellsTwo_X7_comesOut (by decide +kernel) rfl rfl rfl rfl rfl rfl ⟨by decide, by decide⟩ rfl [0, 1] [2] [1, 2, 0] rfl (by decide) rfl (by decide) (by decide) rfl (by decide) (Nat.le_of_ble_eq_true rfl) ⟨Nat.zero_le _, Nat.zero_le _⟩ rfl dX7_tellsTwo_128 ?_
      refine g_goto (tgt := 135) C dX7_tellsTwo_131 (by decide) ?_
      obtain ⟨q8, hq8, hf⟩ := bs hf
      refine g_callVv (n := 3) (As := [.int x2, .int (1 : Int32), .int q7]) (rest := []) (wc := [(mo, oB 7 [.ref mo_now, .ref mo_aside, .ref mo_past, .int states, .ref mo_refusals, .ref mo_text, .int length, .ref mo_vars, .ref mo_sights, .int many, .int steps, .int isCut, .ref mo_isThere, .ref mo_taints, .ref mo_known, .int taint, .ref mo_knows, .int isOther, .int at_, .int isFaulty, .int orders, .ref mo_letters, .ref mo_numbers, .long hash]), (mo_knows, aI G 6 knows)]) (w1 := [(mo, oB 7 [.ref mo_now, .ref mo_aside, .ref mo_past, .int states, .ref mo_refusals, .ref mo_text, .int length, .ref mo_vars, .ref mo_sights, .int many, .int steps, .int isCut, .ref mo_isThere, .ref mo_taints, .ref mo_known, .int q8.1, .ref mo_knows, .int isOther, .int at_, .int isFaulty, .int orders, .ref mo_letters, .ref mo_numbers, .long hash]), (mo_knows, aI G 6 q8.2)]) (wr := [(mo_now, aI G 104 now)]) (WS' := [(mo, oB 7 [.ref mo_now, .ref mo_aside, .ref mo_past, .int states, .ref mo_refusals, .ref mo_text, .int length, .ref mo_vars, .ref mo_sights, .int many, .int steps, .int isCut, .ref mo_isThere, .ref mo_taints, .ref mo_known, .int q8.1, .ref mo_knows, .int isOther, .int at_, .int isFaulty, .int orders, .ref mo_letters, .ref mo_numbers, .long hash]), (mo_now, aI G 104 now), (mo_knows, aI G 6 q8.2)]) C (c7_tells hq8) gX7_tellsTwo_X7_tells (by decide +kernel) rfl rfl rfl rfl rfl rfl ⟨by decide, by decide⟩ rfl [0, 2] [1] [1, 0, 2] rfl (by decide) rfl (by decide) (by decide) rfl (by decide) (Nat.le_of_ble_eq_true rfl) ⟨Nat.zero_le _, Nat.zero_le _⟩ rfl dX7_tellsTwo_135 ?_
      obtain rfl := Option.some.inj hf
      exact hR _ _ dX7_tellsTwo_138
  · replace hf := ite_t c2 hf
    refine g_aload_n C dX7_tellsTwo_93 rfl 0 rfl ?_
    refine g_get (C0 := RX7) (T := TX7) (N := 24) (ci := 7) (v := .int taint) C hm7_tellsTwo_0 0 rfl rfl 15 (by decide) hm7_tellsTwo_1 rfl dX7_tellsTwo_94 ?_
    refine g_iload_n C dX7_tellsTwo_97 rfl 3 rfl ?_
    obtain ⟨q9, hq9, hf⟩ := bs hf
    refine g_callSi (n := 2) (As := [.int taint, .int x3]) (rest := [.int x2, .ref mo]) (wc := []) (w1 := []) (wr := [(mo, oB 7 [.ref mo_now, .ref mo_aside, .ref mo_past, .int states, .ref mo_refusals, .ref mo_text, .int length, .ref mo_vars, .ref mo_sights, .int many, .int steps, .int isCut, .ref mo_isThere, .ref mo_taints, .ref mo_known, .int taint, .ref mo_knows, .int isOther, .int at_, .int isFaulty, .int orders, .ref mo_letters, .ref mo_numbers, .long hash]), (mo_now, aI G 104 now), (mo_knows, aI G 6 knows)]) (WS' := [(mo, oB 7 [.ref mo_now, .ref mo_aside, .ref mo_past, .int states, .ref mo_refusals, .ref mo_text, .int length, .ref mo_vars, .ref mo_sights, .int many, .int steps, .int isCut, .ref mo_isThere, .ref mo_taints, .ref mo_known, .int taint, .ref mo_knows, .int isOther, .int at_, .int isFaulty, .int orders, .ref mo_letters, .ref mo_numbers, .long hash]), (mo_now, aI G 104 now), (mo_knows, aI G 6 knows)]) C (c7_has hq9) gX7_tellsTwo_X7_has (by decide +kernel) rfl rfl rfl ⟨by decide, by decide⟩ rfl [] [0, 1, 2] [0, 1, 2] rfl (by decide) rfl (by decide) (by decide) rfl (by decide) (Nat.le_of_ble_eq_true rfl) ⟨Nat.zero_le _, Nat.zero_le _⟩ rfl dX7_tellsTwo_98 ?_
    refine g_if_eq (tgt := 108) C dX7_tellsTwo_101 (by decide) (fun c10 => ?_) (fun c10 => ?_)
    · replace hf := ite_t c10 hf
      refine g_iconst (v := (0 : Int32)) C dX7_tellsTwo_108 (by decide +kernel) ?_
      refine g_iload C dX7_tellsTwo_109 5 rfl ?_
      refine g_if_eq (tgt := 134) C dX7_tellsTwo_111 (by decide) (fun c11 => ?_) (fun c11 => ?_)
      · replace hf := ite_t c11 hf
        refine g_iconst (v := (-1 : Int32)) C dX7_tellsTwo_134 (by decide +kernel) ?_
        obtain ⟨q12, hq12, hf⟩ := bs hf
        refine g_callVv (n := 3) (As := [.int x2, .int (0 : Int32), .int (-1 : Int32)]) (rest := []) (wc := [(mo, oB 7 [.ref mo_now, .ref mo_aside, .ref mo_past, .int states, .ref mo_refusals, .ref mo_text, .int length, .ref mo_vars, .ref mo_sights, .int many, .int steps, .int isCut, .ref mo_isThere, .ref mo_taints, .ref mo_known, .int taint, .ref mo_knows, .int isOther, .int at_, .int isFaulty, .int orders, .ref mo_letters, .ref mo_numbers, .long hash]), (mo_knows, aI G 6 knows)]) (w1 := [(mo, oB 7 [.ref mo_now, .ref mo_aside, .ref mo_past, .int states, .ref mo_refusals, .ref mo_text, .int length, .ref mo_vars, .ref mo_sights, .int many, .int steps, .int isCut, .ref mo_isThere, .ref mo_taints, .ref mo_known, .int q12.1, .ref mo_knows, .int isOther, .int at_, .int isFaulty, .int orders, .ref mo_letters, .ref mo_numbers, .long hash]), (mo_knows, aI G 6 q12.2)]) (wr := [(mo_now, aI G 104 now)]) (WS' := [(mo, oB 7 [.ref mo_now, .ref mo_aside, .ref mo_past, .int states, .ref mo_refusals, .ref mo_text, .int length, .ref mo_vars, .ref mo_sights, .int many, .int steps, .int isCut, .ref mo_isThere, .ref mo_taints, .ref mo_known, .int q12.1, .ref mo_knows, .int isOther, .int at_, .int isFaulty, .int orders, .ref mo_letters, .ref mo_numbers, .long hash]), (mo_now, aI G 104 now), (mo_knows, aI G 6 q12.2)]) C (c7_tells hq12) gX7_tellsTwo_X7_tells (by decide +kernel) rfl rfl rfl rfl rfl rfl ⟨by decide, by decide⟩ rfl [0, 2] [1] [1, 0, 2] rfl (by decide) rfl (by decide) (by decide) rfl (by decide) (Nat.le_of_ble_eq_true rfl) ⟨Nat.zero_le _, Nat.zero_le _⟩ rfl dX7_tellsTwo_135 ?_
        obtain rfl := Option.some.inj hf
        exact hR _ _ dX7_tellsTwo_138
      · replace hf := ite_f c11 hf
        refine g_aload_n C dX7_tellsTwo_114 rfl 0 rfl ?_
        refine g_iload_n C dX7_tellsTwo_115 rfl 1 rfl ?_
        refine g_aload_n C dX7_tellsTwo_116 rfl 0 rfl ?_
        refine g_get (C0 := RX7) (T := TX7) (N := 24) (ci := 7) (v := .ref mo_knows) C hm7_tellsTwo_0 0 rfl rfl 16 (by decide) hm7_tellsTwo_2 rfl dX7_tellsTwo_117 ?_
        refine g_iload_n C dX7_tellsTwo_120 rfl 2 rfl ?_
        obtain ⟨h13, hf⟩ := ck_some hf
        refine g_iald (n := 6) (v := (knows x2.toNatClampNeg)) C 2 rfl h13 rfl rfl dX7_tellsTwo_121 ?_
        refine g_aload_n C dX7_tellsTwo_122 rfl 0 rfl ?_
        refine g_get (C0 := RX7) (T := TX7) (N := 24) (ci := 7) (v := .ref mo_knows) C hm7_tellsTwo_0 0 rfl rfl 16 (by decide) hm7_tellsTwo_2 rfl dX7_tellsTwo_123 ?_
        refine g_iload_n C dX7_tellsTwo_126 rfl 3 rfl ?_
        obtain ⟨h14, hf⟩ := ck_some hf
        refine g_iald (n := 6) (v := (knows x3.toNatClampNeg)) C 2 rfl h14 rfl rfl dX7_tellsTwo_127 ?_
        obtain ⟨q15, hq15, hf⟩ := bs hf
        refine g_callVi (n := 3) (As := [.int x1, .int (knows x2.toNatClampNeg), .int (knows x3.toNatClampNeg)]) (rest := [.int (0 : Int32), .int x2, .ref mo]) (wc := [(mo, oB 7 [.ref mo_now, .ref mo_aside, .ref mo_past, .int states, .ref mo_refusals, .ref mo_text, .int length, .ref mo_vars, .ref mo_sights, .int many, .int steps, .int isCut, .ref mo_isThere, .ref mo_taints, .ref mo_known, .int taint, .ref mo_knows, .int isOther, .int at_, .int isFaulty, .int orders, .ref mo_letters, .ref mo_numbers, .long hash]), (mo_now, aI G 104 now)]) (w1 := [(mo, oB 7 [.ref mo_now, .ref mo_aside, .ref mo_past, .int states, .ref mo_refusals, .ref mo_text, .int length, .ref mo_vars, .ref mo_sights, .int many, .int steps, .int isCut, .ref mo_isThere, .ref mo_taints, .ref mo_known, .int taint, .ref mo_knows, .int isOther, .int at_, .int isFaulty, .int orders, .ref mo_letters, .ref mo_numbers, .long hash]), (mo_now, aI G 104 now)]) (wr := [(mo_knows, aI G 6 knows)]) (WS' := [(mo, oB 7 [.ref mo_now, .ref mo_aside, .ref mo_past, .int states, .ref mo_refusals, .ref mo_text, .int length, .ref mo_vars, .ref mo_sights, .int many, .int steps, .int isCut, .ref mo_isThere, .ref mo_taints, .ref mo_known, .int taint, .ref mo_knows, .int isOther, .int at_, .int isFaulty, .int orders, .ref mo_letters, .ref mo_numbers, .long hash]), (mo_now, aI G 104 now), (mo_knows, aI G 6 knows)]) C (c7_comesOut hq15) gX7_tellsTwo_X7_comesOut (by decide +kernel) rfl rfl rfl rfl rfl rfl ⟨by decide, by decide⟩ rfl [0, 1] [2] [1, 2, 0] rfl (by decide) rfl (by decide) (by decide) rfl (by decide) (Nat.le_of_ble_eq_true rfl) ⟨Nat.zero_le _, Nat.zero_le _⟩ rfl dX7_tellsTwo_128 ?_
        refine g_goto (tgt := 135) C dX7_tellsTwo_131 (by decide) ?_
        obtain ⟨q16, hq16, hf⟩ := bs hf
        refine g_callVv (n := 3) (As := [.int x2, .int (0 : Int32), .int q15]) (rest := []) (wc := [(mo, oB 7 [.ref mo_now, .ref mo_aside, .ref mo_past, .int states, .ref mo_refusals, .ref mo_text, .int length, .ref mo_vars, .ref mo_sights, .int many, .int steps, .int isCut, .ref mo_isThere, .ref mo_taints, .ref mo_known, .int taint, .ref mo_knows, .int isOther, .int at_, .int isFaulty, .int orders, .ref mo_letters, .ref mo_numbers, .long hash]), (mo_knows, aI G 6 knows)]) (w1 := [(mo, oB 7 [.ref mo_now, .ref mo_aside, .ref mo_past, .int states, .ref mo_refusals, .ref mo_text, .int length, .ref mo_vars, .ref mo_sights, .int many, .int steps, .int isCut, .ref mo_isThere, .ref mo_taints, .ref mo_known, .int q16.1, .ref mo_knows, .int isOther, .int at_, .int isFaulty, .int orders, .ref mo_letters, .ref mo_numbers, .long hash]), (mo_knows, aI G 6 q16.2)]) (wr := [(mo_now, aI G 104 now)]) (WS' := [(mo, oB 7 [.ref mo_now, .ref mo_aside, .ref mo_past, .int states, .ref mo_refusals, .ref mo_text, .int length, .ref mo_vars, .ref mo_sights, .int many, .int steps, .int isCut, .ref mo_isThere, .ref mo_taints, .ref mo_known, .int q16.1, .ref mo_knows, .int isOther, .int at_, .int isFaulty, .int orders, .ref mo_letters, .ref mo_numbers, .long hash]), (mo_now, aI G 104 now), (mo_knows, aI G 6 q16.2)]) C (c7_tells hq16) gX7_tellsTwo_X7_tells (by decide +kernel) rfl rfl rfl rfl rfl rfl ⟨by decide, by decide⟩ rfl [0, 2] [1] [1, 0, 2] rfl (by decide) rfl (by decide) (by decide) rfl (by decide) (Nat.le_of_ble_eq_true rfl) ⟨Nat.zero_le _, Nat.zero_le _⟩ rfl dX7_tellsTwo_135 ?_
        obtain rfl := Option.some.inj hf
        exact hR _ _ dX7_tellsTwo_138
    · replace hf := ite_f c10 hf
      refine g_iconst (v := (1 : Int32)) C dX7_tellsTwo_104 (by decide +kernel) ?_
      refine g_goto (tgt := 109) C dX7_tellsTwo_105 (by decide) ?_
      refine g_iload C dX7_tellsTwo_109 5 rfl ?_
      refine g_if_eq (tgt := 134) C dX7_tellsTwo_111 (by decide) (fun c17 => ?_) (fun c17 => ?_)
      · replace hf := ite_t c17 hf
        refine g_iconst (v := (-1 : Int32)) C dX7_tellsTwo_134 (by decide +kernel) ?_
        obtain ⟨q18, hq18, hf⟩ := bs hf
        refine g_callVv (n := 3) (As := [.int x2, .int (1 : Int32), .int (-1 : Int32)]) (rest := []) (wc := [(mo, oB 7 [.ref mo_now, .ref mo_aside, .ref mo_past, .int states, .ref mo_refusals, .ref mo_text, .int length, .ref mo_vars, .ref mo_sights, .int many, .int steps, .int isCut, .ref mo_isThere, .ref mo_taints, .ref mo_known, .int taint, .ref mo_knows, .int isOther, .int at_, .int isFaulty, .int orders, .ref mo_letters, .ref mo_numbers, .long hash]), (mo_knows, aI G 6 knows)]) (w1 := [(mo, oB 7 [.ref mo_now, .ref mo_aside, .ref mo_past, .int states, .ref mo_refusals, .ref mo_text, .int length, .ref mo_vars, .ref mo_sights, .int many, .int steps, .int isCut, .ref mo_isThere, .ref mo_taints, .ref mo_known, .int q18.1, .ref mo_knows, .int isOther, .int at_, .int isFaulty, .int orders, .ref mo_letters, .ref mo_numbers, .long hash]), (mo_knows, aI G 6 q18.2)]) (wr := [(mo_now, aI G 104 now)]) (WS' := [(mo, oB 7 [.ref mo_now, .ref mo_aside, .ref mo_past, .int states, .ref mo_refusals, .ref mo_text, .int length, .ref mo_vars, .ref mo_sights, .int many, .int steps, .int isCut, .ref mo_isThere, .ref mo_taints, .ref mo_known, .int q18.1, .ref mo_knows, .int isOther, .int at_, .int isFaulty, .int orders, .ref mo_letters, .ref mo_numbers, .long hash]), (mo_now, aI G 104 now), (mo_knows, aI G 6 q18.2)]) C (c7_tells hq18) gX7_tellsTwo_X7_tells (by decide +kernel) rfl rfl rfl rfl rfl rfl ⟨by decide, by decide⟩ rfl [0, 2] [1] [1, 0, 2] rfl (by decide) rfl (by decide) (by decide) rfl (by decide) (Nat.le_of_ble_eq_true rfl) ⟨Nat.zero_le _, Nat.zero_le _⟩ rfl dX7_tellsTwo_135 ?_
        obtain rfl := Option.some.inj hf
        exact hR _ _ dX7_tellsTwo_138
      · replace hf := ite_f c17 hf
        refine g_aload_n C dX7_tellsTwo_114 rfl 0 rfl ?_
        refine g_iload_n C dX7_tellsTwo_115 rfl 1 rfl ?_
        refine g_aload_n C dX7_tellsTwo_116 rfl 0 rfl ?_
        refine g_get (C0 := RX7) (T := TX7) (N := 24) (ci := 7) (v := .ref mo_knows) C hm7_tellsTwo_0 0 rfl rfl 16 (by decide) hm7_tellsTwo_2 rfl dX7_tellsTwo_117 ?_
        refine g_iload_n C dX7_tellsTwo_120 rfl 2 rfl ?_
        obtain ⟨h19, hf⟩ := ck_some hf
        refine g_iald (n := 6) (v := (knows x2.toNatClampNeg)) C 2 rfl h19 rfl rfl dX7_tellsTwo_121 ?_
        refine g_aload_n C dX7_tellsTwo_122 rfl 0 rfl ?_
        refine g_get (C0 := RX7) (T := TX7) (N := 24) (ci := 7) (v := .ref mo_knows) C hm7_tellsTwo_0 0 rfl rfl 16 (by decide) hm7_tellsTwo_2 rfl dX7_tellsTwo_123 ?_
        refine g_iload_n C dX7_tellsTwo_126 rfl 3 rfl ?_
        obtain ⟨h20, hf⟩ := ck_some hf
        refine g_iald (n := 6) (v := (knows x3.toNatClampNeg)) C 2 rfl h20 rfl rfl dX7_tellsTwo_127 ?_
        obtain ⟨q21, hq21, hf⟩ := bs hf
        refine g_callVi (n := 3) (As := [.int x1, .int (knows x2.toNatClampNeg), .int (knows x3.toNatClampNeg)]) (rest := [.int (1 : Int32), .int x2, .ref mo]) (wc := [(mo, oB 7 [.ref mo_now, .ref mo_aside, .ref mo_past, .int states, .ref mo_refusals, .ref mo_text, .int length, .ref mo_vars, .ref mo_sights, .int many, .int steps, .int isCut, .ref mo_isThere, .ref mo_taints, .ref mo_known, .int taint, .ref mo_knows, .int isOther, .int at_, .int isFaulty, .int orders, .ref mo_letters, .ref mo_numbers, .long hash]), (mo_now, aI G 104 now)]) (w1 := [(mo, oB 7 [.ref mo_now, .ref mo_aside, .ref mo_past, .int states, .ref mo_refusals, .ref mo_text, .int length, .ref mo_vars, .ref mo_sights, .int many, .int steps, .int isCut, .ref mo_isThere, .ref mo_taints, .ref mo_known, .int taint, .ref mo_knows, .int isOther, .int at_, .int isFaulty, .int orders, .ref mo_letters, .ref mo_numbers, .long hash]), (mo_now, aI G 104 now)]) (wr := [(mo_knows, aI G 6 knows)]) (WS' := [(mo, oB 7 [.ref mo_now, .ref mo_aside, .ref mo_past, .int states, .ref mo_refusals, .ref mo_text, .int length, .ref mo_vars, .ref mo_sights, .int many, .int steps, .int isCut, .ref mo_isThere, .ref mo_taints, .ref mo_known, .int taint, .ref mo_knows, .int isOther, .int at_, .int isFaulty, .int orders, .ref mo_letters, .ref mo_numbers, .long hash]), (mo_now, aI G 104 now), (mo_knows, aI G 6 knows)]) C (c7_comesOut hq21) gX7_tellsTwo_X7_comesOut (by decide +kernel) rfl rfl rfl rfl rfl rfl ⟨by decide, by decide⟩ rfl [0, 1] [2] [1, 2, 0] rfl (by decide) rfl (by decide) (by decide) rfl (by decide) (Nat.le_of_ble_eq_true rfl) ⟨Nat.zero_le _, Nat.zero_le _⟩ rfl dX7_tellsTwo_128 ?_
        refine g_goto (tgt := 135) C dX7_tellsTwo_131 (by decide) ?_
        obtain ⟨q22, hq22, hf⟩ := bs hf
        refine g_callVv (n := 3) (As := [.int x2, .int (1 : Int32), .int q21]) (rest := []) (wc := [(mo, oB 7 [.ref mo_now, .ref mo_aside, .ref mo_past, .int states, .ref mo_refusals, .ref mo_text, .int length, .ref mo_vars, .ref mo_sights, .int many, .int steps, .int isCut, .ref mo_isThere, .ref mo_taints, .ref mo_known, .int taint, .ref mo_knows, .int isOther, .int at_, .int isFaulty, .int orders, .ref mo_letters, .ref mo_numbers, .long hash]), (mo_knows, aI G 6 knows)]) (w1 := [(mo, oB 7 [.ref mo_now, .ref mo_aside, .ref mo_past, .int states, .ref mo_refusals, .ref mo_text, .int length, .ref mo_vars, .ref mo_sights, .int many, .int steps, .int isCut, .ref mo_isThere, .ref mo_taints, .ref mo_known, .int q22.1, .ref mo_knows, .int isOther, .int at_, .int isFaulty, .int orders, .ref mo_letters, .ref mo_numbers, .long hash]), (mo_knows, aI G 6 q22.2)]) (wr := [(mo_now, aI G 104 now)]) (WS' := [(mo, oB 7 [.ref mo_now, .ref mo_aside, .ref mo_past, .int states, .ref mo_refusals, .ref mo_text, .int length, .ref mo_vars, .ref mo_sights, .int many, .int steps, .int isCut, .ref mo_isThere, .ref mo_taints, .ref mo_known, .int q22.1, .ref mo_knows, .int isOther, .int at_, .int isFaulty, .int orders, .ref mo_letters, .ref mo_numbers, .long hash]), (mo_now, aI G 104 now), (mo_knows, aI G 6 q22.2)]) C (c7_tells hq22) gX7_tellsTwo_X7_tells (by decide +kernel) rfl rfl rfl rfl rfl rfl ⟨by decide, by decide⟩ rfl [0, 2] [1] [1, 0, 2] rfl (by decide) rfl (by decide) (by decide) rfl (by decide) (Nat.le_of_ble_eq_true rfl) ⟨Nat.zero_le _, Nat.zero_le _⟩ rfl dX7_tellsTwo_135 ?_
        obtain rfl := Option.some.inj hf
        exact hR _ _ dX7_tellsTwo_138
set_option maxHeartbeats 4000000 in
set_option maxRecDepth 100000 in
theorem k7_tellsTwo_78 {p : Program} {l : Launch} {e : Env} {s : State} {m : MethodId} {args : Array Value} {below : List Frame} {meth : Method} {c : Code} {G : gG} {A : Nat → Prop} {Q : State → Prop} {mo mo_now mo_aside mo_past mo_refusals mo_text mo_vars mo_sights mo_isThere mo_taints mo_known mo_knows mo_letters mo_numbers : Nat} (C : CX p s m args meth c G A cX7_tellsTwo 6 RX7 wsX7_tellsTwo) {states : Int32} {length : Int32} {many : Int32} {steps : Int32} {isCut : Int32} {isOther : Int32} {at_ : Int32} {isFaulty : Int32} {orders : Int32} {hash : Int64} {now : Nat → Int32} {taint : Int32} {knows : Nat → Int32} {x1 : Int32} {x2 : Int32} {x3 : Int32} {x4 : Int32} {y0 : Int32} {res : Int32 × (Nat → Int32)} (hR : ∀ (lv : List (Nat × Value)) (pc : Nat), decode cX7_tellsTwo pc = .ok (.return_, 1) → GG p l e rm7_tellsTwo s m args below meth c G A 6 0 0 Q [(mo, oB 7 [.ref mo_now, .ref mo_aside, .ref mo_past, .int states, .ref mo_refusals, .ref mo_text, .int length, .ref mo_vars, .ref mo_sights, .int many, .int steps, .int isCut, .ref mo_isThere, .ref mo_taints, .ref mo_known, .int res.1, .ref mo_knows, .int isOther, .int at_, .int isFaulty, .int orders, .ref mo_letters, .ref mo_numbers, .long hash]), (mo_now, aI G 104 now), (mo_knows, aI G 6 res.2)] lv pc [])
    (hf : f7_tellsTwo_78 now taint knows x1 x2 x3 x4 y0 = some res) : GG p l e rm7_tellsTwo s m args below meth c G A 6 0 0 Q [(mo, oB 7 [.ref mo_now, .ref mo_aside, .ref mo_past, .int states, .ref mo_refusals, .ref mo_text, .int length, .ref mo_vars, .ref mo_sights, .int many, .int steps, .int isCut, .ref mo_isThere, .ref mo_taints, .ref mo_known, .int taint, .ref mo_knows, .int isOther, .int at_, .int isFaulty, .int orders, .ref mo_letters, .ref mo_numbers, .long hash]), (mo_now, aI G 104 now), (mo_knows, aI G 6 knows)] [(0, .ref mo), (1, .int x1), (2, .int x2), (3, .int x3), (4, .int x4)] 78 [.int y0] := by
  unfold f7_tellsTwo_78 at hf
  refine g_istore (lv' := [(0, .ref mo), (1, .int x1), (2, .int x2), (3, .int x3), (4, .int x4), (5, .int y0)]) C dX7_tellsTwo_78 (by decide) [1, 2, 3, 4, 5, 0] rfl ?_
  exact k7_tellsTwo_80 C hR hf
set_option maxHeartbeats 4000000 in
set_option maxRecDepth 100000 in
theorem k7_tellsTwo_77 {p : Program} {l : Launch} {e : Env} {s : State} {m : MethodId} {args : Array Value} {below : List Frame} {meth : Method} {c : Code} {G : gG} {A : Nat → Prop} {Q : State → Prop} {mo mo_now mo_aside mo_past mo_refusals mo_text mo_vars mo_sights mo_isThere mo_taints mo_known mo_knows mo_letters mo_numbers : Nat} (C : CX p s m args meth c G A cX7_tellsTwo 6 RX7 wsX7_tellsTwo) {states : Int32} {length : Int32} {many : Int32} {steps : Int32} {isCut : Int32} {isOther : Int32} {at_ : Int32} {isFaulty : Int32} {orders : Int32} {hash : Int64} {now : Nat → Int32} {taint : Int32} {knows : Nat → Int32} {x1 : Int32} {x2 : Int32} {x3 : Int32} {x4 : Int32} {res : Int32 × (Nat → Int32)} (hR : ∀ (lv : List (Nat × Value)) (pc : Nat), decode cX7_tellsTwo pc = .ok (.return_, 1) → GG p l e rm7_tellsTwo s m args below meth c G A 6 0 0 Q [(mo, oB 7 [.ref mo_now, .ref mo_aside, .ref mo_past, .int states, .ref mo_refusals, .ref mo_text, .int length, .ref mo_vars, .ref mo_sights, .int many, .int steps, .int isCut, .ref mo_isThere, .ref mo_taints, .ref mo_known, .int res.1, .ref mo_knows, .int isOther, .int at_, .int isFaulty, .int orders, .ref mo_letters, .ref mo_numbers, .long hash]), (mo_now, aI G 104 now), (mo_knows, aI G 6 res.2)] lv pc [])
    (hf : f7_tellsTwo_77 now taint knows x1 x2 x3 x4 = some res) : GG p l e rm7_tellsTwo s m args below meth c G A 6 0 0 Q [(mo, oB 7 [.ref mo_now, .ref mo_aside, .ref mo_past, .int states, .ref mo_refusals, .ref mo_text, .int length, .ref mo_vars, .ref mo_sights, .int many, .int steps, .int isCut, .ref mo_isThere, .ref mo_taints, .ref mo_known, .int taint, .ref mo_knows, .int isOther, .int at_, .int isFaulty, .int orders, .ref mo_letters, .ref mo_numbers, .long hash]), (mo_now, aI G 104 now), (mo_knows, aI G 6 knows)] [(0, .ref mo), (1, .int x1), (2, .int x2), (3, .int x3), (4, .int x4)] 77 [] := by
  unfold f7_tellsTwo_77 at hf
  refine g_iconst (v := (0 : Int32)) C dX7_tellsTwo_77 (by decide +kernel) ?_
  exact k7_tellsTwo_78 C hR hf
set_option maxHeartbeats 4000000 in
set_option maxRecDepth 100000 in
theorem k7_tellsTwo_40 {p : Program} {l : Launch} {e : Env} {s : State} {m : MethodId} {args : Array Value} {below : List Frame} {meth : Method} {c : Code} {G : gG} {A : Nat → Prop} {Q : State → Prop} {mo mo_now mo_aside mo_past mo_refusals mo_text mo_vars mo_sights mo_isThere mo_taints mo_known mo_knows mo_letters mo_numbers : Nat} (C : CX p s m args meth c G A cX7_tellsTwo 6 RX7 wsX7_tellsTwo) {states : Int32} {length : Int32} {many : Int32} {steps : Int32} {isCut : Int32} {isOther : Int32} {at_ : Int32} {isFaulty : Int32} {orders : Int32} {hash : Int64} {now : Nat → Int32} {taint : Int32} {knows : Nat → Int32} {x1 : Int32} {x2 : Int32} {x3 : Int32} {x4 : Int32} {res : Int32 × (Nat → Int32)} (hR : ∀ (lv : List (Nat × Value)) (pc : Nat), decode cX7_tellsTwo pc = .ok (.return_, 1) → GG p l e rm7_tellsTwo s m args below meth c G A 6 0 0 Q [(mo, oB 7 [.ref mo_now, .ref mo_aside, .ref mo_past, .int states, .ref mo_refusals, .ref mo_text, .int length, .ref mo_vars, .ref mo_sights, .int many, .int steps, .int isCut, .ref mo_isThere, .ref mo_taints, .ref mo_known, .int res.1, .ref mo_knows, .int isOther, .int at_, .int isFaulty, .int orders, .ref mo_letters, .ref mo_numbers, .long hash]), (mo_now, aI G 104 now), (mo_knows, aI G 6 res.2)] lv pc [])
    (hf : f7_tellsTwo_40 now taint knows x1 x2 x3 x4 = some res) : GG p l e rm7_tellsTwo s m args below meth c G A 6 0 0 Q [(mo, oB 7 [.ref mo_now, .ref mo_aside, .ref mo_past, .int states, .ref mo_refusals, .ref mo_text, .int length, .ref mo_vars, .ref mo_sights, .int many, .int steps, .int isCut, .ref mo_isThere, .ref mo_taints, .ref mo_known, .int taint, .ref mo_knows, .int isOther, .int at_, .int isFaulty, .int orders, .ref mo_letters, .ref mo_numbers, .long hash]), (mo_now, aI G 104 now), (mo_knows, aI G 6 knows)] [(0, .ref mo), (1, .int x1), (2, .int x2), (3, .int x3), (4, .int x4)] 40 [] := by
  unfold f7_tellsTwo_40 at hf
  refine g_iload C dX7_tellsTwo_40 4 rfl ?_
  refine g_if_eq (tgt := 53) C dX7_tellsTwo_42 (by decide) (fun c23 => ?_) (fun c23 => ?_)
  · replace hf := ite_t c23 hf
    refine g_aload_n C dX7_tellsTwo_53 rfl 0 rfl ?_
    refine g_get (C0 := RX7) (T := TX7) (N := 24) (ci := 7) (v := .ref mo_knows) C hm7_tellsTwo_0 0 rfl rfl 16 (by decide) hm7_tellsTwo_2 rfl dX7_tellsTwo_54 ?_
    refine g_iload_n C dX7_tellsTwo_57 rfl 2 rfl ?_
    obtain ⟨h24, hf⟩ := ck_some hf
    refine g_iald (n := 6) (v := (knows x2.toNatClampNeg)) C 2 rfl h24 rfl rfl dX7_tellsTwo_58 ?_
    refine g_iconst (v := (-1 : Int32)) C dX7_tellsTwo_59 (by decide +kernel) ?_
    refine g_icmp_eq (tgt := 77) C dX7_tellsTwo_60 (by decide) (fun c25 => ?_) (fun c25 => ?_)
    · replace hf := ite_t c25 hf
      exact k7_tellsTwo_77 C hR hf
    · replace hf := ite_f c25 hf
      refine g_aload_n C dX7_tellsTwo_63 rfl 0 rfl ?_
      refine g_get (C0 := RX7) (T := TX7) (N := 24) (ci := 7) (v := .ref mo_knows) C hm7_tellsTwo_0 0 rfl rfl 16 (by decide) hm7_tellsTwo_2 rfl dX7_tellsTwo_64 ?_
      refine g_iload_n C dX7_tellsTwo_67 rfl 3 rfl ?_
      obtain ⟨h26, hf⟩ := ck_some hf
      refine g_iald (n := 6) (v := (knows x3.toNatClampNeg)) C 2 rfl h26 rfl rfl dX7_tellsTwo_68 ?_
      refine g_iconst (v := (-1 : Int32)) C dX7_tellsTwo_69 (by decide +kernel) ?_
      refine g_icmp_eq (tgt := 77) C dX7_tellsTwo_70 (by decide) (fun c27 => ?_) (fun c27 => ?_)
      · replace hf := ite_t c27 hf
        exact k7_tellsTwo_77 C hR hf
      · replace hf := ite_f c27 hf
        refine g_iconst (v := (1 : Int32)) C dX7_tellsTwo_73 (by decide +kernel) ?_
        refine g_goto (tgt := 78) C dX7_tellsTwo_74 (by decide) ?_
        exact k7_tellsTwo_78 C hR hf
  · replace hf := ite_f c23 hf
    refine g_aload_n C dX7_tellsTwo_45 rfl 0 rfl ?_
    refine g_iload_n C dX7_tellsTwo_46 rfl 2 rfl ?_
    refine g_iconst (v := (0 : Int32)) C dX7_tellsTwo_47 (by decide +kernel) ?_
    refine g_iconst (v := (0 : Int32)) C dX7_tellsTwo_48 (by decide +kernel) ?_
    obtain ⟨q28, hq28, hf⟩ := bs hf
    refine g_callVv (n := 3) (As := [.int x2, .int (0 : Int32), .int (0 : Int32)]) (rest := []) (wc := [(mo, oB 7 [.ref mo_now, .ref mo_aside, .ref mo_past, .int states, .ref mo_refusals, .ref mo_text, .int length, .ref mo_vars, .ref mo_sights, .int many, .int steps, .int isCut, .ref mo_isThere, .ref mo_taints, .ref mo_known, .int taint, .ref mo_knows, .int isOther, .int at_, .int isFaulty, .int orders, .ref mo_letters, .ref mo_numbers, .long hash]), (mo_knows, aI G 6 knows)]) (w1 := [(mo, oB 7 [.ref mo_now, .ref mo_aside, .ref mo_past, .int states, .ref mo_refusals, .ref mo_text, .int length, .ref mo_vars, .ref mo_sights, .int many, .int steps, .int isCut, .ref mo_isThere, .ref mo_taints, .ref mo_known, .int q28.1, .ref mo_knows, .int isOther, .int at_, .int isFaulty, .int orders, .ref mo_letters, .ref mo_numbers, .long hash]), (mo_knows, aI G 6 q28.2)]) (wr := [(mo_now, aI G 104 now)]) (WS' := [(mo, oB 7 [.ref mo_now, .ref mo_aside, .ref mo_past, .int states, .ref mo_refusals, .ref mo_text, .int length, .ref mo_vars, .ref mo_sights, .int many, .int steps, .int isCut, .ref mo_isThere, .ref mo_taints, .ref mo_known, .int q28.1, .ref mo_knows, .int isOther, .int at_, .int isFaulty, .int orders, .ref mo_letters, .ref mo_numbers, .long hash]), (mo_now, aI G 104 now), (mo_knows, aI G 6 q28.2)]) C (c7_tells hq28) gX7_tellsTwo_X7_tells (by decide +kernel) rfl rfl rfl rfl rfl rfl ⟨by decide, by decide⟩ rfl [0, 2] [1] [1, 0, 2] rfl (by decide) rfl (by decide) (by decide) rfl (by decide) (Nat.le_of_ble_eq_true rfl) ⟨Nat.zero_le _, Nat.zero_le _⟩ rfl dX7_tellsTwo_49 ?_
    obtain rfl := Option.some.inj hf
    exact hR _ _ dX7_tellsTwo_52
set_option maxHeartbeats 4000000 in
set_option maxRecDepth 100000 in
theorem k7_tellsTwo_37 {p : Program} {l : Launch} {e : Env} {s : State} {m : MethodId} {args : Array Value} {below : List Frame} {meth : Method} {c : Code} {G : gG} {A : Nat → Prop} {Q : State → Prop} {mo mo_now mo_aside mo_past mo_refusals mo_text mo_vars mo_sights mo_isThere mo_taints mo_known mo_knows mo_letters mo_numbers : Nat} (C : CX p s m args meth c G A cX7_tellsTwo 6 RX7 wsX7_tellsTwo) {states : Int32} {length : Int32} {many : Int32} {steps : Int32} {isCut : Int32} {isOther : Int32} {at_ : Int32} {isFaulty : Int32} {orders : Int32} {hash : Int64} {now : Nat → Int32} {taint : Int32} {knows : Nat → Int32} {x1 : Int32} {x2 : Int32} {x3 : Int32} {res : Int32 × (Nat → Int32)} (hR : ∀ (lv : List (Nat × Value)) (pc : Nat), decode cX7_tellsTwo pc = .ok (.return_, 1) → GG p l e rm7_tellsTwo s m args below meth c G A 6 0 0 Q [(mo, oB 7 [.ref mo_now, .ref mo_aside, .ref mo_past, .int states, .ref mo_refusals, .ref mo_text, .int length, .ref mo_vars, .ref mo_sights, .int many, .int steps, .int isCut, .ref mo_isThere, .ref mo_taints, .ref mo_known, .int res.1, .ref mo_knows, .int isOther, .int at_, .int isFaulty, .int orders, .ref mo_letters, .ref mo_numbers, .long hash]), (mo_now, aI G 104 now), (mo_knows, aI G 6 res.2)] lv pc [])
    (hf : f7_tellsTwo_37 now taint knows x1 x2 x3 = some res) : GG p l e rm7_tellsTwo s m args below meth c G A 6 0 0 Q [(mo, oB 7 [.ref mo_now, .ref mo_aside, .ref mo_past, .int states, .ref mo_refusals, .ref mo_text, .int length, .ref mo_vars, .ref mo_sights, .int many, .int steps, .int isCut, .ref mo_isThere, .ref mo_taints, .ref mo_known, .int taint, .ref mo_knows, .int isOther, .int at_, .int isFaulty, .int orders, .ref mo_letters, .ref mo_numbers, .long hash]), (mo_now, aI G 104 now), (mo_knows, aI G 6 knows)] [(0, .ref mo), (1, .int x1), (2, .int x2), (3, .int x3)] 37 [] := by
  unfold f7_tellsTwo_37 at hf
  refine g_iconst (v := (0 : Int32)) C dX7_tellsTwo_37 (by decide +kernel) ?_
  refine g_istore (lv' := [(0, .ref mo), (1, .int x1), (2, .int x2), (3, .int x3), (4, .int (0 : Int32))]) C dX7_tellsTwo_38 (by decide) [1, 2, 3, 4, 0] rfl ?_
  exact k7_tellsTwo_40 C hR hf
set_option maxHeartbeats 4000000 in
set_option maxRecDepth 100000 in
theorem c7_tellsTwo {l : Launch} {G : gG} {mo mo_now mo_aside mo_past mo_refusals mo_text mo_vars mo_sights mo_isThere mo_taints mo_known mo_knows mo_letters mo_numbers : Nat} {now : Nat → Int32} {states : Int32} {length : Int32} {many : Int32} {steps : Int32} {isCut : Int32} {taint : Int32} {knows : Nat → Int32} {isOther : Int32} {at_ : Int32} {isFaulty : Int32} {orders : Int32} {hash : Int64} {v0 : Int32} {v1 : Int32} {v2 : Int32} {res : Int32 × (Nat → Int32)} (hf : f7_tellsTwo now taint knows v0 v1 v2 = some res) : MV l yX7_tellsTwo wsX7_tellsTwo rm7_tellsTwo G [.ref mo, .int v0, .int v1, .int v2] [(mo, oB 7 [.ref mo_now, .ref mo_aside, .ref mo_past, .int states, .ref mo_refusals, .ref mo_text, .int length, .ref mo_vars, .ref mo_sights, .int many, .int steps, .int isCut, .ref mo_isThere, .ref mo_taints, .ref mo_known, .int taint, .ref mo_knows, .int isOther, .int at_, .int isFaulty, .int orders, .ref mo_letters, .ref mo_numbers, .long hash]), (mo_now, aI G 104 now), (mo_knows, aI G 6 knows)] [(mo, oB 7 [.ref mo_now, .ref mo_aside, .ref mo_past, .int states, .ref mo_refusals, .ref mo_text, .int length, .ref mo_vars, .ref mo_sights, .int many, .int steps, .int isCut, .ref mo_isThere, .ref mo_taints, .ref mo_known, .int res.1, .ref mo_knows, .int isOther, .int at_, .int isFaulty, .int orders, .ref mo_letters, .ref mo_numbers, .long hash]), (mo_now, aI G 104 now), (mo_knows, aI G 6 res.2)] := by
  refine MV_of (cc := cX7_tellsTwo) (nL := 6) (lv := [(0, .ref mo), (1, .int v0), (2, .int v1), (3, .int v2)]) (by decide +kernel) rfl (Nat.le_of_ble_eq_true rfl) rfl ?_
  intro p e s m args below meth c A Q C hR
  unfold f7_tellsTwo at hf
  refine g_iload_n C dX7_tellsTwo_0 rfl 1 rfl ?_
  refine g_iconst (v := (4 : Int32)) C dX7_tellsTwo_1 (by decide +kernel) ?_
  refine g_icmp_ne (tgt := 10) C dX7_tellsTwo_2 (by decide) (fun c29 => ?_) (fun c29 => ?_)
  · replace hf := ite_f c29 hf
    refine g_iload_n C dX7_tellsTwo_10 rfl 1 rfl ?_
    refine g_iconst (v := (3 : Int32)) C dX7_tellsTwo_11 (by decide +kernel) ?_
    refine g_icmp_ne (tgt := 37) C dX7_tellsTwo_12 (by decide) (fun c30 => ?_) (fun c30 => ?_)
    · replace hf := ite_f c30 hf
      exact k7_tellsTwo_37 C hR hf
    · replace hf := ite_t c30 hf
      refine g_aload_n C dX7_tellsTwo_15 rfl 0 rfl ?_
      refine g_get (C0 := RX7) (T := TX7) (N := 24) (ci := 7) (v := .ref mo_knows) C hm7_tellsTwo_0 0 rfl rfl 16 (by decide) hm7_tellsTwo_2 rfl dX7_tellsTwo_16 ?_
      refine g_iload_n C dX7_tellsTwo_19 rfl 2 rfl ?_
      obtain ⟨h31, hf⟩ := ck_some hf
      refine g_iald (n := 6) (v := (knows v1.toNatClampNeg)) C 2 rfl h31 rfl rfl dX7_tellsTwo_20 ?_
      refine g_if_eq (tgt := 33) C dX7_tellsTwo_21 (by decide) (fun c32 => ?_) (fun c32 => ?_)
      · replace hf := ite_t c32 hf
        refine g_iconst (v := (1 : Int32)) C dX7_tellsTwo_33 (by decide +kernel) ?_
        refine g_goto (tgt := 38) C dX7_tellsTwo_34 (by decide) ?_
        refine g_istore (lv' := [(0, .ref mo), (1, .int v0), (2, .int v1), (3, .int v2), (4, .int (1 : Int32))]) C dX7_tellsTwo_38 (by decide) [1, 2, 3, 4, 0] rfl ?_
        exact k7_tellsTwo_40 C hR hf
      · replace hf := ite_f c32 hf
        refine g_aload_n C dX7_tellsTwo_24 rfl 0 rfl ?_
        refine g_get (C0 := RX7) (T := TX7) (N := 24) (ci := 7) (v := .ref mo_knows) C hm7_tellsTwo_0 0 rfl rfl 16 (by decide) hm7_tellsTwo_2 rfl dX7_tellsTwo_25 ?_
        refine g_iload_n C dX7_tellsTwo_28 rfl 3 rfl ?_
        obtain ⟨h33, hf⟩ := ck_some hf
        refine g_iald (n := 6) (v := (knows v2.toNatClampNeg)) C 2 rfl h33 rfl rfl dX7_tellsTwo_29 ?_
        refine g_if_ne (tgt := 37) C dX7_tellsTwo_30 (by decide) (fun c34 => ?_) (fun c34 => ?_)
        · replace hf := ite_f c34 hf
          exact k7_tellsTwo_37 C hR hf
        · replace hf := ite_t c34 hf
          refine g_iconst (v := (1 : Int32)) C dX7_tellsTwo_33 (by decide +kernel) ?_
          refine g_goto (tgt := 38) C dX7_tellsTwo_34 (by decide) ?_
          refine g_istore (lv' := [(0, .ref mo), (1, .int v0), (2, .int v1), (3, .int v2), (4, .int (1 : Int32))]) C dX7_tellsTwo_38 (by decide) [1, 2, 3, 4, 0] rfl ?_
          exact k7_tellsTwo_40 C hR hf
  · replace hf := ite_t c29 hf
    refine g_iload_n C dX7_tellsTwo_5 rfl 2 rfl ?_
    refine g_iload_n C dX7_tellsTwo_6 rfl 3 rfl ?_
    refine g_icmp_eq (tgt := 33) C dX7_tellsTwo_7 (by decide) (fun c35 => ?_) (fun c35 => ?_)
    · replace hf := ite_t c35 hf
      refine g_iconst (v := (1 : Int32)) C dX7_tellsTwo_33 (by decide +kernel) ?_
      refine g_goto (tgt := 38) C dX7_tellsTwo_34 (by decide) ?_
      refine g_istore (lv' := [(0, .ref mo), (1, .int v0), (2, .int v1), (3, .int v2), (4, .int (1 : Int32))]) C dX7_tellsTwo_38 (by decide) [1, 2, 3, 4, 0] rfl ?_
      exact k7_tellsTwo_40 C hR hf
    · replace hf := ite_f c35 hf
      refine g_iload_n C dX7_tellsTwo_10 rfl 1 rfl ?_
      refine g_iconst (v := (3 : Int32)) C dX7_tellsTwo_11 (by decide +kernel) ?_
      refine g_icmp_ne (tgt := 37) C dX7_tellsTwo_12 (by decide) (fun c36 => ?_) (fun c36 => ?_)
      · replace hf := ite_f c36 hf
        exact k7_tellsTwo_37 C hR hf
      · replace hf := ite_t c36 hf
        refine g_aload_n C dX7_tellsTwo_15 rfl 0 rfl ?_
        refine g_get (C0 := RX7) (T := TX7) (N := 24) (ci := 7) (v := .ref mo_knows) C hm7_tellsTwo_0 0 rfl rfl 16 (by decide) hm7_tellsTwo_2 rfl dX7_tellsTwo_16 ?_
        refine g_iload_n C dX7_tellsTwo_19 rfl 2 rfl ?_
        obtain ⟨h37, hf⟩ := ck_some hf
        refine g_iald (n := 6) (v := (knows v1.toNatClampNeg)) C 2 rfl h37 rfl rfl dX7_tellsTwo_20 ?_
        refine g_if_eq (tgt := 33) C dX7_tellsTwo_21 (by decide) (fun c38 => ?_) (fun c38 => ?_)
        · replace hf := ite_t c38 hf
          refine g_iconst (v := (1 : Int32)) C dX7_tellsTwo_33 (by decide +kernel) ?_
          refine g_goto (tgt := 38) C dX7_tellsTwo_34 (by decide) ?_
          refine g_istore (lv' := [(0, .ref mo), (1, .int v0), (2, .int v1), (3, .int v2), (4, .int (1 : Int32))]) C dX7_tellsTwo_38 (by decide) [1, 2, 3, 4, 0] rfl ?_
          exact k7_tellsTwo_40 C hR hf
        · replace hf := ite_f c38 hf
          refine g_aload_n C dX7_tellsTwo_24 rfl 0 rfl ?_
          refine g_get (C0 := RX7) (T := TX7) (N := 24) (ci := 7) (v := .ref mo_knows) C hm7_tellsTwo_0 0 rfl rfl 16 (by decide) hm7_tellsTwo_2 rfl dX7_tellsTwo_25 ?_
          refine g_iload_n C dX7_tellsTwo_28 rfl 3 rfl ?_
          obtain ⟨h39, hf⟩ := ck_some hf
          refine g_iald (n := 6) (v := (knows v2.toNatClampNeg)) C 2 rfl h39 rfl rfl dX7_tellsTwo_29 ?_
          refine g_if_ne (tgt := 37) C dX7_tellsTwo_30 (by decide) (fun c40 => ?_) (fun c40 => ?_)
          · replace hf := ite_f c40 hf
            exact k7_tellsTwo_37 C hR hf
          · replace hf := ite_t c40 hf
            refine g_iconst (v := (1 : Int32)) C dX7_tellsTwo_33 (by decide +kernel) ?_
            refine g_goto (tgt := 38) C dX7_tellsTwo_34 (by decide) ?_
            refine g_istore (lv' := [(0, .ref mo), (1, .int v0), (2, .int v1), (3, .int v2), (4, .int (1 : Int32))]) C dX7_tellsTwo_38 (by decide) [1, 2, 3, 4, 0] rfl ?_
            exact k7_tellsTwo_40 C hR hf

-- X7_tellsLine
def f7_tellsLine_22 (now : Nat → Int32) (taint : Int32) (knows : Nat → Int32) (x1 : Int32) (x2 : Int32) (x3 : Int32) (x4 : Int32) : Option (Int32 × (Nat → Int32)) :=
  if x2 = 0 then
    ((f7_tells taint knows x3 (0 : Int32) x4).bind <| fun q18 =>
    some (q18.1, q18.2))
    else (if x2 = (1 : Int32) then
    ((f7_has taint x4).bind <| fun q15 =>
    ck (inb x4 6) <|
    (f7_tells taint knows x3 q15 (knows x4.toNatClampNeg)).bind <| fun q17 =>
    some (q17.1, q17.2))
    else (if x2 = (5 : Int32) then
    ((f7_has taint x4).bind <| fun q8 =>
    ck (inb x4 6) <|
    if (knows x4.toNatClampNeg) = (-1 : Int32) then
    ((f7_tells taint knows x3 q8 (-1 : Int32)).bind <| fun q14 =>
    some (q14.1, q14.2))
    else (ck (inb x4 6) <|
    ck (inb ((8 : Int32) + (knows x4.toNatClampNeg)) 104) <|
    (f7_tells taint knows x3 q8 (now ((8 : Int32) + (knows x4.toNatClampNeg)).toNatClampNeg)).bind <| fun q13 =>
    some (q13.1, q13.2)))
    else (if x2 = (8 : Int32) then
    ((f7_partOf now x1 (3 : Int32)).bind <| fun q6 =>
    (f7_tellsPick taint knows x3 x4 q6).bind <| fun q7 =>
    some (q7.1, q7.2))
    else ((f7_tellsTwo now taint knows x2 x3 x4).bind <| fun q5 =>
    some (q5.1, q5.2)))))
def f7_tellsLine (now : Nat → Int32) (taint : Int32) (knows : Nat → Int32) (v0 : Int32) : Option (Int32 × (Nat → Int32)) :=
  (f7_partOf now v0 (0 : Int32)).bind <| fun q19 =>
    (f7_partOf now v0 (1 : Int32)).bind <| fun q20 =>
    (f7_partOf now v0 (2 : Int32)).bind <| fun q21 =>
    f7_tellsLine_22 now taint knows v0 q19 q20 q21
def rm7_tellsLine : Room := { frames := 3, cells := 0, slots := 0, locals := 69 }
theorem hm7_tellsLine_0 : ∀ w ∈ u_ws RX7 TX7 24, w ∈ wsX7_tellsLine := by decide +kernel
theorem hm7_tellsLine_1 : Cond.fieldLink RX7 173 "SecretStepsModel" "taint" "I" ∈ wsX7_tellsLine := by decide +kernel
theorem hm7_tellsLine_2 : Cond.fieldLink RX7 41 "SecretStepsModel" "knows" "[I" ∈ wsX7_tellsLine := by decide +kernel
theorem hm7_tellsLine_3 : Cond.fieldLink RX7 7 "SecretStepsModel" "now" "[I" ∈ wsX7_tellsLine := by decide +kernel
set_option maxHeartbeats 4000000 in
set_option maxRecDepth 100000 in
theorem k7_tellsLine_22 {p : Program} {l : Launch} {e : Env} {s : State} {m : MethodId} {args : Array Value} {below : List Frame} {meth : Method} {c : Code} {G : gG} {A : Nat → Prop} {Q : State → Prop} {mo mo_now mo_aside mo_past mo_refusals mo_text mo_vars mo_sights mo_isThere mo_taints mo_known mo_knows mo_letters mo_numbers : Nat} (C : CX p s m args meth c G A cX7_tellsLine 5 RX7 wsX7_tellsLine) {states : Int32} {length : Int32} {many : Int32} {steps : Int32} {isCut : Int32} {isOther : Int32} {at_ : Int32} {isFaulty : Int32} {orders : Int32} {hash : Int64} {now : Nat → Int32} {taint : Int32} {knows : Nat → Int32} {x1 : Int32} {x2 : Int32} {x3 : Int32} {x4 : Int32} {res : Int32 × (Nat → Int32)} (hR : ∀ (lv : List (Nat × Value)) (pc : Nat), decode cX7_tellsLine pc = .ok (.return_, 1) → GG p l e rm7_tellsLine s m args below meth c G A 5 0 0 Q [(mo, oB 7 [.ref mo_now, .ref mo_aside, .ref mo_past, .int states, .ref mo_refusals, .ref mo_text, .int length, .ref mo_vars, .ref mo_sights, .int many, .int steps, .int isCut, .ref mo_isThere, .ref mo_taints, .ref mo_known, .int res.1, .ref mo_knows, .int isOther, .int at_, .int isFaulty, .int orders, .ref mo_letters, .ref mo_numbers, .long hash]), (mo_now, aI G 104 now), (mo_knows, aI G 6 res.2)] lv pc [])
    (hf : f7_tellsLine_22 now taint knows x1 x2 x3 x4 = some res) : GG p l e rm7_tellsLine s m args below meth c G A 5 0 0 Q [(mo, oB 7 [.ref mo_now, .ref mo_aside, .ref mo_past, .int states, .ref mo_refusals, .ref mo_text, .int length, .ref mo_vars, .ref mo_sights, .int many, .int steps, .int isCut, .ref mo_isThere, .ref mo_taints, .ref mo_known, .int taint, .ref mo_knows, .int isOther, .int at_, .int isFaulty, .int orders, .ref mo_letters, .ref mo_numbers, .long hash]), (mo_now, aI G 104 now), (mo_knows, aI G 6 knows)] [(0, .ref mo), (1, .int x1), (2, .int x2), (3, .int x3), (4, .int x4)] 22 [] := by
  unfold f7_tellsLine_22 at hf
  refine g_iload_n C dX7_tellsLine_22 rfl 2 rfl ?_
  refine g_if_ne (tgt := 37) C dX7_tellsLine_23 (by decide) (fun c1 => ?_) (fun c1 => ?_)
  · replace hf := ite_f c1 hf
    refine g_iload_n C dX7_tellsLine_37 rfl 2 rfl ?_
    refine g_iconst (v := (1 : Int32)) C dX7_tellsLine_38 (by decide +kernel) ?_
    refine g_icmp_ne (tgt := 66) C dX7_tellsLine_39 (by decide) (fun c2 => ?_) (fun c2 => ?_)
    · replace hf := ite_f c2 hf
      refine g_iload_n C dX7_tellsLine_66 rfl 2 rfl ?_
      refine g_iconst (v := (5 : Int32)) C dX7_tellsLine_67 (by decide +kernel) ?_
      refine g_icmp_ne (tgt := 118) C dX7_tellsLine_68 (by decide) (fun c3 => ?_) (fun c3 => ?_)
      · replace hf := ite_f c3 hf
        refine g_iload_n C dX7_tellsLine_118 rfl 2 rfl ?_
        refine g_bipush (v := (8 : Int32)) C dX7_tellsLine_119 (by decide +kernel) ?_
        refine g_icmp_ne (tgt := 140) C dX7_tellsLine_121 (by decide) (fun c4 => ?_) (fun c4 => ?_)
        · replace hf := ite_f c4 hf
          refine g_aload_n C dX7_tellsLine_140 rfl 0 rfl ?_
          refine g_iload_n C dX7_tellsLine_141 rfl 2 rfl ?_
          refine g_iload_n C dX7_tellsLine_142 rfl 3 rfl ?_
          refine g_iload C dX7_tellsLine_143 4 rfl ?_
          obtain ⟨q5, hq5, hf⟩ := bs hf
          refine g_callVv (n := 3) (As := [.int x2, .int x3, .int x4]) (rest := []) (wc := [(mo, oB 7 [.ref mo_now, .ref mo_aside, .ref mo_past, .int states, .ref mo_refusals, .ref mo_text, .int length, .ref mo_vars, .ref mo_sights, .int many, .int steps, .int isCut, .ref mo_isThere, .ref mo_taints, .ref mo_known, .int taint, .ref mo_knows, .int isOther, .int at_, .int isFaulty, .int orders, .ref mo_letters, .ref mo_numbers, .long hash]), (mo_now, aI G 104 now), (mo_knows, aI G 6 knows)]) (w1 := [(mo, oB 7 [.ref mo_now, .ref mo_aside, .ref mo_past, .int states, .ref mo_refusals, .ref mo_text, .int length, .ref mo_vars, .ref mo_sights, .int many, .int steps, .int isCut, .ref mo_isThere, .ref mo_taints, .ref mo_known, .int q5.1, .ref mo_knows, .int isOther, .int at_, .int isFaulty, .int orders, .ref mo_letters, .ref mo_numbers, .long hash]), (mo_now, aI G 104 now), (mo_knows, aI G 6 q5.2)]) (wr := []) (WS' := [(mo, oB 7 [.ref mo_now, .ref mo_aside, .ref mo_past, .int states, .ref mo_refusals, .ref mo_text, .int length, .ref mo_vars, .ref mo_sights, .int many, .int steps, .int isCut, .ref mo_isThere, .ref mo_taints, .ref mo_known, .int q5.1, .ref mo_knows, .int isOther, .int at_, .int isFaulty, .int orders, .ref mo_letters, .ref mo_numbers, .long hash]), (mo_now, aI G 104 now), (mo_knows, aI G 6 q5.2)]) C (c7_tellsTwo hq5) gX7_tellsLine_X7_tellsTwo (by decide +kernel) rfl rfl rfl rfl rfl rfl ⟨by decide, by decide⟩ rfl [0, 1, 2] [] [0, 1, 2] rfl (by decide) rfl (by decide) (by decide) rfl (by decide) (Nat.le_of_ble_eq_true rfl) ⟨Nat.zero_le _, Nat.zero_le _⟩ rfl dX7_tellsLine_145 ?_
          obtain rfl := Option.some.inj hf
          exact hR _ _ dX7_tellsLine_148
        · replace hf := ite_t c4 hf
          refine g_aload_n C dX7_tellsLine_124 rfl 0 rfl ?_
          refine g_iload_n C dX7_tellsLine_125 rfl 3 rfl ?_
          refine g_iload C dX7_tellsLine_126 4 rfl ?_
          refine g_aload_n C dX7_tellsLine_128 rfl 0 rfl ?_
          refine g_iload_n C dX7_tellsLine_129 rfl 1 rfl ?_
          refine g_iconst (v := (3 : Int32)) C dX7_tellsLine_130 (by decide +kernel) ?_
          obtain ⟨q6, hq6, hf⟩ := bs hf
          refine g_callVi (n := 2) (As := [.int x1, .int (3 : Int32)]) (rest := [.int x4, .int x3, .ref mo]) (wc := [(mo, oB 7 [.ref mo_now, .ref mo_aside, .ref mo_past, .int states, .ref mo_refusals, .ref mo_text, .int length, .ref mo_vars, .ref mo_sights, .int many, .int steps, .int isCut, .ref mo_isThere, .ref mo_taints, .ref mo_known, .int taint, .ref mo_knows, .int isOther, .int at_, .int isFaulty, .int orders, .ref mo_letters, .ref mo_numbers, .long hash]), (mo_now, aI G 104 now)]) (w1 := [(mo, oB 7 [.ref mo_now, .ref mo_aside, .ref mo_past, .int states, .ref mo_refusals, .ref mo_text, .int length, .ref mo_vars, .ref mo_sights, .int many, .int steps, .int isCut, .ref mo_isThere, .ref mo_taints, .ref mo_known, .int taint, .ref mo_knows, .int isOther, .int at_, .int isFaulty, .int orders, .ref mo_letters, .ref mo_numbers, .long hash]), (mo_now, aI G 104 now)]) (wr := [(mo_knows, aI G 6 knows)]) (WS' := [(mo, oB 7 [.ref mo_now, .ref mo_aside, .ref mo_past, .int states, .ref mo_refusals, .ref mo_text, .int length, .ref mo_vars, .ref mo_sights, .int many, .int steps, .int isCut, .ref mo_isThere, .ref mo_taints, .ref mo_known, .int taint, .ref mo_knows, .int isOther, .int at_, .int isFaulty, .int orders, .ref mo_letters, .ref mo_numbers, .long hash]), (mo_now, aI G 104 now), (mo_knows, aI G 6 knows)]) C (c7_partOf hq6) gX7_tellsLine_X7_partOf (by decide +kernel) rfl rfl rfl rfl rfl rfl ⟨by decide, by decide⟩ rfl [0, 1] [2] [1, 2, 0] rfl (by decide) rfl (by decide) (by decide) rfl (by decide) (Nat.le_of_ble_eq_true rfl) ⟨Nat.zero_le _, Nat.zero_le _⟩ rfl dX7_tellsLine_131 ?_
          obtain ⟨q7, hq7, hf⟩ := bs hf
          refine g_callVv (n := 3) (As := [.int x3, .int x4, .int q6]) (rest := []) (wc := [(mo, oB 7 [.ref mo_now, .ref mo_aside, .ref mo_past, .int states, .ref mo_refusals, .ref mo_text, .int length, .ref mo_vars, .ref mo_sights, .int many, .int steps, .int isCut, .ref mo_isThere, .ref mo_taints, .ref mo_known, .int taint, .ref mo_knows, .int isOther, .int at_, .int isFaulty, .int orders, .ref mo_letters, .ref mo_numbers, .long hash]), (mo_knows, aI G 6 knows)]) (w1 := [(mo, oB 7 [.ref mo_now, .ref mo_aside, .ref mo_past, .int states, .ref mo_refusals, .ref mo_text, .int length, .ref mo_vars, .ref mo_sights, .int many, .int steps, .int isCut, .ref mo_isThere, .ref mo_taints, .ref mo_known, .int q7.1, .ref mo_knows, .int isOther, .int at_, .int isFaulty, .int orders, .ref mo_letters, .ref mo_numbers, .long hash]), (mo_knows, aI G 6 q7.2)]) (wr := [(mo_now, aI G 104 now)]) (WS' := [(mo, oB 7 [.ref mo_now, .ref mo_aside, .ref mo_past, .int states, .ref mo_refusals, .ref mo_text, .int length, .ref mo_vars, .ref mo_sights, .int many, .int steps, .int isCut, .ref mo_isThere, .ref mo_taints, .ref mo_known, .int q7.1, .ref mo_knows, .int isOther, .int at_, .int isFaulty, .int orders, .ref mo_letters, .ref mo_numbers, .long hash]), (mo_now, aI G 104 now), (mo_knows, aI G 6 q7.2)]) C (c7_tellsPick hq7) gX7_tellsLine_X7_tellsPick (by decide +kernel) rfl rfl rfl rfl rfl rfl ⟨by decide, by decide⟩ rfl [0, 2] [1] [1, 0, 2] rfl (by decide) rfl (by decide) (by decide) rfl (by decide) (Nat.le_of_ble_eq_true rfl) ⟨Nat.zero_le _, Nat.zero_le _⟩ rfl dX7_tellsLine_134 ?_
          refine g_goto (tgt := 148) C dX7_tellsLine_137 (by decide) ?_
          obtain rfl := Option.some.inj hf
          exact hR _ _ dX7_tellsLine_148
      · replace hf := ite_t c3 hf
        refine g_aload_n C dX7_tellsLine_71 rfl 0 rfl ?_
        refine g_iload_n C dX7_tellsLine_72 rfl 3 rfl ?_
        refine g_aload_n C dX7_tellsLine_73 rfl 0 rfl ?_
        refine g_get (C0 := RX7) (T := TX7) (N := 24) (ci := 7) (v := .int taint) C hm7_tellsLine_0 0 rfl rfl 15 (by decide) hm7_tellsLine_1 rfl dX7_tellsLine_74 ?_
        refine g_iload C dX7_tellsLine_77 4 rfl ?_
        obtain ⟨q8, hq8, hf⟩ := bs hf
        refine g_callSi (n := 2) (As := [.int taint, .int x4]) (rest := [.int x3, .ref mo]) (wc := []) (w1 := []) (wr := [(mo, oB 7 [.ref mo_now, .ref mo_aside, .ref mo_past, .int states, .ref mo_refusals, .ref mo_text, .int length, .ref mo_vars, .ref mo_sights, .int many, .int steps, .int isCut, .ref mo_isThere, .ref mo_taints, .ref mo_known, .int taint, .ref mo_knows, .int isOther, .int at_, .int isFaulty, .int orders, .ref mo_letters, .ref mo_numbers, .long hash]), (mo_now, aI G 104 now), (mo_knows, aI G 6 knows)]) (WS' := [(mo, oB 7 [.ref mo_now, .ref mo_aside, .ref mo_past, .int states, .ref mo_refusals, .ref mo_text, .int length, .ref mo_vars, .ref mo_sights, .int many, .int steps, .int isCut, .ref mo_isThere, .ref mo_taints, .ref mo_known, .int taint, .ref mo_knows, .int isOther, .int at_, .int isFaulty, .int orders, .ref mo_letters, .ref mo_numbers, .long hash]), (mo_now, aI G 104 now), (mo_knows, aI G 6 knows)]) C (c7_has hq8) gX7_tellsLine_X7_has (by decide +kernel) rfl rfl rfl ⟨by decide, by decide⟩ rfl [] [0, 1, 2] [0, 1, 2] rfl (by decide) rfl (by decide) (by decide) rfl (by decide) (Nat.le_of_ble_eq_true rfl) ⟨Nat.zero_le _, Nat.zero_le _⟩ rfl dX7_tellsLine_79 ?_
        refine g_aload_n C dX7_tellsLine_82 rfl 0 rfl ?_
        refine g_get (C0 := RX7) (T := TX7) (N := 24) (ci := 7) (v := .ref mo_knows) C hm7_tellsLine_0 0 rfl rfl 16 (by decide) hm7_tellsLine_2 rfl dX7_tellsLine_83 ?_
        refine g_iload C dX7_tellsLine_86 4 rfl ?_
        obtain ⟨h9, hf⟩ := ck_some hf
        refine g_iald (n := 6) (v := (knows x4.toNatClampNeg)) C 2 rfl h9 rfl rfl dX7_tellsLine_88 ?_
        refine g_iconst (v := (-1 : Int32)) C dX7_tellsLine_89 (by decide +kernel) ?_
        refine g_icmp_ne (tgt := 97) C dX7_tellsLine_90 (by decide) (fun c10 => ?_) (fun c10 => ?_)
        · replace hf := ite_f c10 hf
          refine g_aload_n C dX7_tellsLine_97 rfl 0 rfl ?_
          refine g_get (C0 := RX7) (T := TX7) (N := 24) (ci := 7) (v := .ref mo_now) C hm7_tellsLine_0 0 rfl rfl 0 (by decide) hm7_tellsLine_3 rfl dX7_tellsLine_98 ?_
          refine g_bipush (v := (8 : Int32)) C dX7_tellsLine_101 (by decide +kernel) ?_
          refine g_aload_n C dX7_tellsLine_103 rfl 0 rfl ?_
          refine g_get (C0 := RX7) (T := TX7) (N := 24) (ci := 7) (v := .ref mo_knows) C hm7_tellsLine_0 0 rfl rfl 16 (by decide) hm7_tellsLine_2 rfl dX7_tellsLine_104 ?_
          refine g_iload C dX7_tellsLine_107 4 rfl ?_
          obtain ⟨h11, hf⟩ := ck_some hf
          refine g_iald (n := 6) (v := (knows x4.toNatClampNeg)) C 2 rfl h11 rfl rfl dX7_tellsLine_109 ?_
          refine g_iadd C dX7_tellsLine_110 ?_
          obtain ⟨h12, hf⟩ := ck_some hf
          refine g_iald (n := 104) (v := (now ((8 : Int32) + (knows x4.toNatClampNeg)).toNatClampNeg)) C 1 rfl h12 rfl rfl dX7_tellsLine_111 ?_
          obtain ⟨q13, hq13, hf⟩ := bs hf
          refine g_callVv (n := 3) (As := [.int x3, .int q8, .int (now ((8 : Int32) + (knows x4.toNatClampNeg)).toNatClampNeg)]) (rest := []) (wc := [(mo, oB 7 [.ref mo_now, .ref mo_aside, .ref mo_past, .int states, .ref mo_refusals, .ref mo_text, .int length, .ref mo_vars, .ref mo_sights, .int many, .int steps, .int isCut, .ref mo_isThere, .ref mo_taints, .ref mo_known, .int taint, .ref mo_knows, .int isOther, .int at_, .int isFaulty, .int orders, .ref mo_letters, .ref mo_numbers, .long hash]), (mo_knows, aI G 6 knows)]) (w1 := [(mo, oB 7 [.ref mo_now, .ref mo_aside, .ref mo_past, .int states, .ref mo_refusals, .ref mo_text, .int length, .ref mo_vars, .ref mo_sights, .int many, .int steps, .int isCut, .ref mo_isThere, .ref mo_taints, .ref mo_known, .int q13.1, .ref mo_knows, .int isOther, .int at_, .int isFaulty, .int orders, .ref mo_letters, .ref mo_numbers, .long hash]), (mo_knows, aI G 6 q13.2)]) (wr := [(mo_now, aI G 104 now)]) (WS' := [(mo, oB 7 [.ref mo_now, .ref mo_aside, .ref mo_past, .int states, .ref mo_refusals, .ref mo_text, .int length, .ref mo_vars, .ref mo_sights, .int many, .int steps, .int isCut, .ref mo_isThere, .ref mo_taints, .ref mo_known, .int q13.1, .ref mo_knows, .int isOther, .int at_, .int isFaulty, .int orders, .ref mo_letters, .ref mo_numbers, .long hash]), (mo_now, aI G 104 now), (mo_knows, aI G 6 q13.2)]) C (c7_tells hq13) gX7_tellsLine_X7_tells (by decide +kernel) rfl rfl rfl rfl rfl rfl ⟨by decide, by decide⟩ rfl [0, 2] [1] [1, 0, 2] rfl (by decide) rfl (by decide) (by decide) rfl (by decide) (Nat.le_of_ble_eq_true rfl) ⟨Nat.zero_le _, Nat.zero_le _⟩ rfl dX7_tellsLine_112 ?_
          refine g_goto (tgt := 148) C dX7_tellsLine_115 (by decide) ?_
          obtain rfl := Option.some.inj hf
          exact hR _ _ dX7_tellsLine_148
        · replace hf := ite_t c10 hf
          refine g_iconst (v := (-1 : Int32)) C dX7_tellsLine_93 (by decide +kernel) ?_
          refine g_goto (tgt := 112) C dX7_tellsLine_94 (by decide) ?_
          obtain ⟨q14, hq14, hf⟩ := bs hf
          refine g_callVv (n := 3) (As := [.int x3, .int q8, .int (-1 : Int32)]) (rest := []) (wc := [(mo, oB 7 [.ref mo_now, .ref mo_aside, .ref mo_past, .int states, .ref mo_refusals, .ref mo_text, .int length, .ref mo_vars, .ref mo_sights, .int many, .int steps, .int isCut, .ref mo_isThere, .ref mo_taints, .ref mo_known, .int taint, .ref mo_knows, .int isOther, .int at_, .int isFaulty, .int orders, .ref mo_letters, .ref mo_numbers, .long hash]), (mo_knows, aI G 6 knows)]) (w1 := [(mo, oB 7 [.ref mo_now, .ref mo_aside, .ref mo_past, .int states, .ref mo_refusals, .ref mo_text, .int length, .ref mo_vars, .ref mo_sights, .int many, .int steps, .int isCut, .ref mo_isThere, .ref mo_taints, .ref mo_known, .int q14.1, .ref mo_knows, .int isOther, .int at_, .int isFaulty, .int orders, .ref mo_letters, .ref mo_numbers, .long hash]), (mo_knows, aI G 6 q14.2)]) (wr := [(mo_now, aI G 104 now)]) (WS' := [(mo, oB 7 [.ref mo_now, .ref mo_aside, .ref mo_past, .int states, .ref mo_refusals, .ref mo_text, .int length, .ref mo_vars, .ref mo_sights, .int many, .int steps, .int isCut, .ref mo_isThere, .ref mo_taints, .ref mo_known, .int q14.1, .ref mo_knows, .int isOther, .int at_, .int isFaulty, .int orders, .ref mo_letters, .ref mo_numbers, .long hash]), (mo_now, aI G 104 now), (mo_knows, aI G 6 q14.2)]) C (c7_tells hq14) gX7_tellsLine_X7_tells (by decide +kernel) rfl rfl rfl rfl rfl rfl ⟨by decide, by decide⟩ rfl [0, 2] [1] [1, 0, 2] rfl (by decide) rfl (by decide) (by decide) rfl (by decide) (Nat.le_of_ble_eq_true rfl) ⟨Nat.zero_le _, Nat.zero_le _⟩ rfl dX7_tellsLine_112 ?_
          refine g_goto (tgt := 148) C dX7_tellsLine_115 (by decide) ?_
          obtain rfl := Option.some.inj hf
          exact hR _ _ dX7_tellsLine_148
    · replace hf := ite_t c2 hf
      refine g_aload_n C dX7_tellsLine_42 rfl 0 rfl ?_
      refine g_iload_n C dX7_tellsLine_43 rfl 3 rfl ?_
      refine g_aload_n C dX7_tellsLine_44 rfl 0 rfl ?_
      refine g_get (C0 := RX7) (T := TX7) (N := 24) (ci := 7) (v := .int taint) C hm7_tellsLine_0 0 rfl rfl 15 (by decide) hm7_tellsLine_1 rfl dX7_tellsLine_45 ?_
      refine g_iload C dX7_tellsLine_48 4 rfl ?_
      obtain ⟨q15, hq15, hf⟩ := bs hf
      refine g_callSi (n := 2) (As := [.int taint, .int x4]) (rest := [.int x3, .ref mo]) (wc := []) (w1 := []) (wr := [(mo, oB 7 [.ref mo_now, .ref mo_aside, .ref mo_past, .int states, .ref mo_refusals, .ref mo_text, .int length, .ref mo_vars, .ref mo_sights, .int many, .int steps, .int isCut, .ref mo_isThere, .ref mo_taints, .ref mo_known, .int taint, .ref mo_knows, .int isOther, .int at_, .int isFaulty, .int orders, .ref mo_letters, .ref mo_numbers, .long hash]), (mo_now, aI G 104 now), (mo_knows, aI G 6 knows)]) (WS' := [(mo, oB 7 [.ref mo_now, .ref mo_aside, .ref mo_past, .int states, .ref mo_refusals, .ref mo_text, .int length, .ref mo_vars, .ref mo_sights, .int many, .int steps, .int isCut, .ref mo_isThere, .ref mo_taints, .ref mo_known, .int taint, .ref mo_knows, .int isOther, .int at_, .int isFaulty, .int orders, .ref mo_letters, .ref mo_numbers, .long hash]), (mo_now, aI G 104 now), (mo_knows, aI G 6 knows)]) C (c7_has hq15) gX7_tellsLine_X7_has (by decide +kernel) rfl rfl rfl ⟨by decide, by decide⟩ rfl [] [0, 1, 2] [0, 1, 2] rfl (by decide) rfl (by decide) (by decide) rfl (by decide) (Nat.le_of_ble_eq_true rfl) ⟨Nat.zero_le _, Nat.zero_le _⟩ rfl dX7_tellsLine_50 ?_
      refine g_aload_n C dX7_tellsLine_53 rfl 0 rfl ?_
      refine g_get (C0 := RX7) (T := TX7) (N := 24) (ci := 7) (v := .ref mo_knows) C hm7_tellsLine_0 0 rfl rfl 16 (by decide) hm7_tellsLine_2 rfl dX7_tellsLine_54 ?_
      refine g_iload C dX7_tellsLine_57 4 rfl ?_
      obtain ⟨h16, hf⟩ := ck_some hf
      refine g_iald (n := 6) (v := (knows x4.toNatClampNeg)) C 2 rfl h16 rfl rfl dX7_tellsLine_59 ?_
      obtain ⟨q17, hq17, hf⟩ := bs hf
      refine g_callVv (n := 3) (As := [.int x3, .int q15, .int (knows x4.toNatClampNeg)]) (rest := []) (wc := [(mo, oB 7 [.ref mo_now, .ref mo_aside, .ref mo_past, .int states, .ref mo_refusals, .ref mo_text, .int length, .ref mo_vars, .ref mo_sights, .int many, .int steps, .int isCut, .ref mo_isThere, .ref mo_taints, .ref mo_known, .int taint, .ref mo_knows, .int isOther, .int at_, .int isFaulty, .int orders, .ref mo_letters, .ref mo_numbers, .long hash]), (mo_knows, aI G 6 knows)]) (w1 := [(mo, oB 7 [.ref mo_now, .ref mo_aside, .ref mo_past, .int states, .ref mo_refusals, .ref mo_text, .int length, .ref mo_vars, .ref mo_sights, .int many, .int steps, .int isCut, .ref mo_isThere, .ref mo_taints, .ref mo_known, .int q17.1, .ref mo_knows, .int isOther, .int at_, .int isFaulty, .int orders, .ref mo_letters, .ref mo_numbers, .long hash]), (mo_knows, aI G 6 q17.2)]) (wr := [(mo_now, aI G 104 now)]) (WS' := [(mo, oB 7 [.ref mo_now, .ref mo_aside, .ref mo_past, .int states, .ref mo_refusals, .ref mo_text, .int length, .ref mo_vars, .ref mo_sights, .int many, .int steps, .int isCut, .ref mo_isThere, .ref mo_taints, .ref mo_known, .int q17.1, .ref mo_knows, .int isOther, .int at_, .int isFaulty, .int orders, .ref mo_letters, .ref mo_numbers, .long hash]), (mo_now, aI G 104 now), (mo_knows, aI G 6 q17.2)]) C (c7_tells hq17) gX7_tellsLine_X7_tells (by decide +kernel) rfl rfl rfl rfl rfl rfl ⟨by decide, by decide⟩ rfl [0, 2] [1] [1, 0, 2] rfl (by decide) rfl (by decide) (by decide) rfl (by decide) (Nat.le_of_ble_eq_true rfl) ⟨Nat.zero_le _, Nat.zero_le _⟩ rfl dX7_tellsLine_60 ?_
      refine g_goto (tgt := 148) C dX7_tellsLine_63 (by decide) ?_
      obtain rfl := Option.some.inj hf
      exact hR _ _ dX7_tellsLine_148
  · replace hf := ite_t c1 hf
    refine g_aload_n C dX7_tellsLine_26 rfl 0 rfl ?_
    refine g_iload_n C dX7_tellsLine_27 rfl 3 rfl ?_
    refine g_iconst (v := (0 : Int32)) C dX7_tellsLine_28 (by decide +kernel) ?_
    refine g_iload C dX7_tellsLine_29 4 rfl ?_
    obtain ⟨q18, hq18, hf⟩ := bs hf
    refine g_callVv (n := 3) (As := [.int x3, .int (0 : Int32), .int x4]) (rest := []) (wc := [(mo, oB 7 [.ref mo_now, .ref mo_aside, .ref mo_past, .int states, .ref mo_refusals, .ref mo_text, .int length, .ref mo_vars, .ref mo_sights, .int many, .int steps, .int isCut, .ref mo_isThere, .ref mo_taints, .ref mo_known, .int taint, .ref mo_knows, .int isOther, .int at_, .int isFaulty, .int orders, .ref mo_letters, .ref mo_numbers, .long hash]), (mo_knows, aI G 6 knows)]) (w1 := [(mo, oB 7 [.ref mo_now, .ref mo_aside, .ref mo_past, .int states, .ref mo_refusals, .ref mo_text, .int length, .ref mo_vars, .ref mo_sights, .int many, .int steps, .int isCut, .ref mo_isThere, .ref mo_taints, .ref mo_known, .int q18.1, .ref mo_knows, .int isOther, .int at_, .int isFaulty, .int orders, .ref mo_letters, .ref mo_numbers, .long hash]), (mo_knows, aI G 6 q18.2)]) (wr := [(mo_now, aI G 104 now)]) (WS' := [(mo, oB 7 [.ref mo_now, .ref mo_aside, .ref mo_past, .int states, .ref mo_refusals, .ref mo_text, .int length, .ref mo_vars, .ref mo_sights, .int many, .int steps, .int isCut, .ref mo_isThere, .ref mo_taints, .ref mo_known, .int q18.1, .ref mo_knows, .int isOther, .int at_, .int isFaulty, .int orders, .ref mo_letters, .ref mo_numbers, .long hash]), (mo_now, aI G 104 now), (mo_knows, aI G 6 q18.2)]) C (c7_tells hq18) gX7_tellsLine_X7_tells (by decide +kernel) rfl rfl rfl rfl rfl rfl ⟨by decide, by decide⟩ rfl [0, 2] [1] [1, 0, 2] rfl (by decide) rfl (by decide) (by decide) rfl (by decide) (Nat.le_of_ble_eq_true rfl) ⟨Nat.zero_le _, Nat.zero_le _⟩ rfl dX7_tellsLine_31 ?_
    refine g_goto (tgt := 148) C dX7_tellsLine_34 (by decide) ?_
    obtain rfl := Option.some.inj hf
    exact hR _ _ dX7_tellsLine_148
set_option maxHeartbeats 4000000 in
set_option maxRecDepth 100000 in
theorem c7_tellsLine {l : Launch} {G : gG} {mo mo_now mo_aside mo_past mo_refusals mo_text mo_vars mo_sights mo_isThere mo_taints mo_known mo_knows mo_letters mo_numbers : Nat} {now : Nat → Int32} {states : Int32} {length : Int32} {many : Int32} {steps : Int32} {isCut : Int32} {taint : Int32} {knows : Nat → Int32} {isOther : Int32} {at_ : Int32} {isFaulty : Int32} {orders : Int32} {hash : Int64} {v0 : Int32} {res : Int32 × (Nat → Int32)} (hf : f7_tellsLine now taint knows v0 = some res) : MV l yX7_tellsLine wsX7_tellsLine rm7_tellsLine G [.ref mo, .int v0] [(mo, oB 7 [.ref mo_now, .ref mo_aside, .ref mo_past, .int states, .ref mo_refusals, .ref mo_text, .int length, .ref mo_vars, .ref mo_sights, .int many, .int steps, .int isCut, .ref mo_isThere, .ref mo_taints, .ref mo_known, .int taint, .ref mo_knows, .int isOther, .int at_, .int isFaulty, .int orders, .ref mo_letters, .ref mo_numbers, .long hash]), (mo_now, aI G 104 now), (mo_knows, aI G 6 knows)] [(mo, oB 7 [.ref mo_now, .ref mo_aside, .ref mo_past, .int states, .ref mo_refusals, .ref mo_text, .int length, .ref mo_vars, .ref mo_sights, .int many, .int steps, .int isCut, .ref mo_isThere, .ref mo_taints, .ref mo_known, .int res.1, .ref mo_knows, .int isOther, .int at_, .int isFaulty, .int orders, .ref mo_letters, .ref mo_numbers, .long hash]), (mo_now, aI G 104 now), (mo_knows, aI G 6 res.2)] := by
  refine MV_of (cc := cX7_tellsLine) (nL := 5) (lv := [(0, .ref mo), (1, .int v0)]) (by decide +kernel) rfl (Nat.le_of_ble_eq_true rfl) rfl ?_
  intro p e s m args below meth c A Q C hR
  unfold f7_tellsLine at hf
  refine g_aload_n C dX7_tellsLine_0 rfl 0 rfl ?_
  refine g_iload_n C dX7_tellsLine_1 rfl 1 rfl ?_
  refine g_iconst (v := (0 : Int32)) C dX7_tellsLine_2 (by decide +kernel) ?_
  obtain ⟨q19, hq19, hf⟩ := bs hf
  refine g_callVi (n := 2) (As := [.int v0, .int (0 : Int32)]) (rest := []) (wc := [(mo, oB 7 [.ref mo_now, .ref mo_aside, .ref mo_past, .int states, .ref mo_refusals, .ref mo_text, .int length, .ref mo_vars, .ref mo_sights, .int many, .int steps, .int isCut, .ref mo_isThere, .ref mo_taints, .ref mo_known, .int taint, .ref mo_knows, .int isOther, .int at_, .int isFaulty, .int orders, .ref mo_letters, .ref mo_numbers, .long hash]), (mo_now, aI G 104 now)]) (w1 := [(mo, oB 7 [.ref mo_now, .ref mo_aside, .ref mo_past, .int states, .ref mo_refusals, .ref mo_text, .int length, .ref mo_vars, .ref mo_sights, .int many, .int steps, .int isCut, .ref mo_isThere, .ref mo_taints, .ref mo_known, .int taint, .ref mo_knows, .int isOther, .int at_, .int isFaulty, .int orders, .ref mo_letters, .ref mo_numbers, .long hash]), (mo_now, aI G 104 now)]) (wr := [(mo_knows, aI G 6 knows)]) (WS' := [(mo, oB 7 [.ref mo_now, .ref mo_aside, .ref mo_past, .int states, .ref mo_refusals, .ref mo_text, .int length, .ref mo_vars, .ref mo_sights, .int many, .int steps, .int isCut, .ref mo_isThere, .ref mo_taints, .ref mo_known, .int taint, .ref mo_knows, .int isOther, .int at_, .int isFaulty, .int orders, .ref mo_letters, .ref mo_numbers, .long hash]), (mo_now, aI G 104 now), (mo_knows, aI G 6 knows)]) C (c7_partOf hq19) gX7_tellsLine_X7_partOf (by decide +kernel) rfl rfl rfl rfl rfl rfl ⟨by decide, by decide⟩ rfl [0, 1] [2] [1, 2, 0] rfl (by decide) rfl (by decide) (by decide) rfl (by decide) (Nat.le_of_ble_eq_true rfl) ⟨Nat.zero_le _, Nat.zero_le _⟩ rfl dX7_tellsLine_3 ?_
  refine g_istore_n (lv' := [(0, .ref mo), (1, .int v0), (2, .int q19)]) C dX7_tellsLine_6 rfl (by decide) [1, 2, 0] rfl ?_
  refine g_aload_n C dX7_tellsLine_7 rfl 0 rfl ?_
  refine g_iload_n C dX7_tellsLine_8 rfl 1 rfl ?_
  refine g_iconst (v := (1 : Int32)) C dX7_tellsLine_9 (by decide +kernel) ?_
  obtain ⟨q20, hq20, hf⟩ := bs hf
  refine g_callVi (n := 2) (As := [.int v0, .int (1 : Int32)]) (rest := []) (wc := [(mo, oB 7 [.ref mo_now, .ref mo_aside, .ref mo_past, .int states, .ref mo_refusals, .ref mo_text, .int length, .ref mo_vars, .ref mo_sights, .int many, .int steps, .int isCut, .ref mo_isThere, .ref mo_taints, .ref mo_known, .int taint, .ref mo_knows, .int isOther, .int at_, .int isFaulty, .int orders, .ref mo_letters, .ref mo_numbers, .long hash]), (mo_now, aI G 104 now)]) (w1 := [(mo, oB 7 [.ref mo_now, .ref mo_aside, .ref mo_past, .int states, .ref mo_refusals, .ref mo_text, .int length, .ref mo_vars, .ref mo_sights, .int many, .int steps, .int isCut, .ref mo_isThere, .ref mo_taints, .ref mo_known, .int taint, .ref mo_knows, .int isOther, .int at_, .int isFaulty, .int orders, .ref mo_letters, .ref mo_numbers, .long hash]), (mo_now, aI G 104 now)]) (wr := [(mo_knows, aI G 6 knows)]) (WS' := [(mo, oB 7 [.ref mo_now, .ref mo_aside, .ref mo_past, .int states, .ref mo_refusals, .ref mo_text, .int length, .ref mo_vars, .ref mo_sights, .int many, .int steps, .int isCut, .ref mo_isThere, .ref mo_taints, .ref mo_known, .int taint, .ref mo_knows, .int isOther, .int at_, .int isFaulty, .int orders, .ref mo_letters, .ref mo_numbers, .long hash]), (mo_now, aI G 104 now), (mo_knows, aI G 6 knows)]) C (c7_partOf hq20) gX7_tellsLine_X7_partOf (by decide +kernel) rfl rfl rfl rfl rfl rfl ⟨by decide, by decide⟩ rfl [0, 1] [2] [1, 2, 0] rfl (by decide) rfl (by decide) (by decide) rfl (by decide) (Nat.le_of_ble_eq_true rfl) ⟨Nat.zero_le _, Nat.zero_le _⟩ rfl dX7_tellsLine_10 ?_
  refine g_istore_n (lv' := [(0, .ref mo), (1, .int v0), (2, .int q19), (3, .int q20)]) C dX7_tellsLine_13 rfl (by decide) [1, 2, 3, 0] rfl ?_
  refine g_aload_n C dX7_tellsLine_14 rfl 0 rfl ?_
  refine g_iload_n C dX7_tellsLine_15 rfl 1 rfl ?_
  refine g_iconst (v := (2 : Int32)) C dX7_tellsLine_16 (by decide +kernel) ?_
  obtain ⟨q21, hq21, hf⟩ := bs hf
  refine g_callVi (n := 2) (As := [.int v0, .int (2 : Int32)]) (rest := []) (wc := [(mo, oB 7 [.ref mo_now, .ref mo_aside, .ref mo_past, .int states, .ref mo_refusals, .ref mo_text, .int length, .ref mo_vars, .ref mo_sights, .int many, .int steps, .int isCut, .ref mo_isThere, .ref mo_taints, .ref mo_known, .int taint, .ref mo_knows, .int isOther, .int at_, .int isFaulty, .int orders, .ref mo_letters, .ref mo_numbers, .long hash]), (mo_now, aI G 104 now)]) (w1 := [(mo, oB 7 [.ref mo_now, .ref mo_aside, .ref mo_past, .int states, .ref mo_refusals, .ref mo_text, .int length, .ref mo_vars, .ref mo_sights, .int many, .int steps, .int isCut, .ref mo_isThere, .ref mo_taints, .ref mo_known, .int taint, .ref mo_knows, .int isOther, .int at_, .int isFaulty, .int orders, .ref mo_letters, .ref mo_numbers, .long hash]), (mo_now, aI G 104 now)]) (wr := [(mo_knows, aI G 6 knows)]) (WS' := [(mo, oB 7 [.ref mo_now, .ref mo_aside, .ref mo_past, .int states, .ref mo_refusals, .ref mo_text, .int length, .ref mo_vars, .ref mo_sights, .int many, .int steps, .int isCut, .ref mo_isThere, .ref mo_taints, .ref mo_known, .int taint, .ref mo_knows, .int isOther, .int at_, .int isFaulty, .int orders, .ref mo_letters, .ref mo_numbers, .long hash]), (mo_now, aI G 104 now), (mo_knows, aI G 6 knows)]) C (c7_partOf hq21) gX7_tellsLine_X7_partOf (by decide +kernel) rfl rfl rfl rfl rfl rfl ⟨by decide, by decide⟩ rfl [0, 1] [2] [1, 2, 0] rfl (by decide) rfl (by decide) (by decide) rfl (by decide) (Nat.le_of_ble_eq_true rfl) ⟨Nat.zero_le _, Nat.zero_le _⟩ rfl dX7_tellsLine_17 ?_
  refine g_istore (lv' := [(0, .ref mo), (1, .int v0), (2, .int q19), (3, .int q20), (4, .int q21)]) C dX7_tellsLine_20 (by decide) [1, 2, 3, 4, 0] rfl ?_
  exact k7_tellsLine_22 C hR hf

-- X7_asks
def f7_asks_74 (now : Nat → Int32) (isThere : Nat → Int32) (taints : Nat → Int32) (known : Nat → Int32) (taint : Int32) (knows : Nat → Int32) (isOther : Int32) (x1 : Int32) (x2 : Int32) : Option ((Nat → Int32) × (Nat → Int32) × (Nat → Int32) × Int32 × (Nat → Int32) × Int32) :=
  (f7_comesTo now taint knows isThere taints known isOther (x1 + (1 : Int32))).bind <| fun q1 =>
    some (q1.1, q1.2.1, q1.2.2.1, taint, knows, q1.2.2.2)
def f7_asks_55 (now : Nat → Int32) (isThere : Nat → Int32) (taints : Nat → Int32) (known : Nat → Int32) (taint : Int32) (knows : Nat → Int32) (isOther : Int32) (x1 : Int32) (x2 : Int32) : Option ((Nat → Int32) × (Nat → Int32) × (Nat → Int32) × Int32 × (Nat → Int32) × Int32) :=
  ck (inb x2 6) <|
    if (knows x2.toNatClampNeg) = (-1 : Int32) then
    (f7_asks_74 now isThere taints known taint knows isOther x1 x2)
    else (ck (inb x2 6) <|
    if (knows x2.toNatClampNeg) = 0 then
    (f7_asks_74 now isThere taints known taint knows isOther x1 x2)
    else (some (isThere, taints, known, taint, knows, isOther)))
def f7_asks (now : Nat → Int32) (isThere : Nat → Int32) (taints : Nat → Int32) (known : Nat → Int32) (taint : Int32) (knows : Nat → Int32) (isOther : Int32) (v0 : Int32) : Option ((Nat → Int32) × (Nat → Int32) × (Nat → Int32) × Int32 × (Nat → Int32) × Int32) :=
  (f7_takes taints known taint knows v0).bind <| fun q6 =>
    (f7_partOf now v0 (0 : Int32)).bind <| fun q7 =>
    if q7 = (7 : Int32) then
    ((f7_partOf now v0 (1 : Int32)).bind <| fun q9 =>
    ck (inb q9 6) <|
    if (q6.2 q9.toNatClampNeg) = 0 then
    (f7_asks_55 now isThere taints known q6.1 q6.2 isOther v0 q9)
    else ((f7_partOf now v0 (2 : Int32)).bind <| fun q12 =>
    (f7_comesTo now q6.1 q6.2 isThere taints known isOther q12).bind <| fun q13 =>
    f7_asks_55 now q13.1 q13.2.1 q13.2.2.1 q6.1 q6.2 q13.2.2.2 v0 q9))
    else ((f7_tellsLine now q6.1 q6.2 v0).bind <| fun q14 =>
    (f7_comesTo now q14.1 q14.2 isThere taints known isOther (v0 + (1 : Int32))).bind <| fun q15 =>
    some (q15.1, q15.2.1, q15.2.2.1, q14.1, q14.2, q15.2.2.2))
def rm7_asks : Room := { frames := 4, cells := 0, slots := 0, locals := 93 }
theorem hm7_asks_0 : ∀ w ∈ u_ws RX7 TX7 24, w ∈ wsX7_asks := by decide +kernel
theorem hm7_asks_1 : Cond.fieldLink RX7 41 "SecretStepsModel" "knows" "[I" ∈ wsX7_asks := by decide +kernel
set_option maxHeartbeats 4000000 in
set_option maxRecDepth 100000 in
theorem k7_asks_74 {p : Program} {l : Launch} {e : Env} {s : State} {m : MethodId} {args : Array Value} {below : List Frame} {meth : Method} {c : Code} {G : gG} {A : Nat → Prop} {Q : State → Prop} {mo mo_now mo_aside mo_past mo_refusals mo_text mo_vars mo_sights mo_isThere mo_taints mo_known mo_knows mo_letters mo_numbers : Nat} (C : CX p s m args meth c G A cX7_asks 3 RX7 wsX7_asks) {states : Int32} {length : Int32} {many : Int32} {steps : Int32} {isCut : Int32} {at_ : Int32} {isFaulty : Int32} {orders : Int32} {hash : Int64} {now : Nat → Int32} {isThere : Nat → Int32} {taints : Nat → Int32} {known : Nat → Int32} {taint : Int32} {knows : Nat → Int32} {isOther : Int32} {x1 : Int32} {x2 : Int32} {res : (Nat → Int32) × (Nat → Int32) × (Nat → Int32) × Int32 × (Nat → Int32) × Int32} (hR : ∀ (lv : List (Nat × Value)) (pc : Nat), decode cX7_asks pc = .ok (.return_, 1) → GG p l e rm7_asks s m args below meth c G A 3 0 0 Q [(mo, oB 7 [.ref mo_now, .ref mo_aside, .ref mo_past, .int states, .ref mo_refusals, .ref mo_text, .int length, .ref mo_vars, .ref mo_sights, .int many, .int steps, .int isCut, .ref mo_isThere, .ref mo_taints, .ref mo_known, .int res.2.2.2.1, .ref mo_knows, .int res.2.2.2.2.2, .int at_, .int isFaulty, .int orders, .ref mo_letters, .ref mo_numbers, .long hash]), (mo_now, aI G 104 now), (mo_isThere, aZ G 21 res.1), (mo_taints, aI G 21 res.2.1), (mo_known, aI G 126 res.2.2.1), (mo_knows, aI G 6 res.2.2.2.2.1)] lv pc [])
    (hf : f7_asks_74 now isThere taints known taint knows isOther x1 x2 = some res) : GG p l e rm7_asks s m args below meth c G A 3 0 0 Q [(mo, oB 7 [.ref mo_now, .ref mo_aside, .ref mo_past, .int states, .ref mo_refusals, .ref mo_text, .int length, .ref mo_vars, .ref mo_sights, .int many, .int steps, .int isCut, .ref mo_isThere, .ref mo_taints, .ref mo_known, .int taint, .ref mo_knows, .int isOther, .int at_, .int isFaulty, .int orders, .ref mo_letters, .ref mo_numbers, .long hash]), (mo_now, aI G 104 now), (mo_isThere, aZ G 21 isThere), (mo_taints, aI G 21 taints), (mo_known, aI G 126 known), (mo_knows, aI G 6 knows)] [(0, .ref mo), (1, .int x1), (2, .int x2)] 74 [] := by
  unfold f7_asks_74 at hf
  refine g_aload_n C dX7_asks_74 rfl 0 rfl ?_
  refine g_iload_n C dX7_asks_75 rfl 1 rfl ?_
  refine g_iconst (v := (1 : Int32)) C dX7_asks_76 (by decide +kernel) ?_
  refine g_iadd C dX7_asks_77 ?_
  obtain ⟨q1, hq1, hf⟩ := bs hf
  refine g_callVv (n := 1) (As := [.int (x1 + (1 : Int32))]) (rest := []) (wc := [(mo, oB 7 [.ref mo_now, .ref mo_aside, .ref mo_past, .int states, .ref mo_refusals, .ref mo_text, .int length, .ref mo_vars, .ref mo_sights, .int many, .int steps, .int isCut, .ref mo_isThere, .ref mo_taints, .ref mo_known, .int taint, .ref mo_knows, .int isOther, .int at_, .int isFaulty, .int orders, .ref mo_letters, .ref mo_numbers, .long hash]), (mo_now, aI G 104 now), (mo_isThere, aZ G 21 isThere), (mo_taints, aI G 21 taints), (mo_known, aI G 126 known), (mo_knows, aI G 6 knows)]) (w1 := [(mo, oB 7 [.ref mo_now, .ref mo_aside, .ref mo_past, .int states, .ref mo_refusals, .ref mo_text, .int length, .ref mo_vars, .ref mo_sights, .int many, .int steps, .int isCut, .ref mo_isThere, .ref mo_taints, .ref mo_known, .int taint, .ref mo_knows, .int q1.2.2.2, .int at_, .int isFaulty, .int orders, .ref mo_letters, .ref mo_numbers, .long hash]), (mo_now, aI G 104 now), (mo_isThere, aZ G 21 q1.1), (mo_taints, aI G 21 q1.2.1), (mo_known, aI G 126 q1.2.2.1), (mo_knows, aI G 6 knows)]) (wr := []) (WS' := [(mo, oB 7 [.ref mo_now, .ref mo_aside, .ref mo_past, .int states, .ref mo_refusals, .ref mo_text, .int length, .ref mo_vars, .ref mo_sights, .int many, .int steps, .int isCut, .ref mo_isThere, .ref mo_taints, .ref mo_known, .int taint, .ref mo_knows, .int q1.2.2.2, .int at_, .int isFaulty, .int orders, .ref mo_letters, .ref mo_numbers, .long hash]), (mo_now, aI G 104 now), (mo_isThere, aZ G 21 q1.1), (mo_taints, aI G 21 q1.2.1), (mo_known, aI G 126 q1.2.2.1), (mo_knows, aI G 6 knows)]) C (c7_comesTo hq1) gX7_asks_X7_comesTo (by decide +kernel) rfl rfl rfl rfl rfl rfl ⟨by decide, by decide⟩ rfl [0, 1, 2, 3, 4, 5] [] [0, 1, 2, 3, 4, 5] rfl (by decide) rfl (by decide) (by decide) rfl (by decide) (Nat.le_of_ble_eq_true rfl) ⟨Nat.zero_le _, Nat.zero_le _⟩ rfl dX7_asks_78 ?_
  obtain rfl := Option.some.inj hf
  exact hR _ _ dX7_asks_81
set_option maxHeartbeats 4000000 in
set_option maxRecDepth 100000 in
theorem k7_asks_55 {p : Program} {l : Launch} {e : Env} {s : State} {m : MethodId} {args : Array Value} {below : List Frame} {meth : Method} {c : Code} {G : gG} {A : Nat → Prop} {Q : State → Prop} {mo mo_now mo_aside mo_past mo_refusals mo_text mo_vars mo_sights mo_isThere mo_taints mo_known mo_knows mo_letters mo_numbers : Nat} (C : CX p s m args meth c G A cX7_asks 3 RX7 wsX7_asks) {states : Int32} {length : Int32} {many : Int32} {steps : Int32} {isCut : Int32} {at_ : Int32} {isFaulty : Int32} {orders : Int32} {hash : Int64} {now : Nat → Int32} {isThere : Nat → Int32} {taints : Nat → Int32} {known : Nat → Int32} {taint : Int32} {knows : Nat → Int32} {isOther : Int32} {x1 : Int32} {x2 : Int32} {res : (Nat → Int32) × (Nat → Int32) × (Nat → Int32) × Int32 × (Nat → Int32) × Int32} (hR : ∀ (lv : List (Nat × Value)) (pc : Nat), decode cX7_asks pc = .ok (.return_, 1) → GG p l e rm7_asks s m args below meth c G A 3 0 0 Q [(mo, oB 7 [.ref mo_now, .ref mo_aside, .ref mo_past, .int states, .ref mo_refusals, .ref mo_text, .int length, .ref mo_vars, .ref mo_sights, .int many, .int steps, .int isCut, .ref mo_isThere, .ref mo_taints, .ref mo_known, .int res.2.2.2.1, .ref mo_knows, .int res.2.2.2.2.2, .int at_, .int isFaulty, .int orders, .ref mo_letters, .ref mo_numbers, .long hash]), (mo_now, aI G 104 now), (mo_isThere, aZ G 21 res.1), (mo_taints, aI G 21 res.2.1), (mo_known, aI G 126 res.2.2.1), (mo_knows, aI G 6 res.2.2.2.2.1)] lv pc [])
    (hf : f7_asks_55 now isThere taints known taint knows isOther x1 x2 = some res) : GG p l e rm7_asks s m args below meth c G A 3 0 0 Q [(mo, oB 7 [.ref mo_now, .ref mo_aside, .ref mo_past, .int states, .ref mo_refusals, .ref mo_text, .int length, .ref mo_vars, .ref mo_sights, .int many, .int steps, .int isCut, .ref mo_isThere, .ref mo_taints, .ref mo_known, .int taint, .ref mo_knows, .int isOther, .int at_, .int isFaulty, .int orders, .ref mo_letters, .ref mo_numbers, .long hash]), (mo_now, aI G 104 now), (mo_isThere, aZ G 21 isThere), (mo_taints, aI G 21 taints), (mo_known, aI G 126 known), (mo_knows, aI G 6 knows)] [(0, .ref mo), (1, .int x1), (2, .int x2)] 55 [] := by
  unfold f7_asks_55 at hf
  refine g_aload_n C dX7_asks_55 rfl 0 rfl ?_
  refine g_get (C0 := RX7) (T := TX7) (N := 24) (ci := 7) (v := .ref mo_knows) C hm7_asks_0 0 rfl rfl 16 (by decide) hm7_asks_1 rfl dX7_asks_56 ?_
  refine g_iload_n C dX7_asks_59 rfl 2 rfl ?_
  obtain ⟨h2, hf⟩ := ck_some hf
  refine g_iald (n := 6) (v := (knows x2.toNatClampNeg)) C 5 rfl h2 rfl rfl dX7_asks_60 ?_
  refine g_iconst (v := (-1 : Int32)) C dX7_asks_61 (by decide +kernel) ?_
  refine g_icmp_eq (tgt := 74) C dX7_asks_62 (by decide) (fun c3 => ?_) (fun c3 => ?_)
  · replace hf := ite_t c3 hf
    exact k7_asks_74 C hR hf
  · replace hf := ite_f c3 hf
    refine g_aload_n C dX7_asks_65 rfl 0 rfl ?_
    refine g_get (C0 := RX7) (T := TX7) (N := 24) (ci := 7) (v := .ref mo_knows) C hm7_asks_0 0 rfl rfl 16 (by decide) hm7_asks_1 rfl dX7_asks_66 ?_
    refine g_iload_n C dX7_asks_69 rfl 2 rfl ?_
    obtain ⟨h4, hf⟩ := ck_some hf
    refine g_iald (n := 6) (v := (knows x2.toNatClampNeg)) C 5 rfl h4 rfl rfl dX7_asks_70 ?_
    refine g_if_ne (tgt := 81) C dX7_asks_71 (by decide) (fun c5 => ?_) (fun c5 => ?_)
    · replace hf := ite_f c5 hf
      obtain rfl := Option.some.inj hf
      exact hR _ _ dX7_asks_81
    · replace hf := ite_t c5 hf
      exact k7_asks_74 C hR hf
set_option maxHeartbeats 4000000 in
set_option maxRecDepth 100000 in
theorem c7_asks {l : Launch} {G : gG} {mo mo_now mo_aside mo_past mo_refusals mo_text mo_vars mo_sights mo_isThere mo_taints mo_known mo_knows mo_letters mo_numbers : Nat} {now : Nat → Int32} {states : Int32} {length : Int32} {many : Int32} {steps : Int32} {isCut : Int32} {isThere : Nat → Int32} {taints : Nat → Int32} {known : Nat → Int32} {taint : Int32} {knows : Nat → Int32} {isOther : Int32} {at_ : Int32} {isFaulty : Int32} {orders : Int32} {hash : Int64} {v0 : Int32} {res : (Nat → Int32) × (Nat → Int32) × (Nat → Int32) × Int32 × (Nat → Int32) × Int32} (hf : f7_asks now isThere taints known taint knows isOther v0 = some res) : MV l yX7_asks wsX7_asks rm7_asks G [.ref mo, .int v0] [(mo, oB 7 [.ref mo_now, .ref mo_aside, .ref mo_past, .int states, .ref mo_refusals, .ref mo_text, .int length, .ref mo_vars, .ref mo_sights, .int many, .int steps, .int isCut, .ref mo_isThere, .ref mo_taints, .ref mo_known, .int taint, .ref mo_knows, .int isOther, .int at_, .int isFaulty, .int orders, .ref mo_letters, .ref mo_numbers, .long hash]), (mo_now, aI G 104 now), (mo_isThere, aZ G 21 isThere), (mo_taints, aI G 21 taints), (mo_known, aI G 126 known), (mo_knows, aI G 6 knows)] [(mo, oB 7 [.ref mo_now, .ref mo_aside, .ref mo_past, .int states, .ref mo_refusals, .ref mo_text, .int length, .ref mo_vars, .ref mo_sights, .int many, .int steps, .int isCut, .ref mo_isThere, .ref mo_taints, .ref mo_known, .int res.2.2.2.1, .ref mo_knows, .int res.2.2.2.2.2, .int at_, .int isFaulty, .int orders, .ref mo_letters, .ref mo_numbers, .long hash]), (mo_now, aI G 104 now), (mo_isThere, aZ G 21 res.1), (mo_taints, aI G 21 res.2.1), (mo_known, aI G 126 res.2.2.1), (mo_knows, aI G 6 res.2.2.2.2.1)] := by
  refine MV_of (cc := cX7_asks) (nL := 3) (lv := [(0, .ref mo), (1, .int v0)]) (by decide +kernel) rfl (Nat.le_of_ble_eq_true rfl) rfl ?_
  intro p e s m args below meth c A Q C hR
  unfold f7_asks at hf
  refine g_aload_n C dX7_asks_0 rfl 0 rfl ?_
  refine g_iload_n C dX7_asks_1 rfl 1 rfl ?_
  obtain ⟨q6, hq6, hf⟩ := bs hf
  refine g_callVv (n := 1) (As := [.int v0]) (rest := []) (wc := [(mo, oB 7 [.ref mo_now, .ref mo_aside, .ref mo_past, .int states, .ref mo_refusals, .ref mo_text, .int length, .ref mo_vars, .ref mo_sights, .int many, .int steps, .int isCut, .ref mo_isThere, .ref mo_taints, .ref mo_known, .int taint, .ref mo_knows, .int isOther, .int at_, .int isFaulty, .int orders, .ref mo_letters, .ref mo_numbers, .long hash]), (mo_taints, aI G 21 taints), (mo_known, aI G 126 known), (mo_knows, aI G 6 knows)]) (w1 := [(mo, oB 7 [.ref mo_now, .ref mo_aside, .ref mo_past, .int states, .ref mo_refusals, .ref mo_text, .int length, .ref mo_vars, .ref mo_sights, .int many, .int steps, .int isCut, .ref mo_isThere, .ref mo_taints, .ref mo_known, .int q6.1, .ref mo_knows, .int isOther, .int at_, .int isFaulty, .int orders, .ref mo_letters, .ref mo_numbers, .long hash]), (mo_taints, aI G 21 taints), (mo_known, aI G 126 known), (mo_knows, aI G 6 q6.2)]) (wr := [(mo_now, aI G 104 now), (mo_isThere, aZ G 21 isThere)]) (WS' := [(mo, oB 7 [.ref mo_now, .ref mo_aside, .ref mo_past, .int states, .ref mo_refusals, .ref mo_text, .int length, .ref mo_vars, .ref mo_sights, .int many, .int steps, .int isCut, .ref mo_isThere, .ref mo_taints, .ref mo_known, .int q6.1, .ref mo_knows, .int isOther, .int at_, .int isFaulty, .int orders, .ref mo_letters, .ref mo_numbers, .long hash]), (mo_now, aI G 104 now), (mo_isThere, aZ G 21 isThere), (mo_taints, aI G 21 taints), (mo_known, aI G 126 known), (mo_knows, aI G 6 q6.2)]) C (c7_takes hq6) gX7_asks_X7_takes (by decide +kernel) rfl rfl rfl rfl rfl rfl ⟨by decide, by decide⟩ rfl [0, 3, 4, 5] [1, 2] [2, 0, 1, 3, 4, 5] rfl (by decide) rfl (by decide) (by decide) rfl (by decide) (Nat.le_of_ble_eq_true rfl) ⟨Nat.zero_le _, Nat.zero_le _⟩ rfl dX7_asks_2 ?_
  refine g_aload_n C dX7_asks_5 rfl 0 rfl ?_
  refine g_iload_n C dX7_asks_6 rfl 1 rfl ?_
  refine g_iconst (v := (0 : Int32)) C dX7_asks_7 (by decide +kernel) ?_
  obtain ⟨q7, hq7, hf⟩ := bs hf
  refine g_callVi (n := 2) (As := [.int v0, .int (0 : Int32)]) (rest := []) (wc := [(mo, oB 7 [.ref mo_now, .ref mo_aside, .ref mo_past, .int states, .ref mo_refusals, .ref mo_text, .int length, .ref mo_vars, .ref mo_sights, .int many, .int steps, .int isCut, .ref mo_isThere, .ref mo_taints, .ref mo_known, .int q6.1, .ref mo_knows, .int isOther, .int at_, .int isFaulty, .int orders, .ref mo_letters, .ref mo_numbers, .long hash]), (mo_now, aI G 104 now)]) (w1 := [(mo, oB 7 [.ref mo_now, .ref mo_aside, .ref mo_past, .int states, .ref mo_refusals, .ref mo_text, .int length, .ref mo_vars, .ref mo_sights, .int many, .int steps, .int isCut, .ref mo_isThere, .ref mo_taints, .ref mo_known, .int q6.1, .ref mo_knows, .int isOther, .int at_, .int isFaulty, .int orders, .ref mo_letters, .ref mo_numbers, .long hash]), (mo_now, aI G 104 now)]) (wr := [(mo_isThere, aZ G 21 isThere), (mo_taints, aI G 21 taints), (mo_known, aI G 126 known), (mo_knows, aI G 6 q6.2)]) (WS' := [(mo, oB 7 [.ref mo_now, .ref mo_aside, .ref mo_past, .int states, .ref mo_refusals, .ref mo_text, .int length, .ref mo_vars, .ref mo_sights, .int many, .int steps, .int isCut, .ref mo_isThere, .ref mo_taints, .ref mo_known, .int q6.1, .ref mo_knows, .int isOther, .int at_, .int isFaulty, .int orders, .ref mo_letters, .ref mo_numbers, .long hash]), (mo_now, aI G 104 now), (mo_isThere, aZ G 21 isThere), (mo_taints, aI G 21 taints), (mo_known, aI G 126 known), (mo_knows, aI G 6 q6.2)]) C (c7_partOf hq7) gX7_asks_X7_partOf (by decide +kernel) rfl rfl rfl rfl rfl rfl ⟨by decide, by decide⟩ rfl [0, 1] [2, 3, 4, 5] [4, 5, 0, 1, 2, 3] rfl (by decide) rfl (by decide) (by decide) rfl (by decide) (Nat.le_of_ble_eq_true rfl) ⟨Nat.zero_le _, Nat.zero_le _⟩ rfl dX7_asks_8 ?_
  refine g_bipush (v := (7 : Int32)) C dX7_asks_11 (by decide +kernel) ?_
  refine g_icmp_eq (tgt := 29) C dX7_asks_13 (by decide) (fun c8 => ?_) (fun c8 => ?_)
  · replace hf := ite_t c8 hf
    refine g_aload_n C dX7_asks_29 rfl 0 rfl ?_
    refine g_iload_n C dX7_asks_30 rfl 1 rfl ?_
    refine g_iconst (v := (1 : Int32)) C dX7_asks_31 (by decide +kernel) ?_
    obtain ⟨q9, hq9, hf⟩ := bs hf
    refine g_callVi (n := 2) (As := [.int v0, .int (1 : Int32)]) (rest := []) (wc := [(mo, oB 7 [.ref mo_now, .ref mo_aside, .ref mo_past, .int states, .ref mo_refusals, .ref mo_text, .int length, .ref mo_vars, .ref mo_sights, .int many, .int steps, .int isCut, .ref mo_isThere, .ref mo_taints, .ref mo_known, .int q6.1, .ref mo_knows, .int isOther, .int at_, .int isFaulty, .int orders, .ref mo_letters, .ref mo_numbers, .long hash]), (mo_now, aI G 104 now)]) (w1 := [(mo, oB 7 [.ref mo_now, .ref mo_aside, .ref mo_past, .int states, .ref mo_refusals, .ref mo_text, .int length, .ref mo_vars, .ref mo_sights, .int many, .int steps, .int isCut, .ref mo_isThere, .ref mo_taints, .ref mo_known, .int q6.1, .ref mo_knows, .int isOther, .int at_, .int isFaulty, .int orders, .ref mo_letters, .ref mo_numbers, .long hash]), (mo_now, aI G 104 now)]) (wr := [(mo_isThere, aZ G 21 isThere), (mo_taints, aI G 21 taints), (mo_known, aI G 126 known), (mo_knows, aI G 6 q6.2)]) (WS' := [(mo, oB 7 [.ref mo_now, .ref mo_aside, .ref mo_past, .int states, .ref mo_refusals, .ref mo_text, .int length, .ref mo_vars, .ref mo_sights, .int many, .int steps, .int isCut, .ref mo_isThere, .ref mo_taints, .ref mo_known, .int q6.1, .ref mo_knows, .int isOther, .int at_, .int isFaulty, .int orders, .ref mo_letters, .ref mo_numbers, .long hash]), (mo_now, aI G 104 now), (mo_isThere, aZ G 21 isThere), (mo_taints, aI G 21 taints), (mo_known, aI G 126 known), (mo_knows, aI G 6 q6.2)]) C (c7_partOf hq9) gX7_asks_X7_partOf (by decide +kernel) rfl rfl rfl rfl rfl rfl ⟨by decide, by decide⟩ rfl [0, 1] [2, 3, 4, 5] [4, 5, 0, 1, 2, 3] rfl (by decide) rfl (by decide) (by decide) rfl (by decide) (Nat.le_of_ble_eq_true rfl) ⟨Nat.zero_le _, Nat.zero_le _⟩ rfl dX7_asks_32 ?_
    refine g_istore_n (lv' := [(0, .ref mo), (1, .int v0), (2, .int q9)]) C dX7_asks_35 rfl (by decide) [1, 2, 0] rfl ?_
    refine g_aload_n C dX7_asks_36 rfl 0 rfl ?_
    refine g_get (C0 := RX7) (T := TX7) (N := 24) (ci := 7) (v := .ref mo_knows) C hm7_asks_0 0 rfl rfl 16 (by decide) hm7_asks_1 rfl dX7_asks_37 ?_
    refine g_iload_n C dX7_asks_40 rfl 2 rfl ?_
    obtain ⟨h10, hf⟩ := ck_some hf
    refine g_iald (n := 6) (v := (q6.2 q9.toNatClampNeg)) C 5 rfl h10 rfl rfl dX7_asks_41 ?_
    refine g_if_eq (tgt := 55) C dX7_asks_42 (by decide) (fun c11 => ?_) (fun c11 => ?_)
    · replace hf := ite_t c11 hf
      exact k7_asks_55 C hR hf
    · replace hf := ite_f c11 hf
      refine g_aload_n C dX7_asks_45 rfl 0 rfl ?_
      refine g_aload_n C dX7_asks_46 rfl 0 rfl ?_
      refine g_iload_n C dX7_asks_47 rfl 1 rfl ?_
      refine g_iconst (v := (2 : Int32)) C dX7_asks_48 (by decide +kernel) ?_
      obtain ⟨q12, hq12, hf⟩ := bs hf
      refine g_callVi (n := 2) (As := [.int v0, .int (2 : Int32)]) (rest := [.ref mo]) (wc := [(mo, oB 7 [.ref mo_now, .ref mo_aside, .ref mo_past, .int states, .ref mo_refusals, .ref mo_text, .int length, .ref mo_vars, .ref mo_sights, .int many, .int steps, .int isCut, .ref mo_isThere, .ref mo_taints, .ref mo_known, .int q6.1, .ref mo_knows, .int isOther, .int at_, .int isFaulty, .int orders, .ref mo_letters, .ref mo_numbers, .long hash]), (mo_now, aI G 104 now)]) (w1 := [(mo, oB 7 [.ref mo_now, .ref mo_aside, .ref mo_past, .int states, .ref mo_refusals, .ref mo_text, .int length, .ref mo_vars, .ref mo_sights, .int many, .int steps, .int isCut, .ref mo_isThere, .ref mo_taints, .ref mo_known, .int q6.1, .ref mo_knows, .int isOther, .int at_, .int isFaulty, .int orders, .ref mo_letters, .ref mo_numbers, .long hash]), (mo_now, aI G 104 now)]) (wr := [(mo_isThere, aZ G 21 isThere), (mo_taints, aI G 21 taints), (mo_known, aI G 126 known), (mo_knows, aI G 6 q6.2)]) (WS' := [(mo, oB 7 [.ref mo_now, .ref mo_aside, .ref mo_past, .int states, .ref mo_refusals, .ref mo_text, .int length, .ref mo_vars, .ref mo_sights, .int many, .int steps, .int isCut, .ref mo_isThere, .ref mo_taints, .ref mo_known, .int q6.1, .ref mo_knows, .int isOther, .int at_, .int isFaulty, .int orders, .ref mo_letters, .ref mo_numbers, .long hash]), (mo_now, aI G 104 now), (mo_isThere, aZ G 21 isThere), (mo_taints, aI G 21 taints), (mo_known, aI G 126 known), (mo_knows, aI G 6 q6.2)]) C (c7_partOf hq12) gX7_asks_X7_partOf (by decide +kernel) rfl rfl rfl rfl rfl rfl ⟨by decide, by decide⟩ rfl [0, 1] [2, 3, 4, 5] [4, 5, 0, 1, 2, 3] rfl (by decide) rfl (by decide) (by decide) rfl (by decide) (Nat.le_of_ble_eq_true rfl) ⟨Nat.zero_le _, Nat.zero_le _⟩ rfl dX7_asks_49 ?_
      obtain ⟨q13, hq13, hf⟩ := bs hf
      refine g_callVv (n := 1) (As := [.int q12]) (rest := []) (wc := [(mo, oB 7 [.ref mo_now, .ref mo_aside, .ref mo_past, .int states, .ref mo_refusals, .ref mo_text, .int length, .ref mo_vars, .ref mo_sights, .int many, .int steps, .int isCut, .ref mo_isThere, .ref mo_taints, .ref mo_known, .int q6.1, .ref mo_knows, .int isOther, .int at_, .int isFaulty, .int orders, .ref mo_letters, .ref mo_numbers, .long hash]), (mo_now, aI G 104 now), (mo_isThere, aZ G 21 isThere), (mo_taints, aI G 21 taints), (mo_known, aI G 126 known), (mo_knows, aI G 6 q6.2)]) (w1 := [(mo, oB 7 [.ref mo_now, .ref mo_aside, .ref mo_past, .int states, .ref mo_refusals, .ref mo_text, .int length, .ref mo_vars, .ref mo_sights, .int many, .int steps, .int isCut, .ref mo_isThere, .ref mo_taints, .ref mo_known, .int q6.1, .ref mo_knows, .int q13.2.2.2, .int at_, .int isFaulty, .int orders, .ref mo_letters, .ref mo_numbers, .long hash]), (mo_now, aI G 104 now), (mo_isThere, aZ G 21 q13.1), (mo_taints, aI G 21 q13.2.1), (mo_known, aI G 126 q13.2.2.1), (mo_knows, aI G 6 q6.2)]) (wr := []) (WS' := [(mo, oB 7 [.ref mo_now, .ref mo_aside, .ref mo_past, .int states, .ref mo_refusals, .ref mo_text, .int length, .ref mo_vars, .ref mo_sights, .int many, .int steps, .int isCut, .ref mo_isThere, .ref mo_taints, .ref mo_known, .int q6.1, .ref mo_knows, .int q13.2.2.2, .int at_, .int isFaulty, .int orders, .ref mo_letters, .ref mo_numbers, .long hash]), (mo_now, aI G 104 now), (mo_isThere, aZ G 21 q13.1), (mo_taints, aI G 21 q13.2.1), (mo_known, aI G 126 q13.2.2.1), (mo_knows, aI G 6 q6.2)]) C (c7_comesTo hq13) gX7_asks_X7_comesTo (by decide +kernel) rfl rfl rfl rfl rfl rfl ⟨by decide, by decide⟩ rfl [0, 1, 2, 3, 4, 5] [] [0, 1, 2, 3, 4, 5] rfl (by decide) rfl (by decide) (by decide) rfl (by decide) (Nat.le_of_ble_eq_true rfl) ⟨Nat.zero_le _, Nat.zero_le _⟩ rfl dX7_asks_52 ?_
      exact k7_asks_55 C hR hf
  · replace hf := ite_f c8 hf
    refine g_aload_n C dX7_asks_16 rfl 0 rfl ?_
    refine g_iload_n C dX7_asks_17 rfl 1 rfl ?_
    obtain ⟨q14, hq14, hf⟩ := bs hf
    refine g_callVv (n := 1) (As := [.int v0]) (rest := []) (wc := [(mo, oB 7 [.ref mo_now, .ref mo_aside, .ref mo_past, .int states, .ref mo_refusals, .ref mo_text, .int length, .ref mo_vars, .ref mo_sights, .int many, .int steps, .int isCut, .ref mo_isThere, .ref mo_taints, .ref mo_known, .int q6.1, .ref mo_knows, .int isOther, .int at_, .int isFaulty, .int orders, .ref mo_letters, .ref mo_numbers, .long hash]), (mo_now, aI G 104 now), (mo_knows, aI G 6 q6.2)]) (w1 := [(mo, oB 7 [.ref mo_now, .ref mo_aside, .ref mo_past, .int states, .ref mo_refusals, .ref mo_text, .int length, .ref mo_vars, .ref mo_sights, .int many, .int steps, .int isCut, .ref mo_isThere, .ref mo_taints, .ref mo_known, .int q14.1, .ref mo_knows, .int isOther, .int at_, .int isFaulty, .int orders, .ref mo_letters, .ref mo_numbers, .long hash]), (mo_now, aI G 104 now), (mo_knows, aI G 6 q14.2)]) (wr := [(mo_isThere, aZ G 21 isThere), (mo_taints, aI G 21 taints), (mo_known, aI G 126 known)]) (WS' := [(mo, oB 7 [.ref mo_now, .ref mo_aside, .ref mo_past, .int states, .ref mo_refusals, .ref mo_text, .int length, .ref mo_vars, .ref mo_sights, .int many, .int steps, .int isCut, .ref mo_isThere, .ref mo_taints, .ref mo_known, .int q14.1, .ref mo_knows, .int isOther, .int at_, .int isFaulty, .int orders, .ref mo_letters, .ref mo_numbers, .long hash]), (mo_now, aI G 104 now), (mo_isThere, aZ G 21 isThere), (mo_taints, aI G 21 taints), (mo_known, aI G 126 known), (mo_knows, aI G 6 q14.2)]) C (c7_tellsLine hq14) gX7_asks_X7_tellsLine (by decide +kernel) rfl rfl rfl rfl rfl rfl ⟨by decide, by decide⟩ rfl [0, 1, 5] [2, 3, 4] [3, 4, 0, 1, 2, 5] rfl (by decide) rfl (by decide) (by decide) rfl (by decide) (Nat.le_of_ble_eq_true rfl) ⟨Nat.zero_le _, Nat.zero_le _⟩ rfl dX7_asks_18 ?_
    refine g_aload_n C dX7_asks_21 rfl 0 rfl ?_
    refine g_iload_n C dX7_asks_22 rfl 1 rfl ?_
    refine g_iconst (v := (1 : Int32)) C dX7_asks_23 (by decide +kernel) ?_
    refine g_iadd C dX7_asks_24 ?_
    obtain ⟨q15, hq15, hf⟩ := bs hf
    refine g_callVv (n := 1) (As := [.int (v0 + (1 : Int32))]) (rest := []) (wc := [(mo, oB 7 [.ref mo_now, .ref mo_aside, .ref mo_past, .int states, .ref mo_refusals, .ref mo_text, .int length, .ref mo_vars, .ref mo_sights, .int many, .int steps, .int isCut, .ref mo_isThere, .ref mo_taints, .ref mo_known, .int q14.1, .ref mo_knows, .int isOther, .int at_, .int isFaulty, .int orders, .ref mo_letters, .ref mo_numbers, .long hash]), (mo_now, aI G 104 now), (mo_isThere, aZ G 21 isThere), (mo_taints, aI G 21 taints), (mo_known, aI G 126 known), (mo_knows, aI G 6 q14.2)]) (w1 := [(mo, oB 7 [.ref mo_now, .ref mo_aside, .ref mo_past, .int states, .ref mo_refusals, .ref mo_text, .int length, .ref mo_vars, .ref mo_sights, .int many, .int steps, .int isCut, .ref mo_isThere, .ref mo_taints, .ref mo_known, .int q14.1, .ref mo_knows, .int q15.2.2.2, .int at_, .int isFaulty, .int orders, .ref mo_letters, .ref mo_numbers, .long hash]), (mo_now, aI G 104 now), (mo_isThere, aZ G 21 q15.1), (mo_taints, aI G 21 q15.2.1), (mo_known, aI G 126 q15.2.2.1), (mo_knows, aI G 6 q14.2)]) (wr := []) (WS' := [(mo, oB 7 [.ref mo_now, .ref mo_aside, .ref mo_past, .int states, .ref mo_refusals, .ref mo_text, .int length, .ref mo_vars, .ref mo_sights, .int many, .int steps, .int isCut, .ref mo_isThere, .ref mo_taints, .ref mo_known, .int q14.1, .ref mo_knows, .int q15.2.2.2, .int at_, .int isFaulty, .int orders, .ref mo_letters, .ref mo_numbers, .long hash]), (mo_now, aI G 104 now), (mo_isThere, aZ G 21 q15.1), (mo_taints, aI G 21 q15.2.1), (mo_known, aI G 126 q15.2.2.1), (mo_knows, aI G 6 q14.2)]) C (c7_comesTo hq15) gX7_asks_X7_comesTo (by decide +kernel) rfl rfl rfl rfl rfl rfl ⟨by decide, by decide⟩ rfl [0, 1, 2, 3, 4, 5] [] [0, 1, 2, 3, 4, 5] rfl (by decide) rfl (by decide) (by decide) rfl (by decide) (Nat.le_of_ble_eq_true rfl) ⟨Nat.zero_le _, Nat.zero_le _⟩ rfl dX7_asks_25 ?_
    obtain rfl := Option.some.inj hf
    exact hR _ _ dX7_asks_28

-- X7_laysLines
def f7_laysLines_87b (now : Nat → Int32) (k73 : (Nat → Int32) × (Nat → Int32) × (Nat → Int32) × Int32 × (Nat → Int32) × Int32 × Int32 → Option ((Nat → Int32) × (Nat → Int32) × (Nat → Int32) × Int32 × (Nat → Int32) × Int32)) (k87 : (Nat → Int32) × (Nat → Int32) × (Nat → Int32) × Int32 × (Nat → Int32) × Int32 × Int32 → Option ((Nat → Int32) × (Nat → Int32) × (Nat → Int32) × Int32 × (Nat → Int32) × Int32)) (isThere : Nat → Int32) (taints : Nat → Int32) (known : Nat → Int32) (taint : Int32) (knows : Nat → Int32) (isOther : Int32) (x1 : Int32) : Option ((Nat → Int32) × (Nat → Int32) × (Nat → Int32) × Int32 × (Nat → Int32) × Int32) :=
  if (now 0) ≤ x1 then
    (k73 (isThere, taints, known, taint, knows, isOther, x1))
    else (ck (inb x1 21) <|
    if (isThere x1.toNatClampNeg) = 0 then
    (k87 (isThere, taints, known, taint, knows, isOther, (x1 + (1 : Int32))))
    else ((f7_asks now isThere taints known taint knows isOther x1).bind <| fun q4 =>
    k87 (q4.1, q4.2.1, q4.2.2.1, q4.2.2.2.1, q4.2.2.2.2.1, q4.2.2.2.2.2, (x1 + (1 : Int32)))))
def f7_laysLines_87 (now : Nat → Int32) (k73 : (Nat → Int32) × (Nat → Int32) × (Nat → Int32) × Int32 × (Nat → Int32) × Int32 × Int32 → Option ((Nat → Int32) × (Nat → Int32) × (Nat → Int32) × Int32 × (Nat → Int32) × Int32)) (n : Nat) (s : (Nat → Int32) × (Nat → Int32) × (Nat → Int32) × Int32 × (Nat → Int32) × Int32 × Int32) : Option ((Nat → Int32) × (Nat → Int32) × (Nat → Int32) × Int32 × (Nat → Int32) × Int32) := itf (fun k s => f7_laysLines_87b now k73 k s.1 s.2.1 s.2.2.1 s.2.2.2.1 s.2.2.2.2.1 s.2.2.2.2.2.1 s.2.2.2.2.2.2) n s
def f7_laysLines_73b (now : Nat → Int32) (k73 : (Nat → Int32) × (Nat → Int32) × (Nat → Int32) × Int32 × (Nat → Int32) × Int32 × Int32 → Option ((Nat → Int32) × (Nat → Int32) × (Nat → Int32) × Int32 × (Nat → Int32) × Int32)) (isThere : Nat → Int32) (taints : Nat → Int32) (known : Nat → Int32) (taint : Int32) (knows : Nat → Int32) (isOther : Int32) (x1 : Int32) : Option ((Nat → Int32) × (Nat → Int32) × (Nat → Int32) × Int32 × (Nat → Int32) × Int32) :=
  if isOther = 0 then
    (some (isThere, taints, known, taint, knows, isOther))
    else (f7_laysLines_87 now k73 1000 (isThere, taints, known, taint, knows, (0 : Int32), (0 : Int32)))
def f7_laysLines_73 (now : Nat → Int32) (n : Nat) (s : (Nat → Int32) × (Nat → Int32) × (Nat → Int32) × Int32 × (Nat → Int32) × Int32 × Int32) : Option ((Nat → Int32) × (Nat → Int32) × (Nat → Int32) × Int32 × (Nat → Int32) × Int32) := itf (fun k s => f7_laysLines_73b now k s.1 s.2.1 s.2.2.1 s.2.2.2.1 s.2.2.2.2.1 s.2.2.2.2.2.1 s.2.2.2.2.2.2) n s
def f7_laysLines_63 (now : Nat → Int32) (isThere : Nat → Int32) (taints : Nat → Int32) (known : Nat → Int32) (taint : Int32) (knows : Nat → Int32) (isOther : Int32) (x1 : Int32) : Option ((Nat → Int32) × (Nat → Int32) × (Nat → Int32) × Int32 × (Nat → Int32) × Int32) :=
  (f7_comesTo now taint knows isThere taints known isOther (0 : Int32)).bind <| fun q6 =>
    f7_laysLines_73 now 1000 (q6.1, q6.2.1, q6.2.2.1, taint, knows, (1 : Int32), x1)
def f7_laysLines_44b (now : Nat → Int32) (k44 : (Nat → Int32) × (Nat → Int32) × (Nat → Int32) × Int32 × (Nat → Int32) × Int32 × Int32 → Option ((Nat → Int32) × (Nat → Int32) × (Nat → Int32) × Int32 × (Nat → Int32) × Int32)) (isThere : Nat → Int32) (taints : Nat → Int32) (known : Nat → Int32) (taint : Int32) (knows : Nat → Int32) (isOther : Int32) (x1 : Int32) : Option ((Nat → Int32) × (Nat → Int32) × (Nat → Int32) × Int32 × (Nat → Int32) × Int32) :=
  if (6 : Int32) ≤ x1 then
    (f7_laysLines_63 now isThere taints known taint knows isOther x1)
    else (ck (inb x1 6) <|
    k44 (isThere, taints, known, taint, (upd knows x1.toNatClampNeg (-1 : Int32)), isOther, (x1 + (1 : Int32))))
def f7_laysLines_44 (now : Nat → Int32) (n : Nat) (s : (Nat → Int32) × (Nat → Int32) × (Nat → Int32) × Int32 × (Nat → Int32) × Int32 × Int32) : Option ((Nat → Int32) × (Nat → Int32) × (Nat → Int32) × Int32 × (Nat → Int32) × Int32) := itf (fun k s => f7_laysLines_44b now k s.1 s.2.1 s.2.2.1 s.2.2.2.1 s.2.2.2.2.1 s.2.2.2.2.2.1 s.2.2.2.2.2.2) n s
def f7_laysLines_32 (now : Nat → Int32) (isThere : Nat → Int32) (taints : Nat → Int32) (known : Nat → Int32) (taint : Int32) (knows : Nat → Int32) (isOther : Int32) (x1 : Int32) : Option ((Nat → Int32) × (Nat → Int32) × (Nat → Int32) × Int32 × (Nat → Int32) × Int32) :=
  f7_laysLines_44 now 1000 (isThere, taints, known, (now 1), knows, isOther, (0 : Int32))
def f7_laysLines_2b (now : Nat → Int32) (k2 : (Nat → Int32) × (Nat → Int32) × (Nat → Int32) × Int32 × (Nat → Int32) × Int32 × Int32 → Option ((Nat → Int32) × (Nat → Int32) × (Nat → Int32) × Int32 × (Nat → Int32) × Int32)) (isThere : Nat → Int32) (taints : Nat → Int32) (known : Nat → Int32) (taint : Int32) (knows : Nat → Int32) (isOther : Int32) (x1 : Int32) : Option ((Nat → Int32) × (Nat → Int32) × (Nat → Int32) × Int32 × (Nat → Int32) × Int32) :=
  if (now 0) < x1 then
    (f7_laysLines_32 now isThere taints known taint knows isOther x1)
    else (ck (inb x1 21) <|
    ck (inb x1 21) <|
    k2 ((upd isThere x1.toNatClampNeg (0 : Int32)), (upd taints x1.toNatClampNeg (0 : Int32)), known, taint, knows, isOther, (x1 + (1 : Int32))))
def f7_laysLines_2 (now : Nat → Int32) (n : Nat) (s : (Nat → Int32) × (Nat → Int32) × (Nat → Int32) × Int32 × (Nat → Int32) × Int32 × Int32) : Option ((Nat → Int32) × (Nat → Int32) × (Nat → Int32) × Int32 × (Nat → Int32) × Int32) := itf (fun k s => f7_laysLines_2b now k s.1 s.2.1 s.2.2.1 s.2.2.2.1 s.2.2.2.2.1 s.2.2.2.2.2.1 s.2.2.2.2.2.2) n s
def f7_laysLines (now : Nat → Int32) (isThere : Nat → Int32) (taints : Nat → Int32) (known : Nat → Int32) (taint : Int32) (knows : Nat → Int32) (isOther : Int32) : Option ((Nat → Int32) × (Nat → Int32) × (Nat → Int32) × Int32 × (Nat → Int32) × Int32) :=
  f7_laysLines_2 now 1000 (isThere, taints, known, taint, knows, isOther, (0 : Int32))
def rm7_laysLines : Room := { frames := 5, cells := 0, slots := 0, locals := 115 }
theorem hm7_laysLines_0 : ∀ w ∈ u_ws RX7 TX7 24, w ∈ wsX7_laysLines := by decide +kernel
theorem hm7_laysLines_1 : Cond.fieldLink RX7 7 "SecretStepsModel" "now" "[I" ∈ wsX7_laysLines := by decide +kernel
theorem hm7_laysLines_2 : Cond.fieldLink RX7 31 "SecretStepsModel" "isThere" "[Z" ∈ wsX7_laysLines := by decide +kernel
theorem hm7_laysLines_3 : Cond.fieldLink RX7 170 "SecretStepsModel" "isOther" "Z" ∈ wsX7_laysLines := by decide +kernel
theorem hm7_laysLines_4 : Cond.fieldLink RX7 41 "SecretStepsModel" "knows" "[I" ∈ wsX7_laysLines := by decide +kernel
theorem hm7_laysLines_5 : Cond.fieldLink RX7 173 "SecretStepsModel" "taint" "I" ∈ wsX7_laysLines := by decide +kernel
theorem hm7_laysLines_6 : Cond.fieldLink RX7 35 "SecretStepsModel" "taints" "[I" ∈ wsX7_laysLines := by decide +kernel
set_option maxHeartbeats 4000000 in
set_option maxRecDepth 100000 in
theorem k7_laysLines_87b {p : Program} {l : Launch} {e : Env} {s : State} {m : MethodId} {args : Array Value} {below : List Frame} {meth : Method} {c : Code} {G : gG} {A : Nat → Prop} {Q : State → Prop} {mo mo_now mo_aside mo_past mo_refusals mo_text mo_vars mo_sights mo_isThere mo_taints mo_known mo_knows mo_letters mo_numbers : Nat} (C : CX p s m args meth c G A cX7_laysLines 2 RX7 wsX7_laysLines) {states : Int32} {length : Int32} {many : Int32} {steps : Int32} {isCut : Int32} {at_ : Int32} {isFaulty : Int32} {orders : Int32} {hash : Int64} {now : Nat → Int32} {k73 : (Nat → Int32) × (Nat → Int32) × (Nat → Int32) × Int32 × (Nat → Int32) × Int32 × Int32 → Option ((Nat → Int32) × (Nat → Int32) × (Nat → Int32) × Int32 × (Nat → Int32) × Int32)} {k87 : (Nat → Int32) × (Nat → Int32) × (Nat → Int32) × Int32 × (Nat → Int32) × Int32 × Int32 → Option ((Nat → Int32) × (Nat → Int32) × (Nat → Int32) × Int32 × (Nat → Int32) × Int32)} {isThere : Nat → Int32} {taints : Nat → Int32} {known : Nat → Int32} {taint : Int32} {knows : Nat → Int32} {isOther : Int32} {x1 : Int32} {res : (Nat → Int32) × (Nat → Int32) × (Nat → Int32) × Int32 × (Nat → Int32) × Int32} (hR : ∀ (lv : List (Nat × Value)) (pc : Nat), decode cX7_laysLines pc = .ok (.return_, 1) → GG p l e rm7_laysLines s m args below meth c G A 2 0 0 Q [(mo, oB 7 [.ref mo_now, .ref mo_aside, .ref mo_past, .int states, .ref mo_refusals, .ref mo_text, .int length, .ref mo_vars, .ref mo_sights, .int many, .int steps, .int isCut, .ref mo_isThere, .ref mo_taints, .ref mo_known, .int res.2.2.2.1, .ref mo_knows, .int res.2.2.2.2.2, .int at_, .int isFaulty, .int orders, .ref mo_letters, .ref mo_numbers, .long hash]), (mo_now, aI G 104 now), (mo_isThere, aZ G 21 res.1), (mo_taints, aI G 21 res.2.1), (mo_known, aI G 126 res.2.2.1), (mo_knows, aI G 6 res.2.2.2.2.1)] lv pc [])
    (hk73 : ∀ s', k73 s' = some res → GG p l e rm7_laysLines s m args below meth c G A 2 0 0 Q [(mo, oB 7 [.ref mo_now, .ref mo_aside, .ref mo_past, .int states, .ref mo_refusals, .ref mo_text, .int length, .ref mo_vars, .ref mo_sights, .int many, .int steps, .int isCut, .ref mo_isThere, .ref mo_taints, .ref mo_known, .int s'.2.2.2.1, .ref mo_knows, .int s'.2.2.2.2.2.1, .int at_, .int isFaulty, .int orders, .ref mo_letters, .ref mo_numbers, .long hash]), (mo_now, aI G 104 now), (mo_isThere, aZ G 21 s'.1), (mo_taints, aI G 21 s'.2.1), (mo_known, aI G 126 s'.2.2.1), (mo_knows, aI G 6 s'.2.2.2.2.1)] [(0, .ref mo), (1, .int s'.2.2.2.2.2.2)] 73 [])
    (hk87 : ∀ s', k87 s' = some res → GG p l e rm7_laysLines s m args below meth c G A 2 0 0 Q [(mo, oB 7 [.ref mo_now, .ref mo_aside, .ref mo_past, .int states, .ref mo_refusals, .ref mo_text, .int length, .ref mo_vars, .ref mo_sights, .int many, .int steps, .int isCut, .ref mo_isThere, .ref mo_taints, .ref mo_known, .int s'.2.2.2.1, .ref mo_knows, .int s'.2.2.2.2.2.1, .int at_, .int isFaulty, .int orders, .ref mo_letters, .ref mo_numbers, .long hash]), (mo_now, aI G 104 now), (mo_isThere, aZ G 21 s'.1), (mo_taints, aI G 21 s'.2.1), (mo_known, aI G 126 s'.2.2.1), (mo_knows, aI G 6 s'.2.2.2.2.1)] [(0, .ref mo), (1, .int s'.2.2.2.2.2.2)] 87 [])
    (hf : f7_laysLines_87b now k73 k87 isThere taints known taint knows isOther x1 = some res) : GG p l e rm7_laysLines s m args below meth c G A 2 0 0 Q [(mo, oB 7 [.ref mo_now, .ref mo_aside, .ref mo_past, .int states, .ref mo_refusals, .ref mo_text, .int length, .ref mo_vars, .ref mo_sights, .int many, .int steps, .int isCut, .ref mo_isThere, .ref mo_taints, .ref mo_known, .int taint, .ref mo_knows, .int isOther, .int at_, .int isFaulty, .int orders, .ref mo_letters, .ref mo_numbers, .long hash]), (mo_now, aI G 104 now), (mo_isThere, aZ G 21 isThere), (mo_taints, aI G 21 taints), (mo_known, aI G 126 known), (mo_knows, aI G 6 knows)] [(0, .ref mo), (1, .int x1)] 87 [] := by
  unfold f7_laysLines_87b at hf
  refine g_iload_n C dX7_laysLines_87 rfl 1 rfl ?_
  refine g_aload_n C dX7_laysLines_88 rfl 0 rfl ?_
  refine g_get (C0 := RX7) (T := TX7) (N := 24) (ci := 7) (v := .ref mo_now) C hm7_laysLines_0 0 rfl rfl 0 (by decide) hm7_laysLines_1 rfl dX7_laysLines_89 ?_
  refine g_iconst (v := (0 : Int32)) C dX7_laysLines_92 (by decide +kernel) ?_
  refine g_iald (n := 104) (v := (now 0)) C 1 rfl (by decide +kernel) (by decide +kernel) rfl dX7_laysLines_93 ?_
  refine g_icmp_ge (tgt := 117) C dX7_laysLines_94 (by decide) (fun c1 => ?_) (fun c1 => ?_)
  · replace hf := ite_t c1 hf
    refine g_goto (tgt := 73) C dX7_laysLines_117 (by decide) ?_
    exact hk73 _ hf
  · replace hf := ite_f c1 hf
    refine g_aload_n C dX7_laysLines_97 rfl 0 rfl ?_
    refine g_get (C0 := RX7) (T := TX7) (N := 24) (ci := 7) (v := .ref mo_isThere) C hm7_laysLines_0 0 rfl rfl 12 (by decide) hm7_laysLines_2 rfl dX7_laysLines_98 ?_
    refine g_iload_n C dX7_laysLines_101 rfl 1 rfl ?_
    obtain ⟨h2, hf⟩ := ck_some hf
    refine g_zald (n := 21) (v := (isThere x1.toNatClampNeg)) C 2 rfl h2 rfl rfl dX7_laysLines_102 ?_
    refine g_if_eq (tgt := 111) C dX7_laysLines_103 (by decide) (fun c3 => ?_) (fun c3 => ?_)
    · replace hf := ite_t c3 hf
      refine g_iinc (v := (x1 + (1 : Int32))) (lv' := [(0, .ref mo), (1, .int (x1 + (1 : Int32)))]) C dX7_laysLines_111 1 rfl rfl (by decide) [1, 0] rfl ?_
      refine g_goto (tgt := 87) C dX7_laysLines_114 (by decide) ?_
      exact hk87 _ hf
    · replace hf := ite_f c3 hf
      refine g_aload_n C dX7_laysLines_106 rfl 0 rfl ?_
      refine g_iload_n C dX7_laysLines_107 rfl 1 rfl ?_
      obtain ⟨q4, hq4, hf⟩ := bs hf
      refine g_callVv (n := 1) (As := [.int x1]) (rest := []) (wc := [(mo, oB 7 [.ref mo_now, .ref mo_aside, .ref mo_past, .int states, .ref mo_refusals, .ref mo_text, .int length, .ref mo_vars, .ref mo_sights, .int many, .int steps, .int isCut, .ref mo_isThere, .ref mo_taints, .ref mo_known, .int taint, .ref mo_knows, .int isOther, .int at_, .int isFaulty, .int orders, .ref mo_letters, .ref mo_numbers, .long hash]), (mo_now, aI G 104 now), (mo_isThere, aZ G 21 isThere), (mo_taints, aI G 21 taints), (mo_known, aI G 126 known), (mo_knows, aI G 6 knows)]) (w1 := [(mo, oB 7 [.ref mo_now, .ref mo_aside, .ref mo_past, .int states, .ref mo_refusals, .ref mo_text, .int length, .ref mo_vars, .ref mo_sights, .int many, .int steps, .int isCut, .ref mo_isThere, .ref mo_taints, .ref mo_known, .int q4.2.2.2.1, .ref mo_knows, .int q4.2.2.2.2.2, .int at_, .int isFaulty, .int orders, .ref mo_letters, .ref mo_numbers, .long hash]), (mo_now, aI G 104 now), (mo_isThere, aZ G 21 q4.1), (mo_taints, aI G 21 q4.2.1), (mo_known, aI G 126 q4.2.2.1), (mo_knows, aI G 6 q4.2.2.2.2.1)]) (wr := []) (WS' := [(mo, oB 7 [.ref mo_now, .ref mo_aside, .ref mo_past, .int states, .ref mo_refusals, .ref mo_text, .int length, .ref mo_vars, .ref mo_sights, .int many, .int steps, .int isCut, .ref mo_isThere, .ref mo_taints, .ref mo_known, .int q4.2.2.2.1, .ref mo_knows, .int q4.2.2.2.2.2, .int at_, .int isFaulty, .int orders, .ref mo_letters, .ref mo_numbers, .long hash]), (mo_now, aI G 104 now), (mo_isThere, aZ G 21 q4.1), (mo_taints, aI G 21 q4.2.1), (mo_known, aI G 126 q4.2.2.1), (mo_knows, aI G 6 q4.2.2.2.2.1)]) C (c7_asks hq4) gX7_laysLines_X7_asks (by decide +kernel) rfl rfl rfl rfl rfl rfl ⟨by decide, by decide⟩ rfl [0, 1, 2, 3, 4, 5] [] [0, 1, 2, 3, 4, 5] rfl (by decide) rfl (by decide) (by decide) rfl (by decide) (Nat.le_of_ble_eq_true rfl) ⟨Nat.zero_le _, Nat.zero_le _⟩ rfl dX7_laysLines_108 ?_
      refine g_iinc (v := (x1 + (1 : Int32))) (lv' := [(0, .ref mo), (1, .int (x1 + (1 : Int32)))]) C dX7_laysLines_111 1 rfl rfl (by decide) [1, 0] rfl ?_
      refine g_goto (tgt := 87) C dX7_laysLines_114 (by decide) ?_
      exact hk87 _ hf
set_option maxHeartbeats 4000000 in
set_option maxRecDepth 100000 in
theorem k7_laysLines_87 {p : Program} {l : Launch} {e : Env} {s : State} {m : MethodId} {args : Array Value} {below : List Frame} {meth : Method} {c : Code} {G : gG} {A : Nat → Prop} {Q : State → Prop} {mo mo_now mo_aside mo_past mo_refusals mo_text mo_vars mo_sights mo_isThere mo_taints mo_known mo_knows mo_letters mo_numbers : Nat} (C : CX p s m args meth c G A cX7_laysLines 2 RX7 wsX7_laysLines) {states : Int32} {length : Int32} {many : Int32} {steps : Int32} {isCut : Int32} {at_ : Int32} {isFaulty : Int32} {orders : Int32} {hash : Int64} {now : Nat → Int32} {k73 : (Nat → Int32) × (Nat → Int32) × (Nat → Int32) × Int32 × (Nat → Int32) × Int32 × Int32 → Option ((Nat → Int32) × (Nat → Int32) × (Nat → Int32) × Int32 × (Nat → Int32) × Int32)} {res : (Nat → Int32) × (Nat → Int32) × (Nat → Int32) × Int32 × (Nat → Int32) × Int32} (hR : ∀ (lv : List (Nat × Value)) (pc : Nat), decode cX7_laysLines pc = .ok (.return_, 1) → GG p l e rm7_laysLines s m args below meth c G A 2 0 0 Q [(mo, oB 7 [.ref mo_now, .ref mo_aside, .ref mo_past, .int states, .ref mo_refusals, .ref mo_text, .int length, .ref mo_vars, .ref mo_sights, .int many, .int steps, .int isCut, .ref mo_isThere, .ref mo_taints, .ref mo_known, .int res.2.2.2.1, .ref mo_knows, .int res.2.2.2.2.2, .int at_, .int isFaulty, .int orders, .ref mo_letters, .ref mo_numbers, .long hash]), (mo_now, aI G 104 now), (mo_isThere, aZ G 21 res.1), (mo_taints, aI G 21 res.2.1), (mo_known, aI G 126 res.2.2.1), (mo_knows, aI G 6 res.2.2.2.2.1)] lv pc [])
    (hk73 : ∀ s', k73 s' = some res → GG p l e rm7_laysLines s m args below meth c G A 2 0 0 Q [(mo, oB 7 [.ref mo_now, .ref mo_aside, .ref mo_past, .int states, .ref mo_refusals, .ref mo_text, .int length, .ref mo_vars, .ref mo_sights, .int many, .int steps, .int isCut, .ref mo_isThere, .ref mo_taints, .ref mo_known, .int s'.2.2.2.1, .ref mo_knows, .int s'.2.2.2.2.2.1, .int at_, .int isFaulty, .int orders, .ref mo_letters, .ref mo_numbers, .long hash]), (mo_now, aI G 104 now), (mo_isThere, aZ G 21 s'.1), (mo_taints, aI G 21 s'.2.1), (mo_known, aI G 126 s'.2.2.1), (mo_knows, aI G 6 s'.2.2.2.2.1)] [(0, .ref mo), (1, .int s'.2.2.2.2.2.2)] 73 []) : ∀ (n : Nat) (s1 : (Nat → Int32) × (Nat → Int32) × (Nat → Int32) × Int32 × (Nat → Int32) × Int32 × Int32), f7_laysLines_87 now k73 n s1 = some res → GG p l e rm7_laysLines s m args below meth c G A 2 0 0 Q [(mo, oB 7 [.ref mo_now, .ref mo_aside, .ref mo_past, .int states, .ref mo_refusals, .ref mo_text, .int length, .ref mo_vars, .ref mo_sights, .int many, .int steps, .int isCut, .ref mo_isThere, .ref mo_taints, .ref mo_known, .int s1.2.2.2.1, .ref mo_knows, .int s1.2.2.2.2.2.1, .int at_, .int isFaulty, .int orders, .ref mo_letters, .ref mo_numbers, .long hash]), (mo_now, aI G 104 now), (mo_isThere, aZ G 21 s1.1), (mo_taints, aI G 21 s1.2.1), (mo_known, aI G 126 s1.2.2.1), (mo_knows, aI G 6 s1.2.2.2.2.1)] [(0, .ref mo), (1, .int s1.2.2.2.2.2.2)] 87 [] :=
  itf_ind (fun k s1 ih hf => k7_laysLines_87b C hR hk73 ih hf)
set_option maxHeartbeats 4000000 in
set_option maxRecDepth 100000 in
theorem k7_laysLines_73b {p : Program} {l : Launch} {e : Env} {s : State} {m : MethodId} {args : Array Value} {below : List Frame} {meth : Method} {c : Code} {G : gG} {A : Nat → Prop} {Q : State → Prop} {mo mo_now mo_aside mo_past mo_refusals mo_text mo_vars mo_sights mo_isThere mo_taints mo_known mo_knows mo_letters mo_numbers : Nat} (C : CX p s m args meth c G A cX7_laysLines 2 RX7 wsX7_laysLines) {states : Int32} {length : Int32} {many : Int32} {steps : Int32} {isCut : Int32} {at_ : Int32} {isFaulty : Int32} {orders : Int32} {hash : Int64} {now : Nat → Int32} {k73 : (Nat → Int32) × (Nat → Int32) × (Nat → Int32) × Int32 × (Nat → Int32) × Int32 × Int32 → Option ((Nat → Int32) × (Nat → Int32) × (Nat → Int32) × Int32 × (Nat → Int32) × Int32)} {isThere : Nat → Int32} {taints : Nat → Int32} {known : Nat → Int32} {taint : Int32} {knows : Nat → Int32} {isOther : Int32} {x1 : Int32} {res : (Nat → Int32) × (Nat → Int32) × (Nat → Int32) × Int32 × (Nat → Int32) × Int32} (hR : ∀ (lv : List (Nat × Value)) (pc : Nat), decode cX7_laysLines pc = .ok (.return_, 1) → GG p l e rm7_laysLines s m args below meth c G A 2 0 0 Q [(mo, oB 7 [.ref mo_now, .ref mo_aside, .ref mo_past, .int states, .ref mo_refusals, .ref mo_text, .int length, .ref mo_vars, .ref mo_sights, .int many, .int steps, .int isCut, .ref mo_isThere, .ref mo_taints, .ref mo_known, .int res.2.2.2.1, .ref mo_knows, .int res.2.2.2.2.2, .int at_, .int isFaulty, .int orders, .ref mo_letters, .ref mo_numbers, .long hash]), (mo_now, aI G 104 now), (mo_isThere, aZ G 21 res.1), (mo_taints, aI G 21 res.2.1), (mo_known, aI G 126 res.2.2.1), (mo_knows, aI G 6 res.2.2.2.2.1)] lv pc [])
    (hk73 : ∀ s', k73 s' = some res → GG p l e rm7_laysLines s m args below meth c G A 2 0 0 Q [(mo, oB 7 [.ref mo_now, .ref mo_aside, .ref mo_past, .int states, .ref mo_refusals, .ref mo_text, .int length, .ref mo_vars, .ref mo_sights, .int many, .int steps, .int isCut, .ref mo_isThere, .ref mo_taints, .ref mo_known, .int s'.2.2.2.1, .ref mo_knows, .int s'.2.2.2.2.2.1, .int at_, .int isFaulty, .int orders, .ref mo_letters, .ref mo_numbers, .long hash]), (mo_now, aI G 104 now), (mo_isThere, aZ G 21 s'.1), (mo_taints, aI G 21 s'.2.1), (mo_known, aI G 126 s'.2.2.1), (mo_knows, aI G 6 s'.2.2.2.2.1)] [(0, .ref mo), (1, .int s'.2.2.2.2.2.2)] 73 [])
    (hf : f7_laysLines_73b now k73 isThere taints known taint knows isOther x1 = some res) : GG p l e rm7_laysLines s m args below meth c G A 2 0 0 Q [(mo, oB 7 [.ref mo_now, .ref mo_aside, .ref mo_past, .int states, .ref mo_refusals, .ref mo_text, .int length, .ref mo_vars, .ref mo_sights, .int many, .int steps, .int isCut, .ref mo_isThere, .ref mo_taints, .ref mo_known, .int taint, .ref mo_knows, .int isOther, .int at_, .int isFaulty, .int orders, .ref mo_letters, .ref mo_numbers, .long hash]), (mo_now, aI G 104 now), (mo_isThere, aZ G 21 isThere), (mo_taints, aI G 21 taints), (mo_known, aI G 126 known), (mo_knows, aI G 6 knows)] [(0, .ref mo), (1, .int x1)] 73 [] := by
  unfold f7_laysLines_73b at hf
  refine g_aload_n C dX7_laysLines_73 rfl 0 rfl ?_
  refine g_get (C0 := RX7) (T := TX7) (N := 24) (ci := 7) (v := .int isOther) C hm7_laysLines_0 0 rfl rfl 17 (by decide) hm7_laysLines_3 rfl dX7_laysLines_74 ?_
  refine g_if_eq (tgt := 120) C dX7_laysLines_77 (by decide) (fun c5 => ?_) (fun c5 => ?_)
  · replace hf := ite_t c5 hf
    obtain rfl := Option.some.inj hf
    exact hR _ _ dX7_laysLines_120
  · replace hf := ite_f c5 hf
    refine g_aload_n C dX7_laysLines_80 rfl 0 rfl ?_
    refine g_iconst (v := (0 : Int32)) C dX7_laysLines_81 (by decide +kernel) ?_
    refine g_put (C0 := RX7) (T := TX7) (N := 24) (ci := 7) (ty := .boolean) (WS' := [(mo, oB 7 [.ref mo_now, .ref mo_aside, .ref mo_past, .int states, .ref mo_refusals, .ref mo_text, .int length, .ref mo_vars, .ref mo_sights, .int many, .int steps, .int isCut, .ref mo_isThere, .ref mo_taints, .ref mo_known, .int taint, .ref mo_knows, .int (0 : Int32), .int at_, .int isFaulty, .int orders, .ref mo_letters, .ref mo_numbers, .long hash]), (mo_now, aI G 104 now), (mo_isThere, aZ G 21 isThere), (mo_taints, aI G 21 taints), (mo_known, aI G 126 known), (mo_knows, aI G 6 knows)]) C hm7_laysLines_0 tyX7 tyX7_ok nmX7 0 rfl rfl 17 (by decide) hm7_laysLines_3 rfl rfl rfl rfl (Nat.le_of_ble_eq_true rfl) dX7_laysLines_82 rfl ?_
    refine g_iconst (v := (0 : Int32)) C dX7_laysLines_85 (by decide +kernel) ?_
    refine g_istore_n (lv' := [(0, .ref mo), (1, .int (0 : Int32))]) C dX7_laysLines_86 rfl (by decide) [1, 0] rfl ?_
    exact k7_laysLines_87 C hR hk73 _ _ hf
set_option maxHeartbeats 4000000 in
set_option maxRecDepth 100000 in
theorem k7_laysLines_73 {p : Program} {l : Launch} {e : Env} {s : State} {m : MethodId} {args : Array Value} {below : List Frame} {meth : Method} {c : Code} {G : gG} {A : Nat → Prop} {Q : State → Prop} {mo mo_now mo_aside mo_past mo_refusals mo_text mo_vars mo_sights mo_isThere mo_taints mo_known mo_knows mo_letters mo_numbers : Nat} (C : CX p s m args meth c G A cX7_laysLines 2 RX7 wsX7_laysLines) {states : Int32} {length : Int32} {many : Int32} {steps : Int32} {isCut : Int32} {at_ : Int32} {isFaulty : Int32} {orders : Int32} {hash : Int64} {now : Nat → Int32} {res : (Nat → Int32) × (Nat → Int32) × (Nat → Int32) × Int32 × (Nat → Int32) × Int32} (hR : ∀ (lv : List (Nat × Value)) (pc : Nat), decode cX7_laysLines pc = .ok (.return_, 1) → GG p l e rm7_laysLines s m args below meth c G A 2 0 0 Q [(mo, oB 7 [.ref mo_now, .ref mo_aside, .ref mo_past, .int states, .ref mo_refusals, .ref mo_text, .int length, .ref mo_vars, .ref mo_sights, .int many, .int steps, .int isCut, .ref mo_isThere, .ref mo_taints, .ref mo_known, .int res.2.2.2.1, .ref mo_knows, .int res.2.2.2.2.2, .int at_, .int isFaulty, .int orders, .ref mo_letters, .ref mo_numbers, .long hash]), (mo_now, aI G 104 now), (mo_isThere, aZ G 21 res.1), (mo_taints, aI G 21 res.2.1), (mo_known, aI G 126 res.2.2.1), (mo_knows, aI G 6 res.2.2.2.2.1)] lv pc []) : ∀ (n : Nat) (s1 : (Nat → Int32) × (Nat → Int32) × (Nat → Int32) × Int32 × (Nat → Int32) × Int32 × Int32), f7_laysLines_73 now n s1 = some res → GG p l e rm7_laysLines s m args below meth c G A 2 0 0 Q [(mo, oB 7 [.ref mo_now, .ref mo_aside, .ref mo_past, .int states, .ref mo_refusals, .ref mo_text, .int length, .ref mo_vars, .ref mo_sights, .int many, .int steps, .int isCut, .ref mo_isThere, .ref mo_taints, .ref mo_known, .int s1.2.2.2.1, .ref mo_knows, .int s1.2.2.2.2.2.1, .int at_, .int isFaulty, .int orders, .ref mo_letters, .ref mo_numbers, .long hash]), (mo_now, aI G 104 now), (mo_isThere, aZ G 21 s1.1), (mo_taints, aI G 21 s1.2.1), (mo_known, aI G 126 s1.2.2.1), (mo_knows, aI G 6 s1.2.2.2.2.1)] [(0, .ref mo), (1, .int s1.2.2.2.2.2.2)] 73 [] :=
  itf_ind (fun k s1 ih hf => k7_laysLines_73b C hR ih hf)
set_option maxHeartbeats 4000000 in
set_option maxRecDepth 100000 in
theorem k7_laysLines_63 {p : Program} {l : Launch} {e : Env} {s : State} {m : MethodId} {args : Array Value} {below : List Frame} {meth : Method} {c : Code} {G : gG} {A : Nat → Prop} {Q : State → Prop} {mo mo_now mo_aside mo_past mo_refusals mo_text mo_vars mo_sights mo_isThere mo_taints mo_known mo_knows mo_letters mo_numbers : Nat} (C : CX p s m args meth c G A cX7_laysLines 2 RX7 wsX7_laysLines) {states : Int32} {length : Int32} {many : Int32} {steps : Int32} {isCut : Int32} {at_ : Int32} {isFaulty : Int32} {orders : Int32} {hash : Int64} {now : Nat → Int32} {isThere : Nat → Int32} {taints : Nat → Int32} {known : Nat → Int32} {taint : Int32} {knows : Nat → Int32} {isOther : Int32} {x1 : Int32} {res : (Nat → Int32) × (Nat → Int32) × (Nat → Int32) × Int32 × (Nat → Int32) × Int32} (hR : ∀ (lv : List (Nat × Value)) (pc : Nat), decode cX7_laysLines pc = .ok (.return_, 1) → GG p l e rm7_laysLines s m args below meth c G A 2 0 0 Q [(mo, oB 7 [.ref mo_now, .ref mo_aside, .ref mo_past, .int states, .ref mo_refusals, .ref mo_text, .int length, .ref mo_vars, .ref mo_sights, .int many, .int steps, .int isCut, .ref mo_isThere, .ref mo_taints, .ref mo_known, .int res.2.2.2.1, .ref mo_knows, .int res.2.2.2.2.2, .int at_, .int isFaulty, .int orders, .ref mo_letters, .ref mo_numbers, .long hash]), (mo_now, aI G 104 now), (mo_isThere, aZ G 21 res.1), (mo_taints, aI G 21 res.2.1), (mo_known, aI G 126 res.2.2.1), (mo_knows, aI G 6 res.2.2.2.2.1)] lv pc [])
    (hf : f7_laysLines_63 now isThere taints known taint knows isOther x1 = some res) : GG p l e rm7_laysLines s m args below meth c G A 2 0 0 Q [(mo, oB 7 [.ref mo_now, .ref mo_aside, .ref mo_past, .int states, .ref mo_refusals, .ref mo_text, .int length, .ref mo_vars, .ref mo_sights, .int many, .int steps, .int isCut, .ref mo_isThere, .ref mo_taints, .ref mo_known, .int taint, .ref mo_knows, .int isOther, .int at_, .int isFaulty, .int orders, .ref mo_letters, .ref mo_numbers, .long hash]), (mo_now, aI G 104 now), (mo_isThere, aZ G 21 isThere), (mo_taints, aI G 21 taints), (mo_known, aI G 126 known), (mo_knows, aI G 6 knows)] [(0, .ref mo), (1, .int x1)] 63 [] := by
  unfold f7_laysLines_63 at hf
  refine g_aload_n C dX7_laysLines_63 rfl 0 rfl ?_
  refine g_iconst (v := (0 : Int32)) C dX7_laysLines_64 (by decide +kernel) ?_
  obtain ⟨q6, hq6, hf⟩ := bs hf
  refine g_callVv (n := 1) (As := [.int (0 : Int32)]) (rest := []) (wc := [(mo, oB 7 [.ref mo_now, .ref mo_aside, .ref mo_past, .int states, .ref mo_refusals, .ref mo_text, .int length, .ref mo_vars, .ref mo_sights, .int many, .int steps, .int isCut, .ref mo_isThere, .ref mo_taints, .ref mo_known, .int taint, .ref mo_knows, .int isOther, .int at_, .int isFaulty, .int orders, .ref mo_letters, .ref mo_numbers, .long hash]), (mo_now, aI G 104 now), (mo_isThere, aZ G 21 isThere), (mo_taints, aI G 21 taints), (mo_known, aI G 126 known), (mo_knows, aI G 6 knows)]) (w1 := [(mo, oB 7 [.ref mo_now, .ref mo_aside, .ref mo_past, .int states, .ref mo_refusals, .ref mo_text, .int length, .ref mo_vars, .ref mo_sights, .int many, .int steps, .int isCut, .ref mo_isThere, .ref mo_taints, .ref mo_known, .int taint, .ref mo_knows, .int q6.2.2.2, .int at_, .int isFaulty, .int orders, .ref mo_letters, .ref mo_numbers, .long hash]), (mo_now, aI G 104 now), (mo_isThere, aZ G 21 q6.1), (mo_taints, aI G 21 q6.2.1), (mo_known, aI G 126 q6.2.2.1), (mo_knows, aI G 6 knows)]) (wr := []) (WS' := [(mo, oB 7 [.ref mo_now, .ref mo_aside, .ref mo_past, .int states, .ref mo_refusals, .ref mo_text, .int length, .ref mo_vars, .ref mo_sights, .int many, .int steps, .int isCut, .ref mo_isThere, .ref mo_taints, .ref mo_known, .int taint, .ref mo_knows, .int q6.2.2.2, .int at_, .int isFaulty, .int orders, .ref mo_letters, .ref mo_numbers, .long hash]), (mo_now, aI G 104 now), (mo_isThere, aZ G 21 q6.1), (mo_taints, aI G 21 q6.2.1), (mo_known, aI G 126 q6.2.2.1), (mo_knows, aI G 6 knows)]) C (c7_comesTo hq6) gX7_laysLines_X7_comesTo (by decide +kernel) rfl rfl rfl rfl rfl rfl ⟨by decide, by decide⟩ rfl [0, 1, 2, 3, 4, 5] [] [0, 1, 2, 3, 4, 5] rfl (by decide) rfl (by decide) (by decide) rfl (by decide) (Nat.le_of_ble_eq_true rfl) ⟨Nat.zero_le _, Nat.zero_le _⟩ rfl dX7_laysLines_65 ?_
  refine g_aload_n C dX7_laysLines_68 rfl 0 rfl ?_
  refine g_iconst (v := (1 : Int32)) C dX7_laysLines_69 (by decide +kernel) ?_
  refine g_put (C0 := RX7) (T := TX7) (N := 24) (ci := 7) (ty := .boolean) (WS' := [(mo, oB 7 [.ref mo_now, .ref mo_aside, .ref mo_past, .int states, .ref mo_refusals, .ref mo_text, .int length, .ref mo_vars, .ref mo_sights, .int many, .int steps, .int isCut, .ref mo_isThere, .ref mo_taints, .ref mo_known, .int taint, .ref mo_knows, .int (1 : Int32), .int at_, .int isFaulty, .int orders, .ref mo_letters, .ref mo_numbers, .long hash]), (mo_now, aI G 104 now), (mo_isThere, aZ G 21 q6.1), (mo_taints, aI G 21 q6.2.1), (mo_known, aI G 126 q6.2.2.1), (mo_knows, aI G 6 knows)]) C hm7_laysLines_0 tyX7 tyX7_ok nmX7 0 rfl rfl 17 (by decide) hm7_laysLines_3 rfl rfl rfl rfl (Nat.le_of_ble_eq_true rfl) dX7_laysLines_70 rfl ?_
  exact k7_laysLines_73 C hR _ _ hf
set_option maxHeartbeats 4000000 in
set_option maxRecDepth 100000 in
theorem k7_laysLines_44b {p : Program} {l : Launch} {e : Env} {s : State} {m : MethodId} {args : Array Value} {below : List Frame} {meth : Method} {c : Code} {G : gG} {A : Nat → Prop} {Q : State → Prop} {mo mo_now mo_aside mo_past mo_refusals mo_text mo_vars mo_sights mo_isThere mo_taints mo_known mo_knows mo_letters mo_numbers : Nat} (C : CX p s m args meth c G A cX7_laysLines 2 RX7 wsX7_laysLines) {states : Int32} {length : Int32} {many : Int32} {steps : Int32} {isCut : Int32} {at_ : Int32} {isFaulty : Int32} {orders : Int32} {hash : Int64} {now : Nat → Int32} {k44 : (Nat → Int32) × (Nat → Int32) × (Nat → Int32) × Int32 × (Nat → Int32) × Int32 × Int32 → Option ((Nat → Int32) × (Nat → Int32) × (Nat → Int32) × Int32 × (Nat → Int32) × Int32)} {isThere : Nat → Int32} {taints : Nat → Int32} {known : Nat → Int32} {taint : Int32} {knows : Nat → Int32} {isOther : Int32} {x1 : Int32} {res : (Nat → Int32) × (Nat → Int32) × (Nat → Int32) × Int32 × (Nat → Int32) × Int32} (hR : ∀ (lv : List (Nat × Value)) (pc : Nat), decode cX7_laysLines pc = .ok (.return_, 1) → GG p l e rm7_laysLines s m args below meth c G A 2 0 0 Q [(mo, oB 7 [.ref mo_now, .ref mo_aside, .ref mo_past, .int states, .ref mo_refusals, .ref mo_text, .int length, .ref mo_vars, .ref mo_sights, .int many, .int steps, .int isCut, .ref mo_isThere, .ref mo_taints, .ref mo_known, .int res.2.2.2.1, .ref mo_knows, .int res.2.2.2.2.2, .int at_, .int isFaulty, .int orders, .ref mo_letters, .ref mo_numbers, .long hash]), (mo_now, aI G 104 now), (mo_isThere, aZ G 21 res.1), (mo_taints, aI G 21 res.2.1), (mo_known, aI G 126 res.2.2.1), (mo_knows, aI G 6 res.2.2.2.2.1)] lv pc [])
    (hk44 : ∀ s', k44 s' = some res → GG p l e rm7_laysLines s m args below meth c G A 2 0 0 Q [(mo, oB 7 [.ref mo_now, .ref mo_aside, .ref mo_past, .int states, .ref mo_refusals, .ref mo_text, .int length, .ref mo_vars, .ref mo_sights, .int many, .int steps, .int isCut, .ref mo_isThere, .ref mo_taints, .ref mo_known, .int s'.2.2.2.1, .ref mo_knows, .int s'.2.2.2.2.2.1, .int at_, .int isFaulty, .int orders, .ref mo_letters, .ref mo_numbers, .long hash]), (mo_now, aI G 104 now), (mo_isThere, aZ G 21 s'.1), (mo_taints, aI G 21 s'.2.1), (mo_known, aI G 126 s'.2.2.1), (mo_knows, aI G 6 s'.2.2.2.2.1)] [(0, .ref mo), (1, .int s'.2.2.2.2.2.2)] 44 [])
    (hf : f7_laysLines_44b now k44 isThere taints known taint knows isOther x1 = some res) : GG p l e rm7_laysLines s m args below meth c G A 2 0 0 Q [(mo, oB 7 [.ref mo_now, .ref mo_aside, .ref mo_past, .int states, .ref mo_refusals, .ref mo_text, .int length, .ref mo_vars, .ref mo_sights, .int many, .int steps, .int isCut, .ref mo_isThere, .ref mo_taints, .ref mo_known, .int taint, .ref mo_knows, .int isOther, .int at_, .int isFaulty, .int orders, .ref mo_letters, .ref mo_numbers, .long hash]), (mo_now, aI G 104 now), (mo_isThere, aZ G 21 isThere), (mo_taints, aI G 21 taints), (mo_known, aI G 126 known), (mo_knows, aI G 6 knows)] [(0, .ref mo), (1, .int x1)] 44 [] := by
  unfold f7_laysLines_44b at hf
  refine g_iload_n C dX7_laysLines_44 rfl 1 rfl ?_
  refine g_bipush (v := (6 : Int32)) C dX7_laysLines_45 (by decide +kernel) ?_
  refine g_icmp_ge (tgt := 63) C dX7_laysLines_47 (by decide) (fun c7 => ?_) (fun c7 => ?_)
  · replace hf := ite_t c7 hf
    exact k7_laysLines_63 C hR hf
  · replace hf := ite_f c7 hf
    refine g_aload_n C dX7_laysLines_50 rfl 0 rfl ?_
    refine g_get (C0 := RX7) (T := TX7) (N := 24) (ci := 7) (v := .ref mo_knows) C hm7_laysLines_0 0 rfl rfl 16 (by decide) hm7_laysLines_4 rfl dX7_laysLines_51 ?_
    refine g_iload_n C dX7_laysLines_54 rfl 1 rfl ?_
    refine g_iconst (v := (-1 : Int32)) C dX7_laysLines_55 (by decide +kernel) ?_
    obtain ⟨h8, hf⟩ := ck_some hf
    refine g_iast (n := 6) (WS' := [(mo, oB 7 [.ref mo_now, .ref mo_aside, .ref mo_past, .int states, .ref mo_refusals, .ref mo_text, .int length, .ref mo_vars, .ref mo_sights, .int many, .int steps, .int isCut, .ref mo_isThere, .ref mo_taints, .ref mo_known, .int taint, .ref mo_knows, .int isOther, .int at_, .int isFaulty, .int orders, .ref mo_letters, .ref mo_numbers, .long hash]), (mo_now, aI G 104 now), (mo_isThere, aZ G 21 isThere), (mo_taints, aI G 21 taints), (mo_known, aI G 126 known), (mo_knows, aI G 6 (upd knows x1.toNatClampNeg (-1 : Int32)))]) C 5 rfl h8 rfl dX7_laysLines_56 rfl ?_
    refine g_iinc (v := (x1 + (1 : Int32))) (lv' := [(0, .ref mo), (1, .int (x1 + (1 : Int32)))]) C dX7_laysLines_57 1 rfl rfl (by decide) [1, 0] rfl ?_
    refine g_goto (tgt := 44) C dX7_laysLines_60 (by decide) ?_
    exact hk44 _ hf
set_option maxHeartbeats 4000000 in
set_option maxRecDepth 100000 in
theorem k7_laysLines_44 {p : Program} {l : Launch} {e : Env} {s : State} {m : MethodId} {args : Array Value} {below : List Frame} {meth : Method} {c : Code} {G : gG} {A : Nat → Prop} {Q : State → Prop} {mo mo_now mo_aside mo_past mo_refusals mo_text mo_vars mo_sights mo_isThere mo_taints mo_known mo_knows mo_letters mo_numbers : Nat} (C : CX p s m args meth c G A cX7_laysLines 2 RX7 wsX7_laysLines) {states : Int32} {length : Int32} {many : Int32} {steps : Int32} {isCut : Int32} {at_ : Int32} {isFaulty : Int32} {orders : Int32} {hash : Int64} {now : Nat → Int32} {res : (Nat → Int32) × (Nat → Int32) × (Nat → Int32) × Int32 × (Nat → Int32) × Int32} (hR : ∀ (lv : List (Nat × Value)) (pc : Nat), decode cX7_laysLines pc = .ok (.return_, 1) → GG p l e rm7_laysLines s m args below meth c G A 2 0 0 Q [(mo, oB 7 [.ref mo_now, .ref mo_aside, .ref mo_past, .int states, .ref mo_refusals, .ref mo_text, .int length, .ref mo_vars, .ref mo_sights, .int many, .int steps, .int isCut, .ref mo_isThere, .ref mo_taints, .ref mo_known, .int res.2.2.2.1, .ref mo_knows, .int res.2.2.2.2.2, .int at_, .int isFaulty, .int orders, .ref mo_letters, .ref mo_numbers, .long hash]), (mo_now, aI G 104 now), (mo_isThere, aZ G 21 res.1), (mo_taints, aI G 21 res.2.1), (mo_known, aI G 126 res.2.2.1), (mo_knows, aI G 6 res.2.2.2.2.1)] lv pc []) : ∀ (n : Nat) (s1 : (Nat → Int32) × (Nat → Int32) × (Nat → Int32) × Int32 × (Nat → Int32) × Int32 × Int32), f7_laysLines_44 now n s1 = some res → GG p l e rm7_laysLines s m args below meth c G A 2 0 0 Q [(mo, oB 7 [.ref mo_now, .ref mo_aside, .ref mo_past, .int states, .ref mo_refusals, .ref mo_text, .int length, .ref mo_vars, .ref mo_sights, .int many, .int steps, .int isCut, .ref mo_isThere, .ref mo_taints, .ref mo_known, .int s1.2.2.2.1, .ref mo_knows, .int s1.2.2.2.2.2.1, .int at_, .int isFaulty, .int orders, .ref mo_letters, .ref mo_numbers, .long hash]), (mo_now, aI G 104 now), (mo_isThere, aZ G 21 s1.1), (mo_taints, aI G 21 s1.2.1), (mo_known, aI G 126 s1.2.2.1), (mo_knows, aI G 6 s1.2.2.2.2.1)] [(0, .ref mo), (1, .int s1.2.2.2.2.2.2)] 44 [] :=
  itf_ind (fun k s1 ih hf => k7_laysLines_44b C hR ih hf)
set_option maxHeartbeats 4000000 in
set_option maxRecDepth 100000 in
theorem k7_laysLines_32 {p : Program} {l : Launch} {e : Env} {s : State} {m : MethodId} {args : Array Value} {below : List Frame} {meth : Method} {c : Code} {G : gG} {A : Nat → Prop} {Q : State → Prop} {mo mo_now mo_aside mo_past mo_refusals mo_text mo_vars mo_sights mo_isThere mo_taints mo_known mo_knows mo_letters mo_numbers : Nat} (C : CX p s m args meth c G A cX7_laysLines 2 RX7 wsX7_laysLines) {states : Int32} {length : Int32} {many : Int32} {steps : Int32} {isCut : Int32} {at_ : Int32} {isFaulty : Int32} {orders : Int32} {hash : Int64} {now : Nat → Int32} {isThere : Nat → Int32} {taints : Nat → Int32} {known : Nat → Int32} {taint : Int32} {knows : Nat → Int32} {isOther : Int32} {x1 : Int32} {res : (Nat → Int32) × (Nat → Int32) × (Nat → Int32) × Int32 × (Nat → Int32) × Int32} (hR : ∀ (lv : List (Nat × Value)) (pc : Nat), decode cX7_laysLines pc = .ok (.return_, 1) → GG p l e rm7_laysLines s m args below meth c G A 2 0 0 Q [(mo, oB 7 [.ref mo_now, .ref mo_aside, .ref mo_past, .int states, .ref mo_refusals, .ref mo_text, .int length, .ref mo_vars, .ref mo_sights, .int many, .int steps, .int isCut, .ref mo_isThere, .ref mo_taints, .ref mo_known, .int res.2.2.2.1, .ref mo_knows, .int res.2.2.2.2.2, .int at_, .int isFaulty, .int orders, .ref mo_letters, .ref mo_numbers, .long hash]), (mo_now, aI G 104 now), (mo_isThere, aZ G 21 res.1), (mo_taints, aI G 21 res.2.1), (mo_known, aI G 126 res.2.2.1), (mo_knows, aI G 6 res.2.2.2.2.1)] lv pc [])
    (hf : f7_laysLines_32 now isThere taints known taint knows isOther x1 = some res) : GG p l e rm7_laysLines s m args below meth c G A 2 0 0 Q [(mo, oB 7 [.ref mo_now, .ref mo_aside, .ref mo_past, .int states, .ref mo_refusals, .ref mo_text, .int length, .ref mo_vars, .ref mo_sights, .int many, .int steps, .int isCut, .ref mo_isThere, .ref mo_taints, .ref mo_known, .int taint, .ref mo_knows, .int isOther, .int at_, .int isFaulty, .int orders, .ref mo_letters, .ref mo_numbers, .long hash]), (mo_now, aI G 104 now), (mo_isThere, aZ G 21 isThere), (mo_taints, aI G 21 taints), (mo_known, aI G 126 known), (mo_knows, aI G 6 knows)] [(0, .ref mo), (1, .int x1)] 32 [] := by
  unfold f7_laysLines_32 at hf
  refine g_aload_n C dX7_laysLines_32 rfl 0 rfl ?_
  refine g_aload_n C dX7_laysLines_33 rfl 0 rfl ?_
  refine g_get (C0 := RX7) (T := TX7) (N := 24) (ci := 7) (v := .ref mo_now) C hm7_laysLines_0 0 rfl rfl 0 (by decide) hm7_laysLines_1 rfl dX7_laysLines_34 ?_
  refine g_iconst (v := (1 : Int32)) C dX7_laysLines_37 (by decide +kernel) ?_
  refine g_iald (n := 104) (v := (now 1)) C 1 rfl (by decide +kernel) (by decide +kernel) rfl dX7_laysLines_38 ?_
  refine g_put (C0 := RX7) (T := TX7) (N := 24) (ci := 7) (ty := .int) (WS' := [(mo, oB 7 [.ref mo_now, .ref mo_aside, .ref mo_past, .int states, .ref mo_refusals, .ref mo_text, .int length, .ref mo_vars, .ref mo_sights, .int many, .int steps, .int isCut, .ref mo_isThere, .ref mo_taints, .ref mo_known, .int (now 1), .ref mo_knows, .int isOther, .int at_, .int isFaulty, .int orders, .ref mo_letters, .ref mo_numbers, .long hash]), (mo_now, aI G 104 now), (mo_isThere, aZ G 21 isThere), (mo_taints, aI G 21 taints), (mo_known, aI G 126 known), (mo_knows, aI G 6 knows)]) C hm7_laysLines_0 tyX7 tyX7_ok nmX7 0 rfl rfl 15 (by decide) hm7_laysLines_5 rfl rfl rfl rfl (Nat.le_of_ble_eq_true rfl) dX7_laysLines_39 rfl ?_
  refine g_iconst (v := (0 : Int32)) C dX7_laysLines_42 (by decide +kernel) ?_
  refine g_istore_n (lv' := [(0, .ref mo), (1, .int (0 : Int32))]) C dX7_laysLines_43 rfl (by decide) [1, 0] rfl ?_
  exact k7_laysLines_44 C hR _ _ hf
set_option maxHeartbeats 4000000 in
set_option maxRecDepth 100000 in
theorem k7_laysLines_2b {p : Program} {l : Launch} {e : Env} {s : State} {m : MethodId} {args : Array Value} {below : List Frame} {meth : Method} {c : Code} {G : gG} {A : Nat → Prop} {Q : State → Prop} {mo mo_now mo_aside mo_past mo_refusals mo_text mo_vars mo_sights mo_isThere mo_taints mo_known mo_knows mo_letters mo_numbers : Nat} (C : CX p s m args meth c G A cX7_laysLines 2 RX7 wsX7_laysLines) {states : Int32} {length : Int32} {many : Int32} {steps : Int32} {isCut : Int32} {at_ : Int32} {isFaulty : Int32} {orders : Int32} {hash : Int64} {now : Nat → Int32} {k2 : (Nat → Int32) × (Nat → Int32) × (Nat → Int32) × Int32 × (Nat → Int32) × Int32 × Int32 → Option ((Nat → Int32) × (Nat → Int32) × (Nat → Int32) × Int32 × (Nat → Int32) × Int32)} {isThere : Nat → Int32} {taints : Nat → Int32} {known : Nat → Int32} {taint : Int32} {knows : Nat → Int32} {isOther : Int32} {x1 : Int32} {res : (Nat → Int32) × (Nat → Int32) × (Nat → Int32) × Int32 × (Nat → Int32) × Int32} (hR : ∀ (lv : List (Nat × Value)) (pc : Nat), decode cX7_laysLines pc = .ok (.return_, 1) → GG p l e rm7_laysLines s m args below meth c G A 2 0 0 Q [(mo, oB 7 [.ref mo_now, .ref mo_aside, .ref mo_past, .int states, .ref mo_refusals, .ref mo_text, .int length, .ref mo_vars, .ref mo_sights, .int many, .int steps, .int isCut, .ref mo_isThere, .ref mo_taints, .ref mo_known, .int res.2.2.2.1, .ref mo_knows, .int res.2.2.2.2.2, .int at_, .int isFaulty, .int orders, .ref mo_letters, .ref mo_numbers, .long hash]), (mo_now, aI G 104 now), (mo_isThere, aZ G 21 res.1), (mo_taints, aI G 21 res.2.1), (mo_known, aI G 126 res.2.2.1), (mo_knows, aI G 6 res.2.2.2.2.1)] lv pc [])
    (hk2 : ∀ s', k2 s' = some res → GG p l e rm7_laysLines s m args below meth c G A 2 0 0 Q [(mo, oB 7 [.ref mo_now, .ref mo_aside, .ref mo_past, .int states, .ref mo_refusals, .ref mo_text, .int length, .ref mo_vars, .ref mo_sights, .int many, .int steps, .int isCut, .ref mo_isThere, .ref mo_taints, .ref mo_known, .int s'.2.2.2.1, .ref mo_knows, .int s'.2.2.2.2.2.1, .int at_, .int isFaulty, .int orders, .ref mo_letters, .ref mo_numbers, .long hash]), (mo_now, aI G 104 now), (mo_isThere, aZ G 21 s'.1), (mo_taints, aI G 21 s'.2.1), (mo_known, aI G 126 s'.2.2.1), (mo_knows, aI G 6 s'.2.2.2.2.1)] [(0, .ref mo), (1, .int s'.2.2.2.2.2.2)] 2 [])
    (hf : f7_laysLines_2b now k2 isThere taints known taint knows isOther x1 = some res) : GG p l e rm7_laysLines s m args below meth c G A 2 0 0 Q [(mo, oB 7 [.ref mo_now, .ref mo_aside, .ref mo_past, .int states, .ref mo_refusals, .ref mo_text, .int length, .ref mo_vars, .ref mo_sights, .int many, .int steps, .int isCut, .ref mo_isThere, .ref mo_taints, .ref mo_known, .int taint, .ref mo_knows, .int isOther, .int at_, .int isFaulty, .int orders, .ref mo_letters, .ref mo_numbers, .long hash]), (mo_now, aI G 104 now), (mo_isThere, aZ G 21 isThere), (mo_taints, aI G 21 taints), (mo_known, aI G 126 known), (mo_knows, aI G 6 knows)] [(0, .ref mo), (1, .int x1)] 2 [] := by
  unfold f7_laysLines_2b at hf
  refine g_iload_n C dX7_laysLines_2 rfl 1 rfl ?_
  refine g_aload_n C dX7_laysLines_3 rfl 0 rfl ?_
  refine g_get (C0 := RX7) (T := TX7) (N := 24) (ci := 7) (v := .ref mo_now) C hm7_laysLines_0 0 rfl rfl 0 (by decide) hm7_laysLines_1 rfl dX7_laysLines_4 ?_
  refine g_iconst (v := (0 : Int32)) C dX7_laysLines_7 (by decide +kernel) ?_
  refine g_iald (n := 104) (v := (now 0)) C 1 rfl (by decide +kernel) (by decide +kernel) rfl dX7_laysLines_8 ?_
  refine g_icmp_gt (tgt := 32) C dX7_laysLines_9 (by decide) (fun c9 => ?_) (fun c9 => ?_)
  · replace hf := ite_t c9 hf
    exact k7_laysLines_32 C hR hf
  · replace hf := ite_f c9 hf
    refine g_aload_n C dX7_laysLines_12 rfl 0 rfl ?_
    refine g_get (C0 := RX7) (T := TX7) (N := 24) (ci := 7) (v := .ref mo_isThere) C hm7_laysLines_0 0 rfl rfl 12 (by decide) hm7_laysLines_2 rfl dX7_laysLines_13 ?_
    refine g_iload_n C dX7_laysLines_16 rfl 1 rfl ?_
    refine g_iconst (v := (0 : Int32)) C dX7_laysLines_17 (by decide +kernel) ?_
    obtain ⟨h10, hf⟩ := ck_some hf
    refine g_zast (n := 21) (WS' := [(mo, oB 7 [.ref mo_now, .ref mo_aside, .ref mo_past, .int states, .ref mo_refusals, .ref mo_text, .int length, .ref mo_vars, .ref mo_sights, .int many, .int steps, .int isCut, .ref mo_isThere, .ref mo_taints, .ref mo_known, .int taint, .ref mo_knows, .int isOther, .int at_, .int isFaulty, .int orders, .ref mo_letters, .ref mo_numbers, .long hash]), (mo_now, aI G 104 now), (mo_isThere, aZ G 21 (upd isThere x1.toNatClampNeg (0 : Int32))), (mo_taints, aI G 21 taints), (mo_known, aI G 126 known), (mo_knows, aI G 6 knows)]) C 2 rfl h10 rfl (by decide +kernel) dX7_laysLines_18 rfl ?_
    refine g_aload_n C dX7_laysLines_19 rfl 0 rfl ?_
    refine g_get (C0 := RX7) (T := TX7) (N := 24) (ci := 7) (v := .ref mo_taints) C hm7_laysLines_0 0 rfl rfl 13 (by decide) hm7_laysLines_6 rfl dX7_laysLines_20 ?_
    refine g_iload_n C dX7_laysLines_23 rfl 1 rfl ?_
    refine g_iconst (v := (0 : Int32)) C dX7_laysLines_24 (by decide +kernel) ?_
    obtain ⟨h11, hf⟩ := ck_some hf
    refine g_iast (n := 21) (WS' := [(mo, oB 7 [.ref mo_now, .ref mo_aside, .ref mo_past, .int states, .ref mo_refusals, .ref mo_text, .int length, .ref mo_vars, .ref mo_sights, .int many, .int steps, .int isCut, .ref mo_isThere, .ref mo_taints, .ref mo_known, .int taint, .ref mo_knows, .int isOther, .int at_, .int isFaulty, .int orders, .ref mo_letters, .ref mo_numbers, .long hash]), (mo_now, aI G 104 now), (mo_isThere, aZ G 21 (upd isThere x1.toNatClampNeg (0 : Int32))), (mo_taints, aI G 21 (upd taints x1.toNatClampNeg (0 : Int32))), (mo_known, aI G 126 known), (mo_knows, aI G 6 knows)]) C 3 rfl h11 rfl dX7_laysLines_25 rfl ?_
    refine g_iinc (v := (x1 + (1 : Int32))) (lv' := [(0, .ref mo), (1, .int (x1 + (1 : Int32)))]) C dX7_laysLines_26 1 rfl rfl (by decide) [1, 0] rfl ?_
    refine g_goto (tgt := 2) C dX7_laysLines_29 (by decide) ?_
    exact hk2 _ hf
set_option maxHeartbeats 4000000 in
set_option maxRecDepth 100000 in
theorem k7_laysLines_2 {p : Program} {l : Launch} {e : Env} {s : State} {m : MethodId} {args : Array Value} {below : List Frame} {meth : Method} {c : Code} {G : gG} {A : Nat → Prop} {Q : State → Prop} {mo mo_now mo_aside mo_past mo_refusals mo_text mo_vars mo_sights mo_isThere mo_taints mo_known mo_knows mo_letters mo_numbers : Nat} (C : CX p s m args meth c G A cX7_laysLines 2 RX7 wsX7_laysLines) {states : Int32} {length : Int32} {many : Int32} {steps : Int32} {isCut : Int32} {at_ : Int32} {isFaulty : Int32} {orders : Int32} {hash : Int64} {now : Nat → Int32} {res : (Nat → Int32) × (Nat → Int32) × (Nat → Int32) × Int32 × (Nat → Int32) × Int32} (hR : ∀ (lv : List (Nat × Value)) (pc : Nat), decode cX7_laysLines pc = .ok (.return_, 1) → GG p l e rm7_laysLines s m args below meth c G A 2 0 0 Q [(mo, oB 7 [.ref mo_now, .ref mo_aside, .ref mo_past, .int states, .ref mo_refusals, .ref mo_text, .int length, .ref mo_vars, .ref mo_sights, .int many, .int steps, .int isCut, .ref mo_isThere, .ref mo_taints, .ref mo_known, .int res.2.2.2.1, .ref mo_knows, .int res.2.2.2.2.2, .int at_, .int isFaulty, .int orders, .ref mo_letters, .ref mo_numbers, .long hash]), (mo_now, aI G 104 now), (mo_isThere, aZ G 21 res.1), (mo_taints, aI G 21 res.2.1), (mo_known, aI G 126 res.2.2.1), (mo_knows, aI G 6 res.2.2.2.2.1)] lv pc []) : ∀ (n : Nat) (s1 : (Nat → Int32) × (Nat → Int32) × (Nat → Int32) × Int32 × (Nat → Int32) × Int32 × Int32), f7_laysLines_2 now n s1 = some res → GG p l e rm7_laysLines s m args below meth c G A 2 0 0 Q [(mo, oB 7 [.ref mo_now, .ref mo_aside, .ref mo_past, .int states, .ref mo_refusals, .ref mo_text, .int length, .ref mo_vars, .ref mo_sights, .int many, .int steps, .int isCut, .ref mo_isThere, .ref mo_taints, .ref mo_known, .int s1.2.2.2.1, .ref mo_knows, .int s1.2.2.2.2.2.1, .int at_, .int isFaulty, .int orders, .ref mo_letters, .ref mo_numbers, .long hash]), (mo_now, aI G 104 now), (mo_isThere, aZ G 21 s1.1), (mo_taints, aI G 21 s1.2.1), (mo_known, aI G 126 s1.2.2.1), (mo_knows, aI G 6 s1.2.2.2.2.1)] [(0, .ref mo), (1, .int s1.2.2.2.2.2.2)] 2 [] :=
  itf_ind (fun k s1 ih hf => k7_laysLines_2b C hR ih hf)
set_option maxHeartbeats 4000000 in
set_option maxRecDepth 100000 in
theorem c7_laysLines {l : Launch} {G : gG} {mo mo_now mo_aside mo_past mo_refusals mo_text mo_vars mo_sights mo_isThere mo_taints mo_known mo_knows mo_letters mo_numbers : Nat} {now : Nat → Int32} {states : Int32} {length : Int32} {many : Int32} {steps : Int32} {isCut : Int32} {isThere : Nat → Int32} {taints : Nat → Int32} {known : Nat → Int32} {taint : Int32} {knows : Nat → Int32} {isOther : Int32} {at_ : Int32} {isFaulty : Int32} {orders : Int32} {hash : Int64} {res : (Nat → Int32) × (Nat → Int32) × (Nat → Int32) × Int32 × (Nat → Int32) × Int32} (hf : f7_laysLines now isThere taints known taint knows isOther = some res) : MV l yX7_laysLines wsX7_laysLines rm7_laysLines G [.ref mo] [(mo, oB 7 [.ref mo_now, .ref mo_aside, .ref mo_past, .int states, .ref mo_refusals, .ref mo_text, .int length, .ref mo_vars, .ref mo_sights, .int many, .int steps, .int isCut, .ref mo_isThere, .ref mo_taints, .ref mo_known, .int taint, .ref mo_knows, .int isOther, .int at_, .int isFaulty, .int orders, .ref mo_letters, .ref mo_numbers, .long hash]), (mo_now, aI G 104 now), (mo_isThere, aZ G 21 isThere), (mo_taints, aI G 21 taints), (mo_known, aI G 126 known), (mo_knows, aI G 6 knows)] [(mo, oB 7 [.ref mo_now, .ref mo_aside, .ref mo_past, .int states, .ref mo_refusals, .ref mo_text, .int length, .ref mo_vars, .ref mo_sights, .int many, .int steps, .int isCut, .ref mo_isThere, .ref mo_taints, .ref mo_known, .int res.2.2.2.1, .ref mo_knows, .int res.2.2.2.2.2, .int at_, .int isFaulty, .int orders, .ref mo_letters, .ref mo_numbers, .long hash]), (mo_now, aI G 104 now), (mo_isThere, aZ G 21 res.1), (mo_taints, aI G 21 res.2.1), (mo_known, aI G 126 res.2.2.1), (mo_knows, aI G 6 res.2.2.2.2.1)] := by
  refine MV_of (cc := cX7_laysLines) (nL := 2) (lv := [(0, .ref mo)]) (by decide +kernel) rfl (Nat.le_of_ble_eq_true rfl) rfl ?_
  intro p e s m args below meth c A Q C hR
  unfold f7_laysLines at hf
  refine g_iconst (v := (0 : Int32)) C dX7_laysLines_0 (by decide +kernel) ?_
  refine g_istore_n (lv' := [(0, .ref mo), (1, .int (0 : Int32))]) C dX7_laysLines_1 rfl (by decide) [1, 0] rfl ?_
  exact k7_laysLines_2 C hR _ _ hf
