-- X0_setOut
def f0_setOut_50 (come : Nat → Int32) (taints : Nat → Int32) (knowns : Nat → Int32) (changed : Int32) (x1 : Int32) (x2 : Int32) : Option ((Nat → Int32) × (Nat → Int32) × (Nat → Int32) × Int32) :=
  some (come, (upd taints 0 x1), knowns, (1 : Int32))
def f0_setOut_31b (k31 : (Nat → Int32) × (Nat → Int32) × (Nat → Int32) × Int32 × Int32 × Int32 → Option ((Nat → Int32) × (Nat → Int32) × (Nat → Int32) × Int32)) (come : Nat → Int32) (taints : Nat → Int32) (knowns : Nat → Int32) (changed : Int32) (x1 : Int32) (x2 : Int32) : Option ((Nat → Int32) × (Nat → Int32) × (Nat → Int32) × Int32) :=
  if (6 : Int32) ≤ x2 then
    (f0_setOut_50 come taints knowns changed x1 x2)
    else (ck (inb x2 126) <|
    k31 (come, taints, (upd knowns x2.toNatClampNeg (-1 : Int32)), changed, x1, (x2 + (1 : Int32))))
def f0_setOut_31 (n : Nat) (s : (Nat → Int32) × (Nat → Int32) × (Nat → Int32) × Int32 × Int32 × Int32) : Option ((Nat → Int32) × (Nat → Int32) × (Nat → Int32) × Int32) := itf (fun k s => f0_setOut_31b k s.1 s.2.1 s.2.2.1 s.2.2.2.1 s.2.2.2.2.1 s.2.2.2.2.2) n s
def f0_setOut_2b (k2 : (Nat → Int32) × (Nat → Int32) × (Nat → Int32) × Int32 × Int32 × Int32 → Option ((Nat → Int32) × (Nat → Int32) × (Nat → Int32) × Int32)) (come : Nat → Int32) (taints : Nat → Int32) (knowns : Nat → Int32) (changed : Int32) (x1 : Int32) (x2 : Int32) : Option ((Nat → Int32) × (Nat → Int32) × (Nat → Int32) × Int32) :=
  if (21 : Int32) ≤ x2 then
    (f0_setOut_31 1000 (come, taints, knowns, changed, x1, (0 : Int32)))
    else (if x2 = 0 then
    (ck (inb x2 21) <|
    k2 ((upd come x2.toNatClampNeg (1 : Int32)), taints, knowns, changed, x1, (x2 + (1 : Int32))))
    else (ck (inb x2 21) <|
    k2 ((upd come x2.toNatClampNeg (0 : Int32)), taints, knowns, changed, x1, (x2 + (1 : Int32)))))
def f0_setOut_2 (n : Nat) (s : (Nat → Int32) × (Nat → Int32) × (Nat → Int32) × Int32 × Int32 × Int32) : Option ((Nat → Int32) × (Nat → Int32) × (Nat → Int32) × Int32) := itf (fun k s => f0_setOut_2b k s.1 s.2.1 s.2.2.1 s.2.2.2.1 s.2.2.2.2.1 s.2.2.2.2.2) n s
def f0_setOut (come : Nat → Int32) (taints : Nat → Int32) (knowns : Nat → Int32) (changed : Int32) (v0 : Int32) : Option ((Nat → Int32) × (Nat → Int32) × (Nat → Int32) × Int32) :=
  f0_setOut_2 1000 (come, taints, knowns, changed, v0, (0 : Int32))
def rm0_setOut : Room := { frames := 0, cells := 0, slots := 0, locals := 0 }
theorem hm0_setOut_0 : ∀ w ∈ u_ws RX0 TX0 6, w ∈ wsX0_setOut := by decide +kernel
theorem hm0_setOut_1 : Cond.fieldLink RX0 15 "SecretSteps$Flow" "taints" "[I" ∈ wsX0_setOut := by decide +kernel
theorem hm0_setOut_2 : Cond.fieldLink RX0 35 "SecretSteps$Flow" "changed" "Z" ∈ wsX0_setOut := by decide +kernel
theorem hm0_setOut_3 : Cond.fieldLink RX0 19 "SecretSteps$Flow" "knowns" "[I" ∈ wsX0_setOut := by decide +kernel
theorem hm0_setOut_4 : Cond.fieldLink RX0 11 "SecretSteps$Flow" "come" "[Z" ∈ wsX0_setOut := by decide +kernel
set_option maxHeartbeats 4000000 in
set_option maxRecDepth 100000 in
theorem k0_setOut_50 {p : Program} {l : Launch} {e : Env} {s : State} {m : MethodId} {args : Array Value} {below : List Frame} {meth : Method} {c : Code} {G : gG} {A : Nat → Prop} {Q : State → Prop} {fl fl_come fl_taints fl_knowns fl_outKnowns : Nat} (C : CX p s m args meth c G A cX0_setOut 3 RX0 wsX0_setOut) {outKnowns : Nat → Int32} {outTaints : Int32} {come : Nat → Int32} {taints : Nat → Int32} {knowns : Nat → Int32} {changed : Int32} {x1 : Int32} {x2 : Int32} {res : (Nat → Int32) × (Nat → Int32) × (Nat → Int32) × Int32} (hR : ∀ (lv : List (Nat × Value)) (pc : Nat), decode cX0_setOut pc = .ok (.return_, 1) → GG p l e rm0_setOut s m args below meth c G A 3 0 0 Q [(fl, oB 0 [.ref fl_come, .ref fl_taints, .ref fl_knowns, .ref fl_outKnowns, .int outTaints, .int res.2.2.2]), (fl_come, aZ G 21 res.1), (fl_taints, aI G 21 res.2.1), (fl_knowns, aI G 126 res.2.2.1), (fl_outKnowns, aI G 6 outKnowns)] lv pc [])
    (hf : f0_setOut_50 come taints knowns changed x1 x2 = some res) : GG p l e rm0_setOut s m args below meth c G A 3 0 0 Q [(fl, oB 0 [.ref fl_come, .ref fl_taints, .ref fl_knowns, .ref fl_outKnowns, .int outTaints, .int changed]), (fl_come, aZ G 21 come), (fl_taints, aI G 21 taints), (fl_knowns, aI G 126 knowns), (fl_outKnowns, aI G 6 outKnowns)] [(0, .ref fl), (1, .int x1), (2, .int x2)] 50 [] := by
  unfold f0_setOut_50 at hf
  refine g_aload_n C dX0_setOut_50 rfl 0 rfl ?_
  refine g_get (C0 := RX0) (T := TX0) (N := 6) (ci := 0) (v := .ref fl_taints) C hm0_setOut_0 0 rfl rfl 1 (by decide) hm0_setOut_1 rfl dX0_setOut_51 ?_
  refine g_iconst (v := (0 : Int32)) C dX0_setOut_54 (by decide +kernel) ?_
  refine g_iload_n C dX0_setOut_55 rfl 1 rfl ?_
  refine g_iast (n := 21) (WS' := [(fl, oB 0 [.ref fl_come, .ref fl_taints, .ref fl_knowns, .ref fl_outKnowns, .int outTaints, .int changed]), (fl_come, aZ G 21 come), (fl_taints, aI G 21 (upd taints 0 x1)), (fl_knowns, aI G 126 knowns), (fl_outKnowns, aI G 6 outKnowns)]) C 2 rfl (by decide +kernel) (by decide +kernel) dX0_setOut_56 rfl ?_
  refine g_aload_n C dX0_setOut_57 rfl 0 rfl ?_
  refine g_iconst (v := (1 : Int32)) C dX0_setOut_58 (by decide +kernel) ?_
  refine g_put (C0 := RX0) (T := TX0) (N := 6) (ci := 0) (ty := .boolean) (WS' := [(fl, oB 0 [.ref fl_come, .ref fl_taints, .ref fl_knowns, .ref fl_outKnowns, .int outTaints, .int (1 : Int32)]), (fl_come, aZ G 21 come), (fl_taints, aI G 21 (upd taints 0 x1)), (fl_knowns, aI G 126 knowns), (fl_outKnowns, aI G 6 outKnowns)]) C hm0_setOut_0 tyX0 tyX0_ok nmX0 0 rfl rfl 5 (by decide) hm0_setOut_2 rfl rfl rfl rfl (Nat.le_of_ble_eq_true rfl) dX0_setOut_59 rfl ?_
  obtain rfl := Option.some.inj hf
  exact hR _ _ dX0_setOut_62
set_option maxHeartbeats 4000000 in
set_option maxRecDepth 100000 in
theorem k0_setOut_31b {p : Program} {l : Launch} {e : Env} {s : State} {m : MethodId} {args : Array Value} {below : List Frame} {meth : Method} {c : Code} {G : gG} {A : Nat → Prop} {Q : State → Prop} {fl fl_come fl_taints fl_knowns fl_outKnowns : Nat} (C : CX p s m args meth c G A cX0_setOut 3 RX0 wsX0_setOut) {outKnowns : Nat → Int32} {outTaints : Int32} {k31 : (Nat → Int32) × (Nat → Int32) × (Nat → Int32) × Int32 × Int32 × Int32 → Option ((Nat → Int32) × (Nat → Int32) × (Nat → Int32) × Int32)} {come : Nat → Int32} {taints : Nat → Int32} {knowns : Nat → Int32} {changed : Int32} {x1 : Int32} {x2 : Int32} {res : (Nat → Int32) × (Nat → Int32) × (Nat → Int32) × Int32} (hR : ∀ (lv : List (Nat × Value)) (pc : Nat), decode cX0_setOut pc = .ok (.return_, 1) → GG p l e rm0_setOut s m args below meth c G A 3 0 0 Q [(fl, oB 0 [.ref fl_come, .ref fl_taints, .ref fl_knowns, .ref fl_outKnowns, .int outTaints, .int res.2.2.2]), (fl_come, aZ G 21 res.1), (fl_taints, aI G 21 res.2.1), (fl_knowns, aI G 126 res.2.2.1), (fl_outKnowns, aI G 6 outKnowns)] lv pc [])
    (hk31 : ∀ s', k31 s' = some res → GG p l e rm0_setOut s m args below meth c G A 3 0 0 Q [(fl, oB 0 [.ref fl_come, .ref fl_taints, .ref fl_knowns, .ref fl_outKnowns, .int outTaints, .int s'.2.2.2.1]), (fl_come, aZ G 21 s'.1), (fl_taints, aI G 21 s'.2.1), (fl_knowns, aI G 126 s'.2.2.1), (fl_outKnowns, aI G 6 outKnowns)] [(0, .ref fl), (1, .int s'.2.2.2.2.1), (2, .int s'.2.2.2.2.2)] 31 [])
    (hf : f0_setOut_31b k31 come taints knowns changed x1 x2 = some res) : GG p l e rm0_setOut s m args below meth c G A 3 0 0 Q [(fl, oB 0 [.ref fl_come, .ref fl_taints, .ref fl_knowns, .ref fl_outKnowns, .int outTaints, .int changed]), (fl_come, aZ G 21 come), (fl_taints, aI G 21 taints), (fl_knowns, aI G 126 knowns), (fl_outKnowns, aI G 6 outKnowns)] [(0, .ref fl), (1, .int x1), (2, .int x2)] 31 [] := by
  unfold f0_setOut_31b at hf
  refine g_iload_n C dX0_setOut_31 rfl 2 rfl ?_
  refine g_bipush (v := (6 : Int32)) C dX0_setOut_32 (by decide +kernel) ?_
  refine g_icmp_ge (tgt := 50) C dX0_setOut_34 (by decide) (fun c1 => ?_) (fun c1 => ?_)
  · replace hf := ite_t c1 hf
    exact k0_setOut_50 C hR hf
  · replace hf := ite_f c1 hf
    refine g_aload_n C dX0_setOut_37 rfl 0 rfl ?_
    refine g_get (C0 := RX0) (T := TX0) (N := 6) (ci := 0) (v := .ref fl_knowns) C hm0_setOut_0 0 rfl rfl 2 (by decide) hm0_setOut_3 rfl dX0_setOut_38 ?_
    refine g_iload_n C dX0_setOut_41 rfl 2 rfl ?_
    refine g_iconst (v := (-1 : Int32)) C dX0_setOut_42 (by decide +kernel) ?_
    obtain ⟨h2, hf⟩ := ck_some hf
    refine g_iast (n := 126) (WS' := [(fl, oB 0 [.ref fl_come, .ref fl_taints, .ref fl_knowns, .ref fl_outKnowns, .int outTaints, .int changed]), (fl_come, aZ G 21 come), (fl_taints, aI G 21 taints), (fl_knowns, aI G 126 (upd knowns x2.toNatClampNeg (-1 : Int32))), (fl_outKnowns, aI G 6 outKnowns)]) C 3 rfl h2 rfl dX0_setOut_43 rfl ?_
    refine g_iinc (v := (x2 + (1 : Int32))) (lv' := [(0, .ref fl), (1, .int x1), (2, .int (x2 + (1 : Int32)))]) C dX0_setOut_44 2 rfl rfl (by decide) [1, 2, 0] rfl ?_
    refine g_goto (tgt := 31) C dX0_setOut_47 (by decide) ?_
    exact hk31 _ hf
set_option maxHeartbeats 4000000 in
set_option maxRecDepth 100000 in
theorem k0_setOut_31 {p : Program} {l : Launch} {e : Env} {s : State} {m : MethodId} {args : Array Value} {below : List Frame} {meth : Method} {c : Code} {G : gG} {A : Nat → Prop} {Q : State → Prop} {fl fl_come fl_taints fl_knowns fl_outKnowns : Nat} (C : CX p s m args meth c G A cX0_setOut 3 RX0 wsX0_setOut) {outKnowns : Nat → Int32} {outTaints : Int32} {res : (Nat → Int32) × (Nat → Int32) × (Nat → Int32) × Int32} (hR : ∀ (lv : List (Nat × Value)) (pc : Nat), decode cX0_setOut pc = .ok (.return_, 1) → GG p l e rm0_setOut s m args below meth c G A 3 0 0 Q [(fl, oB 0 [.ref fl_come, .ref fl_taints, .ref fl_knowns, .ref fl_outKnowns, .int outTaints, .int res.2.2.2]), (fl_come, aZ G 21 res.1), (fl_taints, aI G 21 res.2.1), (fl_knowns, aI G 126 res.2.2.1), (fl_outKnowns, aI G 6 outKnowns)] lv pc []) : ∀ (n : Nat) (s1 : (Nat → Int32) × (Nat → Int32) × (Nat → Int32) × Int32 × Int32 × Int32), f0_setOut_31 n s1 = some res → GG p l e rm0_setOut s m args below meth c G A 3 0 0 Q [(fl, oB 0 [.ref fl_come, .ref fl_taints, .ref fl_knowns, .ref fl_outKnowns, .int outTaints, .int s1.2.2.2.1]), (fl_come, aZ G 21 s1.1), (fl_taints, aI G 21 s1.2.1), (fl_knowns, aI G 126 s1.2.2.1), (fl_outKnowns, aI G 6 outKnowns)] [(0, .ref fl), (1, .int s1.2.2.2.2.1), (2, .int s1.2.2.2.2.2)] 31 [] :=
  itf_ind (fun k s1 ih hf => k0_setOut_31b C hR ih hf)
set_option maxHeartbeats 4000000 in
set_option maxRecDepth 100000 in
theorem k0_setOut_2b {p : Program} {l : Launch} {e : Env} {s : State} {m : MethodId} {args : Array Value} {below : List Frame} {meth : Method} {c : Code} {G : gG} {A : Nat → Prop} {Q : State → Prop} {fl fl_come fl_taints fl_knowns fl_outKnowns : Nat} (C : CX p s m args meth c G A cX0_setOut 3 RX0 wsX0_setOut) {outKnowns : Nat → Int32} {outTaints : Int32} {k2 : (Nat → Int32) × (Nat → Int32) × (Nat → Int32) × Int32 × Int32 × Int32 → Option ((Nat → Int32) × (Nat → Int32) × (Nat → Int32) × Int32)} {come : Nat → Int32} {taints : Nat → Int32} {knowns : Nat → Int32} {changed : Int32} {x1 : Int32} {x2 : Int32} {res : (Nat → Int32) × (Nat → Int32) × (Nat → Int32) × Int32} (hR : ∀ (lv : List (Nat × Value)) (pc : Nat), decode cX0_setOut pc = .ok (.return_, 1) → GG p l e rm0_setOut s m args below meth c G A 3 0 0 Q [(fl, oB 0 [.ref fl_come, .ref fl_taints, .ref fl_knowns, .ref fl_outKnowns, .int outTaints, .int res.2.2.2]), (fl_come, aZ G 21 res.1), (fl_taints, aI G 21 res.2.1), (fl_knowns, aI G 126 res.2.2.1), (fl_outKnowns, aI G 6 outKnowns)] lv pc [])
    (hk2 : ∀ s', k2 s' = some res → GG p l e rm0_setOut s m args below meth c G A 3 0 0 Q [(fl, oB 0 [.ref fl_come, .ref fl_taints, .ref fl_knowns, .ref fl_outKnowns, .int outTaints, .int s'.2.2.2.1]), (fl_come, aZ G 21 s'.1), (fl_taints, aI G 21 s'.2.1), (fl_knowns, aI G 126 s'.2.2.1), (fl_outKnowns, aI G 6 outKnowns)] [(0, .ref fl), (1, .int s'.2.2.2.2.1), (2, .int s'.2.2.2.2.2)] 2 [])
    (hf : f0_setOut_2b k2 come taints knowns changed x1 x2 = some res) : GG p l e rm0_setOut s m args below meth c G A 3 0 0 Q [(fl, oB 0 [.ref fl_come, .ref fl_taints, .ref fl_knowns, .ref fl_outKnowns, .int outTaints, .int changed]), (fl_come, aZ G 21 come), (fl_taints, aI G 21 taints), (fl_knowns, aI G 126 knowns), (fl_outKnowns, aI G 6 outKnowns)] [(0, .ref fl), (1, .int x1), (2, .int x2)] 2 [] := by
  unfold f0_setOut_2b at hf
  refine g_iload_n C dX0_setOut_2 rfl 2 rfl ?_
  refine g_bipush (v := (21 : Int32)) C dX0_setOut_3 (by decide +kernel) ?_
  refine g_icmp_ge (tgt := 29) C dX0_setOut_5 (by decide) (fun c3 => ?_) (fun c3 => ?_)
  · replace hf := ite_t c3 hf
    refine g_iconst (v := (0 : Int32)) C dX0_setOut_29 (by decide +kernel) ?_
    refine g_istore_n (lv' := [(0, .ref fl), (1, .int x1), (2, .int (0 : Int32))]) C dX0_setOut_30 rfl (by decide) [1, 2, 0] rfl ?_
    exact k0_setOut_31 C hR _ _ hf
  · replace hf := ite_f c3 hf
    refine g_aload_n C dX0_setOut_8 rfl 0 rfl ?_
    refine g_get (C0 := RX0) (T := TX0) (N := 6) (ci := 0) (v := .ref fl_come) C hm0_setOut_0 0 rfl rfl 0 (by decide) hm0_setOut_4 rfl dX0_setOut_9 ?_
    refine g_iload_n C dX0_setOut_12 rfl 2 rfl ?_
    refine g_iload_n C dX0_setOut_13 rfl 2 rfl ?_
    refine g_if_ne (tgt := 21) C dX0_setOut_14 (by decide) (fun c4 => ?_) (fun c4 => ?_)
    · replace hf := ite_f c4 hf
      refine g_iconst (v := (0 : Int32)) C dX0_setOut_21 (by decide +kernel) ?_
      obtain ⟨h5, hf⟩ := ck_some hf
      refine g_zast (n := 21) (WS' := [(fl, oB 0 [.ref fl_come, .ref fl_taints, .ref fl_knowns, .ref fl_outKnowns, .int outTaints, .int changed]), (fl_come, aZ G 21 (upd come x2.toNatClampNeg (0 : Int32))), (fl_taints, aI G 21 taints), (fl_knowns, aI G 126 knowns), (fl_outKnowns, aI G 6 outKnowns)]) C 1 rfl h5 rfl (by decide +kernel) dX0_setOut_22 rfl ?_
      refine g_iinc (v := (x2 + (1 : Int32))) (lv' := [(0, .ref fl), (1, .int x1), (2, .int (x2 + (1 : Int32)))]) C dX0_setOut_23 2 rfl rfl (by decide) [1, 2, 0] rfl ?_
      refine g_goto (tgt := 2) C dX0_setOut_26 (by decide) ?_
      exact hk2 _ hf
    · replace hf := ite_t c4 hf
      refine g_iconst (v := (1 : Int32)) C dX0_setOut_17 (by decide +kernel) ?_
      refine g_goto (tgt := 22) C dX0_setOut_18 (by decide) ?_
      obtain ⟨h6, hf⟩ := ck_some hf
      refine g_zast (n := 21) (WS' := [(fl, oB 0 [.ref fl_come, .ref fl_taints, .ref fl_knowns, .ref fl_outKnowns, .int outTaints, .int changed]), (fl_come, aZ G 21 (upd come x2.toNatClampNeg (1 : Int32))), (fl_taints, aI G 21 taints), (fl_knowns, aI G 126 knowns), (fl_outKnowns, aI G 6 outKnowns)]) C 1 rfl h6 rfl (by decide +kernel) dX0_setOut_22 rfl ?_
      refine g_iinc (v := (x2 + (1 : Int32))) (lv' := [(0, .ref fl), (1, .int x1), (2, .int (x2 + (1 : Int32)))]) C dX0_setOut_23 2 rfl rfl (by decide) [1, 2, 0] rfl ?_
      refine g_goto (tgt := 2) C dX0_setOut_26 (by decide) ?_
      exact hk2 _ hf
set_option maxHeartbeats 4000000 in
set_option maxRecDepth 100000 in
theorem k0_setOut_2 {p : Program} {l : Launch} {e : Env} {s : State} {m : MethodId} {args : Array Value} {below : List Frame} {meth : Method} {c : Code} {G : gG} {A : Nat → Prop} {Q : State → Prop} {fl fl_come fl_taints fl_knowns fl_outKnowns : Nat} (C : CX p s m args meth c G A cX0_setOut 3 RX0 wsX0_setOut) {outKnowns : Nat → Int32} {outTaints : Int32} {res : (Nat → Int32) × (Nat → Int32) × (Nat → Int32) × Int32} (hR : ∀ (lv : List (Nat × Value)) (pc : Nat), decode cX0_setOut pc = .ok (.return_, 1) → GG p l e rm0_setOut s m args below meth c G A 3 0 0 Q [(fl, oB 0 [.ref fl_come, .ref fl_taints, .ref fl_knowns, .ref fl_outKnowns, .int outTaints, .int res.2.2.2]), (fl_come, aZ G 21 res.1), (fl_taints, aI G 21 res.2.1), (fl_knowns, aI G 126 res.2.2.1), (fl_outKnowns, aI G 6 outKnowns)] lv pc []) : ∀ (n : Nat) (s1 : (Nat → Int32) × (Nat → Int32) × (Nat → Int32) × Int32 × Int32 × Int32), f0_setOut_2 n s1 = some res → GG p l e rm0_setOut s m args below meth c G A 3 0 0 Q [(fl, oB 0 [.ref fl_come, .ref fl_taints, .ref fl_knowns, .ref fl_outKnowns, .int outTaints, .int s1.2.2.2.1]), (fl_come, aZ G 21 s1.1), (fl_taints, aI G 21 s1.2.1), (fl_knowns, aI G 126 s1.2.2.1), (fl_outKnowns, aI G 6 outKnowns)] [(0, .ref fl), (1, .int s1.2.2.2.2.1), (2, .int s1.2.2.2.2.2)] 2 [] :=
  itf_ind (fun k s1 ih hf => k0_setOut_2b C hR ih hf)
set_option maxHeartbeats 4000000 in
set_option maxRecDepth 100000 in
theorem c0_setOut {l : Launch} {G : gG} {fl fl_come fl_taints fl_knowns fl_outKnowns : Nat} {come : Nat → Int32} {taints : Nat → Int32} {knowns : Nat → Int32} {outKnowns : Nat → Int32} {outTaints : Int32} {changed : Int32} {v0 : Int32} {res : (Nat → Int32) × (Nat → Int32) × (Nat → Int32) × Int32} (hf : f0_setOut come taints knowns changed v0 = some res) : MV l yX0_setOut wsX0_setOut rm0_setOut G [.ref fl, .int v0] [(fl, oB 0 [.ref fl_come, .ref fl_taints, .ref fl_knowns, .ref fl_outKnowns, .int outTaints, .int changed]), (fl_come, aZ G 21 come), (fl_taints, aI G 21 taints), (fl_knowns, aI G 126 knowns), (fl_outKnowns, aI G 6 outKnowns)] [(fl, oB 0 [.ref fl_come, .ref fl_taints, .ref fl_knowns, .ref fl_outKnowns, .int outTaints, .int res.2.2.2]), (fl_come, aZ G 21 res.1), (fl_taints, aI G 21 res.2.1), (fl_knowns, aI G 126 res.2.2.1), (fl_outKnowns, aI G 6 outKnowns)] := by
  refine MV_of (cc := cX0_setOut) (nL := 3) (lv := [(0, .ref fl), (1, .int v0)]) (by decide +kernel) rfl (Nat.le_of_ble_eq_true rfl) rfl ?_
  intro p e s m args below meth c A Q C hR
  unfold f0_setOut at hf
  refine g_iconst (v := (0 : Int32)) C dX0_setOut_0 (by decide +kernel) ?_
  refine g_istore_n (lv' := [(0, .ref fl), (1, .int v0), (2, .int (0 : Int32))]) C dX0_setOut_1 rfl (by decide) [1, 2, 0] rfl ?_
  exact k0_setOut_2 C hR _ _ hf

-- X0_join
def f0_join_92b (outKnowns : Nat → Int32) (outTaints : Int32) (k92 : (Nat → Int32) × (Nat → Int32) × (Nat → Int32) × Int32 × Int32 × Int32 × Int32 → Option ((Nat → Int32) × (Nat → Int32) × (Nat → Int32) × Int32)) (come : Nat → Int32) (taints : Nat → Int32) (knowns : Nat → Int32) (changed : Int32) (x1 : Int32) (x2 : Int32) (x3 : Int32) : Option ((Nat → Int32) × (Nat → Int32) × (Nat → Int32) × Int32) :=
  if (6 : Int32) ≤ x3 then
    (some (come, taints, knowns, changed))
    else (ck (inb (x2 + x3) 126) <|
    if (knowns (x2 + x3).toNatClampNeg) = (-1 : Int32) then
    (k92 (come, taints, knowns, changed, x1, x2, (x3 + (1 : Int32))))
    else (ck (inb (x2 + x3) 126) <|
    ck (inb x3 6) <|
    if (knowns (x2 + x3).toNatClampNeg) = (outKnowns x3.toNatClampNeg) then
    (k92 (come, taints, knowns, changed, x1, x2, (x3 + (1 : Int32))))
    else (ck (inb (x2 + x3) 126) <|
    k92 (come, taints, (upd knowns (x2 + x3).toNatClampNeg (-1 : Int32)), (1 : Int32), x1, x2, (x3 + (1 : Int32))))))
def f0_join_92 (outKnowns : Nat → Int32) (outTaints : Int32) (n : Nat) (s : (Nat → Int32) × (Nat → Int32) × (Nat → Int32) × Int32 × Int32 × Int32 × Int32) : Option ((Nat → Int32) × (Nat → Int32) × (Nat → Int32) × Int32) := itf (fun k s => f0_join_92b outKnowns outTaints k s.1 s.2.1 s.2.2.1 s.2.2.2.1 s.2.2.2.2.1 s.2.2.2.2.2.1 s.2.2.2.2.2.2) n s
def f0_join (outKnowns : Nat → Int32) (outTaints : Int32) (come : Nat → Int32) (taints : Nat → Int32) (knowns : Nat → Int32) (changed : Int32) (v0 : Int32) : Option ((Nat → Int32) × (Nat → Int32) × (Nat → Int32) × Int32) :=
  ck (inb v0 21) <|
    if (come v0.toNatClampNeg) = 0 then
    (ck (inb v0 21) <|
    ck (inb v0 21) <|
    ck (!decide ((v0 * (6 : Int32)) < 0)) <|
    ck (decide ((v0 * (6 : Int32)).toNatClampNeg + 6 ≤ 126)) <|
    some ((upd come v0.toNatClampNeg (1 : Int32)), (upd taints v0.toNatClampNeg outTaints), (va_cpy outKnowns knowns 0 (v0 * (6 : Int32)).toNatClampNeg 6), (1 : Int32)))
    else (ck (inb v0 21) <|
    ck (inb v0 21) <|
    if ((taints v0.toNatClampNeg) ||| outTaints) = (taints v0.toNatClampNeg) then
    (f0_join_92 outKnowns outTaints 1000 (come, taints, knowns, changed, v0, (v0 * (6 : Int32)), (0 : Int32)))
    else (ck (inb v0 21) <|
    ck (inb v0 21) <|
    f0_join_92 outKnowns outTaints 1000 (come, (upd taints v0.toNatClampNeg ((taints v0.toNatClampNeg) ||| outTaints)), knowns, (1 : Int32), v0, (v0 * (6 : Int32)), (0 : Int32))))
def rm0_join : Room := { frames := 1, cells := 0, slots := 0, locals := 40 }
theorem hm0_join_0 : ∀ w ∈ u_ws RX0 TX0 6, w ∈ wsX0_join := by decide +kernel
theorem hm0_join_1 : Cond.fieldLink RX0 19 "SecretSteps$Flow" "knowns" "[I" ∈ wsX0_join := by decide +kernel
theorem hm0_join_2 : Cond.fieldLink RX0 22 "SecretSteps$Flow" "outKnowns" "[I" ∈ wsX0_join := by decide +kernel
theorem hm0_join_3 : Cond.fieldLink RX0 35 "SecretSteps$Flow" "changed" "Z" ∈ wsX0_join := by decide +kernel
theorem hm0_join_4 : Cond.fieldLink RX0 11 "SecretSteps$Flow" "come" "[Z" ∈ wsX0_join := by decide +kernel
theorem hm0_join_5 : Cond.fieldLink RX0 15 "SecretSteps$Flow" "taints" "[I" ∈ wsX0_join := by decide +kernel
theorem hm0_join_6 : Cond.fieldLink RX0 52 "SecretSteps$Flow" "outTaints" "I" ∈ wsX0_join := by decide +kernel
theorem hm0_join_7 : Cond.methodLink RX0 46 arraycopyName ∈ wsX0_join := by decide +kernel
theorem hm0_join_8 : Cond.native arraycopyName ∈ wsX0_join := by decide +kernel
theorem hm0_join_9 : Cond.static arraycopyName ∈ wsX0_join := by decide +kernel
theorem hm0_join_10 : Cond.initialized "java/lang/System" ∈ wsX0_join := by decide +kernel
set_option maxHeartbeats 4000000 in
set_option maxRecDepth 100000 in
theorem k0_join_92b {p : Program} {l : Launch} {e : Env} {s : State} {m : MethodId} {args : Array Value} {below : List Frame} {meth : Method} {c : Code} {G : gG} {A : Nat → Prop} {Q : State → Prop} {fl fl_come fl_taints fl_knowns fl_outKnowns : Nat} (C : CX p s m args meth c G A cX0_join 4 RX0 wsX0_join) {outKnowns : Nat → Int32} {outTaints : Int32} {k92 : (Nat → Int32) × (Nat → Int32) × (Nat → Int32) × Int32 × Int32 × Int32 × Int32 → Option ((Nat → Int32) × (Nat → Int32) × (Nat → Int32) × Int32)} {come : Nat → Int32} {taints : Nat → Int32} {knowns : Nat → Int32} {changed : Int32} {x1 : Int32} {x2 : Int32} {x3 : Int32} {res : (Nat → Int32) × (Nat → Int32) × (Nat → Int32) × Int32} (hR : ∀ (lv : List (Nat × Value)) (pc : Nat), decode cX0_join pc = .ok (.return_, 1) → GG p l e rm0_join s m args below meth c G A 4 0 0 Q [(fl, oB 0 [.ref fl_come, .ref fl_taints, .ref fl_knowns, .ref fl_outKnowns, .int outTaints, .int res.2.2.2]), (fl_come, aZ G 21 res.1), (fl_taints, aI G 21 res.2.1), (fl_knowns, aI G 126 res.2.2.1), (fl_outKnowns, aI G 6 outKnowns)] lv pc [])
    (hk92 : ∀ s', k92 s' = some res → GG p l e rm0_join s m args below meth c G A 4 0 0 Q [(fl, oB 0 [.ref fl_come, .ref fl_taints, .ref fl_knowns, .ref fl_outKnowns, .int outTaints, .int s'.2.2.2.1]), (fl_come, aZ G 21 s'.1), (fl_taints, aI G 21 s'.2.1), (fl_knowns, aI G 126 s'.2.2.1), (fl_outKnowns, aI G 6 outKnowns)] [(0, .ref fl), (1, .int s'.2.2.2.2.1), (2, .int s'.2.2.2.2.2.1), (3, .int s'.2.2.2.2.2.2)] 92 [])
    (hf : f0_join_92b outKnowns outTaints k92 come taints knowns changed x1 x2 x3 = some res) : GG p l e rm0_join s m args below meth c G A 4 0 0 Q [(fl, oB 0 [.ref fl_come, .ref fl_taints, .ref fl_knowns, .ref fl_outKnowns, .int outTaints, .int changed]), (fl_come, aZ G 21 come), (fl_taints, aI G 21 taints), (fl_knowns, aI G 126 knowns), (fl_outKnowns, aI G 6 outKnowns)] [(0, .ref fl), (1, .int x1), (2, .int x2), (3, .int x3)] 92 [] := by
  unfold f0_join_92b at hf
  refine g_iload_n C dX0_join_92 rfl 3 rfl ?_
  refine g_bipush (v := (6 : Int32)) C dX0_join_93 (by decide +kernel) ?_
  refine g_icmp_ge (tgt := 147) C dX0_join_95 (by decide) (fun c1 => ?_) (fun c1 => ?_)
  · replace hf := ite_t c1 hf
    obtain rfl := Option.some.inj hf
    exact hR _ _ dX0_join_147
  · replace hf := ite_f c1 hf
    refine g_aload_n C dX0_join_98 rfl 0 rfl ?_
    refine g_get (C0 := RX0) (T := TX0) (N := 6) (ci := 0) (v := .ref fl_knowns) C hm0_join_0 0 rfl rfl 2 (by decide) hm0_join_1 rfl dX0_join_99 ?_
    refine g_iload_n C dX0_join_102 rfl 2 rfl ?_
    refine g_iload_n C dX0_join_103 rfl 3 rfl ?_
    refine g_iadd C dX0_join_104 ?_
    obtain ⟨h2, hf⟩ := ck_some hf
    refine g_iald (n := 126) (v := (knowns (x2 + x3).toNatClampNeg)) C 3 rfl h2 rfl rfl dX0_join_105 ?_
    refine g_iconst (v := (-1 : Int32)) C dX0_join_106 (by decide +kernel) ?_
    refine g_icmp_eq (tgt := 141) C dX0_join_107 (by decide) (fun c3 => ?_) (fun c3 => ?_)
    · replace hf := ite_t c3 hf
      refine g_iinc (v := (x3 + (1 : Int32))) (lv' := [(0, .ref fl), (1, .int x1), (2, .int x2), (3, .int (x3 + (1 : Int32)))]) C dX0_join_141 3 rfl rfl (by decide) [1, 2, 3, 0] rfl ?_
      refine g_goto (tgt := 92) C dX0_join_144 (by decide) ?_
      exact hk92 _ hf
    · replace hf := ite_f c3 hf
      refine g_aload_n C dX0_join_110 rfl 0 rfl ?_
      refine g_get (C0 := RX0) (T := TX0) (N := 6) (ci := 0) (v := .ref fl_knowns) C hm0_join_0 0 rfl rfl 2 (by decide) hm0_join_1 rfl dX0_join_111 ?_
      refine g_iload_n C dX0_join_114 rfl 2 rfl ?_
      refine g_iload_n C dX0_join_115 rfl 3 rfl ?_
      refine g_iadd C dX0_join_116 ?_
      obtain ⟨h4, hf⟩ := ck_some hf
      refine g_iald (n := 126) (v := (knowns (x2 + x3).toNatClampNeg)) C 3 rfl h4 rfl rfl dX0_join_117 ?_
      refine g_aload_n C dX0_join_118 rfl 0 rfl ?_
      refine g_get (C0 := RX0) (T := TX0) (N := 6) (ci := 0) (v := .ref fl_outKnowns) C hm0_join_0 0 rfl rfl 3 (by decide) hm0_join_2 rfl dX0_join_119 ?_
      refine g_iload_n C dX0_join_122 rfl 3 rfl ?_
      obtain ⟨h5, hf⟩ := ck_some hf
      refine g_iald (n := 6) (v := (outKnowns x3.toNatClampNeg)) C 4 rfl h5 rfl rfl dX0_join_123 ?_
      refine g_icmp_eq (tgt := 141) C dX0_join_124 (by decide) (fun c6 => ?_) (fun c6 => ?_)
      · replace hf := ite_t c6 hf
        refine g_iinc (v := (x3 + (1 : Int32))) (lv' := [(0, .ref fl), (1, .int x1), (2, .int x2), (3, .int (x3 + (1 : Int32)))]) C dX0_join_141 3 rfl rfl (by decide) [1, 2, 3, 0] rfl ?_
        refine g_goto (tgt := 92) C dX0_join_144 (by decide) ?_
        exact hk92 _ hf
      · replace hf := ite_f c6 hf
        refine g_aload_n C dX0_join_127 rfl 0 rfl ?_
        refine g_get (C0 := RX0) (T := TX0) (N := 6) (ci := 0) (v := .ref fl_knowns) C hm0_join_0 0 rfl rfl 2 (by decide) hm0_join_1 rfl dX0_join_128 ?_
        refine g_iload_n C dX0_join_131 rfl 2 rfl ?_
        refine g_iload_n C dX0_join_132 rfl 3 rfl ?_
        refine g_iadd C dX0_join_133 ?_
        refine g_iconst (v := (-1 : Int32)) C dX0_join_134 (by decide +kernel) ?_
        obtain ⟨h7, hf⟩ := ck_some hf
        refine g_iast (n := 126) (WS' := [(fl, oB 0 [.ref fl_come, .ref fl_taints, .ref fl_knowns, .ref fl_outKnowns, .int outTaints, .int changed]), (fl_come, aZ G 21 come), (fl_taints, aI G 21 taints), (fl_knowns, aI G 126 (upd knowns (x2 + x3).toNatClampNeg (-1 : Int32))), (fl_outKnowns, aI G 6 outKnowns)]) C 3 rfl h7 rfl dX0_join_135 rfl ?_
        refine g_aload_n C dX0_join_136 rfl 0 rfl ?_
        refine g_iconst (v := (1 : Int32)) C dX0_join_137 (by decide +kernel) ?_
        refine g_put (C0 := RX0) (T := TX0) (N := 6) (ci := 0) (ty := .boolean) (WS' := [(fl, oB 0 [.ref fl_come, .ref fl_taints, .ref fl_knowns, .ref fl_outKnowns, .int outTaints, .int (1 : Int32)]), (fl_come, aZ G 21 come), (fl_taints, aI G 21 taints), (fl_knowns, aI G 126 (upd knowns (x2 + x3).toNatClampNeg (-1 : Int32))), (fl_outKnowns, aI G 6 outKnowns)]) C hm0_join_0 tyX0 tyX0_ok nmX0 0 rfl rfl 5 (by decide) hm0_join_3 rfl rfl rfl rfl (Nat.le_of_ble_eq_true rfl) dX0_join_138 rfl ?_
        refine g_iinc (v := (x3 + (1 : Int32))) (lv' := [(0, .ref fl), (1, .int x1), (2, .int x2), (3, .int (x3 + (1 : Int32)))]) C dX0_join_141 3 rfl rfl (by decide) [1, 2, 3, 0] rfl ?_
        refine g_goto (tgt := 92) C dX0_join_144 (by decide) ?_
        exact hk92 _ hf
set_option maxHeartbeats 4000000 in
set_option maxRecDepth 100000 in
theorem k0_join_92 {p : Program} {l : Launch} {e : Env} {s : State} {m : MethodId} {args : Array Value} {below : List Frame} {meth : Method} {c : Code} {G : gG} {A : Nat → Prop} {Q : State → Prop} {fl fl_come fl_taints fl_knowns fl_outKnowns : Nat} (C : CX p s m args meth c G A cX0_join 4 RX0 wsX0_join) {outKnowns : Nat → Int32} {outTaints : Int32} {res : (Nat → Int32) × (Nat → Int32) × (Nat → Int32) × Int32} (hR : ∀ (lv : List (Nat × Value)) (pc : Nat), decode cX0_join pc = .ok (.return_, 1) → GG p l e rm0_join s m args below meth c G A 4 0 0 Q [(fl, oB 0 [.ref fl_come, .ref fl_taints, .ref fl_knowns, .ref fl_outKnowns, .int outTaints, .int res.2.2.2]), (fl_come, aZ G 21 res.1), (fl_taints, aI G 21 res.2.1), (fl_knowns, aI G 126 res.2.2.1), (fl_outKnowns, aI G 6 outKnowns)] lv pc []) : ∀ (n : Nat) (s1 : (Nat → Int32) × (Nat → Int32) × (Nat → Int32) × Int32 × Int32 × Int32 × Int32), f0_join_92 outKnowns outTaints n s1 = some res → GG p l e rm0_join s m args below meth c G A 4 0 0 Q [(fl, oB 0 [.ref fl_come, .ref fl_taints, .ref fl_knowns, .ref fl_outKnowns, .int outTaints, .int s1.2.2.2.1]), (fl_come, aZ G 21 s1.1), (fl_taints, aI G 21 s1.2.1), (fl_knowns, aI G 126 s1.2.2.1), (fl_outKnowns, aI G 6 outKnowns)] [(0, .ref fl), (1, .int s1.2.2.2.2.1), (2, .int s1.2.2.2.2.2.1), (3, .int s1.2.2.2.2.2.2)] 92 [] :=
  itf_ind (fun k s1 ih hf => k0_join_92b C hR ih hf)
set_option maxHeartbeats 4000000 in
set_option maxRecDepth 100000 in
theorem c0_join {l : Launch} {G : gG} {fl fl_come fl_taints fl_knowns fl_outKnowns : Nat} {come : Nat → Int32} {taints : Nat → Int32} {knowns : Nat → Int32} {outKnowns : Nat → Int32} {outTaints : Int32} {changed : Int32} {v0 : Int32} {res : (Nat → Int32) × (Nat → Int32) × (Nat → Int32) × Int32} (hf : f0_join outKnowns outTaints come taints knowns changed v0 = some res) : MV l yX0_join wsX0_join rm0_join G [.ref fl, .int v0] [(fl, oB 0 [.ref fl_come, .ref fl_taints, .ref fl_knowns, .ref fl_outKnowns, .int outTaints, .int changed]), (fl_come, aZ G 21 come), (fl_taints, aI G 21 taints), (fl_knowns, aI G 126 knowns), (fl_outKnowns, aI G 6 outKnowns)] [(fl, oB 0 [.ref fl_come, .ref fl_taints, .ref fl_knowns, .ref fl_outKnowns, .int outTaints, .int res.2.2.2]), (fl_come, aZ G 21 res.1), (fl_taints, aI G 21 res.2.1), (fl_knowns, aI G 126 res.2.2.1), (fl_outKnowns, aI G 6 outKnowns)] := by
  refine MV_of (cc := cX0_join) (nL := 4) (lv := [(0, .ref fl), (1, .int v0)]) (by decide +kernel) rfl (Nat.le_of_ble_eq_true rfl) rfl ?_
  intro p e s m args below meth c A Q C hR
  unfold f0_join at hf
  refine g_iload_n C dX0_join_0 rfl 1 rfl ?_
  refine g_bipush (v := (6 : Int32)) C dX0_join_1 (by decide +kernel) ?_
  refine g_imul C dX0_join_3 ?_
  refine g_istore_n (lv' := [(0, .ref fl), (1, .int v0), (2, .int (v0 * (6 : Int32)))]) C dX0_join_4 rfl (by decide) [1, 2, 0] rfl ?_
  refine g_aload_n C dX0_join_5 rfl 0 rfl ?_
  refine g_get (C0 := RX0) (T := TX0) (N := 6) (ci := 0) (v := .ref fl_come) C hm0_join_0 0 rfl rfl 0 (by decide) hm0_join_4 rfl dX0_join_6 ?_
  refine g_iload_n C dX0_join_9 rfl 1 rfl ?_
  obtain ⟨h8, hf⟩ := ck_some hf
  refine g_zald (n := 21) (v := (come v0.toNatClampNeg)) C 1 rfl h8 rfl rfl dX0_join_10 ?_
  refine g_if_ne (tgt := 52) C dX0_join_11 (by decide) (fun c9 => ?_) (fun c9 => ?_)
  · replace hf := ite_f c9 hf
    refine g_aload_n C dX0_join_52 rfl 0 rfl ?_
    refine g_get (C0 := RX0) (T := TX0) (N := 6) (ci := 0) (v := .ref fl_taints) C hm0_join_0 0 rfl rfl 1 (by decide) hm0_join_5 rfl dX0_join_53 ?_
    refine g_iload_n C dX0_join_56 rfl 1 rfl ?_
    obtain ⟨h10, hf⟩ := ck_some hf
    refine g_iald (n := 21) (v := (taints v0.toNatClampNeg)) C 2 rfl h10 rfl rfl dX0_join_57 ?_
    refine g_aload_n C dX0_join_58 rfl 0 rfl ?_
    refine g_get (C0 := RX0) (T := TX0) (N := 6) (ci := 0) (v := .int outTaints) C hm0_join_0 0 rfl rfl 4 (by decide) hm0_join_6 rfl dX0_join_59 ?_
    refine g_ior C dX0_join_62 ?_
    refine g_aload_n C dX0_join_63 rfl 0 rfl ?_
    refine g_get (C0 := RX0) (T := TX0) (N := 6) (ci := 0) (v := .ref fl_taints) C hm0_join_0 0 rfl rfl 1 (by decide) hm0_join_5 rfl dX0_join_64 ?_
    refine g_iload_n C dX0_join_67 rfl 1 rfl ?_
    obtain ⟨h11, hf⟩ := ck_some hf
    refine g_iald (n := 21) (v := (taints v0.toNatClampNeg)) C 2 rfl h11 rfl rfl dX0_join_68 ?_
    refine g_icmp_eq (tgt := 90) C dX0_join_69 (by decide) (fun c12 => ?_) (fun c12 => ?_)
    · replace hf := ite_t c12 hf
      refine g_iconst (v := (0 : Int32)) C dX0_join_90 (by decide +kernel) ?_
      refine g_istore_n (lv' := [(0, .ref fl), (1, .int v0), (2, .int (v0 * (6 : Int32))), (3, .int (0 : Int32))]) C dX0_join_91 rfl (by decide) [1, 2, 3, 0] rfl ?_
      exact k0_join_92 C hR _ _ hf
    · replace hf := ite_f c12 hf
      refine g_aload_n C dX0_join_72 rfl 0 rfl ?_
      refine g_get (C0 := RX0) (T := TX0) (N := 6) (ci := 0) (v := .ref fl_taints) C hm0_join_0 0 rfl rfl 1 (by decide) hm0_join_5 rfl dX0_join_73 ?_
      refine g_iload_n C dX0_join_76 rfl 1 rfl ?_
      refine g_dup2 C dX0_join_77 rfl rfl ?_
      obtain ⟨h13, hf⟩ := ck_some hf
      refine g_iald (n := 21) (v := (taints v0.toNatClampNeg)) C 2 rfl h13 rfl rfl dX0_join_78 ?_
      refine g_aload_n C dX0_join_79 rfl 0 rfl ?_
      refine g_get (C0 := RX0) (T := TX0) (N := 6) (ci := 0) (v := .int outTaints) C hm0_join_0 0 rfl rfl 4 (by decide) hm0_join_6 rfl dX0_join_80 ?_
      refine g_ior C dX0_join_83 ?_
      obtain ⟨h14, hf⟩ := ck_some hf
      refine g_iast (n := 21) (WS' := [(fl, oB 0 [.ref fl_come, .ref fl_taints, .ref fl_knowns, .ref fl_outKnowns, .int outTaints, .int changed]), (fl_come, aZ G 21 come), (fl_taints, aI G 21 (upd taints v0.toNatClampNeg ((taints v0.toNatClampNeg) ||| outTaints))), (fl_knowns, aI G 126 knowns), (fl_outKnowns, aI G 6 outKnowns)]) C 2 rfl h14 rfl dX0_join_84 rfl ?_
      refine g_aload_n C dX0_join_85 rfl 0 rfl ?_
      refine g_iconst (v := (1 : Int32)) C dX0_join_86 (by decide +kernel) ?_
      refine g_put (C0 := RX0) (T := TX0) (N := 6) (ci := 0) (ty := .boolean) (WS' := [(fl, oB 0 [.ref fl_come, .ref fl_taints, .ref fl_knowns, .ref fl_outKnowns, .int outTaints, .int (1 : Int32)]), (fl_come, aZ G 21 come), (fl_taints, aI G 21 (upd taints v0.toNatClampNeg ((taints v0.toNatClampNeg) ||| outTaints))), (fl_knowns, aI G 126 knowns), (fl_outKnowns, aI G 6 outKnowns)]) C hm0_join_0 tyX0 tyX0_ok nmX0 0 rfl rfl 5 (by decide) hm0_join_3 rfl rfl rfl rfl (Nat.le_of_ble_eq_true rfl) dX0_join_87 rfl ?_
      refine g_iconst (v := (0 : Int32)) C dX0_join_90 (by decide +kernel) ?_
      refine g_istore_n (lv' := [(0, .ref fl), (1, .int v0), (2, .int (v0 * (6 : Int32))), (3, .int (0 : Int32))]) C dX0_join_91 rfl (by decide) [1, 2, 3, 0] rfl ?_
      exact k0_join_92 C hR _ _ hf
  · replace hf := ite_t c9 hf
    refine g_aload_n C dX0_join_14 rfl 0 rfl ?_
    refine g_get (C0 := RX0) (T := TX0) (N := 6) (ci := 0) (v := .ref fl_come) C hm0_join_0 0 rfl rfl 0 (by decide) hm0_join_4 rfl dX0_join_15 ?_
    refine g_iload_n C dX0_join_18 rfl 1 rfl ?_
    refine g_iconst (v := (1 : Int32)) C dX0_join_19 (by decide +kernel) ?_
    obtain ⟨h15, hf⟩ := ck_some hf
    refine g_zast (n := 21) (WS' := [(fl, oB 0 [.ref fl_come, .ref fl_taints, .ref fl_knowns, .ref fl_outKnowns, .int outTaints, .int changed]), (fl_come, aZ G 21 (upd come v0.toNatClampNeg (1 : Int32))), (fl_taints, aI G 21 taints), (fl_knowns, aI G 126 knowns), (fl_outKnowns, aI G 6 outKnowns)]) C 1 rfl h15 rfl (by decide +kernel) dX0_join_20 rfl ?_
    refine g_aload_n C dX0_join_21 rfl 0 rfl ?_
    refine g_get (C0 := RX0) (T := TX0) (N := 6) (ci := 0) (v := .ref fl_taints) C hm0_join_0 0 rfl rfl 1 (by decide) hm0_join_5 rfl dX0_join_22 ?_
    refine g_iload_n C dX0_join_25 rfl 1 rfl ?_
    refine g_aload_n C dX0_join_26 rfl 0 rfl ?_
    refine g_get (C0 := RX0) (T := TX0) (N := 6) (ci := 0) (v := .int outTaints) C hm0_join_0 0 rfl rfl 4 (by decide) hm0_join_6 rfl dX0_join_27 ?_
    obtain ⟨h16, hf⟩ := ck_some hf
    refine g_iast (n := 21) (WS' := [(fl, oB 0 [.ref fl_come, .ref fl_taints, .ref fl_knowns, .ref fl_outKnowns, .int outTaints, .int changed]), (fl_come, aZ G 21 (upd come v0.toNatClampNeg (1 : Int32))), (fl_taints, aI G 21 (upd taints v0.toNatClampNeg outTaints)), (fl_knowns, aI G 126 knowns), (fl_outKnowns, aI G 6 outKnowns)]) C 2 rfl h16 rfl dX0_join_30 rfl ?_
    refine g_aload_n C dX0_join_31 rfl 0 rfl ?_
    refine g_get (C0 := RX0) (T := TX0) (N := 6) (ci := 0) (v := .ref fl_outKnowns) C hm0_join_0 0 rfl rfl 3 (by decide) hm0_join_2 rfl dX0_join_32 ?_
    refine g_iconst (v := (0 : Int32)) C dX0_join_35 (by decide +kernel) ?_
    refine g_aload_n C dX0_join_36 rfl 0 rfl ?_
    refine g_get (C0 := RX0) (T := TX0) (N := 6) (ci := 0) (v := .ref fl_knowns) C hm0_join_0 0 rfl rfl 2 (by decide) hm0_join_1 rfl dX0_join_37 ?_
    refine g_iload_n C dX0_join_40 rfl 2 rfl ?_
    refine g_bipush (v := (6 : Int32)) C dX0_join_41 (by decide +kernel) ?_
    obtain ⟨h17, hf⟩ := ck_some hf
    obtain ⟨h18, hf⟩ := ck_some hf
    refine g_copyi (WS' := [(fl, oB 0 [.ref fl_come, .ref fl_taints, .ref fl_knowns, .ref fl_outKnowns, .int outTaints, .int changed]), (fl_come, aZ G 21 (upd come v0.toNatClampNeg (1 : Int32))), (fl_taints, aI G 21 (upd taints v0.toNatClampNeg outTaints)), (fl_knowns, aI G 126 (va_cpy outKnowns knowns 0 (v0 * (6 : Int32)).toNatClampNeg 6)), (fl_outKnowns, aI G 6 outKnowns)]) C hm0_join_7 hm0_join_8 hm0_join_9 hm0_join_10 4 3 rfl rfl (by decide +kernel) (fun h9 => by rw [decide_eq_true h9] at h17; cases h17) (by decide +kernel) (by decide +kernel) rfl (by decide +kernel) (by decide) (of_decide_eq_true h18) (by decide) (by decide +kernel) dX0_join_43 rfl ?_
    refine g_aload_n C dX0_join_46 rfl 0 rfl ?_
    refine g_iconst (v := (1 : Int32)) C dX0_join_47 (by decide +kernel) ?_
    refine g_put (C0 := RX0) (T := TX0) (N := 6) (ci := 0) (ty := .boolean) (WS' := [(fl, oB 0 [.ref fl_come, .ref fl_taints, .ref fl_knowns, .ref fl_outKnowns, .int outTaints, .int (1 : Int32)]), (fl_come, aZ G 21 (upd come v0.toNatClampNeg (1 : Int32))), (fl_taints, aI G 21 (upd taints v0.toNatClampNeg outTaints)), (fl_knowns, aI G 126 (va_cpy outKnowns knowns 0 (v0 * (6 : Int32)).toNatClampNeg 6)), (fl_outKnowns, aI G 6 outKnowns)]) C hm0_join_0 tyX0 tyX0_ok nmX0 0 rfl rfl 5 (by decide) hm0_join_3 rfl rfl rfl rfl (Nat.le_of_ble_eq_true rfl) dX0_join_48 rfl ?_
    obtain rfl := Option.some.inj hf
    exact hR _ _ dX0_join_51

-- X0_passJump
def f0_passJump_18 (outKnowns : Nat → Int32) (outTaints : Int32) (come : Nat → Int32) (taints : Nat → Int32) (knowns : Nat → Int32) (changed : Int32) (x1 : Int32) (x2 : Int32) (x3 : Int32) : Option ((Nat → Int32) × (Nat → Int32) × (Nat → Int32) × Int32) :=
  (f0_join outKnowns outTaints come taints knowns changed x2).bind <| fun q1 =>
    some (q1.1, q1.2.1, q1.2.2.1, q1.2.2.2)
def f0_passJump (outKnowns : Nat → Int32) (outTaints : Int32) (come : Nat → Int32) (taints : Nat → Int32) (knowns : Nat → Int32) (changed : Int32) (v0 : Int32) (v1 : Int32) (v2 : Int32) : Option ((Nat → Int32) × (Nat → Int32) × (Nat → Int32) × Int32) :=
  if v0 = 0 then
    (if v0 = (-1 : Int32) then
    (f0_passJump_18 outKnowns outTaints come taints knowns changed v0 v1 v2)
    else (if v0 = 0 then
    (f0_passJump_18 outKnowns outTaints come taints knowns changed v0 v1 v2)
    else (some (come, taints, knowns, changed))))
    else ((f0_join outKnowns outTaints come taints knowns changed v2).bind <| fun q5 =>
    if v0 = (-1 : Int32) then
    (f0_passJump_18 outKnowns outTaints q5.1 q5.2.1 q5.2.2.1 q5.2.2.2 v0 v1 v2)
    else (if v0 = 0 then
    (f0_passJump_18 outKnowns outTaints q5.1 q5.2.1 q5.2.2.1 q5.2.2.2 v0 v1 v2)
    else (some (q5.1, q5.2.1, q5.2.2.1, q5.2.2.2))))
def rm0_passJump : Room := { frames := 2, cells := 0, slots := 0, locals := 63 }
set_option maxHeartbeats 4000000 in
set_option maxRecDepth 100000 in
theorem k0_passJump_18 {p : Program} {l : Launch} {e : Env} {s : State} {m : MethodId} {args : Array Value} {below : List Frame} {meth : Method} {c : Code} {G : gG} {A : Nat → Prop} {Q : State → Prop} {fl fl_come fl_taints fl_knowns fl_outKnowns : Nat} (C : CX p s m args meth c G A cX0_passJump 4 RX0 wsX0_passJump) {outKnowns : Nat → Int32} {outTaints : Int32} {come : Nat → Int32} {taints : Nat → Int32} {knowns : Nat → Int32} {changed : Int32} {x1 : Int32} {x2 : Int32} {x3 : Int32} {res : (Nat → Int32) × (Nat → Int32) × (Nat → Int32) × Int32} (hR : ∀ (lv : List (Nat × Value)) (pc : Nat), decode cX0_passJump pc = .ok (.return_, 1) → GG p l e rm0_passJump s m args below meth c G A 4 0 0 Q [(fl, oB 0 [.ref fl_come, .ref fl_taints, .ref fl_knowns, .ref fl_outKnowns, .int outTaints, .int res.2.2.2]), (fl_come, aZ G 21 res.1), (fl_taints, aI G 21 res.2.1), (fl_knowns, aI G 126 res.2.2.1), (fl_outKnowns, aI G 6 outKnowns)] lv pc [])
    (hf : f0_passJump_18 outKnowns outTaints come taints knowns changed x1 x2 x3 = some res) : GG p l e rm0_passJump s m args below meth c G A 4 0 0 Q [(fl, oB 0 [.ref fl_come, .ref fl_taints, .ref fl_knowns, .ref fl_outKnowns, .int outTaints, .int changed]), (fl_come, aZ G 21 come), (fl_taints, aI G 21 taints), (fl_knowns, aI G 126 knowns), (fl_outKnowns, aI G 6 outKnowns)] [(0, .ref fl), (1, .int x1), (2, .int x2), (3, .int x3)] 18 [] := by
  unfold f0_passJump_18 at hf
  refine g_aload_n C dX0_passJump_18 rfl 0 rfl ?_
  refine g_iload_n C dX0_passJump_19 rfl 2 rfl ?_
  obtain ⟨q1, hq1, hf⟩ := bs hf
  refine g_callVv (n := 1) (As := [.int x2]) (rest := []) (wc := [(fl, oB 0 [.ref fl_come, .ref fl_taints, .ref fl_knowns, .ref fl_outKnowns, .int outTaints, .int changed]), (fl_come, aZ G 21 come), (fl_taints, aI G 21 taints), (fl_knowns, aI G 126 knowns), (fl_outKnowns, aI G 6 outKnowns)]) (w1 := [(fl, oB 0 [.ref fl_come, .ref fl_taints, .ref fl_knowns, .ref fl_outKnowns, .int outTaints, .int q1.2.2.2]), (fl_come, aZ G 21 q1.1), (fl_taints, aI G 21 q1.2.1), (fl_knowns, aI G 126 q1.2.2.1), (fl_outKnowns, aI G 6 outKnowns)]) (wr := []) (WS' := [(fl, oB 0 [.ref fl_come, .ref fl_taints, .ref fl_knowns, .ref fl_outKnowns, .int outTaints, .int q1.2.2.2]), (fl_come, aZ G 21 q1.1), (fl_taints, aI G 21 q1.2.1), (fl_knowns, aI G 126 q1.2.2.1), (fl_outKnowns, aI G 6 outKnowns)]) C (c0_join hq1) gX0_passJump_X0_join (by decide +kernel) rfl rfl rfl rfl rfl rfl ⟨by decide, by decide⟩ rfl [0, 1, 2, 3, 4] [] [0, 1, 2, 3, 4] rfl (by decide) rfl (by decide) (by decide) rfl (by decide) (Nat.le_of_ble_eq_true rfl) ⟨Nat.zero_le _, Nat.zero_le _⟩ rfl dX0_passJump_20 ?_
  obtain rfl := Option.some.inj hf
  exact hR _ _ dX0_passJump_23
set_option maxHeartbeats 4000000 in
set_option maxRecDepth 100000 in
theorem c0_passJump {l : Launch} {G : gG} {fl fl_come fl_taints fl_knowns fl_outKnowns : Nat} {come : Nat → Int32} {taints : Nat → Int32} {knowns : Nat → Int32} {outKnowns : Nat → Int32} {outTaints : Int32} {changed : Int32} {v0 : Int32} {v1 : Int32} {v2 : Int32} {res : (Nat → Int32) × (Nat → Int32) × (Nat → Int32) × Int32} (hf : f0_passJump outKnowns outTaints come taints knowns changed v0 v1 v2 = some res) : MV l yX0_passJump wsX0_passJump rm0_passJump G [.ref fl, .int v0, .int v1, .int v2] [(fl, oB 0 [.ref fl_come, .ref fl_taints, .ref fl_knowns, .ref fl_outKnowns, .int outTaints, .int changed]), (fl_come, aZ G 21 come), (fl_taints, aI G 21 taints), (fl_knowns, aI G 126 knowns), (fl_outKnowns, aI G 6 outKnowns)] [(fl, oB 0 [.ref fl_come, .ref fl_taints, .ref fl_knowns, .ref fl_outKnowns, .int outTaints, .int res.2.2.2]), (fl_come, aZ G 21 res.1), (fl_taints, aI G 21 res.2.1), (fl_knowns, aI G 126 res.2.2.1), (fl_outKnowns, aI G 6 outKnowns)] := by
  refine MV_of (cc := cX0_passJump) (nL := 4) (lv := [(0, .ref fl), (1, .int v0), (2, .int v1), (3, .int v2)]) (by decide +kernel) rfl (Nat.le_of_ble_eq_true rfl) rfl ?_
  intro p e s m args below meth c A Q C hR
  unfold f0_passJump at hf
  refine g_iload_n C dX0_passJump_0 rfl 1 rfl ?_
  refine g_if_eq (tgt := 9) C dX0_passJump_1 (by decide) (fun c2 => ?_) (fun c2 => ?_)
  · replace hf := ite_t c2 hf
    refine g_iload_n C dX0_passJump_9 rfl 1 rfl ?_
    refine g_iconst (v := (-1 : Int32)) C dX0_passJump_10 (by decide +kernel) ?_
    refine g_icmp_eq (tgt := 18) C dX0_passJump_11 (by decide) (fun c3 => ?_) (fun c3 => ?_)
    · replace hf := ite_t c3 hf
      exact k0_passJump_18 C hR hf
    · replace hf := ite_f c3 hf
      refine g_iload_n C dX0_passJump_14 rfl 1 rfl ?_
      refine g_if_ne (tgt := 23) C dX0_passJump_15 (by decide) (fun c4 => ?_) (fun c4 => ?_)
      · replace hf := ite_f c4 hf
        obtain rfl := Option.some.inj hf
        exact hR _ _ dX0_passJump_23
      · replace hf := ite_t c4 hf
        exact k0_passJump_18 C hR hf
  · replace hf := ite_f c2 hf
    refine g_aload_n C dX0_passJump_4 rfl 0 rfl ?_
    refine g_iload_n C dX0_passJump_5 rfl 3 rfl ?_
    obtain ⟨q5, hq5, hf⟩ := bs hf
    refine g_callVv (n := 1) (As := [.int v2]) (rest := []) (wc := [(fl, oB 0 [.ref fl_come, .ref fl_taints, .ref fl_knowns, .ref fl_outKnowns, .int outTaints, .int changed]), (fl_come, aZ G 21 come), (fl_taints, aI G 21 taints), (fl_knowns, aI G 126 knowns), (fl_outKnowns, aI G 6 outKnowns)]) (w1 := [(fl, oB 0 [.ref fl_come, .ref fl_taints, .ref fl_knowns, .ref fl_outKnowns, .int outTaints, .int q5.2.2.2]), (fl_come, aZ G 21 q5.1), (fl_taints, aI G 21 q5.2.1), (fl_knowns, aI G 126 q5.2.2.1), (fl_outKnowns, aI G 6 outKnowns)]) (wr := []) (WS' := [(fl, oB 0 [.ref fl_come, .ref fl_taints, .ref fl_knowns, .ref fl_outKnowns, .int outTaints, .int q5.2.2.2]), (fl_come, aZ G 21 q5.1), (fl_taints, aI G 21 q5.2.1), (fl_knowns, aI G 126 q5.2.2.1), (fl_outKnowns, aI G 6 outKnowns)]) C (c0_join hq5) gX0_passJump_X0_join (by decide +kernel) rfl rfl rfl rfl rfl rfl ⟨by decide, by decide⟩ rfl [0, 1, 2, 3, 4] [] [0, 1, 2, 3, 4] rfl (by decide) rfl (by decide) (by decide) rfl (by decide) (Nat.le_of_ble_eq_true rfl) ⟨Nat.zero_le _, Nat.zero_le _⟩ rfl dX0_passJump_6 ?_
    refine g_iload_n C dX0_passJump_9 rfl 1 rfl ?_
    refine g_iconst (v := (-1 : Int32)) C dX0_passJump_10 (by decide +kernel) ?_
    refine g_icmp_eq (tgt := 18) C dX0_passJump_11 (by decide) (fun c6 => ?_) (fun c6 => ?_)
    · replace hf := ite_t c6 hf
      exact k0_passJump_18 C hR hf
    · replace hf := ite_f c6 hf
      refine g_iload_n C dX0_passJump_14 rfl 1 rfl ?_
      refine g_if_ne (tgt := 23) C dX0_passJump_15 (by decide) (fun c7 => ?_) (fun c7 => ?_)
      · replace hf := ite_f c7 hf
        obtain rfl := Option.some.inj hf
        exact hR _ _ dX0_passJump_23
      · replace hf := ite_t c7 hf
        exact k0_passJump_18 C hR hf

-- X0_become
def f0_become_28 (outKnowns : Nat → Int32) (outTaints : Int32) (x1 : Int32) (x2 : Int32) (x3 : Int32) (x4 : Int32) (y1 : Int32) : Option ((Nat → Int32) × Int32) :=
  ck (inb x1 6) <|
    some ((upd outKnowns x1.toNatClampNeg x3), y1)
def f0_become (outKnowns : Nat → Int32) (outTaints : Int32) (v0 : Int32) (v1 : Int32) (v2 : Int32) : Option ((Nat → Int32) × Int32) :=
  if v1 = 0 then
    (f0_become_28 outKnowns outTaints v0 v1 v2 (outTaints &&& ((sl32 (1 : Int32) v0) ^^^ (-1 : Int32))) (outTaints &&& ((sl32 (1 : Int32) v0) ^^^ (-1 : Int32))))
    else (f0_become_28 outKnowns outTaints v0 v1 v2 (outTaints &&& ((sl32 (1 : Int32) v0) ^^^ (-1 : Int32))) ((outTaints &&& ((sl32 (1 : Int32) v0) ^^^ (-1 : Int32))) ||| (sl32 (1 : Int32) v0)))
def rm0_become : Room := { frames := 0, cells := 0, slots := 0, locals := 0 }
theorem hm0_become_0 : ∀ w ∈ u_ws RX0 TX0 6, w ∈ wsX0_become := by decide +kernel
theorem hm0_become_1 : Cond.fieldLink RX0 52 "SecretSteps$Flow" "outTaints" "I" ∈ wsX0_become := by decide +kernel
theorem hm0_become_2 : Cond.fieldLink RX0 22 "SecretSteps$Flow" "outKnowns" "[I" ∈ wsX0_become := by decide +kernel
set_option maxHeartbeats 4000000 in
set_option maxRecDepth 100000 in
theorem k0_become_28 {p : Program} {l : Launch} {e : Env} {s : State} {m : MethodId} {args : Array Value} {below : List Frame} {meth : Method} {c : Code} {G : gG} {A : Nat → Prop} {Q : State → Prop} {fl fl_come fl_taints fl_knowns fl_outKnowns : Nat} (C : CX p s m args meth c G A cX0_become 5 RX0 wsX0_become) {come : Nat → Int32} {taints : Nat → Int32} {knowns : Nat → Int32} {changed : Int32} {outKnowns : Nat → Int32} {outTaints : Int32} {x1 : Int32} {x2 : Int32} {x3 : Int32} {x4 : Int32} {y1 : Int32} {res : (Nat → Int32) × Int32} (hR : ∀ (lv : List (Nat × Value)) (pc : Nat), decode cX0_become pc = .ok (.return_, 1) → GG p l e rm0_become s m args below meth c G A 5 0 0 Q [(fl, oB 0 [.ref fl_come, .ref fl_taints, .ref fl_knowns, .ref fl_outKnowns, .int res.2, .int changed]), (fl_come, aZ G 21 come), (fl_taints, aI G 21 taints), (fl_knowns, aI G 126 knowns), (fl_outKnowns, aI G 6 res.1)] lv pc [])
    (hf : f0_become_28 outKnowns outTaints x1 x2 x3 x4 y1 = some res) : GG p l e rm0_become s m args below meth c G A 5 0 0 Q [(fl, oB 0 [.ref fl_come, .ref fl_taints, .ref fl_knowns, .ref fl_outKnowns, .int outTaints, .int changed]), (fl_come, aZ G 21 come), (fl_taints, aI G 21 taints), (fl_knowns, aI G 126 knowns), (fl_outKnowns, aI G 6 outKnowns)] [(0, .ref fl), (1, .int x1), (2, .int x2), (3, .int x3), (4, .int x4)] 28 [.int y1, .ref fl] := by
  unfold f0_become_28 at hf
  refine g_put (C0 := RX0) (T := TX0) (N := 6) (ci := 0) (ty := .int) (WS' := [(fl, oB 0 [.ref fl_come, .ref fl_taints, .ref fl_knowns, .ref fl_outKnowns, .int y1, .int changed]), (fl_come, aZ G 21 come), (fl_taints, aI G 21 taints), (fl_knowns, aI G 126 knowns), (fl_outKnowns, aI G 6 outKnowns)]) C hm0_become_0 tyX0 tyX0_ok nmX0 0 rfl rfl 4 (by decide) hm0_become_1 rfl rfl rfl rfl (Nat.le_of_ble_eq_true rfl) dX0_become_28 rfl ?_
  refine g_aload_n C dX0_become_31 rfl 0 rfl ?_
  refine g_get (C0 := RX0) (T := TX0) (N := 6) (ci := 0) (v := .ref fl_outKnowns) C hm0_become_0 0 rfl rfl 3 (by decide) hm0_become_2 rfl dX0_become_32 ?_
  refine g_iload_n C dX0_become_35 rfl 1 rfl ?_
  refine g_iload_n C dX0_become_36 rfl 3 rfl ?_
  obtain ⟨h1, hf⟩ := ck_some hf
  refine g_iast (n := 6) (WS' := [(fl, oB 0 [.ref fl_come, .ref fl_taints, .ref fl_knowns, .ref fl_outKnowns, .int y1, .int changed]), (fl_come, aZ G 21 come), (fl_taints, aI G 21 taints), (fl_knowns, aI G 126 knowns), (fl_outKnowns, aI G 6 (upd outKnowns x1.toNatClampNeg x3))]) C 4 rfl h1 rfl dX0_become_37 rfl ?_
  obtain rfl := Option.some.inj hf
  exact hR _ _ dX0_become_38
set_option maxHeartbeats 4000000 in
set_option maxRecDepth 100000 in
theorem c0_become {l : Launch} {G : gG} {fl fl_come fl_taints fl_knowns fl_outKnowns : Nat} {come : Nat → Int32} {taints : Nat → Int32} {knowns : Nat → Int32} {outKnowns : Nat → Int32} {outTaints : Int32} {changed : Int32} {v0 : Int32} {v1 : Int32} {v2 : Int32} {res : (Nat → Int32) × Int32} (hf : f0_become outKnowns outTaints v0 v1 v2 = some res) : MV l yX0_become wsX0_become rm0_become G [.ref fl, .int v0, .int v1, .int v2] [(fl, oB 0 [.ref fl_come, .ref fl_taints, .ref fl_knowns, .ref fl_outKnowns, .int outTaints, .int changed]), (fl_come, aZ G 21 come), (fl_taints, aI G 21 taints), (fl_knowns, aI G 126 knowns), (fl_outKnowns, aI G 6 outKnowns)] [(fl, oB 0 [.ref fl_come, .ref fl_taints, .ref fl_knowns, .ref fl_outKnowns, .int res.2, .int changed]), (fl_come, aZ G 21 come), (fl_taints, aI G 21 taints), (fl_knowns, aI G 126 knowns), (fl_outKnowns, aI G 6 res.1)] := by
  refine MV_of (cc := cX0_become) (nL := 5) (lv := [(0, .ref fl), (1, .int v0), (2, .int v1), (3, .int v2)]) (by decide +kernel) rfl (Nat.le_of_ble_eq_true rfl) rfl ?_
  intro p e s m args below meth c A Q C hR
  unfold f0_become at hf
  refine g_aload_n C dX0_become_0 rfl 0 rfl ?_
  refine g_get (C0 := RX0) (T := TX0) (N := 6) (ci := 0) (v := .int outTaints) C hm0_become_0 0 rfl rfl 4 (by decide) hm0_become_1 rfl dX0_become_1 ?_
  refine g_iconst (v := (1 : Int32)) C dX0_become_4 (by decide +kernel) ?_
  refine g_iload_n C dX0_become_5 rfl 1 rfl ?_
  refine g_ishl C dX0_become_6 ?_
  refine g_iconst (v := (-1 : Int32)) C dX0_become_7 (by decide +kernel) ?_
  refine g_ixor C dX0_become_8 ?_
  refine g_iand C dX0_become_9 ?_
  refine g_istore (lv' := [(0, .ref fl), (1, .int v0), (2, .int v1), (3, .int v2), (4, .int (outTaints &&& ((sl32 (1 : Int32) v0) ^^^ (-1 : Int32))))]) C dX0_become_10 (by decide) [1, 2, 3, 4, 0] rfl ?_
  refine g_aload_n C dX0_become_12 rfl 0 rfl ?_
  refine g_iload_n C dX0_become_13 rfl 2 rfl ?_
  refine g_if_eq (tgt := 26) C dX0_become_14 (by decide) (fun c2 => ?_) (fun c2 => ?_)
  · replace hf := ite_t c2 hf
    refine g_iload C dX0_become_26 4 rfl ?_
    exact k0_become_28 C hR hf
  · replace hf := ite_f c2 hf
    refine g_iload C dX0_become_17 4 rfl ?_
    refine g_iconst (v := (1 : Int32)) C dX0_become_19 (by decide +kernel) ?_
    refine g_iload_n C dX0_become_20 rfl 1 rfl ?_
    refine g_ishl C dX0_become_21 ?_
    refine g_ior C dX0_become_22 ?_
    refine g_goto (tgt := 28) C dX0_become_23 (by decide) ?_
    exact k0_become_28 C hR hf

-- X0_tainted
def f0_tainted (outTaints : Int32) (v0 : Int32) : Option (Int32) :=
  if ((sr32 outTaints v0) &&& (1 : Int32)) = (1 : Int32) then
    (some (1 : Int32))
    else (some (0 : Int32))
def rm0_tainted : Room := { frames := 0, cells := 0, slots := 0, locals := 0 }
theorem hm0_tainted_0 : ∀ w ∈ u_ws RX0 TX0 6, w ∈ wsX0_tainted := by decide +kernel
theorem hm0_tainted_1 : Cond.fieldLink RX0 52 "SecretSteps$Flow" "outTaints" "I" ∈ wsX0_tainted := by decide +kernel
set_option maxHeartbeats 4000000 in
set_option maxRecDepth 100000 in
theorem c0_tainted {l : Launch} {G : gG} {fl fl_come fl_taints fl_knowns fl_outKnowns : Nat} {come : Nat → Int32} {taints : Nat → Int32} {knowns : Nat → Int32} {outKnowns : Nat → Int32} {outTaints : Int32} {changed : Int32} {v0 : Int32} {res : Int32} (hf : f0_tainted outTaints v0 = some res) : MI l yX0_tainted wsX0_tainted rm0_tainted G [.ref fl, .int v0] [(fl, oB 0 [.ref fl_come, .ref fl_taints, .ref fl_knowns, .ref fl_outKnowns, .int outTaints, .int changed]), (fl_come, aZ G 21 come), (fl_taints, aI G 21 taints), (fl_knowns, aI G 126 knowns), (fl_outKnowns, aI G 6 outKnowns)] (res) [(fl, oB 0 [.ref fl_come, .ref fl_taints, .ref fl_knowns, .ref fl_outKnowns, .int outTaints, .int changed]), (fl_come, aZ G 21 come), (fl_taints, aI G 21 taints), (fl_knowns, aI G 126 knowns), (fl_outKnowns, aI G 6 outKnowns)] := by
  refine MZ_of (res) (cc := cX0_tainted) (nL := 2) (lv := [(0, .ref fl), (1, .int v0)]) (by decide +kernel) rfl (Nat.le_of_ble_eq_true rfl) rfl ?_
  intro p e s m args below meth c A Q C hR
  unfold f0_tainted at hf
  refine g_aload_n C dX0_tainted_0 rfl 0 rfl ?_
  refine g_get (C0 := RX0) (T := TX0) (N := 6) (ci := 0) (v := .int outTaints) C hm0_tainted_0 0 rfl rfl 4 (by decide) hm0_tainted_1 rfl dX0_tainted_1 ?_
  refine g_iload_n C dX0_tainted_4 rfl 1 rfl ?_
  refine g_ishr C dX0_tainted_5 ?_
  refine g_iconst (v := (1 : Int32)) C dX0_tainted_6 (by decide +kernel) ?_
  refine g_iand C dX0_tainted_7 ?_
  refine g_iconst (v := (1 : Int32)) C dX0_tainted_8 (by decide +kernel) ?_
  refine g_icmp_ne (tgt := 16) C dX0_tainted_9 (by decide) (fun c1 => ?_) (fun c1 => ?_)
  · replace hf := ite_f c1 hf
    refine g_iconst (v := (0 : Int32)) C dX0_tainted_16 (by decide +kernel) ?_
    obtain rfl := Option.some.inj hf
    exact hR _ _ dX0_tainted_17 isb0
  · replace hf := ite_t c1 hf
    refine g_iconst (v := (1 : Int32)) C dX0_tainted_12 (by decide +kernel) ?_
    refine g_goto (tgt := 17) C dX0_tainted_13 (by decide) ?_
    obtain rfl := Option.some.inj hf
    exact hR _ _ dX0_tainted_17 isb1

-- X0_pick
def f0_pick_87 (outKnowns : Nat → Int32) (outTaints : Int32) (x1 : Int32) (x2 : Int32) (x3 : Int32) (x4 : Int32) : Option ((Nat → Int32) × Int32) :=
  (f0_tainted outTaints x1).bind <| fun q1 =>
    if q1 = 0 then
    ((f0_tainted outTaints x2).bind <| fun q4 =>
    if q4 = 0 then
    ((f0_tainted outTaints x3).bind <| fun q7 =>
    if q7 = 0 then
    ((f0_become outKnowns outTaints x1 (0 : Int32) (-1 : Int32)).bind <| fun q9 =>
    some (q9.1, q9.2))
    else ((f0_become outKnowns outTaints x1 (1 : Int32) (-1 : Int32)).bind <| fun q10 =>
    some (q10.1, q10.2)))
    else ((f0_become outKnowns outTaints x1 (1 : Int32) (-1 : Int32)).bind <| fun q6 =>
    some (q6.1, q6.2)))
    else ((f0_become outKnowns outTaints x1 (1 : Int32) (-1 : Int32)).bind <| fun q3 =>
    some (q3.1, q3.2))
def f0_pick_24 (outKnowns : Nat → Int32) (outTaints : Int32) (x1 : Int32) (x2 : Int32) (x3 : Int32) (x4 : Int32) (y0 : Int32) : Option ((Nat → Int32) × Int32) :=
  (f0_tainted outTaints y0).bind <| fun q11 =>
    ck (inb y0 6) <|
    (f0_become outKnowns outTaints x1 q11 (outKnowns y0.toNatClampNeg)).bind <| fun q13 =>
    some (q13.1, q13.2)
def f0_pick_8 (outKnowns : Nat → Int32) (outTaints : Int32) (x1 : Int32) (x2 : Int32) (x3 : Int32) (x4 : Int32) : Option ((Nat → Int32) × Int32) :=
  if x4 = (-1 : Int32) then
    (ck (inb x2 6) <|
    if (outKnowns x2.toNatClampNeg) = (-1 : Int32) then
    (f0_pick_87 outKnowns outTaints x1 x2 x3 x4)
    else (ck (inb x2 6) <|
    ck (inb x3 6) <|
    if (outKnowns x2.toNatClampNeg) = (outKnowns x3.toNatClampNeg) then
    (ck (inb x2 6) <|
    (f0_become outKnowns outTaints x1 (0 : Int32) (outKnowns x2.toNatClampNeg)).bind <| fun q21 =>
    some (q21.1, q21.2))
    else (f0_pick_87 outKnowns outTaints x1 x2 x3 x4)))
    else (if x4 = 0 then
    (f0_pick_24 outKnowns outTaints x1 x2 x3 x4 x3)
    else (f0_pick_24 outKnowns outTaints x1 x2 x3 x4 x2))
def f0_pick (outKnowns : Nat → Int32) (outTaints : Int32) (v0 : Int32) (v1 : Int32) (v2 : Int32) : Option ((Nat → Int32) × Int32) :=
  ck (inb v0 6) <|
    f0_pick_8 outKnowns outTaints v0 v1 v2 (outKnowns v0.toNatClampNeg)
def rm0_pick : Room := { frames := 1, cells := 0, slots := 0, locals := 24 }
theorem hm0_pick_0 : ∀ w ∈ u_ws RX0 TX0 6, w ∈ wsX0_pick := by decide +kernel
theorem hm0_pick_1 : Cond.fieldLink RX0 22 "SecretSteps$Flow" "outKnowns" "[I" ∈ wsX0_pick := by decide +kernel
set_option maxHeartbeats 4000000 in
set_option maxRecDepth 100000 in
theorem k0_pick_87 {p : Program} {l : Launch} {e : Env} {s : State} {m : MethodId} {args : Array Value} {below : List Frame} {meth : Method} {c : Code} {G : gG} {A : Nat → Prop} {Q : State → Prop} {fl fl_come fl_taints fl_knowns fl_outKnowns : Nat} (C : CX p s m args meth c G A cX0_pick 6 RX0 wsX0_pick) {come : Nat → Int32} {taints : Nat → Int32} {knowns : Nat → Int32} {changed : Int32} {outKnowns : Nat → Int32} {outTaints : Int32} {x1 : Int32} {x2 : Int32} {x3 : Int32} {x4 : Int32} {res : (Nat → Int32) × Int32} (hR : ∀ (lv : List (Nat × Value)) (pc : Nat), decode cX0_pick pc = .ok (.return_, 1) → GG p l e rm0_pick s m args below meth c G A 6 0 0 Q [(fl, oB 0 [.ref fl_come, .ref fl_taints, .ref fl_knowns, .ref fl_outKnowns, .int res.2, .int changed]), (fl_come, aZ G 21 come), (fl_taints, aI G 21 taints), (fl_knowns, aI G 126 knowns), (fl_outKnowns, aI G 6 res.1)] lv pc [])
    (hf : f0_pick_87 outKnowns outTaints x1 x2 x3 x4 = some res) : GG p l e rm0_pick s m args below meth c G A 6 0 0 Q [(fl, oB 0 [.ref fl_come, .ref fl_taints, .ref fl_knowns, .ref fl_outKnowns, .int outTaints, .int changed]), (fl_come, aZ G 21 come), (fl_taints, aI G 21 taints), (fl_knowns, aI G 126 knowns), (fl_outKnowns, aI G 6 outKnowns)] [(0, .ref fl), (1, .int x1), (2, .int x2), (3, .int x3), (4, .int x4)] 87 [] := by
  unfold f0_pick_87 at hf
  refine g_aload_n C dX0_pick_87 rfl 0 rfl ?_
  refine g_iload_n C dX0_pick_88 rfl 1 rfl ?_
  refine g_aload_n C dX0_pick_89 rfl 0 rfl ?_
  refine g_iload_n C dX0_pick_90 rfl 1 rfl ?_
  obtain ⟨q1, hq1, hf⟩ := bs hf
  refine g_callVi (n := 1) (As := [.int x1]) (rest := [.int x1, .ref fl]) (wc := [(fl, oB 0 [.ref fl_come, .ref fl_taints, .ref fl_knowns, .ref fl_outKnowns, .int outTaints, .int changed]), (fl_come, aZ G 21 come), (fl_taints, aI G 21 taints), (fl_knowns, aI G 126 knowns), (fl_outKnowns, aI G 6 outKnowns)]) (w1 := [(fl, oB 0 [.ref fl_come, .ref fl_taints, .ref fl_knowns, .ref fl_outKnowns, .int outTaints, .int changed]), (fl_come, aZ G 21 come), (fl_taints, aI G 21 taints), (fl_knowns, aI G 126 knowns), (fl_outKnowns, aI G 6 outKnowns)]) (wr := []) (WS' := [(fl, oB 0 [.ref fl_come, .ref fl_taints, .ref fl_knowns, .ref fl_outKnowns, .int outTaints, .int changed]), (fl_come, aZ G 21 come), (fl_taints, aI G 21 taints), (fl_knowns, aI G 126 knowns), (fl_outKnowns, aI G 6 outKnowns)]) C (c0_tainted hq1) gX0_pick_X0_tainted (by decide +kernel) rfl rfl rfl rfl rfl rfl ⟨by decide, by decide⟩ rfl [0, 1, 2, 3, 4] [] [0, 1, 2, 3, 4] rfl (by decide) rfl (by decide) (by decide) rfl (by decide) (Nat.le_of_ble_eq_true rfl) ⟨Nat.zero_le _, Nat.zero_le _⟩ rfl dX0_pick_91 ?_
  refine g_if_ne (tgt := 113) C dX0_pick_94 (by decide) (fun c2 => ?_) (fun c2 => ?_)
  · replace hf := ite_f c2 hf
    refine g_iconst (v := (1 : Int32)) C dX0_pick_113 (by decide +kernel) ?_
    refine g_goto (tgt := 118) C dX0_pick_114 (by decide) ?_
    refine g_iconst (v := (-1 : Int32)) C dX0_pick_118 (by decide +kernel) ?_
    obtain ⟨q3, hq3, hf⟩ := bs hf
    refine g_callVv (n := 3) (As := [.int x1, .int (1 : Int32), .int (-1 : Int32)]) (rest := []) (wc := [(fl, oB 0 [.ref fl_come, .ref fl_taints, .ref fl_knowns, .ref fl_outKnowns, .int outTaints, .int changed]), (fl_come, aZ G 21 come), (fl_taints, aI G 21 taints), (fl_knowns, aI G 126 knowns), (fl_outKnowns, aI G 6 outKnowns)]) (w1 := [(fl, oB 0 [.ref fl_come, .ref fl_taints, .ref fl_knowns, .ref fl_outKnowns, .int q3.2, .int changed]), (fl_come, aZ G 21 come), (fl_taints, aI G 21 taints), (fl_knowns, aI G 126 knowns), (fl_outKnowns, aI G 6 q3.1)]) (wr := []) (WS' := [(fl, oB 0 [.ref fl_come, .ref fl_taints, .ref fl_knowns, .ref fl_outKnowns, .int q3.2, .int changed]), (fl_come, aZ G 21 come), (fl_taints, aI G 21 taints), (fl_knowns, aI G 126 knowns), (fl_outKnowns, aI G 6 q3.1)]) C (c0_become hq3) gX0_pick_X0_become (by decide +kernel) rfl rfl rfl rfl rfl rfl ⟨by decide, by decide⟩ rfl [0, 1, 2, 3, 4] [] [0, 1, 2, 3, 4] rfl (by decide) rfl (by decide) (by decide) rfl (by decide) (Nat.le_of_ble_eq_true rfl) ⟨Nat.zero_le _, Nat.zero_le _⟩ rfl dX0_pick_119 ?_
    obtain rfl := Option.some.inj hf
    exact hR _ _ dX0_pick_122
  · replace hf := ite_t c2 hf
    refine g_aload_n C dX0_pick_97 rfl 0 rfl ?_
    refine g_iload_n C dX0_pick_98 rfl 2 rfl ?_
    obtain ⟨q4, hq4, hf⟩ := bs hf
    refine g_callVi (n := 1) (As := [.int x2]) (rest := [.int x1, .ref fl]) (wc := [(fl, oB 0 [.ref fl_come, .ref fl_taints, .ref fl_knowns, .ref fl_outKnowns, .int outTaints, .int changed]), (fl_come, aZ G 21 come), (fl_taints, aI G 21 taints), (fl_knowns, aI G 126 knowns), (fl_outKnowns, aI G 6 outKnowns)]) (w1 := [(fl, oB 0 [.ref fl_come, .ref fl_taints, .ref fl_knowns, .ref fl_outKnowns, .int outTaints, .int changed]), (fl_come, aZ G 21 come), (fl_taints, aI G 21 taints), (fl_knowns, aI G 126 knowns), (fl_outKnowns, aI G 6 outKnowns)]) (wr := []) (WS' := [(fl, oB 0 [.ref fl_come, .ref fl_taints, .ref fl_knowns, .ref fl_outKnowns, .int outTaints, .int changed]), (fl_come, aZ G 21 come), (fl_taints, aI G 21 taints), (fl_knowns, aI G 126 knowns), (fl_outKnowns, aI G 6 outKnowns)]) C (c0_tainted hq4) gX0_pick_X0_tainted (by decide +kernel) rfl rfl rfl rfl rfl rfl ⟨by decide, by decide⟩ rfl [0, 1, 2, 3, 4] [] [0, 1, 2, 3, 4] rfl (by decide) rfl (by decide) (by decide) rfl (by decide) (Nat.le_of_ble_eq_true rfl) ⟨Nat.zero_le _, Nat.zero_le _⟩ rfl dX0_pick_99 ?_
    refine g_if_ne (tgt := 113) C dX0_pick_102 (by decide) (fun c5 => ?_) (fun c5 => ?_)
    · replace hf := ite_f c5 hf
      refine g_iconst (v := (1 : Int32)) C dX0_pick_113 (by decide +kernel) ?_
      refine g_goto (tgt := 118) C dX0_pick_114 (by decide) ?_
      refine g_iconst (v := (-1 : Int32)) C dX0_pick_118 (by decide +kernel) ?_
      obtain ⟨q6, hq6, hf⟩ := bs hf
      refine g_callVv (n := 3) (As := [.int x1, .int (1 : Int32), .int (-1 : Int32)]) (rest := []) (wc := [(fl, oB 0 [.ref fl_come, .ref fl_taints, .ref fl_knowns, .ref fl_outKnowns, .int outTaints, .int changed]), (fl_come, aZ G 21 come), (fl_taints, aI G 21 taints), (fl_knowns, aI G 126 knowns), (fl_outKnowns, aI G 6 outKnowns)]) (w1 := [(fl, oB 0 [.ref fl_come, .ref fl_taints, .ref fl_knowns, .ref fl_outKnowns, .int q6.2, .int changed]), (fl_come, aZ G 21 come), (fl_taints, aI G 21 taints), (fl_knowns, aI G 126 knowns), (fl_outKnowns, aI G 6 q6.1)]) (wr := []) (WS' := [(fl, oB 0 [.ref fl_come, .ref fl_taints, .ref fl_knowns, .ref fl_outKnowns, .int q6.2, .int changed]), (fl_come, aZ G 21 come), (fl_taints, aI G 21 taints), (fl_knowns, aI G 126 knowns), (fl_outKnowns, aI G 6 q6.1)]) C (c0_become hq6) gX0_pick_X0_become (by decide +kernel) rfl rfl rfl rfl rfl rfl ⟨by decide, by decide⟩ rfl [0, 1, 2, 3, 4] [] [0, 1, 2, 3, 4] rfl (by decide) rfl (by decide) (by decide) rfl (by decide) (Nat.le_of_ble_eq_true rfl) ⟨Nat.zero_le _, Nat.zero_le _⟩ rfl dX0_pick_119 ?_
      obtain rfl := Option.some.inj hf
      exact hR _ _ dX0_pick_122
    · replace hf := ite_t c5 hf
      refine g_aload_n C dX0_pick_105 rfl 0 rfl ?_
      refine g_iload_n C dX0_pick_106 rfl 3 rfl ?_
      obtain ⟨q7, hq7, hf⟩ := bs hf
      refine g_callVi (n := 1) (As := [.int x3]) (rest := [.int x1, .ref fl]) (wc := [(fl, oB 0 [.ref fl_come, .ref fl_taints, .ref fl_knowns, .ref fl_outKnowns, .int outTaints, .int changed]), (fl_come, aZ G 21 come), (fl_taints, aI G 21 taints), (fl_knowns, aI G 126 knowns), (fl_outKnowns, aI G 6 outKnowns)]) (w1 := [(fl, oB 0 [.ref fl_come, .ref fl_taints, .ref fl_knowns, .ref fl_outKnowns, .int outTaints, .int changed]), (fl_come, aZ G 21 come), (fl_taints, aI G 21 taints), (fl_knowns, aI G 126 knowns), (fl_outKnowns, aI G 6 outKnowns)]) (wr := []) (WS' := [(fl, oB 0 [.ref fl_come, .ref fl_taints, .ref fl_knowns, .ref fl_outKnowns, .int outTaints, .int changed]), (fl_come, aZ G 21 come), (fl_taints, aI G 21 taints), (fl_knowns, aI G 126 knowns), (fl_outKnowns, aI G 6 outKnowns)]) C (c0_tainted hq7) gX0_pick_X0_tainted (by decide +kernel) rfl rfl rfl rfl rfl rfl ⟨by decide, by decide⟩ rfl [0, 1, 2, 3, 4] [] [0, 1, 2, 3, 4] rfl (by decide) rfl (by decide) (by decide) rfl (by decide) (Nat.le_of_ble_eq_true rfl) ⟨Nat.zero_le _, Nat.zero_le _⟩ rfl dX0_pick_107 ?_
      refine g_if_eq (tgt := 117) C dX0_pick_110 (by decide) (fun c8 => ?_) (fun c8 => ?_)
      · replace hf := ite_t c8 hf
        refine g_iconst (v := (0 : Int32)) C dX0_pick_117 (by decide +kernel) ?_
        refine g_iconst (v := (-1 : Int32)) C dX0_pick_118 (by decide +kernel) ?_
        obtain ⟨q9, hq9, hf⟩ := bs hf
        refine g_callVv (n := 3) (As := [.int x1, .int (0 : Int32), .int (-1 : Int32)]) (rest := []) (wc := [(fl, oB 0 [.ref fl_come, .ref fl_taints, .ref fl_knowns, .ref fl_outKnowns, .int outTaints, .int changed]), (fl_come, aZ G 21 come), (fl_taints, aI G 21 taints), (fl_knowns, aI G 126 knowns), (fl_outKnowns, aI G 6 outKnowns)]) (w1 := [(fl, oB 0 [.ref fl_come, .ref fl_taints, .ref fl_knowns, .ref fl_outKnowns, .int q9.2, .int changed]), (fl_come, aZ G 21 come), (fl_taints, aI G 21 taints), (fl_knowns, aI G 126 knowns), (fl_outKnowns, aI G 6 q9.1)]) (wr := []) (WS' := [(fl, oB 0 [.ref fl_come, .ref fl_taints, .ref fl_knowns, .ref fl_outKnowns, .int q9.2, .int changed]), (fl_come, aZ G 21 come), (fl_taints, aI G 21 taints), (fl_knowns, aI G 126 knowns), (fl_outKnowns, aI G 6 q9.1)]) C (c0_become hq9) gX0_pick_X0_become (by decide +kernel) rfl rfl rfl rfl rfl rfl ⟨by decide, by decide⟩ rfl [0, 1, 2, 3, 4] [] [0, 1, 2, 3, 4] rfl (by decide) rfl (by decide) (by decide) rfl (by decide) (Nat.le_of_ble_eq_true rfl) ⟨Nat.zero_le _, Nat.zero_le _⟩ rfl dX0_pick_119 ?_
        obtain rfl := Option.some.inj hf
        exact hR _ _ dX0_pick_122
      · replace hf := ite_f c8 hf
        refine g_iconst (v := (1 : Int32)) C dX0_pick_113 (by decide +kernel) ?_
        refine g_goto (tgt := 118) C dX0_pick_114 (by decide) ?_
        refine g_iconst (v := (-1 : Int32)) C dX0_pick_118 (by decide +kernel) ?_
        obtain ⟨q10, hq10, hf⟩ := bs hf
        refine g_callVv (n := 3) (As := [.int x1, .int (1 : Int32), .int (-1 : Int32)]) (rest := []) (wc := [(fl, oB 0 [.ref fl_come, .ref fl_taints, .ref fl_knowns, .ref fl_outKnowns, .int outTaints, .int changed]), (fl_come, aZ G 21 come), (fl_taints, aI G 21 taints), (fl_knowns, aI G 126 knowns), (fl_outKnowns, aI G 6 outKnowns)]) (w1 := [(fl, oB 0 [.ref fl_come, .ref fl_taints, .ref fl_knowns, .ref fl_outKnowns, .int q10.2, .int changed]), (fl_come, aZ G 21 come), (fl_taints, aI G 21 taints), (fl_knowns, aI G 126 knowns), (fl_outKnowns, aI G 6 q10.1)]) (wr := []) (WS' := [(fl, oB 0 [.ref fl_come, .ref fl_taints, .ref fl_knowns, .ref fl_outKnowns, .int q10.2, .int changed]), (fl_come, aZ G 21 come), (fl_taints, aI G 21 taints), (fl_knowns, aI G 126 knowns), (fl_outKnowns, aI G 6 q10.1)]) C (c0_become hq10) gX0_pick_X0_become (by decide +kernel) rfl rfl rfl rfl rfl rfl ⟨by decide, by decide⟩ rfl [0, 1, 2, 3, 4] [] [0, 1, 2, 3, 4] rfl (by decide) rfl (by decide) (by decide) rfl (by decide) (Nat.le_of_ble_eq_true rfl) ⟨Nat.zero_le _, Nat.zero_le _⟩ rfl dX0_pick_119 ?_
        obtain rfl := Option.some.inj hf
        exact hR _ _ dX0_pick_122
set_option maxHeartbeats 4000000 in
set_option maxRecDepth 100000 in
theorem k0_pick_24 {p : Program} {l : Launch} {e : Env} {s : State} {m : MethodId} {args : Array Value} {below : List Frame} {meth : Method} {c : Code} {G : gG} {A : Nat → Prop} {Q : State → Prop} {fl fl_come fl_taints fl_knowns fl_outKnowns : Nat} (C : CX p s m args meth c G A cX0_pick 6 RX0 wsX0_pick) {come : Nat → Int32} {taints : Nat → Int32} {knowns : Nat → Int32} {changed : Int32} {outKnowns : Nat → Int32} {outTaints : Int32} {x1 : Int32} {x2 : Int32} {x3 : Int32} {x4 : Int32} {y0 : Int32} {res : (Nat → Int32) × Int32} (hR : ∀ (lv : List (Nat × Value)) (pc : Nat), decode cX0_pick pc = .ok (.return_, 1) → GG p l e rm0_pick s m args below meth c G A 6 0 0 Q [(fl, oB 0 [.ref fl_come, .ref fl_taints, .ref fl_knowns, .ref fl_outKnowns, .int res.2, .int changed]), (fl_come, aZ G 21 come), (fl_taints, aI G 21 taints), (fl_knowns, aI G 126 knowns), (fl_outKnowns, aI G 6 res.1)] lv pc [])
    (hf : f0_pick_24 outKnowns outTaints x1 x2 x3 x4 y0 = some res) : GG p l e rm0_pick s m args below meth c G A 6 0 0 Q [(fl, oB 0 [.ref fl_come, .ref fl_taints, .ref fl_knowns, .ref fl_outKnowns, .int outTaints, .int changed]), (fl_come, aZ G 21 come), (fl_taints, aI G 21 taints), (fl_knowns, aI G 126 knowns), (fl_outKnowns, aI G 6 outKnowns)] [(0, .ref fl), (1, .int x1), (2, .int x2), (3, .int x3), (4, .int x4)] 24 [.int y0] := by
  unfold f0_pick_24 at hf
  refine g_istore (lv' := [(0, .ref fl), (1, .int x1), (2, .int x2), (3, .int x3), (4, .int x4), (5, .int y0)]) C dX0_pick_24 (by decide) [1, 2, 3, 4, 5, 0] rfl ?_
  refine g_aload_n C dX0_pick_26 rfl 0 rfl ?_
  refine g_iload_n C dX0_pick_27 rfl 1 rfl ?_
  refine g_aload_n C dX0_pick_28 rfl 0 rfl ?_
  refine g_iload C dX0_pick_29 5 rfl ?_
  obtain ⟨q11, hq11, hf⟩ := bs hf
  refine g_callVi (n := 1) (As := [.int y0]) (rest := [.int x1, .ref fl]) (wc := [(fl, oB 0 [.ref fl_come, .ref fl_taints, .ref fl_knowns, .ref fl_outKnowns, .int outTaints, .int changed]), (fl_come, aZ G 21 come), (fl_taints, aI G 21 taints), (fl_knowns, aI G 126 knowns), (fl_outKnowns, aI G 6 outKnowns)]) (w1 := [(fl, oB 0 [.ref fl_come, .ref fl_taints, .ref fl_knowns, .ref fl_outKnowns, .int outTaints, .int changed]), (fl_come, aZ G 21 come), (fl_taints, aI G 21 taints), (fl_knowns, aI G 126 knowns), (fl_outKnowns, aI G 6 outKnowns)]) (wr := []) (WS' := [(fl, oB 0 [.ref fl_come, .ref fl_taints, .ref fl_knowns, .ref fl_outKnowns, .int outTaints, .int changed]), (fl_come, aZ G 21 come), (fl_taints, aI G 21 taints), (fl_knowns, aI G 126 knowns), (fl_outKnowns, aI G 6 outKnowns)]) C (c0_tainted hq11) gX0_pick_X0_tainted (by decide +kernel) rfl rfl rfl rfl rfl rfl ⟨by decide, by decide⟩ rfl [0, 1, 2, 3, 4] [] [0, 1, 2, 3, 4] rfl (by decide) rfl (by decide) (by decide) rfl (by decide) (Nat.le_of_ble_eq_true rfl) ⟨Nat.zero_le _, Nat.zero_le _⟩ rfl dX0_pick_31 ?_
  refine g_aload_n C dX0_pick_34 rfl 0 rfl ?_
  refine g_get (C0 := RX0) (T := TX0) (N := 6) (ci := 0) (v := .ref fl_outKnowns) C hm0_pick_0 0 rfl rfl 3 (by decide) hm0_pick_1 rfl dX0_pick_35 ?_
  refine g_iload C dX0_pick_38 5 rfl ?_
  obtain ⟨h12, hf⟩ := ck_some hf
  refine g_iald (n := 6) (v := (outKnowns y0.toNatClampNeg)) C 4 rfl h12 rfl rfl dX0_pick_40 ?_
  obtain ⟨q13, hq13, hf⟩ := bs hf
  refine g_callVv (n := 3) (As := [.int x1, .int q11, .int (outKnowns y0.toNatClampNeg)]) (rest := []) (wc := [(fl, oB 0 [.ref fl_come, .ref fl_taints, .ref fl_knowns, .ref fl_outKnowns, .int outTaints, .int changed]), (fl_come, aZ G 21 come), (fl_taints, aI G 21 taints), (fl_knowns, aI G 126 knowns), (fl_outKnowns, aI G 6 outKnowns)]) (w1 := [(fl, oB 0 [.ref fl_come, .ref fl_taints, .ref fl_knowns, .ref fl_outKnowns, .int q13.2, .int changed]), (fl_come, aZ G 21 come), (fl_taints, aI G 21 taints), (fl_knowns, aI G 126 knowns), (fl_outKnowns, aI G 6 q13.1)]) (wr := []) (WS' := [(fl, oB 0 [.ref fl_come, .ref fl_taints, .ref fl_knowns, .ref fl_outKnowns, .int q13.2, .int changed]), (fl_come, aZ G 21 come), (fl_taints, aI G 21 taints), (fl_knowns, aI G 126 knowns), (fl_outKnowns, aI G 6 q13.1)]) C (c0_become hq13) gX0_pick_X0_become (by decide +kernel) rfl rfl rfl rfl rfl rfl ⟨by decide, by decide⟩ rfl [0, 1, 2, 3, 4] [] [0, 1, 2, 3, 4] rfl (by decide) rfl (by decide) (by decide) rfl (by decide) (Nat.le_of_ble_eq_true rfl) ⟨Nat.zero_le _, Nat.zero_le _⟩ rfl dX0_pick_41 ?_
  refine g_goto (tgt := 122) C dX0_pick_44 (by decide) ?_
  obtain rfl := Option.some.inj hf
  exact hR _ _ dX0_pick_122
set_option maxHeartbeats 4000000 in
set_option maxRecDepth 100000 in
theorem k0_pick_8 {p : Program} {l : Launch} {e : Env} {s : State} {m : MethodId} {args : Array Value} {below : List Frame} {meth : Method} {c : Code} {G : gG} {A : Nat → Prop} {Q : State → Prop} {fl fl_come fl_taints fl_knowns fl_outKnowns : Nat} (C : CX p s m args meth c G A cX0_pick 6 RX0 wsX0_pick) {come : Nat → Int32} {taints : Nat → Int32} {knowns : Nat → Int32} {changed : Int32} {outKnowns : Nat → Int32} {outTaints : Int32} {x1 : Int32} {x2 : Int32} {x3 : Int32} {x4 : Int32} {res : (Nat → Int32) × Int32} (hR : ∀ (lv : List (Nat × Value)) (pc : Nat), decode cX0_pick pc = .ok (.return_, 1) → GG p l e rm0_pick s m args below meth c G A 6 0 0 Q [(fl, oB 0 [.ref fl_come, .ref fl_taints, .ref fl_knowns, .ref fl_outKnowns, .int res.2, .int changed]), (fl_come, aZ G 21 come), (fl_taints, aI G 21 taints), (fl_knowns, aI G 126 knowns), (fl_outKnowns, aI G 6 res.1)] lv pc [])
    (hf : f0_pick_8 outKnowns outTaints x1 x2 x3 x4 = some res) : GG p l e rm0_pick s m args below meth c G A 6 0 0 Q [(fl, oB 0 [.ref fl_come, .ref fl_taints, .ref fl_knowns, .ref fl_outKnowns, .int outTaints, .int changed]), (fl_come, aZ G 21 come), (fl_taints, aI G 21 taints), (fl_knowns, aI G 126 knowns), (fl_outKnowns, aI G 6 outKnowns)] [(0, .ref fl), (1, .int x1), (2, .int x2), (3, .int x3), (4, .int x4)] 8 [] := by
  unfold f0_pick_8 at hf
  refine g_iload C dX0_pick_8 4 rfl ?_
  refine g_iconst (v := (-1 : Int32)) C dX0_pick_10 (by decide +kernel) ?_
  refine g_icmp_eq (tgt := 47) C dX0_pick_11 (by decide) (fun c14 => ?_) (fun c14 => ?_)
  · replace hf := ite_t c14 hf
    refine g_aload_n C dX0_pick_47 rfl 0 rfl ?_
    refine g_get (C0 := RX0) (T := TX0) (N := 6) (ci := 0) (v := .ref fl_outKnowns) C hm0_pick_0 0 rfl rfl 3 (by decide) hm0_pick_1 rfl dX0_pick_48 ?_
    refine g_iload_n C dX0_pick_51 rfl 2 rfl ?_
    obtain ⟨h15, hf⟩ := ck_some hf
    refine g_iald (n := 6) (v := (outKnowns x2.toNatClampNeg)) C 4 rfl h15 rfl rfl dX0_pick_52 ?_
    refine g_iconst (v := (-1 : Int32)) C dX0_pick_53 (by decide +kernel) ?_
    refine g_icmp_eq (tgt := 87) C dX0_pick_54 (by decide) (fun c16 => ?_) (fun c16 => ?_)
    · replace hf := ite_t c16 hf
      exact k0_pick_87 C hR hf
    · replace hf := ite_f c16 hf
      refine g_aload_n C dX0_pick_57 rfl 0 rfl ?_
      refine g_get (C0 := RX0) (T := TX0) (N := 6) (ci := 0) (v := .ref fl_outKnowns) C hm0_pick_0 0 rfl rfl 3 (by decide) hm0_pick_1 rfl dX0_pick_58 ?_
      refine g_iload_n C dX0_pick_61 rfl 2 rfl ?_
      obtain ⟨h17, hf⟩ := ck_some hf
      refine g_iald (n := 6) (v := (outKnowns x2.toNatClampNeg)) C 4 rfl h17 rfl rfl dX0_pick_62 ?_
      refine g_aload_n C dX0_pick_63 rfl 0 rfl ?_
      refine g_get (C0 := RX0) (T := TX0) (N := 6) (ci := 0) (v := .ref fl_outKnowns) C hm0_pick_0 0 rfl rfl 3 (by decide) hm0_pick_1 rfl dX0_pick_64 ?_
      refine g_iload_n C dX0_pick_67 rfl 3 rfl ?_
      obtain ⟨h18, hf⟩ := ck_some hf
      refine g_iald (n := 6) (v := (outKnowns x3.toNatClampNeg)) C 4 rfl h18 rfl rfl dX0_pick_68 ?_
      refine g_icmp_ne (tgt := 87) C dX0_pick_69 (by decide) (fun c19 => ?_) (fun c19 => ?_)
      · replace hf := ite_f c19 hf
        exact k0_pick_87 C hR hf
      · replace hf := ite_t c19 hf
        refine g_aload_n C dX0_pick_72 rfl 0 rfl ?_
        refine g_iload_n C dX0_pick_73 rfl 1 rfl ?_
        refine g_iconst (v := (0 : Int32)) C dX0_pick_74 (by decide +kernel) ?_
        refine g_aload_n C dX0_pick_75 rfl 0 rfl ?_
        refine g_get (C0 := RX0) (T := TX0) (N := 6) (ci := 0) (v := .ref fl_outKnowns) C hm0_pick_0 0 rfl rfl 3 (by decide) hm0_pick_1 rfl dX0_pick_76 ?_
        refine g_iload_n C dX0_pick_79 rfl 2 rfl ?_
        obtain ⟨h20, hf⟩ := ck_some hf
        refine g_iald (n := 6) (v := (outKnowns x2.toNatClampNeg)) C 4 rfl h20 rfl rfl dX0_pick_80 ?_
        obtain ⟨q21, hq21, hf⟩ := bs hf
        refine g_callVv (n := 3) (As := [.int x1, .int (0 : Int32), .int (outKnowns x2.toNatClampNeg)]) (rest := []) (wc := [(fl, oB 0 [.ref fl_come, .ref fl_taints, .ref fl_knowns, .ref fl_outKnowns, .int outTaints, .int changed]), (fl_come, aZ G 21 come), (fl_taints, aI G 21 taints), (fl_knowns, aI G 126 knowns), (fl_outKnowns, aI G 6 outKnowns)]) (w1 := [(fl, oB 0 [.ref fl_come, .ref fl_taints, .ref fl_knowns, .ref fl_outKnowns, .int q21.2, .int changed]), (fl_come, aZ G 21 come), (fl_taints, aI G 21 taints), (fl_knowns, aI G 126 knowns), (fl_outKnowns, aI G 6 q21.1)]) (wr := []) (WS' := [(fl, oB 0 [.ref fl_come, .ref fl_taints, .ref fl_knowns, .ref fl_outKnowns, .int q21.2, .int changed]), (fl_come, aZ G 21 come), (fl_taints, aI G 21 taints), (fl_knowns, aI G 126 knowns), (fl_outKnowns, aI G 6 q21.1)]) C (c0_become hq21) gX0_pick_X0_become (by decide +kernel) rfl rfl rfl rfl rfl rfl ⟨by decide, by decide⟩ rfl [0, 1, 2, 3, 4] [] [0, 1, 2, 3, 4] rfl (by decide) rfl (by decide) (by decide) rfl (by decide) (Nat.le_of_ble_eq_true rfl) ⟨Nat.zero_le _, Nat.zero_le _⟩ rfl dX0_pick_81 ?_
        refine g_goto (tgt := 122) C dX0_pick_84 (by decide) ?_
        obtain rfl := Option.some.inj hf
        exact hR _ _ dX0_pick_122
  · replace hf := ite_f c14 hf
    refine g_iload C dX0_pick_14 4 rfl ?_
    refine g_if_eq (tgt := 23) C dX0_pick_16 (by decide) (fun c22 => ?_) (fun c22 => ?_)
    · replace hf := ite_t c22 hf
      refine g_iload_n C dX0_pick_23 rfl 3 rfl ?_
      exact k0_pick_24 C hR hf
    · replace hf := ite_f c22 hf
      refine g_iload_n C dX0_pick_19 rfl 2 rfl ?_
      refine g_goto (tgt := 24) C dX0_pick_20 (by decide) ?_
      exact k0_pick_24 C hR hf
set_option maxHeartbeats 4000000 in
set_option maxRecDepth 100000 in
theorem c0_pick {l : Launch} {G : gG} {fl fl_come fl_taints fl_knowns fl_outKnowns : Nat} {come : Nat → Int32} {taints : Nat → Int32} {knowns : Nat → Int32} {outKnowns : Nat → Int32} {outTaints : Int32} {changed : Int32} {v0 : Int32} {v1 : Int32} {v2 : Int32} {res : (Nat → Int32) × Int32} (hf : f0_pick outKnowns outTaints v0 v1 v2 = some res) : MV l yX0_pick wsX0_pick rm0_pick G [.ref fl, .int v0, .int v1, .int v2] [(fl, oB 0 [.ref fl_come, .ref fl_taints, .ref fl_knowns, .ref fl_outKnowns, .int outTaints, .int changed]), (fl_come, aZ G 21 come), (fl_taints, aI G 21 taints), (fl_knowns, aI G 126 knowns), (fl_outKnowns, aI G 6 outKnowns)] [(fl, oB 0 [.ref fl_come, .ref fl_taints, .ref fl_knowns, .ref fl_outKnowns, .int res.2, .int changed]), (fl_come, aZ G 21 come), (fl_taints, aI G 21 taints), (fl_knowns, aI G 126 knowns), (fl_outKnowns, aI G 6 res.1)] := by
  refine MV_of (cc := cX0_pick) (nL := 6) (lv := [(0, .ref fl), (1, .int v0), (2, .int v1), (3, .int v2)]) (by decide +kernel) rfl (Nat.le_of_ble_eq_true rfl) rfl ?_
  intro p e s m args below meth c A Q C hR
  unfold f0_pick at hf
  refine g_aload_n C dX0_pick_0 rfl 0 rfl ?_
  refine g_get (C0 := RX0) (T := TX0) (N := 6) (ci := 0) (v := .ref fl_outKnowns) C hm0_pick_0 0 rfl rfl 3 (by decide) hm0_pick_1 rfl dX0_pick_1 ?_
  refine g_iload_n C dX0_pick_4 rfl 1 rfl ?_
  obtain ⟨h23, hf⟩ := ck_some hf
  refine g_iald (n := 6) (v := (outKnowns v0.toNatClampNeg)) C 4 rfl h23 rfl rfl dX0_pick_5 ?_
  refine g_istore (lv' := [(0, .ref fl), (1, .int v0), (2, .int v1), (3, .int v2), (4, .int (outKnowns v0.toNatClampNeg))]) C dX0_pick_6 (by decide) [1, 2, 3, 4, 0] rfl ?_
  exact k0_pick_8 C hR hf

-- X0_combine
def f0_combine_68 (outKnowns : Nat → Int32) (outTaints : Int32) (x1 : Int32) (x2 : Int32) (x3 : Int32) (x4 : Int32) (x5 : Int32) (x6 : Int32) : Option ((Nat → Int32) × Int32) :=
  (f0_tainted outTaints x2).bind <| fun q1 =>
    if q1 = 0 then
    ((f0_tainted outTaints x3).bind <| fun q7 =>
    if q7 = 0 then
    (if x6 = 0 then
    ((f0_become outKnowns outTaints x2 (0 : Int32) (-1 : Int32)).bind <| fun q10 =>
    some (q10.1, q10.2))
    else ((f6_combined x1 x4 x5).bind <| fun q11 =>
    (f0_become outKnowns outTaints x2 (0 : Int32) q11).bind <| fun q12 =>
    some (q12.1, q12.2)))
    else (if x6 = 0 then
    ((f0_become outKnowns outTaints x2 (1 : Int32) (-1 : Int32)).bind <| fun q14 =>
    some (q14.1, q14.2))
    else ((f6_combined x1 x4 x5).bind <| fun q15 =>
    (f0_become outKnowns outTaints x2 (1 : Int32) q15).bind <| fun q16 =>
    some (q16.1, q16.2))))
    else (if x6 = 0 then
    ((f0_become outKnowns outTaints x2 (1 : Int32) (-1 : Int32)).bind <| fun q4 =>
    some (q4.1, q4.2))
    else ((f6_combined x1 x4 x5).bind <| fun q5 =>
    (f0_become outKnowns outTaints x2 (1 : Int32) q5).bind <| fun q6 =>
    some (q6.1, q6.2)))
def f0_combine_66 (outKnowns : Nat → Int32) (outTaints : Int32) (x1 : Int32) (x2 : Int32) (x3 : Int32) (x4 : Int32) (x5 : Int32) (y0 : Int32) : Option ((Nat → Int32) × Int32) :=
  f0_combine_68 outKnowns outTaints x1 x2 x3 x4 x5 y0
def f0_combine_65 (outKnowns : Nat → Int32) (outTaints : Int32) (x1 : Int32) (x2 : Int32) (x3 : Int32) (x4 : Int32) (x5 : Int32) : Option ((Nat → Int32) × Int32) :=
  f0_combine_66 outKnowns outTaints x1 x2 x3 x4 x5 (0 : Int32)
def f0_combine_41 (outKnowns : Nat → Int32) (outTaints : Int32) (x1 : Int32) (x2 : Int32) (x3 : Int32) (x4 : Int32) (x5 : Int32) : Option ((Nat → Int32) × Int32) :=
  (f0_become outKnowns outTaints x2 (0 : Int32) (0 : Int32)).bind <| fun q17 =>
    some (q17.1, q17.2)
def f0_combine_16 (outKnowns : Nat → Int32) (outTaints : Int32) (x1 : Int32) (x2 : Int32) (x3 : Int32) (x4 : Int32) (x5 : Int32) : Option ((Nat → Int32) × Int32) :=
  if x1 = (4 : Int32) then
    (if x2 = x3 then
    (f0_combine_41 outKnowns outTaints x1 x2 x3 x4 x5)
    else (if x1 = (3 : Int32) then
    (if x4 = 0 then
    (f0_combine_41 outKnowns outTaints x1 x2 x3 x4 x5)
    else (if x5 = 0 then
    (f0_combine_41 outKnowns outTaints x1 x2 x3 x4 x5)
    else (if x4 = (-1 : Int32) then
    (f0_combine_65 outKnowns outTaints x1 x2 x3 x4 x5)
    else (if x5 = (-1 : Int32) then
    (f0_combine_65 outKnowns outTaints x1 x2 x3 x4 x5)
    else (f0_combine_66 outKnowns outTaints x1 x2 x3 x4 x5 (1 : Int32))))))
    else (if x4 = (-1 : Int32) then
    (f0_combine_65 outKnowns outTaints x1 x2 x3 x4 x5)
    else (if x5 = (-1 : Int32) then
    (f0_combine_65 outKnowns outTaints x1 x2 x3 x4 x5)
    else (f0_combine_66 outKnowns outTaints x1 x2 x3 x4 x5 (1 : Int32))))))
    else (if x1 = (3 : Int32) then
    (if x4 = 0 then
    (f0_combine_41 outKnowns outTaints x1 x2 x3 x4 x5)
    else (if x5 = 0 then
    (f0_combine_41 outKnowns outTaints x1 x2 x3 x4 x5)
    else (if x4 = (-1 : Int32) then
    (f0_combine_65 outKnowns outTaints x1 x2 x3 x4 x5)
    else (if x5 = (-1 : Int32) then
    (f0_combine_65 outKnowns outTaints x1 x2 x3 x4 x5)
    else (f0_combine_66 outKnowns outTaints x1 x2 x3 x4 x5 (1 : Int32))))))
    else (if x4 = (-1 : Int32) then
    (f0_combine_65 outKnowns outTaints x1 x2 x3 x4 x5)
    else (if x5 = (-1 : Int32) then
    (f0_combine_65 outKnowns outTaints x1 x2 x3 x4 x5)
    else (f0_combine_66 outKnowns outTaints x1 x2 x3 x4 x5 (1 : Int32)))))
def f0_combine (outKnowns : Nat → Int32) (outTaints : Int32) (v0 : Int32) (v1 : Int32) (v2 : Int32) : Option ((Nat → Int32) × Int32) :=
  ck (inb v1 6) <|
    ck (inb v2 6) <|
    f0_combine_16 outKnowns outTaints v0 v1 v2 (outKnowns v1.toNatClampNeg) (outKnowns v2.toNatClampNeg)
def rm0_combine : Room := { frames := 1, cells := 0, slots := 0, locals := 24 }
theorem hm0_combine_0 : Cond.initialized yX6_combined.cls ∈ wsX0_combine := by decide +kernel
theorem hm0_combine_1 : Cond.static yX6_combined ∈ wsX0_combine := by decide +kernel
theorem hm0_combine_2 : ∀ w ∈ u_ws RX0 TX0 6, w ∈ wsX0_combine := by decide +kernel
theorem hm0_combine_3 : Cond.fieldLink RX0 22 "SecretSteps$Flow" "outKnowns" "[I" ∈ wsX0_combine := by decide +kernel
set_option maxHeartbeats 4000000 in
set_option maxRecDepth 100000 in
theorem k0_combine_68 {p : Program} {l : Launch} {e : Env} {s : State} {m : MethodId} {args : Array Value} {below : List Frame} {meth : Method} {c : Code} {G : gG} {A : Nat → Prop} {Q : State → Prop} {fl fl_come fl_taints fl_knowns fl_outKnowns : Nat} (C : CX p s m args meth c G A cX0_combine 7 RX0 wsX0_combine) {come : Nat → Int32} {taints : Nat → Int32} {knowns : Nat → Int32} {changed : Int32} {outKnowns : Nat → Int32} {outTaints : Int32} {x1 : Int32} {x2 : Int32} {x3 : Int32} {x4 : Int32} {x5 : Int32} {x6 : Int32} {res : (Nat → Int32) × Int32} (hR : ∀ (lv : List (Nat × Value)) (pc : Nat), decode cX0_combine pc = .ok (.return_, 1) → GG p l e rm0_combine s m args below meth c G A 7 0 0 Q [(fl, oB 0 [.ref fl_come, .ref fl_taints, .ref fl_knowns, .ref fl_outKnowns, .int res.2, .int changed]), (fl_come, aZ G 21 come), (fl_taints, aI G 21 taints), (fl_knowns, aI G 126 knowns), (fl_outKnowns, aI G 6 res.1)] lv pc [])
    (hf : f0_combine_68 outKnowns outTaints x1 x2 x3 x4 x5 x6 = some res) : GG p l e rm0_combine s m args below meth c G A 7 0 0 Q [(fl, oB 0 [.ref fl_come, .ref fl_taints, .ref fl_knowns, .ref fl_outKnowns, .int outTaints, .int changed]), (fl_come, aZ G 21 come), (fl_taints, aI G 21 taints), (fl_knowns, aI G 126 knowns), (fl_outKnowns, aI G 6 outKnowns)] [(0, .ref fl), (1, .int x1), (2, .int x2), (3, .int x3), (4, .int x4), (5, .int x5), (6, .int x6)] 68 [] := by
  unfold f0_combine_68 at hf
  refine g_aload_n C dX0_combine_68 rfl 0 rfl ?_
  refine g_iload_n C dX0_combine_69 rfl 2 rfl ?_
  refine g_aload_n C dX0_combine_70 rfl 0 rfl ?_
  refine g_iload_n C dX0_combine_71 rfl 2 rfl ?_
  obtain ⟨q1, hq1, hf⟩ := bs hf
  refine g_callVi (n := 1) (As := [.int x2]) (rest := [.int x2, .ref fl]) (wc := [(fl, oB 0 [.ref fl_come, .ref fl_taints, .ref fl_knowns, .ref fl_outKnowns, .int outTaints, .int changed]), (fl_come, aZ G 21 come), (fl_taints, aI G 21 taints), (fl_knowns, aI G 126 knowns), (fl_outKnowns, aI G 6 outKnowns)]) (w1 := [(fl, oB 0 [.ref fl_come, .ref fl_taints, .ref fl_knowns, .ref fl_outKnowns, .int outTaints, .int changed]), (fl_come, aZ G 21 come), (fl_taints, aI G 21 taints), (fl_knowns, aI G 126 knowns), (fl_outKnowns, aI G 6 outKnowns)]) (wr := []) (WS' := [(fl, oB 0 [.ref fl_come, .ref fl_taints, .ref fl_knowns, .ref fl_outKnowns, .int outTaints, .int changed]), (fl_come, aZ G 21 come), (fl_taints, aI G 21 taints), (fl_knowns, aI G 126 knowns), (fl_outKnowns, aI G 6 outKnowns)]) C (c0_tainted hq1) gX0_combine_X0_tainted (by decide +kernel) rfl rfl rfl rfl rfl rfl ⟨by decide, by decide⟩ rfl [0, 1, 2, 3, 4] [] [0, 1, 2, 3, 4] rfl (by decide) rfl (by decide) (by decide) rfl (by decide) (Nat.le_of_ble_eq_true rfl) ⟨Nat.zero_le _, Nat.zero_le _⟩ rfl dX0_combine_72 ?_
  refine g_if_ne (tgt := 86) C dX0_combine_75 (by decide) (fun c2 => ?_) (fun c2 => ?_)
  · replace hf := ite_f c2 hf
    refine g_iconst (v := (1 : Int32)) C dX0_combine_86 (by decide +kernel) ?_
    refine g_goto (tgt := 91) C dX0_combine_87 (by decide) ?_
    refine g_iload C dX0_combine_91 6 rfl ?_
    refine g_if_eq (tgt := 107) C dX0_combine_93 (by decide) (fun c3 => ?_) (fun c3 => ?_)
    · replace hf := ite_t c3 hf
      refine g_iconst (v := (-1 : Int32)) C dX0_combine_107 (by decide +kernel) ?_
      obtain ⟨q4, hq4, hf⟩ := bs hf
      refine g_callVv (n := 3) (As := [.int x2, .int (1 : Int32), .int (-1 : Int32)]) (rest := []) (wc := [(fl, oB 0 [.ref fl_come, .ref fl_taints, .ref fl_knowns, .ref fl_outKnowns, .int outTaints, .int changed]), (fl_come, aZ G 21 come), (fl_taints, aI G 21 taints), (fl_knowns, aI G 126 knowns), (fl_outKnowns, aI G 6 outKnowns)]) (w1 := [(fl, oB 0 [.ref fl_come, .ref fl_taints, .ref fl_knowns, .ref fl_outKnowns, .int q4.2, .int changed]), (fl_come, aZ G 21 come), (fl_taints, aI G 21 taints), (fl_knowns, aI G 126 knowns), (fl_outKnowns, aI G 6 q4.1)]) (wr := []) (WS' := [(fl, oB 0 [.ref fl_come, .ref fl_taints, .ref fl_knowns, .ref fl_outKnowns, .int q4.2, .int changed]), (fl_come, aZ G 21 come), (fl_taints, aI G 21 taints), (fl_knowns, aI G 126 knowns), (fl_outKnowns, aI G 6 q4.1)]) C (c0_become hq4) gX0_combine_X0_become (by decide +kernel) rfl rfl rfl rfl rfl rfl ⟨by decide, by decide⟩ rfl [0, 1, 2, 3, 4] [] [0, 1, 2, 3, 4] rfl (by decide) rfl (by decide) (by decide) rfl (by decide) (Nat.le_of_ble_eq_true rfl) ⟨Nat.zero_le _, Nat.zero_le _⟩ rfl dX0_combine_108 ?_
      obtain rfl := Option.some.inj hf
      exact hR _ _ dX0_combine_111
    · replace hf := ite_f c3 hf
      refine g_iload_n C dX0_combine_96 rfl 1 rfl ?_
      refine g_iload C dX0_combine_97 4 rfl ?_
      refine g_iload C dX0_combine_99 5 rfl ?_
      obtain ⟨q5, hq5, hf⟩ := bs hf
      refine g_callSNi (n := 3) (As := [.int x1, .int x4, .int x5]) (rest := [.int (1 : Int32), .int x2, .ref fl]) (wc := []) (w1 := []) (wr := [(fl, oB 0 [.ref fl_come, .ref fl_taints, .ref fl_knowns, .ref fl_outKnowns, .int outTaints, .int changed]), (fl_come, aZ G 21 come), (fl_taints, aI G 21 taints), (fl_knowns, aI G 126 knowns), (fl_outKnowns, aI G 6 outKnowns)]) (WS' := [(fl, oB 0 [.ref fl_come, .ref fl_taints, .ref fl_knowns, .ref fl_outKnowns, .int outTaints, .int changed]), (fl_come, aZ G 21 come), (fl_taints, aI G 21 taints), (fl_knowns, aI G 126 knowns), (fl_outKnowns, aI G 6 outKnowns)]) C (c6_combined hq5) ggX0_combine_X6_combined hn0_92 hm0_combine_0 hm0_combine_1 (by decide +kernel) rfl rfl rfl ⟨by decide, by decide⟩ rfl [] [0, 1, 2, 3, 4] [0, 1, 2, 3, 4] rfl (by decide) rfl (by decide) (by decide) rfl (by decide) (Nat.le_of_ble_eq_true rfl) ⟨Nat.zero_le _, Nat.zero_le _⟩ rfl dX0_combine_101 ?_
      refine g_goto (tgt := 108) C dX0_combine_104 (by decide) ?_
      obtain ⟨q6, hq6, hf⟩ := bs hf
      refine g_callVv (n := 3) (As := [.int x2, .int (1 : Int32), .int q5]) (rest := []) (wc := [(fl, oB 0 [.ref fl_come, .ref fl_taints, .ref fl_knowns, .ref fl_outKnowns, .int outTaints, .int changed]), (fl_come, aZ G 21 come), (fl_taints, aI G 21 taints), (fl_knowns, aI G 126 knowns), (fl_outKnowns, aI G 6 outKnowns)]) (w1 := [(fl, oB 0 [.ref fl_come, .ref fl_taints, .ref fl_knowns, .ref fl_outKnowns, .int q6.2, .int changed]), (fl_come, aZ G 21 come), (fl_taints, aI G 21 taints), (fl_knowns, aI G 126 knowns), (fl_outKnowns, aI G 6 q6.1)]) (wr := []) (WS' := [(fl, oB 0 [.ref fl_come, .ref fl_taints, .ref fl_knowns, .ref fl_outKnowns, .int q6.2, .int changed]), (fl_come, aZ G 21 come), (fl_taints, aI G 21 taints), (fl_knowns, aI G 126 knowns), (fl_outKnowns, aI G 6 q6.1)]) C (c0_become hq6) gX0_combine_X0_become (by decide +kernel) rfl rfl rfl rfl rfl rfl ⟨by decide, by decide⟩ rfl [0, 1, 2, 3, 4] [] [0, 1, 2, 3, 4] rfl (by decide) rfl (by decide) (by decide) rfl (by decide) (Nat.le_of_ble_eq_true rfl) ⟨Nat.zero_le _, Nat.zero_le _⟩ rfl dX0_combine_108 ?_
      obtain rfl := Option.some.inj hf
      exact hR _ _ dX0_combine_111
  · replace hf := ite_t c2 hf
    refine g_aload_n C dX0_combine_78 rfl 0 rfl ?_
    refine g_iload_n C dX0_combine_79 rfl 3 rfl ?_
    obtain ⟨q7, hq7, hf⟩ := bs hf
    refine g_callVi (n := 1) (As := [.int x3]) (rest := [.int x2, .ref fl]) (wc := [(fl, oB 0 [.ref fl_come, .ref fl_taints, .ref fl_knowns, .ref fl_outKnowns, .int outTaints, .int changed]), (fl_come, aZ G 21 come), (fl_taints, aI G 21 taints), (fl_knowns, aI G 126 knowns), (fl_outKnowns, aI G 6 outKnowns)]) (w1 := [(fl, oB 0 [.ref fl_come, .ref fl_taints, .ref fl_knowns, .ref fl_outKnowns, .int outTaints, .int changed]), (fl_come, aZ G 21 come), (fl_taints, aI G 21 taints), (fl_knowns, aI G 126 knowns), (fl_outKnowns, aI G 6 outKnowns)]) (wr := []) (WS' := [(fl, oB 0 [.ref fl_come, .ref fl_taints, .ref fl_knowns, .ref fl_outKnowns, .int outTaints, .int changed]), (fl_come, aZ G 21 come), (fl_taints, aI G 21 taints), (fl_knowns, aI G 126 knowns), (fl_outKnowns, aI G 6 outKnowns)]) C (c0_tainted hq7) gX0_combine_X0_tainted (by decide +kernel) rfl rfl rfl rfl rfl rfl ⟨by decide, by decide⟩ rfl [0, 1, 2, 3, 4] [] [0, 1, 2, 3, 4] rfl (by decide) rfl (by decide) (by decide) rfl (by decide) (Nat.le_of_ble_eq_true rfl) ⟨Nat.zero_le _, Nat.zero_le _⟩ rfl dX0_combine_80 ?_
    refine g_if_eq (tgt := 90) C dX0_combine_83 (by decide) (fun c8 => ?_) (fun c8 => ?_)
    · replace hf := ite_t c8 hf
      refine g_iconst (v := (0 : Int32)) C dX0_combine_90 (by decide +kernel) ?_
      refine g_iload C dX0_combine_91 6 rfl ?_
      refine g_if_eq (tgt := 107) C dX0_combine_93 (by decide) (fun c9 => ?_) (fun c9 => ?_)
      · replace hf := ite_t c9 hf
        refine g_iconst (v := (-1 : Int32)) C dX0_combine_107 (by decide +kernel) ?_
        obtain ⟨q10, hq10, hf⟩ := bs hf
        refine g_callVv (n := 3) (As := [.int x2, .int (0 : Int32), .int (-1 : Int32)]) (rest := []) (wc := [(fl, oB 0 [.ref fl_come, .ref fl_taints, .ref fl_knowns, .ref fl_outKnowns, .int outTaints, .int changed]), (fl_come, aZ G 21 come), (fl_taints, aI G 21 taints), (fl_knowns, aI G 126 knowns), (fl_outKnowns, aI G 6 outKnowns)]) (w1 := [(fl, oB 0 [.ref fl_come, .ref fl_taints, .ref fl_knowns, .ref fl_outKnowns, .int q10.2, .int changed]), (fl_come, aZ G 21 come), (fl_taints, aI G 21 taints), (fl_knowns, aI G 126 knowns), (fl_outKnowns, aI G 6 q10.1)]) (wr := []) (WS' := [(fl, oB 0 [.ref fl_come, .ref fl_taints, .ref fl_knowns, .ref fl_outKnowns, .int q10.2, .int changed]), (fl_come, aZ G 21 come), (fl_taints, aI G 21 taints), (fl_knowns, aI G 126 knowns), (fl_outKnowns, aI G 6 q10.1)]) C (c0_become hq10) gX0_combine_X0_become (by decide +kernel) rfl rfl rfl rfl rfl rfl ⟨by decide, by decide⟩ rfl [0, 1, 2, 3, 4] [] [0, 1, 2, 3, 4] rfl (by decide) rfl (by decide) (by decide) rfl (by decide) (Nat.le_of_ble_eq_true rfl) ⟨Nat.zero_le _, Nat.zero_le _⟩ rfl dX0_combine_108 ?_
        obtain rfl := Option.some.inj hf
        exact hR _ _ dX0_combine_111
      · replace hf := ite_f c9 hf
        refine g_iload_n C dX0_combine_96 rfl 1 rfl ?_
        refine g_iload C dX0_combine_97 4 rfl ?_
        refine g_iload C dX0_combine_99 5 rfl ?_
        obtain ⟨q11, hq11, hf⟩ := bs hf
        refine g_callSNi (n := 3) (As := [.int x1, .int x4, .int x5]) (rest := [.int (0 : Int32), .int x2, .ref fl]) (wc := []) (w1 := []) (wr := [(fl, oB 0 [.ref fl_come, .ref fl_taints, .ref fl_knowns, .ref fl_outKnowns, .int outTaints, .int changed]), (fl_come, aZ G 21 come), (fl_taints, aI G 21 taints), (fl_knowns, aI G 126 knowns), (fl_outKnowns, aI G 6 outKnowns)]) (WS' := [(fl, oB 0 [.ref fl_come, .ref fl_taints, .ref fl_knowns, .ref fl_outKnowns, .int outTaints, .int changed]), (fl_come, aZ G 21 come), (fl_taints, aI G 21 taints), (fl_knowns, aI G 126 knowns), (fl_outKnowns, aI G 6 outKnowns)]) C (c6_combined hq11) ggX0_combine_X6_combined hn0_92 hm0_combine_0 hm0_combine_1 (by decide +kernel) rfl rfl rfl ⟨by decide, by decide⟩ rfl [] [0, 1, 2, 3, 4] [0, 1, 2, 3, 4] rfl (by decide) rfl (by decide) (by decide) rfl (by decide) (Nat.le_of_ble_eq_true rfl) ⟨Nat.zero_le _, Nat.zero_le _⟩ rfl dX0_combine_101 ?_
        refine g_goto (tgt := 108) C dX0_combine_104 (by decide) ?_
        obtain ⟨q12, hq12, hf⟩ := bs hf
        refine g_callVv (n := 3) (As := [.int x2, .int (0 : Int32), .int q11]) (rest := []) (wc := [(fl, oB 0 [.ref fl_come, .ref fl_taints, .ref fl_knowns, .ref fl_outKnowns, .int outTaints, .int changed]), (fl_come, aZ G 21 come), (fl_taints, aI G 21 taints), (fl_knowns, aI G 126 knowns), (fl_outKnowns, aI G 6 outKnowns)]) (w1 := [(fl, oB 0 [.ref fl_come, .ref fl_taints, .ref fl_knowns, .ref fl_outKnowns, .int q12.2, .int changed]), (fl_come, aZ G 21 come), (fl_taints, aI G 21 taints), (fl_knowns, aI G 126 knowns), (fl_outKnowns, aI G 6 q12.1)]) (wr := []) (WS' := [(fl, oB 0 [.ref fl_come, .ref fl_taints, .ref fl_knowns, .ref fl_outKnowns, .int q12.2, .int changed]), (fl_come, aZ G 21 come), (fl_taints, aI G 21 taints), (fl_knowns, aI G 126 knowns), (fl_outKnowns, aI G 6 q12.1)]) C (c0_become hq12) gX0_combine_X0_become (by decide +kernel) rfl rfl rfl rfl rfl rfl ⟨by decide, by decide⟩ rfl [0, 1, 2, 3, 4] [] [0, 1, 2, 3, 4] rfl (by decide) rfl (by decide) (by decide) rfl (by decide) (Nat.le_of_ble_eq_true rfl) ⟨Nat.zero_le _, Nat.zero_le _⟩ rfl dX0_combine_108 ?_
        obtain rfl := Option.some.inj hf
        exact hR _ _ dX0_combine_111
    · replace hf := ite_f c8 hf
      refine g_iconst (v := (1 : Int32)) C dX0_combine_86 (by decide +kernel) ?_
      refine g_goto (tgt := 91) C dX0_combine_87 (by decide) ?_
      refine g_iload C dX0_combine_91 6 rfl ?_
      refine g_if_eq (tgt := 107) C dX0_combine_93 (by decide) (fun c13 => ?_) (fun c13 => ?_)
      · replace hf := ite_t c13 hf
        refine g_iconst (v := (-1 : Int32)) C dX0_combine_107 (by decide +kernel) ?_
        obtain ⟨q14, hq14, hf⟩ := bs hf
        refine g_callVv (n := 3) (As := [.int x2, .int (1 : Int32), .int (-1 : Int32)]) (rest := []) (wc := [(fl, oB 0 [.ref fl_come, .ref fl_taints, .ref fl_knowns, .ref fl_outKnowns, .int outTaints, .int changed]), (fl_come, aZ G 21 come), (fl_taints, aI G 21 taints), (fl_knowns, aI G 126 knowns), (fl_outKnowns, aI G 6 outKnowns)]) (w1 := [(fl, oB 0 [.ref fl_come, .ref fl_taints, .ref fl_knowns, .ref fl_outKnowns, .int q14.2, .int changed]), (fl_come, aZ G 21 come), (fl_taints, aI G 21 taints), (fl_knowns, aI G 126 knowns), (fl_outKnowns, aI G 6 q14.1)]) (wr := []) (WS' := [(fl, oB 0 [.ref fl_come, .ref fl_taints, .ref fl_knowns, .ref fl_outKnowns, .int q14.2, .int changed]), (fl_come, aZ G 21 come), (fl_taints, aI G 21 taints), (fl_knowns, aI G 126 knowns), (fl_outKnowns, aI G 6 q14.1)]) C (c0_become hq14) gX0_combine_X0_become (by decide +kernel) rfl rfl rfl rfl rfl rfl ⟨by decide, by decide⟩ rfl [0, 1, 2, 3, 4] [] [0, 1, 2, 3, 4] rfl (by decide) rfl (by decide) (by decide) rfl (by decide) (Nat.le_of_ble_eq_true rfl) ⟨Nat.zero_le _, Nat.zero_le _⟩ rfl dX0_combine_108 ?_
        obtain rfl := Option.some.inj hf
        exact hR _ _ dX0_combine_111
      · replace hf := ite_f c13 hf
        refine g_iload_n C dX0_combine_96 rfl 1 rfl ?_
        refine g_iload C dX0_combine_97 4 rfl ?_
        refine g_iload C dX0_combine_99 5 rfl ?_
        obtain ⟨q15, hq15, hf⟩ := bs hf
        refine g_callSNi (n := 3) (As := [.int x1, .int x4, .int x5]) (rest := [.int (1 : Int32), .int x2, .ref fl]) (wc := []) (w1 := []) (wr := [(fl, oB 0 [.ref fl_come, .ref fl_taints, .ref fl_knowns, .ref fl_outKnowns, .int outTaints, .int changed]), (fl_come, aZ G 21 come), (fl_taints, aI G 21 taints), (fl_knowns, aI G 126 knowns), (fl_outKnowns, aI G 6 outKnowns)]) (WS' := [(fl, oB 0 [.ref fl_come, .ref fl_taints, .ref fl_knowns, .ref fl_outKnowns, .int outTaints, .int changed]), (fl_come, aZ G 21 come), (fl_taints, aI G 21 taints), (fl_knowns, aI G 126 knowns), (fl_outKnowns, aI G 6 outKnowns)]) C (c6_combined hq15) ggX0_combine_X6_combined hn0_92 hm0_combine_0 hm0_combine_1 (by decide +kernel) rfl rfl rfl ⟨by decide, by decide⟩ rfl [] [0, 1, 2, 3, 4] [0, 1, 2, 3, 4] rfl (by decide) rfl (by decide) (by decide) rfl (by decide) (Nat.le_of_ble_eq_true rfl) ⟨Nat.zero_le _, Nat.zero_le _⟩ rfl dX0_combine_101 ?_
        refine g_goto (tgt := 108) C dX0_combine_104 (by decide) ?_
        obtain ⟨q16, hq16, hf⟩ := bs hf
        refine g_callVv (n := 3) (As := [.int x2, .int (1 : Int32), .int q15]) (rest := []) (wc := [(fl, oB 0 [.ref fl_come, .ref fl_taints, .ref fl_knowns, .ref fl_outKnowns, .int outTaints, .int changed]), (fl_come, aZ G 21 come), (fl_taints, aI G 21 taints), (fl_knowns, aI G 126 knowns), (fl_outKnowns, aI G 6 outKnowns)]) (w1 := [(fl, oB 0 [.ref fl_come, .ref fl_taints, .ref fl_knowns, .ref fl_outKnowns, .int q16.2, .int changed]), (fl_come, aZ G 21 come), (fl_taints, aI G 21 taints), (fl_knowns, aI G 126 knowns), (fl_outKnowns, aI G 6 q16.1)]) (wr := []) (WS' := [(fl, oB 0 [.ref fl_come, .ref fl_taints, .ref fl_knowns, .ref fl_outKnowns, .int q16.2, .int changed]), (fl_come, aZ G 21 come), (fl_taints, aI G 21 taints), (fl_knowns, aI G 126 knowns), (fl_outKnowns, aI G 6 q16.1)]) C (c0_become hq16) gX0_combine_X0_become (by decide +kernel) rfl rfl rfl rfl rfl rfl ⟨by decide, by decide⟩ rfl [0, 1, 2, 3, 4] [] [0, 1, 2, 3, 4] rfl (by decide) rfl (by decide) (by decide) rfl (by decide) (Nat.le_of_ble_eq_true rfl) ⟨Nat.zero_le _, Nat.zero_le _⟩ rfl dX0_combine_108 ?_
        obtain rfl := Option.some.inj hf
        exact hR _ _ dX0_combine_111
set_option maxHeartbeats 4000000 in
set_option maxRecDepth 100000 in
theorem k0_combine_66 {p : Program} {l : Launch} {e : Env} {s : State} {m : MethodId} {args : Array Value} {below : List Frame} {meth : Method} {c : Code} {G : gG} {A : Nat → Prop} {Q : State → Prop} {fl fl_come fl_taints fl_knowns fl_outKnowns : Nat} (C : CX p s m args meth c G A cX0_combine 7 RX0 wsX0_combine) {come : Nat → Int32} {taints : Nat → Int32} {knowns : Nat → Int32} {changed : Int32} {outKnowns : Nat → Int32} {outTaints : Int32} {x1 : Int32} {x2 : Int32} {x3 : Int32} {x4 : Int32} {x5 : Int32} {y0 : Int32} {res : (Nat → Int32) × Int32} (hR : ∀ (lv : List (Nat × Value)) (pc : Nat), decode cX0_combine pc = .ok (.return_, 1) → GG p l e rm0_combine s m args below meth c G A 7 0 0 Q [(fl, oB 0 [.ref fl_come, .ref fl_taints, .ref fl_knowns, .ref fl_outKnowns, .int res.2, .int changed]), (fl_come, aZ G 21 come), (fl_taints, aI G 21 taints), (fl_knowns, aI G 126 knowns), (fl_outKnowns, aI G 6 res.1)] lv pc [])
    (hf : f0_combine_66 outKnowns outTaints x1 x2 x3 x4 x5 y0 = some res) : GG p l e rm0_combine s m args below meth c G A 7 0 0 Q [(fl, oB 0 [.ref fl_come, .ref fl_taints, .ref fl_knowns, .ref fl_outKnowns, .int outTaints, .int changed]), (fl_come, aZ G 21 come), (fl_taints, aI G 21 taints), (fl_knowns, aI G 126 knowns), (fl_outKnowns, aI G 6 outKnowns)] [(0, .ref fl), (1, .int x1), (2, .int x2), (3, .int x3), (4, .int x4), (5, .int x5)] 66 [.int y0] := by
  unfold f0_combine_66 at hf
  refine g_istore (lv' := [(0, .ref fl), (1, .int x1), (2, .int x2), (3, .int x3), (4, .int x4), (5, .int x5), (6, .int y0)]) C dX0_combine_66 (by decide) [1, 2, 3, 4, 5, 6, 0] rfl ?_
  exact k0_combine_68 C hR hf
set_option maxHeartbeats 4000000 in
set_option maxRecDepth 100000 in
theorem k0_combine_65 {p : Program} {l : Launch} {e : Env} {s : State} {m : MethodId} {args : Array Value} {below : List Frame} {meth : Method} {c : Code} {G : gG} {A : Nat → Prop} {Q : State → Prop} {fl fl_come fl_taints fl_knowns fl_outKnowns : Nat} (C : CX p s m args meth c G A cX0_combine 7 RX0 wsX0_combine) {come : Nat → Int32} {taints : Nat → Int32} {knowns : Nat → Int32} {changed : Int32} {outKnowns : Nat → Int32} {outTaints : Int32} {x1 : Int32} {x2 : Int32} {x3 : Int32} {x4 : Int32} {x5 : Int32} {res : (Nat → Int32) × Int32} (hR : ∀ (lv : List (Nat × Value)) (pc : Nat), decode cX0_combine pc = .ok (.return_, 1) → GG p l e rm0_combine s m args below meth c G A 7 0 0 Q [(fl, oB 0 [.ref fl_come, .ref fl_taints, .ref fl_knowns, .ref fl_outKnowns, .int res.2, .int changed]), (fl_come, aZ G 21 come), (fl_taints, aI G 21 taints), (fl_knowns, aI G 126 knowns), (fl_outKnowns, aI G 6 res.1)] lv pc [])
    (hf : f0_combine_65 outKnowns outTaints x1 x2 x3 x4 x5 = some res) : GG p l e rm0_combine s m args below meth c G A 7 0 0 Q [(fl, oB 0 [.ref fl_come, .ref fl_taints, .ref fl_knowns, .ref fl_outKnowns, .int outTaints, .int changed]), (fl_come, aZ G 21 come), (fl_taints, aI G 21 taints), (fl_knowns, aI G 126 knowns), (fl_outKnowns, aI G 6 outKnowns)] [(0, .ref fl), (1, .int x1), (2, .int x2), (3, .int x3), (4, .int x4), (5, .int x5)] 65 [] := by
  unfold f0_combine_65 at hf
  refine g_iconst (v := (0 : Int32)) C dX0_combine_65 (by decide +kernel) ?_
  exact k0_combine_66 C hR hf
set_option maxHeartbeats 4000000 in
set_option maxRecDepth 100000 in
theorem k0_combine_41 {p : Program} {l : Launch} {e : Env} {s : State} {m : MethodId} {args : Array Value} {below : List Frame} {meth : Method} {c : Code} {G : gG} {A : Nat → Prop} {Q : State → Prop} {fl fl_come fl_taints fl_knowns fl_outKnowns : Nat} (C : CX p s m args meth c G A cX0_combine 7 RX0 wsX0_combine) {come : Nat → Int32} {taints : Nat → Int32} {knowns : Nat → Int32} {changed : Int32} {outKnowns : Nat → Int32} {outTaints : Int32} {x1 : Int32} {x2 : Int32} {x3 : Int32} {x4 : Int32} {x5 : Int32} {res : (Nat → Int32) × Int32} (hR : ∀ (lv : List (Nat × Value)) (pc : Nat), decode cX0_combine pc = .ok (.return_, 1) → GG p l e rm0_combine s m args below meth c G A 7 0 0 Q [(fl, oB 0 [.ref fl_come, .ref fl_taints, .ref fl_knowns, .ref fl_outKnowns, .int res.2, .int changed]), (fl_come, aZ G 21 come), (fl_taints, aI G 21 taints), (fl_knowns, aI G 126 knowns), (fl_outKnowns, aI G 6 res.1)] lv pc [])
    (hf : f0_combine_41 outKnowns outTaints x1 x2 x3 x4 x5 = some res) : GG p l e rm0_combine s m args below meth c G A 7 0 0 Q [(fl, oB 0 [.ref fl_come, .ref fl_taints, .ref fl_knowns, .ref fl_outKnowns, .int outTaints, .int changed]), (fl_come, aZ G 21 come), (fl_taints, aI G 21 taints), (fl_knowns, aI G 126 knowns), (fl_outKnowns, aI G 6 outKnowns)] [(0, .ref fl), (1, .int x1), (2, .int x2), (3, .int x3), (4, .int x4), (5, .int x5)] 41 [] := by
  unfold f0_combine_41 at hf
  refine g_aload_n C dX0_combine_41 rfl 0 rfl ?_
  refine g_iload_n C dX0_combine_42 rfl 2 rfl ?_
  refine g_iconst (v := (0 : Int32)) C dX0_combine_43 (by decide +kernel) ?_
  refine g_iconst (v := (0 : Int32)) C dX0_combine_44 (by decide +kernel) ?_
  obtain ⟨q17, hq17, hf⟩ := bs hf
  refine g_callVv (n := 3) (As := [.int x2, .int (0 : Int32), .int (0 : Int32)]) (rest := []) (wc := [(fl, oB 0 [.ref fl_come, .ref fl_taints, .ref fl_knowns, .ref fl_outKnowns, .int outTaints, .int changed]), (fl_come, aZ G 21 come), (fl_taints, aI G 21 taints), (fl_knowns, aI G 126 knowns), (fl_outKnowns, aI G 6 outKnowns)]) (w1 := [(fl, oB 0 [.ref fl_come, .ref fl_taints, .ref fl_knowns, .ref fl_outKnowns, .int q17.2, .int changed]), (fl_come, aZ G 21 come), (fl_taints, aI G 21 taints), (fl_knowns, aI G 126 knowns), (fl_outKnowns, aI G 6 q17.1)]) (wr := []) (WS' := [(fl, oB 0 [.ref fl_come, .ref fl_taints, .ref fl_knowns, .ref fl_outKnowns, .int q17.2, .int changed]), (fl_come, aZ G 21 come), (fl_taints, aI G 21 taints), (fl_knowns, aI G 126 knowns), (fl_outKnowns, aI G 6 q17.1)]) C (c0_become hq17) gX0_combine_X0_become (by decide +kernel) rfl rfl rfl rfl rfl rfl ⟨by decide, by decide⟩ rfl [0, 1, 2, 3, 4] [] [0, 1, 2, 3, 4] rfl (by decide) rfl (by decide) (by decide) rfl (by decide) (Nat.le_of_ble_eq_true rfl) ⟨Nat.zero_le _, Nat.zero_le _⟩ rfl dX0_combine_45 ?_
  obtain rfl := Option.some.inj hf
  exact hR _ _ dX0_combine_48
set_option maxHeartbeats 4000000 in
set_option maxRecDepth 100000 in
theorem k0_combine_16 {p : Program} {l : Launch} {e : Env} {s : State} {m : MethodId} {args : Array Value} {below : List Frame} {meth : Method} {c : Code} {G : gG} {A : Nat → Prop} {Q : State → Prop} {fl fl_come fl_taints fl_knowns fl_outKnowns : Nat} (C : CX p s m args meth c G A cX0_combine 7 RX0 wsX0_combine) {come : Nat → Int32} {taints : Nat → Int32} {knowns : Nat → Int32} {changed : Int32} {outKnowns : Nat → Int32} {outTaints : Int32} {x1 : Int32} {x2 : Int32} {x3 : Int32} {x4 : Int32} {x5 : Int32} {res : (Nat → Int32) × Int32} (hR : ∀ (lv : List (Nat × Value)) (pc : Nat), decode cX0_combine pc = .ok (.return_, 1) → GG p l e rm0_combine s m args below meth c G A 7 0 0 Q [(fl, oB 0 [.ref fl_come, .ref fl_taints, .ref fl_knowns, .ref fl_outKnowns, .int res.2, .int changed]), (fl_come, aZ G 21 come), (fl_taints, aI G 21 taints), (fl_knowns, aI G 126 knowns), (fl_outKnowns, aI G 6 res.1)] lv pc [])
    (hf : f0_combine_16 outKnowns outTaints x1 x2 x3 x4 x5 = some res) : GG p l e rm0_combine s m args below meth c G A 7 0 0 Q [(fl, oB 0 [.ref fl_come, .ref fl_taints, .ref fl_knowns, .ref fl_outKnowns, .int outTaints, .int changed]), (fl_come, aZ G 21 come), (fl_taints, aI G 21 taints), (fl_knowns, aI G 126 knowns), (fl_outKnowns, aI G 6 outKnowns)] [(0, .ref fl), (1, .int x1), (2, .int x2), (3, .int x3), (4, .int x4), (5, .int x5)] 16 [] := by
  unfold f0_combine_16 at hf
  refine g_iload_n C dX0_combine_16 rfl 1 rfl ?_
  refine g_iconst (v := (4 : Int32)) C dX0_combine_17 (by decide +kernel) ?_
  refine g_icmp_ne (tgt := 26) C dX0_combine_18 (by decide) (fun c18 => ?_) (fun c18 => ?_)
  · replace hf := ite_f c18 hf
    refine g_iload_n C dX0_combine_26 rfl 1 rfl ?_
    refine g_iconst (v := (3 : Int32)) C dX0_combine_27 (by decide +kernel) ?_
    refine g_icmp_ne (tgt := 49) C dX0_combine_28 (by decide) (fun c19 => ?_) (fun c19 => ?_)
    · replace hf := ite_f c19 hf
      refine g_iload C dX0_combine_49 4 rfl ?_
      refine g_iconst (v := (-1 : Int32)) C dX0_combine_51 (by decide +kernel) ?_
      refine g_icmp_eq (tgt := 65) C dX0_combine_52 (by decide) (fun c20 => ?_) (fun c20 => ?_)
      · replace hf := ite_t c20 hf
        exact k0_combine_65 C hR hf
      · replace hf := ite_f c20 hf
        refine g_iload C dX0_combine_55 5 rfl ?_
        refine g_iconst (v := (-1 : Int32)) C dX0_combine_57 (by decide +kernel) ?_
        refine g_icmp_eq (tgt := 65) C dX0_combine_58 (by decide) (fun c21 => ?_) (fun c21 => ?_)
        · replace hf := ite_t c21 hf
          exact k0_combine_65 C hR hf
        · replace hf := ite_f c21 hf
          refine g_iconst (v := (1 : Int32)) C dX0_combine_61 (by decide +kernel) ?_
          refine g_goto (tgt := 66) C dX0_combine_62 (by decide) ?_
          exact k0_combine_66 C hR hf
    · replace hf := ite_t c19 hf
      refine g_iload C dX0_combine_31 4 rfl ?_
      refine g_if_eq (tgt := 41) C dX0_combine_33 (by decide) (fun c22 => ?_) (fun c22 => ?_)
      · replace hf := ite_t c22 hf
        exact k0_combine_41 C hR hf
      · replace hf := ite_f c22 hf
        refine g_iload C dX0_combine_36 5 rfl ?_
        refine g_if_ne (tgt := 49) C dX0_combine_38 (by decide) (fun c23 => ?_) (fun c23 => ?_)
        · replace hf := ite_f c23 hf
          refine g_iload C dX0_combine_49 4 rfl ?_
          refine g_iconst (v := (-1 : Int32)) C dX0_combine_51 (by decide +kernel) ?_
          refine g_icmp_eq (tgt := 65) C dX0_combine_52 (by decide) (fun c24 => ?_) (fun c24 => ?_)
          · replace hf := ite_t c24 hf
            exact k0_combine_65 C hR hf
          · replace hf := ite_f c24 hf
            refine g_iload C dX0_combine_55 5 rfl ?_
            refine g_iconst (v := (-1 : Int32)) C dX0_combine_57 (by decide +kernel) ?_
            refine g_icmp_eq (tgt := 65) C dX0_combine_58 (by decide) (fun c25 => ?_) (fun c25 => ?_)
            · replace hf := ite_t c25 hf
              exact k0_combine_65 C hR hf
            · replace hf := ite_f c25 hf
              refine g_iconst (v := (1 : Int32)) C dX0_combine_61 (by decide +kernel) ?_
              refine g_goto (tgt := 66) C dX0_combine_62 (by decide) ?_
              exact k0_combine_66 C hR hf
        · replace hf := ite_t c23 hf
          exact k0_combine_41 C hR hf
  · replace hf := ite_t c18 hf
    refine g_iload_n C dX0_combine_21 rfl 2 rfl ?_
    refine g_iload_n C dX0_combine_22 rfl 3 rfl ?_
    refine g_icmp_eq (tgt := 41) C dX0_combine_23 (by decide) (fun c26 => ?_) (fun c26 => ?_)
    · replace hf := ite_t c26 hf
      exact k0_combine_41 C hR hf
    · replace hf := ite_f c26 hf
      refine g_iload_n C dX0_combine_26 rfl 1 rfl ?_
      refine g_iconst (v := (3 : Int32)) C dX0_combine_27 (by decide +kernel) ?_
      refine g_icmp_ne (tgt := 49) C dX0_combine_28 (by decide) (fun c27 => ?_) (fun c27 => ?_)
      · replace hf := ite_f c27 hf
        refine g_iload C dX0_combine_49 4 rfl ?_
        refine g_iconst (v := (-1 : Int32)) C dX0_combine_51 (by decide +kernel) ?_
        refine g_icmp_eq (tgt := 65) C dX0_combine_52 (by decide) (fun c28 => ?_) (fun c28 => ?_)
        · replace hf := ite_t c28 hf
          exact k0_combine_65 C hR hf
        · replace hf := ite_f c28 hf
          refine g_iload C dX0_combine_55 5 rfl ?_
          refine g_iconst (v := (-1 : Int32)) C dX0_combine_57 (by decide +kernel) ?_
          refine g_icmp_eq (tgt := 65) C dX0_combine_58 (by decide) (fun c29 => ?_) (fun c29 => ?_)
          · replace hf := ite_t c29 hf
            exact k0_combine_65 C hR hf
          · replace hf := ite_f c29 hf
            refine g_iconst (v := (1 : Int32)) C dX0_combine_61 (by decide +kernel) ?_
            refine g_goto (tgt := 66) C dX0_combine_62 (by decide) ?_
            exact k0_combine_66 C hR hf
      · replace hf := ite_t c27 hf
        refine g_iload C dX0_combine_31 4 rfl ?_
        refine g_if_eq (tgt := 41) C dX0_combine_33 (by decide) (fun c30 => ?_) (fun c30 => ?_)
        · replace hf := ite_t c30 hf
          exact k0_combine_41 C hR hf
        · replace hf := ite_f c30 hf
          refine g_iload C dX0_combine_36 5 rfl ?_
          refine g_if_ne (tgt := 49) C dX0_combine_38 (by decide) (fun c31 => ?_) (fun c31 => ?_)
          · replace hf := ite_f c31 hf
            refine g_iload C dX0_combine_49 4 rfl ?_
            refine g_iconst (v := (-1 : Int32)) C dX0_combine_51 (by decide +kernel) ?_
            refine g_icmp_eq (tgt := 65) C dX0_combine_52 (by decide) (fun c32 => ?_) (fun c32 => ?_)
            · replace hf := ite_t c32 hf
              exact k0_combine_65 C hR hf
            · replace hf := ite_f c32 hf
              refine g_iload C dX0_combine_55 5 rfl ?_
              refine g_iconst (v := (-1 : Int32)) C dX0_combine_57 (by decide +kernel) ?_
              refine g_icmp_eq (tgt := 65) C dX0_combine_58 (by decide) (fun c33 => ?_) (fun c33 => ?_)
              · replace hf := ite_t c33 hf
                exact k0_combine_65 C hR hf
              · replace hf := ite_f c33 hf
                refine g_iconst (v := (1 : Int32)) C dX0_combine_61 (by decide +kernel) ?_
                refine g_goto (tgt := 66) C dX0_combine_62 (by decide) ?_
                exact k0_combine_66 C hR hf
          · replace hf := ite_t c31 hf
            exact k0_combine_41 C hR hf
set_option maxHeartbeats 4000000 in
set_option maxRecDepth 100000 in
theorem c0_combine {l : Launch} {G : gG} {fl fl_come fl_taints fl_knowns fl_outKnowns : Nat} {come : Nat → Int32} {taints : Nat → Int32} {knowns : Nat → Int32} {outKnowns : Nat → Int32} {outTaints : Int32} {changed : Int32} {v0 : Int32} {v1 : Int32} {v2 : Int32} {res : (Nat → Int32) × Int32} (hf : f0_combine outKnowns outTaints v0 v1 v2 = some res) : MV l yX0_combine wsX0_combine rm0_combine G [.ref fl, .int v0, .int v1, .int v2] [(fl, oB 0 [.ref fl_come, .ref fl_taints, .ref fl_knowns, .ref fl_outKnowns, .int outTaints, .int changed]), (fl_come, aZ G 21 come), (fl_taints, aI G 21 taints), (fl_knowns, aI G 126 knowns), (fl_outKnowns, aI G 6 outKnowns)] [(fl, oB 0 [.ref fl_come, .ref fl_taints, .ref fl_knowns, .ref fl_outKnowns, .int res.2, .int changed]), (fl_come, aZ G 21 come), (fl_taints, aI G 21 taints), (fl_knowns, aI G 126 knowns), (fl_outKnowns, aI G 6 res.1)] := by
  refine MV_of (cc := cX0_combine) (nL := 7) (lv := [(0, .ref fl), (1, .int v0), (2, .int v1), (3, .int v2)]) (by decide +kernel) rfl (Nat.le_of_ble_eq_true rfl) rfl ?_
  intro p e s m args below meth c A Q C hR
  unfold f0_combine at hf
  refine g_aload_n C dX0_combine_0 rfl 0 rfl ?_
  refine g_get (C0 := RX0) (T := TX0) (N := 6) (ci := 0) (v := .ref fl_outKnowns) C hm0_combine_2 0 rfl rfl 3 (by decide) hm0_combine_3 rfl dX0_combine_1 ?_
  refine g_iload_n C dX0_combine_4 rfl 2 rfl ?_
  obtain ⟨h34, hf⟩ := ck_some hf
  refine g_iald (n := 6) (v := (outKnowns v1.toNatClampNeg)) C 4 rfl h34 rfl rfl dX0_combine_5 ?_
  refine g_istore (lv' := [(0, .ref fl), (1, .int v0), (2, .int v1), (3, .int v2), (4, .int (outKnowns v1.toNatClampNeg))]) C dX0_combine_6 (by decide) [1, 2, 3, 4, 0] rfl ?_
  refine g_aload_n C dX0_combine_8 rfl 0 rfl ?_
  refine g_get (C0 := RX0) (T := TX0) (N := 6) (ci := 0) (v := .ref fl_outKnowns) C hm0_combine_2 0 rfl rfl 3 (by decide) hm0_combine_3 rfl dX0_combine_9 ?_
  refine g_iload_n C dX0_combine_12 rfl 3 rfl ?_
  obtain ⟨h35, hf⟩ := ck_some hf
  refine g_iald (n := 6) (v := (outKnowns v2.toNatClampNeg)) C 4 rfl h35 rfl rfl dX0_combine_13 ?_
  refine g_istore (lv' := [(0, .ref fl), (1, .int v0), (2, .int v1), (3, .int v2), (4, .int (outKnowns v1.toNatClampNeg)), (5, .int (outKnowns v2.toNatClampNeg))]) C dX0_combine_14 (by decide) [1, 2, 3, 4, 5, 0] rfl ?_
  exact k0_combine_16 C hR hf

-- X0_change
def f0_change (P0_N : Nat → Int32) (outKnowns : Nat → Int32) (outTaints : Int32) (v1 : Int32) (v2 : Int32) (v3 : Int32) (v4 : Int32) : Option ((Nat → Int32) × Int32) :=
  (if v1 = (0 : Int32) then
    ((f0_become outKnowns outTaints v2 (0 : Int32) v3).bind <| fun q2 =>
    some (q2.1, q2.2))
    else (if v1 = (1 : Int32) then
    ((f0_tainted outTaints v3).bind <| fun q4 =>
    ck (inb v3 6) <|
    (f0_become outKnowns outTaints v2 q4 (outKnowns v3.toNatClampNeg)).bind <| fun q6 =>
    some (q6.1, q6.2))
    else (if v1 = (2 : Int32) then
    ((f0_combine outKnowns outTaints v1 v2 v3).bind <| fun q8 =>
    some (q8.1, q8.2))
    else (if v1 = (3 : Int32) then
    ((f0_combine outKnowns outTaints v1 v2 v3).bind <| fun q10 =>
    some (q10.1, q10.2))
    else (if v1 = (4 : Int32) then
    ((f0_combine outKnowns outTaints v1 v2 v3).bind <| fun q12 =>
    some (q12.1, q12.2))
    else (if v1 = (5 : Int32) then
    ((f0_tainted outTaints v3).bind <| fun q14 =>
    ck (inb v3 6) <|
    if (outKnowns v3.toNatClampNeg) = (-1 : Int32) then
    ((f0_become outKnowns outTaints v2 q14 (-1 : Int32)).bind <| fun q20 =>
    some (q20.1, q20.2))
    else (ck (inb v3 6) <|
    ck (inb (outKnowns v3.toNatClampNeg) 16) <|
    (f0_become outKnowns outTaints v2 q14 (P0_N (8 + (outKnowns v3.toNatClampNeg).toNatClampNeg))).bind <| fun q19 =>
    some (q19.1, q19.2)))
    else (if v1 = (6 : Int32) then
    ((f0_combine outKnowns outTaints v1 v2 v3).bind <| fun q22 =>
    some (q22.1, q22.2))
    else (if v1 = (7 : Int32) then
    ((f0_combine outKnowns outTaints v1 v2 v3).bind <| fun q24 =>
    some (q24.1, q24.2))
    else (if v1 = (8 : Int32) then
    ((f0_pick outKnowns outTaints v2 v3 v4).bind <| fun q26 =>
    some (q26.1, q26.2))
    else ((f0_combine outKnowns outTaints v1 v2 v3).bind <| fun q27 =>
    some (q27.1, q27.2)))))))))))
def rm0_change : Room := { frames := 2, cells := 0, slots := 0, locals := 50 }
theorem hm0_change_0 : ∀ w ∈ u_ws RX0 TX0 6, w ∈ wsX0_change := by decide +kernel
theorem hm0_change_1 : Cond.fieldLink RX0 22 "SecretSteps$Flow" "outKnowns" "[I" ∈ wsX0_change := by decide +kernel
theorem hm0_change_2 : ∀ w ∈ u_ws RX2 TX2 5, w ∈ wsX0_change := by decide +kernel
set_option maxHeartbeats 4000000 in
set_option maxRecDepth 100000 in
theorem c0_change {l : Launch} {G : gG} {fl fl_come fl_taints fl_knowns fl_outKnowns aq0 aq0_lines aq0_cells aq0_starts : Nat} {come : Nat → Int32} {taints : Nat → Int32} {knowns : Nat → Int32} {outKnowns : Nat → Int32} {outTaints : Int32} {changed : Int32} {P0_N : Nat → Int32} {v1 : Int32} {v2 : Int32} {v3 : Int32} {v4 : Int32} {res : (Nat → Int32) × Int32} (hf : f0_change P0_N outKnowns outTaints v1 v2 v3 v4 = some res) : MV l yX0_change wsX0_change rm0_change G [.ref fl, .ref aq0, .int v1, .int v2, .int v3, .int v4] [(fl, oB 0 [.ref fl_come, .ref fl_taints, .ref fl_knowns, .ref fl_outKnowns, .int outTaints, .int changed]), (fl_come, aZ G 21 come), (fl_taints, aI G 21 taints), (fl_knowns, aI G 126 knowns), (fl_outKnowns, aI G 6 outKnowns), (aq0, oB 2 [.ref aq0_lines, .ref aq0_cells, .ref aq0_starts, .int (P0_N 0), .int (P0_N 1)]), (aq0_lines, aI G 80 (fun j => P0_N (24 + j))), (aq0_cells, aI G 16 (fun j => P0_N (8 + j))), (aq0_starts, aI G 6 (fun j => P0_N (2 + j)))] [(fl, oB 0 [.ref fl_come, .ref fl_taints, .ref fl_knowns, .ref fl_outKnowns, .int res.2, .int changed]), (fl_come, aZ G 21 come), (fl_taints, aI G 21 taints), (fl_knowns, aI G 126 knowns), (fl_outKnowns, aI G 6 res.1), (aq0, oB 2 [.ref aq0_lines, .ref aq0_cells, .ref aq0_starts, .int (P0_N 0), .int (P0_N 1)]), (aq0_lines, aI G 80 (fun j => P0_N (24 + j))), (aq0_cells, aI G 16 (fun j => P0_N (8 + j))), (aq0_starts, aI G 6 (fun j => P0_N (2 + j)))] := by
  refine MV_of (cc := cX0_change) (nL := 6) (lv := [(0, .ref fl), (1, .ref aq0), (2, .int v1), (3, .int v2), (4, .int v3), (5, .int v4)]) (by decide +kernel) rfl (Nat.le_of_ble_eq_true rfl) rfl ?_
  intro p e s m args below meth c A Q C hR
  unfold f0_change at hf
  refine g_iload_n C dX0_change_0 rfl 2 rfl ?_
  by_cases c1 : v1 = (0 : Int32)
  · replace hf := ite_t c1 hf
    refine g_tableIn (off := 51) (tgt := 52) C dX0_change_1 (by rw [c1]; decide +kernel) (by rw [c1]; decide +kernel) (by rw [c1]; decide +kernel) (by decide) ?_
    refine g_aload_n C dX0_change_52 rfl 0 rfl ?_
    refine g_iload_n C dX0_change_53 rfl 3 rfl ?_
    refine g_iconst (v := (0 : Int32)) C dX0_change_54 (by decide +kernel) ?_
    refine g_iload C dX0_change_55 4 rfl ?_
    obtain ⟨q2, hq2, hf⟩ := bs hf
    refine g_callVv (n := 3) (As := [.int v2, .int (0 : Int32), .int v3]) (rest := []) (wc := [(fl, oB 0 [.ref fl_come, .ref fl_taints, .ref fl_knowns, .ref fl_outKnowns, .int outTaints, .int changed]), (fl_come, aZ G 21 come), (fl_taints, aI G 21 taints), (fl_knowns, aI G 126 knowns), (fl_outKnowns, aI G 6 outKnowns)]) (w1 := [(fl, oB 0 [.ref fl_come, .ref fl_taints, .ref fl_knowns, .ref fl_outKnowns, .int q2.2, .int changed]), (fl_come, aZ G 21 come), (fl_taints, aI G 21 taints), (fl_knowns, aI G 126 knowns), (fl_outKnowns, aI G 6 q2.1)]) (wr := [(aq0, oB 2 [.ref aq0_lines, .ref aq0_cells, .ref aq0_starts, .int (P0_N 0), .int (P0_N 1)]), (aq0_lines, aI G 80 (fun j => P0_N (24 + j))), (aq0_cells, aI G 16 (fun j => P0_N (8 + j))), (aq0_starts, aI G 6 (fun j => P0_N (2 + j)))]) (WS' := [(fl, oB 0 [.ref fl_come, .ref fl_taints, .ref fl_knowns, .ref fl_outKnowns, .int q2.2, .int changed]), (fl_come, aZ G 21 come), (fl_taints, aI G 21 taints), (fl_knowns, aI G 126 knowns), (fl_outKnowns, aI G 6 q2.1), (aq0, oB 2 [.ref aq0_lines, .ref aq0_cells, .ref aq0_starts, .int (P0_N 0), .int (P0_N 1)]), (aq0_lines, aI G 80 (fun j => P0_N (24 + j))), (aq0_cells, aI G 16 (fun j => P0_N (8 + j))), (aq0_starts, aI G 6 (fun j => P0_N (2 + j)))]) C (c0_become hq2) gX0_change_X0_become (by decide +kernel) rfl rfl rfl rfl rfl rfl ⟨by decide, by decide⟩ rfl [0, 1, 2, 3, 4] [5, 6, 7, 8] [4, 5, 6, 7, 8, 0, 1, 2, 3] rfl (by decide) rfl (by decide) (by decide) rfl (by decide) (Nat.le_of_ble_eq_true rfl) ⟨Nat.zero_le _, Nat.zero_le _⟩ rfl dX0_change_57 ?_
    refine g_goto (tgt := 145) C dX0_change_60 (by decide) ?_
    obtain rfl := Option.some.inj hf
    exact hR _ _ dX0_change_145
  replace hf := ite_f c1 hf
  by_cases c3 : v1 = (1 : Int32)
  · replace hf := ite_t c3 hf
    refine g_tableIn (off := 62) (tgt := 63) C dX0_change_1 (by rw [c3]; decide +kernel) (by rw [c3]; decide +kernel) (by rw [c3]; decide +kernel) (by decide) ?_
    refine g_aload_n C dX0_change_63 rfl 0 rfl ?_
    refine g_iload_n C dX0_change_64 rfl 3 rfl ?_
    refine g_aload_n C dX0_change_65 rfl 0 rfl ?_
    refine g_iload C dX0_change_66 4 rfl ?_
    obtain ⟨q4, hq4, hf⟩ := bs hf
    refine g_callVi (n := 1) (As := [.int v3]) (rest := [.int v2, .ref fl]) (wc := [(fl, oB 0 [.ref fl_come, .ref fl_taints, .ref fl_knowns, .ref fl_outKnowns, .int outTaints, .int changed]), (fl_come, aZ G 21 come), (fl_taints, aI G 21 taints), (fl_knowns, aI G 126 knowns), (fl_outKnowns, aI G 6 outKnowns)]) (w1 := [(fl, oB 0 [.ref fl_come, .ref fl_taints, .ref fl_knowns, .ref fl_outKnowns, .int outTaints, .int changed]), (fl_come, aZ G 21 come), (fl_taints, aI G 21 taints), (fl_knowns, aI G 126 knowns), (fl_outKnowns, aI G 6 outKnowns)]) (wr := [(aq0, oB 2 [.ref aq0_lines, .ref aq0_cells, .ref aq0_starts, .int (P0_N 0), .int (P0_N 1)]), (aq0_lines, aI G 80 (fun j => P0_N (24 + j))), (aq0_cells, aI G 16 (fun j => P0_N (8 + j))), (aq0_starts, aI G 6 (fun j => P0_N (2 + j)))]) (WS' := [(fl, oB 0 [.ref fl_come, .ref fl_taints, .ref fl_knowns, .ref fl_outKnowns, .int outTaints, .int changed]), (fl_come, aZ G 21 come), (fl_taints, aI G 21 taints), (fl_knowns, aI G 126 knowns), (fl_outKnowns, aI G 6 outKnowns), (aq0, oB 2 [.ref aq0_lines, .ref aq0_cells, .ref aq0_starts, .int (P0_N 0), .int (P0_N 1)]), (aq0_lines, aI G 80 (fun j => P0_N (24 + j))), (aq0_cells, aI G 16 (fun j => P0_N (8 + j))), (aq0_starts, aI G 6 (fun j => P0_N (2 + j)))]) C (c0_tainted hq4) gX0_change_X0_tainted (by decide +kernel) rfl rfl rfl rfl rfl rfl ⟨by decide, by decide⟩ rfl [0, 1, 2, 3, 4] [5, 6, 7, 8] [4, 5, 6, 7, 8, 0, 1, 2, 3] rfl (by decide) rfl (by decide) (by decide) rfl (by decide) (Nat.le_of_ble_eq_true rfl) ⟨Nat.zero_le _, Nat.zero_le _⟩ rfl dX0_change_68 ?_
    refine g_aload_n C dX0_change_71 rfl 0 rfl ?_
    refine g_get (C0 := RX0) (T := TX0) (N := 6) (ci := 0) (v := .ref fl_outKnowns) C hm0_change_0 0 rfl rfl 3 (by decide) hm0_change_1 rfl dX0_change_72 ?_
    refine g_iload C dX0_change_75 4 rfl ?_
    obtain ⟨h5, hf⟩ := ck_some hf
    refine g_iald (n := 6) (v := (outKnowns v3.toNatClampNeg)) C 4 rfl h5 rfl rfl dX0_change_77 ?_
    obtain ⟨q6, hq6, hf⟩ := bs hf
    refine g_callVv (n := 3) (As := [.int v2, .int q4, .int (outKnowns v3.toNatClampNeg)]) (rest := []) (wc := [(fl, oB 0 [.ref fl_come, .ref fl_taints, .ref fl_knowns, .ref fl_outKnowns, .int outTaints, .int changed]), (fl_come, aZ G 21 come), (fl_taints, aI G 21 taints), (fl_knowns, aI G 126 knowns), (fl_outKnowns, aI G 6 outKnowns)]) (w1 := [(fl, oB 0 [.ref fl_come, .ref fl_taints, .ref fl_knowns, .ref fl_outKnowns, .int q6.2, .int changed]), (fl_come, aZ G 21 come), (fl_taints, aI G 21 taints), (fl_knowns, aI G 126 knowns), (fl_outKnowns, aI G 6 q6.1)]) (wr := [(aq0, oB 2 [.ref aq0_lines, .ref aq0_cells, .ref aq0_starts, .int (P0_N 0), .int (P0_N 1)]), (aq0_lines, aI G 80 (fun j => P0_N (24 + j))), (aq0_cells, aI G 16 (fun j => P0_N (8 + j))), (aq0_starts, aI G 6 (fun j => P0_N (2 + j)))]) (WS' := [(fl, oB 0 [.ref fl_come, .ref fl_taints, .ref fl_knowns, .ref fl_outKnowns, .int q6.2, .int changed]), (fl_come, aZ G 21 come), (fl_taints, aI G 21 taints), (fl_knowns, aI G 126 knowns), (fl_outKnowns, aI G 6 q6.1), (aq0, oB 2 [.ref aq0_lines, .ref aq0_cells, .ref aq0_starts, .int (P0_N 0), .int (P0_N 1)]), (aq0_lines, aI G 80 (fun j => P0_N (24 + j))), (aq0_cells, aI G 16 (fun j => P0_N (8 + j))), (aq0_starts, aI G 6 (fun j => P0_N (2 + j)))]) C (c0_become hq6) gX0_change_X0_become (by decide +kernel) rfl rfl rfl rfl rfl rfl ⟨by decide, by decide⟩ rfl [0, 1, 2, 3, 4] [5, 6, 7, 8] [4, 5, 6, 7, 8, 0, 1, 2, 3] rfl (by decide) rfl (by decide) (by decide) rfl (by decide) (Nat.le_of_ble_eq_true rfl) ⟨Nat.zero_le _, Nat.zero_le _⟩ rfl dX0_change_78 ?_
    refine g_goto (tgt := 145) C dX0_change_81 (by decide) ?_
    obtain rfl := Option.some.inj hf
    exact hR _ _ dX0_change_145
  replace hf := ite_f c3 hf
  by_cases c7 : v1 = (2 : Int32)
  · replace hf := ite_t c7 hf
    refine g_tableIn (off := 136) (tgt := 137) C dX0_change_1 (by rw [c7]; decide +kernel) (by rw [c7]; decide +kernel) (by rw [c7]; decide +kernel) (by decide) ?_
    refine g_aload_n C dX0_change_137 rfl 0 rfl ?_
    refine g_iload_n C dX0_change_138 rfl 2 rfl ?_
    refine g_iload_n C dX0_change_139 rfl 3 rfl ?_
    refine g_iload C dX0_change_140 4 rfl ?_
    obtain ⟨q8, hq8, hf⟩ := bs hf
    refine g_callVv (n := 3) (As := [.int v1, .int v2, .int v3]) (rest := []) (wc := [(fl, oB 0 [.ref fl_come, .ref fl_taints, .ref fl_knowns, .ref fl_outKnowns, .int outTaints, .int changed]), (fl_come, aZ G 21 come), (fl_taints, aI G 21 taints), (fl_knowns, aI G 126 knowns), (fl_outKnowns, aI G 6 outKnowns)]) (w1 := [(fl, oB 0 [.ref fl_come, .ref fl_taints, .ref fl_knowns, .ref fl_outKnowns, .int q8.2, .int changed]), (fl_come, aZ G 21 come), (fl_taints, aI G 21 taints), (fl_knowns, aI G 126 knowns), (fl_outKnowns, aI G 6 q8.1)]) (wr := [(aq0, oB 2 [.ref aq0_lines, .ref aq0_cells, .ref aq0_starts, .int (P0_N 0), .int (P0_N 1)]), (aq0_lines, aI G 80 (fun j => P0_N (24 + j))), (aq0_cells, aI G 16 (fun j => P0_N (8 + j))), (aq0_starts, aI G 6 (fun j => P0_N (2 + j)))]) (WS' := [(fl, oB 0 [.ref fl_come, .ref fl_taints, .ref fl_knowns, .ref fl_outKnowns, .int q8.2, .int changed]), (fl_come, aZ G 21 come), (fl_taints, aI G 21 taints), (fl_knowns, aI G 126 knowns), (fl_outKnowns, aI G 6 q8.1), (aq0, oB 2 [.ref aq0_lines, .ref aq0_cells, .ref aq0_starts, .int (P0_N 0), .int (P0_N 1)]), (aq0_lines, aI G 80 (fun j => P0_N (24 + j))), (aq0_cells, aI G 16 (fun j => P0_N (8 + j))), (aq0_starts, aI G 6 (fun j => P0_N (2 + j)))]) C (c0_combine hq8) gX0_change_X0_combine (by decide +kernel) rfl rfl rfl rfl rfl rfl ⟨by decide, by decide⟩ rfl [0, 1, 2, 3, 4] [5, 6, 7, 8] [4, 5, 6, 7, 8, 0, 1, 2, 3] rfl (by decide) rfl (by decide) (by decide) rfl (by decide) (Nat.le_of_ble_eq_true rfl) ⟨Nat.zero_le _, Nat.zero_le _⟩ rfl dX0_change_142 ?_
    obtain rfl := Option.some.inj hf
    exact hR _ _ dX0_change_145
  replace hf := ite_f c7 hf
  by_cases c9 : v1 = (3 : Int32)
  · replace hf := ite_t c9 hf
    refine g_tableIn (off := 136) (tgt := 137) C dX0_change_1 (by rw [c9]; decide +kernel) (by rw [c9]; decide +kernel) (by rw [c9]; decide +kernel) (by decide) ?_
    refine g_aload_n C dX0_change_137 rfl 0 rfl ?_
    refine g_iload_n C dX0_change_138 rfl 2 rfl ?_
    refine g_iload_n C dX0_change_139 rfl 3 rfl ?_
    refine g_iload C dX0_change_140 4 rfl ?_
    obtain ⟨q10, hq10, hf⟩ := bs hf
    refine g_callVv (n := 3) (As := [.int v1, .int v2, .int v3]) (rest := []) (wc := [(fl, oB 0 [.ref fl_come, .ref fl_taints, .ref fl_knowns, .ref fl_outKnowns, .int outTaints, .int changed]), (fl_come, aZ G 21 come), (fl_taints, aI G 21 taints), (fl_knowns, aI G 126 knowns), (fl_outKnowns, aI G 6 outKnowns)]) (w1 := [(fl, oB 0 [.ref fl_come, .ref fl_taints, .ref fl_knowns, .ref fl_outKnowns, .int q10.2, .int changed]), (fl_come, aZ G 21 come), (fl_taints, aI G 21 taints), (fl_knowns, aI G 126 knowns), (fl_outKnowns, aI G 6 q10.1)]) (wr := [(aq0, oB 2 [.ref aq0_lines, .ref aq0_cells, .ref aq0_starts, .int (P0_N 0), .int (P0_N 1)]), (aq0_lines, aI G 80 (fun j => P0_N (24 + j))), (aq0_cells, aI G 16 (fun j => P0_N (8 + j))), (aq0_starts, aI G 6 (fun j => P0_N (2 + j)))]) (WS' := [(fl, oB 0 [.ref fl_come, .ref fl_taints, .ref fl_knowns, .ref fl_outKnowns, .int q10.2, .int changed]), (fl_come, aZ G 21 come), (fl_taints, aI G 21 taints), (fl_knowns, aI G 126 knowns), (fl_outKnowns, aI G 6 q10.1), (aq0, oB 2 [.ref aq0_lines, .ref aq0_cells, .ref aq0_starts, .int (P0_N 0), .int (P0_N 1)]), (aq0_lines, aI G 80 (fun j => P0_N (24 + j))), (aq0_cells, aI G 16 (fun j => P0_N (8 + j))), (aq0_starts, aI G 6 (fun j => P0_N (2 + j)))]) C (c0_combine hq10) gX0_change_X0_combine (by decide +kernel) rfl rfl rfl rfl rfl rfl ⟨by decide, by decide⟩ rfl [0, 1, 2, 3, 4] [5, 6, 7, 8] [4, 5, 6, 7, 8, 0, 1, 2, 3] rfl (by decide) rfl (by decide) (by decide) rfl (by decide) (Nat.le_of_ble_eq_true rfl) ⟨Nat.zero_le _, Nat.zero_le _⟩ rfl dX0_change_142 ?_
    obtain rfl := Option.some.inj hf
    exact hR _ _ dX0_change_145
  replace hf := ite_f c9 hf
  by_cases c11 : v1 = (4 : Int32)
  · replace hf := ite_t c11 hf
    refine g_tableIn (off := 136) (tgt := 137) C dX0_change_1 (by rw [c11]; decide +kernel) (by rw [c11]; decide +kernel) (by rw [c11]; decide +kernel) (by decide) ?_
    refine g_aload_n C dX0_change_137 rfl 0 rfl ?_
    refine g_iload_n C dX0_change_138 rfl 2 rfl ?_
    refine g_iload_n C dX0_change_139 rfl 3 rfl ?_
    refine g_iload C dX0_change_140 4 rfl ?_
    obtain ⟨q12, hq12, hf⟩ := bs hf
    refine g_callVv (n := 3) (As := [.int v1, .int v2, .int v3]) (rest := []) (wc := [(fl, oB 0 [.ref fl_come, .ref fl_taints, .ref fl_knowns, .ref fl_outKnowns, .int outTaints, .int changed]), (fl_come, aZ G 21 come), (fl_taints, aI G 21 taints), (fl_knowns, aI G 126 knowns), (fl_outKnowns, aI G 6 outKnowns)]) (w1 := [(fl, oB 0 [.ref fl_come, .ref fl_taints, .ref fl_knowns, .ref fl_outKnowns, .int q12.2, .int changed]), (fl_come, aZ G 21 come), (fl_taints, aI G 21 taints), (fl_knowns, aI G 126 knowns), (fl_outKnowns, aI G 6 q12.1)]) (wr := [(aq0, oB 2 [.ref aq0_lines, .ref aq0_cells, .ref aq0_starts, .int (P0_N 0), .int (P0_N 1)]), (aq0_lines, aI G 80 (fun j => P0_N (24 + j))), (aq0_cells, aI G 16 (fun j => P0_N (8 + j))), (aq0_starts, aI G 6 (fun j => P0_N (2 + j)))]) (WS' := [(fl, oB 0 [.ref fl_come, .ref fl_taints, .ref fl_knowns, .ref fl_outKnowns, .int q12.2, .int changed]), (fl_come, aZ G 21 come), (fl_taints, aI G 21 taints), (fl_knowns, aI G 126 knowns), (fl_outKnowns, aI G 6 q12.1), (aq0, oB 2 [.ref aq0_lines, .ref aq0_cells, .ref aq0_starts, .int (P0_N 0), .int (P0_N 1)]), (aq0_lines, aI G 80 (fun j => P0_N (24 + j))), (aq0_cells, aI G 16 (fun j => P0_N (8 + j))), (aq0_starts, aI G 6 (fun j => P0_N (2 + j)))]) C (c0_combine hq12) gX0_change_X0_combine (by decide +kernel) rfl rfl rfl rfl rfl rfl ⟨by decide, by decide⟩ rfl [0, 1, 2, 3, 4] [5, 6, 7, 8] [4, 5, 6, 7, 8, 0, 1, 2, 3] rfl (by decide) rfl (by decide) (by decide) rfl (by decide) (Nat.le_of_ble_eq_true rfl) ⟨Nat.zero_le _, Nat.zero_le _⟩ rfl dX0_change_142 ?_
    obtain rfl := Option.some.inj hf
    exact hR _ _ dX0_change_145
  replace hf := ite_f c11 hf
  by_cases c13 : v1 = (5 : Int32)
  · replace hf := ite_t c13 hf
    refine g_tableIn (off := 83) (tgt := 84) C dX0_change_1 (by rw [c13]; decide +kernel) (by rw [c13]; decide +kernel) (by rw [c13]; decide +kernel) (by decide) ?_
    refine g_aload_n C dX0_change_84 rfl 0 rfl ?_
    refine g_iload_n C dX0_change_85 rfl 3 rfl ?_
    refine g_aload_n C dX0_change_86 rfl 0 rfl ?_
    refine g_iload C dX0_change_87 4 rfl ?_
    obtain ⟨q14, hq14, hf⟩ := bs hf
    refine g_callVi (n := 1) (As := [.int v3]) (rest := [.int v2, .ref fl]) (wc := [(fl, oB 0 [.ref fl_come, .ref fl_taints, .ref fl_knowns, .ref fl_outKnowns, .int outTaints, .int changed]), (fl_come, aZ G 21 come), (fl_taints, aI G 21 taints), (fl_knowns, aI G 126 knowns), (fl_outKnowns, aI G 6 outKnowns)]) (w1 := [(fl, oB 0 [.ref fl_come, .ref fl_taints, .ref fl_knowns, .ref fl_outKnowns, .int outTaints, .int changed]), (fl_come, aZ G 21 come), (fl_taints, aI G 21 taints), (fl_knowns, aI G 126 knowns), (fl_outKnowns, aI G 6 outKnowns)]) (wr := [(aq0, oB 2 [.ref aq0_lines, .ref aq0_cells, .ref aq0_starts, .int (P0_N 0), .int (P0_N 1)]), (aq0_lines, aI G 80 (fun j => P0_N (24 + j))), (aq0_cells, aI G 16 (fun j => P0_N (8 + j))), (aq0_starts, aI G 6 (fun j => P0_N (2 + j)))]) (WS' := [(fl, oB 0 [.ref fl_come, .ref fl_taints, .ref fl_knowns, .ref fl_outKnowns, .int outTaints, .int changed]), (fl_come, aZ G 21 come), (fl_taints, aI G 21 taints), (fl_knowns, aI G 126 knowns), (fl_outKnowns, aI G 6 outKnowns), (aq0, oB 2 [.ref aq0_lines, .ref aq0_cells, .ref aq0_starts, .int (P0_N 0), .int (P0_N 1)]), (aq0_lines, aI G 80 (fun j => P0_N (24 + j))), (aq0_cells, aI G 16 (fun j => P0_N (8 + j))), (aq0_starts, aI G 6 (fun j => P0_N (2 + j)))]) C (c0_tainted hq14) gX0_change_X0_tainted (by decide +kernel) rfl rfl rfl rfl rfl rfl ⟨by decide, by decide⟩ rfl [0, 1, 2, 3, 4] [5, 6, 7, 8] [4, 5, 6, 7, 8, 0, 1, 2, 3] rfl (by decide) rfl (by decide) (by decide) rfl (by decide) (Nat.le_of_ble_eq_true rfl) ⟨Nat.zero_le _, Nat.zero_le _⟩ rfl dX0_change_89 ?_
    refine g_aload_n C dX0_change_92 rfl 0 rfl ?_
    refine g_get (C0 := RX0) (T := TX0) (N := 6) (ci := 0) (v := .ref fl_outKnowns) C hm0_change_0 0 rfl rfl 3 (by decide) hm0_change_1 rfl dX0_change_93 ?_
    refine g_iload C dX0_change_96 4 rfl ?_
    obtain ⟨h15, hf⟩ := ck_some hf
    refine g_iald (n := 6) (v := (outKnowns v3.toNatClampNeg)) C 4 rfl h15 rfl rfl dX0_change_98 ?_
    refine g_iconst (v := (-1 : Int32)) C dX0_change_99 (by decide +kernel) ?_
    refine g_icmp_ne (tgt := 107) C dX0_change_100 (by decide) (fun c16 => ?_) (fun c16 => ?_)
    · replace hf := ite_f c16 hf
      refine g_aload_n C dX0_change_107 rfl 1 rfl ?_
      refine g_getN (C0 := RX2) (T := TX2) (N := 5) (ci := 2) (v := .ref aq0_cells) (host := "SecretSteps") C hm0_change_2 5 rfl rfl 1 (by decide) hn0_83 rfl dX0_change_108 ?_
      refine g_aload_n C dX0_change_111 rfl 0 rfl ?_
      refine g_get (C0 := RX0) (T := TX0) (N := 6) (ci := 0) (v := .ref fl_outKnowns) C hm0_change_0 0 rfl rfl 3 (by decide) hm0_change_1 rfl dX0_change_112 ?_
      refine g_iload C dX0_change_115 4 rfl ?_
      obtain ⟨h17, hf⟩ := ck_some hf
      refine g_iald (n := 6) (v := (outKnowns v3.toNatClampNeg)) C 4 rfl h17 rfl rfl dX0_change_117 ?_
      obtain ⟨h18, hf⟩ := ck_some hf
      refine g_iald (n := 16) (v := (P0_N (8 + (outKnowns v3.toNatClampNeg).toNatClampNeg))) C 7 rfl h18 rfl rfl dX0_change_118 ?_
      obtain ⟨q19, hq19, hf⟩ := bs hf
      refine g_callVv (n := 3) (As := [.int v2, .int q14, .int (P0_N (8 + (outKnowns v3.toNatClampNeg).toNatClampNeg))]) (rest := []) (wc := [(fl, oB 0 [.ref fl_come, .ref fl_taints, .ref fl_knowns, .ref fl_outKnowns, .int outTaints, .int changed]), (fl_come, aZ G 21 come), (fl_taints, aI G 21 taints), (fl_knowns, aI G 126 knowns), (fl_outKnowns, aI G 6 outKnowns)]) (w1 := [(fl, oB 0 [.ref fl_come, .ref fl_taints, .ref fl_knowns, .ref fl_outKnowns, .int q19.2, .int changed]), (fl_come, aZ G 21 come), (fl_taints, aI G 21 taints), (fl_knowns, aI G 126 knowns), (fl_outKnowns, aI G 6 q19.1)]) (wr := [(aq0, oB 2 [.ref aq0_lines, .ref aq0_cells, .ref aq0_starts, .int (P0_N 0), .int (P0_N 1)]), (aq0_lines, aI G 80 (fun j => P0_N (24 + j))), (aq0_cells, aI G 16 (fun j => P0_N (8 + j))), (aq0_starts, aI G 6 (fun j => P0_N (2 + j)))]) (WS' := [(fl, oB 0 [.ref fl_come, .ref fl_taints, .ref fl_knowns, .ref fl_outKnowns, .int q19.2, .int changed]), (fl_come, aZ G 21 come), (fl_taints, aI G 21 taints), (fl_knowns, aI G 126 knowns), (fl_outKnowns, aI G 6 q19.1), (aq0, oB 2 [.ref aq0_lines, .ref aq0_cells, .ref aq0_starts, .int (P0_N 0), .int (P0_N 1)]), (aq0_lines, aI G 80 (fun j => P0_N (24 + j))), (aq0_cells, aI G 16 (fun j => P0_N (8 + j))), (aq0_starts, aI G 6 (fun j => P0_N (2 + j)))]) C (c0_become hq19) gX0_change_X0_become (by decide +kernel) rfl rfl rfl rfl rfl rfl ⟨by decide, by decide⟩ rfl [0, 1, 2, 3, 4] [5, 6, 7, 8] [4, 5, 6, 7, 8, 0, 1, 2, 3] rfl (by decide) rfl (by decide) (by decide) rfl (by decide) (Nat.le_of_ble_eq_true rfl) ⟨Nat.zero_le _, Nat.zero_le _⟩ rfl dX0_change_119 ?_
      refine g_goto (tgt := 145) C dX0_change_122 (by decide) ?_
      obtain rfl := Option.some.inj hf
      exact hR _ _ dX0_change_145
    · replace hf := ite_t c16 hf
      refine g_iconst (v := (-1 : Int32)) C dX0_change_103 (by decide +kernel) ?_
      refine g_goto (tgt := 119) C dX0_change_104 (by decide) ?_
      obtain ⟨q20, hq20, hf⟩ := bs hf
      refine g_callVv (n := 3) (As := [.int v2, .int q14, .int (-1 : Int32)]) (rest := []) (wc := [(fl, oB 0 [.ref fl_come, .ref fl_taints, .ref fl_knowns, .ref fl_outKnowns, .int outTaints, .int changed]), (fl_come, aZ G 21 come), (fl_taints, aI G 21 taints), (fl_knowns, aI G 126 knowns), (fl_outKnowns, aI G 6 outKnowns)]) (w1 := [(fl, oB 0 [.ref fl_come, .ref fl_taints, .ref fl_knowns, .ref fl_outKnowns, .int q20.2, .int changed]), (fl_come, aZ G 21 come), (fl_taints, aI G 21 taints), (fl_knowns, aI G 126 knowns), (fl_outKnowns, aI G 6 q20.1)]) (wr := [(aq0, oB 2 [.ref aq0_lines, .ref aq0_cells, .ref aq0_starts, .int (P0_N 0), .int (P0_N 1)]), (aq0_lines, aI G 80 (fun j => P0_N (24 + j))), (aq0_cells, aI G 16 (fun j => P0_N (8 + j))), (aq0_starts, aI G 6 (fun j => P0_N (2 + j)))]) (WS' := [(fl, oB 0 [.ref fl_come, .ref fl_taints, .ref fl_knowns, .ref fl_outKnowns, .int q20.2, .int changed]), (fl_come, aZ G 21 come), (fl_taints, aI G 21 taints), (fl_knowns, aI G 126 knowns), (fl_outKnowns, aI G 6 q20.1), (aq0, oB 2 [.ref aq0_lines, .ref aq0_cells, .ref aq0_starts, .int (P0_N 0), .int (P0_N 1)]), (aq0_lines, aI G 80 (fun j => P0_N (24 + j))), (aq0_cells, aI G 16 (fun j => P0_N (8 + j))), (aq0_starts, aI G 6 (fun j => P0_N (2 + j)))]) C (c0_become hq20) gX0_change_X0_become (by decide +kernel) rfl rfl rfl rfl rfl rfl ⟨by decide, by decide⟩ rfl [0, 1, 2, 3, 4] [5, 6, 7, 8] [4, 5, 6, 7, 8, 0, 1, 2, 3] rfl (by decide) rfl (by decide) (by decide) rfl (by decide) (Nat.le_of_ble_eq_true rfl) ⟨Nat.zero_le _, Nat.zero_le _⟩ rfl dX0_change_119 ?_
      refine g_goto (tgt := 145) C dX0_change_122 (by decide) ?_
      obtain rfl := Option.some.inj hf
      exact hR _ _ dX0_change_145
  replace hf := ite_f c13 hf
  by_cases c21 : v1 = (6 : Int32)
  · replace hf := ite_t c21 hf
    refine g_tableIn (off := 136) (tgt := 137) C dX0_change_1 (by rw [c21]; decide +kernel) (by rw [c21]; decide +kernel) (by rw [c21]; decide +kernel) (by decide) ?_
    refine g_aload_n C dX0_change_137 rfl 0 rfl ?_
    refine g_iload_n C dX0_change_138 rfl 2 rfl ?_
    refine g_iload_n C dX0_change_139 rfl 3 rfl ?_
    refine g_iload C dX0_change_140 4 rfl ?_
    obtain ⟨q22, hq22, hf⟩ := bs hf
    refine g_callVv (n := 3) (As := [.int v1, .int v2, .int v3]) (rest := []) (wc := [(fl, oB 0 [.ref fl_come, .ref fl_taints, .ref fl_knowns, .ref fl_outKnowns, .int outTaints, .int changed]), (fl_come, aZ G 21 come), (fl_taints, aI G 21 taints), (fl_knowns, aI G 126 knowns), (fl_outKnowns, aI G 6 outKnowns)]) (w1 := [(fl, oB 0 [.ref fl_come, .ref fl_taints, .ref fl_knowns, .ref fl_outKnowns, .int q22.2, .int changed]), (fl_come, aZ G 21 come), (fl_taints, aI G 21 taints), (fl_knowns, aI G 126 knowns), (fl_outKnowns, aI G 6 q22.1)]) (wr := [(aq0, oB 2 [.ref aq0_lines, .ref aq0_cells, .ref aq0_starts, .int (P0_N 0), .int (P0_N 1)]), (aq0_lines, aI G 80 (fun j => P0_N (24 + j))), (aq0_cells, aI G 16 (fun j => P0_N (8 + j))), (aq0_starts, aI G 6 (fun j => P0_N (2 + j)))]) (WS' := [(fl, oB 0 [.ref fl_come, .ref fl_taints, .ref fl_knowns, .ref fl_outKnowns, .int q22.2, .int changed]), (fl_come, aZ G 21 come), (fl_taints, aI G 21 taints), (fl_knowns, aI G 126 knowns), (fl_outKnowns, aI G 6 q22.1), (aq0, oB 2 [.ref aq0_lines, .ref aq0_cells, .ref aq0_starts, .int (P0_N 0), .int (P0_N 1)]), (aq0_lines, aI G 80 (fun j => P0_N (24 + j))), (aq0_cells, aI G 16 (fun j => P0_N (8 + j))), (aq0_starts, aI G 6 (fun j => P0_N (2 + j)))]) C (c0_combine hq22) gX0_change_X0_combine (by decide +kernel) rfl rfl rfl rfl rfl rfl ⟨by decide, by decide⟩ rfl [0, 1, 2, 3, 4] [5, 6, 7, 8] [4, 5, 6, 7, 8, 0, 1, 2, 3] rfl (by decide) rfl (by decide) (by decide) rfl (by decide) (Nat.le_of_ble_eq_true rfl) ⟨Nat.zero_le _, Nat.zero_le _⟩ rfl dX0_change_142 ?_
    obtain rfl := Option.some.inj hf
    exact hR _ _ dX0_change_145
  replace hf := ite_f c21 hf
  by_cases c23 : v1 = (7 : Int32)
  · replace hf := ite_t c23 hf
    refine g_tableIn (off := 136) (tgt := 137) C dX0_change_1 (by rw [c23]; decide +kernel) (by rw [c23]; decide +kernel) (by rw [c23]; decide +kernel) (by decide) ?_
    refine g_aload_n C dX0_change_137 rfl 0 rfl ?_
    refine g_iload_n C dX0_change_138 rfl 2 rfl ?_
    refine g_iload_n C dX0_change_139 rfl 3 rfl ?_
    refine g_iload C dX0_change_140 4 rfl ?_
    obtain ⟨q24, hq24, hf⟩ := bs hf
    refine g_callVv (n := 3) (As := [.int v1, .int v2, .int v3]) (rest := []) (wc := [(fl, oB 0 [.ref fl_come, .ref fl_taints, .ref fl_knowns, .ref fl_outKnowns, .int outTaints, .int changed]), (fl_come, aZ G 21 come), (fl_taints, aI G 21 taints), (fl_knowns, aI G 126 knowns), (fl_outKnowns, aI G 6 outKnowns)]) (w1 := [(fl, oB 0 [.ref fl_come, .ref fl_taints, .ref fl_knowns, .ref fl_outKnowns, .int q24.2, .int changed]), (fl_come, aZ G 21 come), (fl_taints, aI G 21 taints), (fl_knowns, aI G 126 knowns), (fl_outKnowns, aI G 6 q24.1)]) (wr := [(aq0, oB 2 [.ref aq0_lines, .ref aq0_cells, .ref aq0_starts, .int (P0_N 0), .int (P0_N 1)]), (aq0_lines, aI G 80 (fun j => P0_N (24 + j))), (aq0_cells, aI G 16 (fun j => P0_N (8 + j))), (aq0_starts, aI G 6 (fun j => P0_N (2 + j)))]) (WS' := [(fl, oB 0 [.ref fl_come, .ref fl_taints, .ref fl_knowns, .ref fl_outKnowns, .int q24.2, .int changed]), (fl_come, aZ G 21 come), (fl_taints, aI G 21 taints), (fl_knowns, aI G 126 knowns), (fl_outKnowns, aI G 6 q24.1), (aq0, oB 2 [.ref aq0_lines, .ref aq0_cells, .ref aq0_starts, .int (P0_N 0), .int (P0_N 1)]), (aq0_lines, aI G 80 (fun j => P0_N (24 + j))), (aq0_cells, aI G 16 (fun j => P0_N (8 + j))), (aq0_starts, aI G 6 (fun j => P0_N (2 + j)))]) C (c0_combine hq24) gX0_change_X0_combine (by decide +kernel) rfl rfl rfl rfl rfl rfl ⟨by decide, by decide⟩ rfl [0, 1, 2, 3, 4] [5, 6, 7, 8] [4, 5, 6, 7, 8, 0, 1, 2, 3] rfl (by decide) rfl (by decide) (by decide) rfl (by decide) (Nat.le_of_ble_eq_true rfl) ⟨Nat.zero_le _, Nat.zero_le _⟩ rfl dX0_change_142 ?_
    obtain rfl := Option.some.inj hf
    exact hR _ _ dX0_change_145
  replace hf := ite_f c23 hf
  by_cases c25 : v1 = (8 : Int32)
  · replace hf := ite_t c25 hf
    refine g_tableIn (off := 124) (tgt := 125) C dX0_change_1 (by rw [c25]; decide +kernel) (by rw [c25]; decide +kernel) (by rw [c25]; decide +kernel) (by decide) ?_
    refine g_aload_n C dX0_change_125 rfl 0 rfl ?_
    refine g_iload_n C dX0_change_126 rfl 3 rfl ?_
    refine g_iload C dX0_change_127 4 rfl ?_
    refine g_iload C dX0_change_129 5 rfl ?_
    obtain ⟨q26, hq26, hf⟩ := bs hf
    refine g_callVv (n := 3) (As := [.int v2, .int v3, .int v4]) (rest := []) (wc := [(fl, oB 0 [.ref fl_come, .ref fl_taints, .ref fl_knowns, .ref fl_outKnowns, .int outTaints, .int changed]), (fl_come, aZ G 21 come), (fl_taints, aI G 21 taints), (fl_knowns, aI G 126 knowns), (fl_outKnowns, aI G 6 outKnowns)]) (w1 := [(fl, oB 0 [.ref fl_come, .ref fl_taints, .ref fl_knowns, .ref fl_outKnowns, .int q26.2, .int changed]), (fl_come, aZ G 21 come), (fl_taints, aI G 21 taints), (fl_knowns, aI G 126 knowns), (fl_outKnowns, aI G 6 q26.1)]) (wr := [(aq0, oB 2 [.ref aq0_lines, .ref aq0_cells, .ref aq0_starts, .int (P0_N 0), .int (P0_N 1)]), (aq0_lines, aI G 80 (fun j => P0_N (24 + j))), (aq0_cells, aI G 16 (fun j => P0_N (8 + j))), (aq0_starts, aI G 6 (fun j => P0_N (2 + j)))]) (WS' := [(fl, oB 0 [.ref fl_come, .ref fl_taints, .ref fl_knowns, .ref fl_outKnowns, .int q26.2, .int changed]), (fl_come, aZ G 21 come), (fl_taints, aI G 21 taints), (fl_knowns, aI G 126 knowns), (fl_outKnowns, aI G 6 q26.1), (aq0, oB 2 [.ref aq0_lines, .ref aq0_cells, .ref aq0_starts, .int (P0_N 0), .int (P0_N 1)]), (aq0_lines, aI G 80 (fun j => P0_N (24 + j))), (aq0_cells, aI G 16 (fun j => P0_N (8 + j))), (aq0_starts, aI G 6 (fun j => P0_N (2 + j)))]) C (c0_pick hq26) gX0_change_X0_pick (by decide +kernel) rfl rfl rfl rfl rfl rfl ⟨by decide, by decide⟩ rfl [0, 1, 2, 3, 4] [5, 6, 7, 8] [4, 5, 6, 7, 8, 0, 1, 2, 3] rfl (by decide) rfl (by decide) (by decide) rfl (by decide) (Nat.le_of_ble_eq_true rfl) ⟨Nat.zero_le _, Nat.zero_le _⟩ rfl dX0_change_131 ?_
    refine g_goto (tgt := 145) C dX0_change_134 (by decide) ?_
    obtain rfl := Option.some.inj hf
    exact hR _ _ dX0_change_145
  replace hf := ite_f c25 hf
  refine g_tableOut (tgt := 137) C dX0_change_1 (by have e0 := lv_neT (a := 0) c1 (by decide +kernel); have e1 := lv_neT (a := 1) c3 (by decide +kernel); have e2 := lv_neT (a := 2) c7 (by decide +kernel); have e3 := lv_neT (a := 3) c9 (by decide +kernel); have e4 := lv_neT (a := 4) c11 (by decide +kernel); have e5 := lv_neT (a := 5) c13 (by decide +kernel); have e6 := lv_neT (a := 6) c21 (by decide +kernel); have e7 := lv_neT (a := 7) c23 (by decide +kernel); have e8 := lv_neT (a := 8) c25 (by decide +kernel); omega) (by decide) ?_
  refine g_aload_n C dX0_change_137 rfl 0 rfl ?_
  refine g_iload_n C dX0_change_138 rfl 2 rfl ?_
  refine g_iload_n C dX0_change_139 rfl 3 rfl ?_
  refine g_iload C dX0_change_140 4 rfl ?_
  obtain ⟨q27, hq27, hf⟩ := bs hf
  refine g_callVv (n := 3) (As := [.int v1, .int v2, .int v3]) (rest := []) (wc := [(fl, oB 0 [.ref fl_come, .ref fl_taints, .ref fl_knowns, .ref fl_outKnowns, .int outTaints, .int changed]), (fl_come, aZ G 21 come), (fl_taints, aI G 21 taints), (fl_knowns, aI G 126 knowns), (fl_outKnowns, aI G 6 outKnowns)]) (w1 := [(fl, oB 0 [.ref fl_come, .ref fl_taints, .ref fl_knowns, .ref fl_outKnowns, .int q27.2, .int changed]), (fl_come, aZ G 21 come), (fl_taints, aI G 21 taints), (fl_knowns, aI G 126 knowns), (fl_outKnowns, aI G 6 q27.1)]) (wr := [(aq0, oB 2 [.ref aq0_lines, .ref aq0_cells, .ref aq0_starts, .int (P0_N 0), .int (P0_N 1)]), (aq0_lines, aI G 80 (fun j => P0_N (24 + j))), (aq0_cells, aI G 16 (fun j => P0_N (8 + j))), (aq0_starts, aI G 6 (fun j => P0_N (2 + j)))]) (WS' := [(fl, oB 0 [.ref fl_come, .ref fl_taints, .ref fl_knowns, .ref fl_outKnowns, .int q27.2, .int changed]), (fl_come, aZ G 21 come), (fl_taints, aI G 21 taints), (fl_knowns, aI G 126 knowns), (fl_outKnowns, aI G 6 q27.1), (aq0, oB 2 [.ref aq0_lines, .ref aq0_cells, .ref aq0_starts, .int (P0_N 0), .int (P0_N 1)]), (aq0_lines, aI G 80 (fun j => P0_N (24 + j))), (aq0_cells, aI G 16 (fun j => P0_N (8 + j))), (aq0_starts, aI G 6 (fun j => P0_N (2 + j)))]) C (c0_combine hq27) gX0_change_X0_combine (by decide +kernel) rfl rfl rfl rfl rfl rfl ⟨by decide, by decide⟩ rfl [0, 1, 2, 3, 4] [5, 6, 7, 8] [4, 5, 6, 7, 8, 0, 1, 2, 3] rfl (by decide) rfl (by decide) (by decide) rfl (by decide) (Nat.le_of_ble_eq_true rfl) ⟨Nat.zero_le _, Nat.zero_le _⟩ rfl dX0_change_142 ?_
  obtain rfl := Option.some.inj hf
  exact hR _ _ dX0_change_145

-- X0_pass
def f0_pass_51 (P0_N : Nat → Int32) (come : Nat → Int32) (taints : Nat → Int32) (knowns : Nat → Int32) (outKnowns : Nat → Int32) (outTaints : Int32) (changed : Int32) (x2 : Int32) (x3 : Int32) (x4 : Int32) (x5 : Int32) : Option ((Nat → Int32) × (Nat → Int32) × (Nat → Int32) × (Nat → Int32) × Int32 × Int32) :=
  if x3 = (7 : Int32) then
    (ck (inb x4 6) <|
    (f0_passJump outKnowns outTaints come taints knowns changed (outKnowns x4.toNatClampNeg) (x2 + (1 : Int32)) (if (P0_N 0) < x5 then (P0_N 0) else x5)).bind <| fun q6 =>
    some (q6.1, q6.2.1, q6.2.2.1, outKnowns, outTaints, q6.2.2.2))
    else ((f2_partOf P0_N x2 (3 : Int32)).bind <| fun q2 =>
    (f0_change P0_N outKnowns outTaints x3 x4 x5 q2).bind <| fun q3 =>
    (f0_join q3.1 q3.2 come taints knowns changed (x2 + (1 : Int32))).bind <| fun q4 =>
    some (q4.1, q4.2.1, q4.2.2.1, q3.1, q3.2, q4.2.2.2))
def f0_pass (P0_N : Nat → Int32) (come : Nat → Int32) (taints : Nat → Int32) (knowns : Nat → Int32) (outKnowns : Nat → Int32) (outTaints : Int32) (changed : Int32) (v1 : Int32) : Option ((Nat → Int32) × (Nat → Int32) × (Nat → Int32) × (Nat → Int32) × Int32 × Int32) :=
  ck (!decide ((v1 * (6 : Int32)) < 0)) <|
    ck (decide ((v1 * (6 : Int32)).toNatClampNeg + 6 ≤ 126)) <|
    ck (inb v1 21) <|
    (f2_partOf P0_N v1 (0 : Int32)).bind <| fun q10 =>
    (f2_partOf P0_N v1 (1 : Int32)).bind <| fun q11 =>
    (f2_partOf P0_N v1 (2 : Int32)).bind <| fun q12 =>
    f0_pass_51 P0_N come taints knowns (va_cpy knowns outKnowns (v1 * (6 : Int32)).toNatClampNeg 0 6) (taints v1.toNatClampNeg) changed v1 q10 q11 q12
def rm0_pass : Room := { frames := 3, cells := 0, slots := 0, locals := 86 }
theorem hm0_pass_0 : ∀ w ∈ u_ws RX0 TX0 6, w ∈ wsX0_pass := by decide +kernel
theorem hm0_pass_1 : Cond.fieldLink RX0 22 "SecretSteps$Flow" "outKnowns" "[I" ∈ wsX0_pass := by decide +kernel
theorem hm0_pass_2 : ∀ w ∈ u_ws RX2 TX2 5, w ∈ wsX0_pass := by decide +kernel
theorem hm0_pass_3 : Cond.methodLink RX0 59 Lib.Math.min.name ∈ wsX0_pass := by decide +kernel
theorem hm0_pass_4 : Cond.static Lib.Math.min.name ∈ wsX0_pass := by decide +kernel
theorem hm0_pass_5 : Cond.initialized "java/lang/Math" ∈ wsX0_pass := by decide +kernel
theorem hm0_pass_6 : Cond.code Lib.Math.min.name Lib.Math.min.code 2 (some .int) ∈ wsX0_pass := by decide +kernel
theorem hm0_pass_7 : Cond.fieldLink RX0 19 "SecretSteps$Flow" "knowns" "[I" ∈ wsX0_pass := by decide +kernel
theorem hm0_pass_8 : Cond.methodLink RX0 46 arraycopyName ∈ wsX0_pass := by decide +kernel
theorem hm0_pass_9 : Cond.native arraycopyName ∈ wsX0_pass := by decide +kernel
theorem hm0_pass_10 : Cond.static arraycopyName ∈ wsX0_pass := by decide +kernel
theorem hm0_pass_11 : Cond.initialized "java/lang/System" ∈ wsX0_pass := by decide +kernel
theorem hm0_pass_12 : Cond.fieldLink RX0 15 "SecretSteps$Flow" "taints" "[I" ∈ wsX0_pass := by decide +kernel
theorem hm0_pass_13 : Cond.fieldLink RX0 52 "SecretSteps$Flow" "outTaints" "I" ∈ wsX0_pass := by decide +kernel
set_option maxHeartbeats 4000000 in
set_option maxRecDepth 100000 in
theorem k0_pass_51 {p : Program} {l : Launch} {e : Env} {s : State} {m : MethodId} {args : Array Value} {below : List Frame} {meth : Method} {c : Code} {G : gG} {A : Nat → Prop} {Q : State → Prop} {fl fl_come fl_taints fl_knowns fl_outKnowns aq0 aq0_lines aq0_cells aq0_starts : Nat} (C : CX p s m args meth c G A cX0_pass 6 RX0 wsX0_pass) {P0_N : Nat → Int32} {come : Nat → Int32} {taints : Nat → Int32} {knowns : Nat → Int32} {outKnowns : Nat → Int32} {outTaints : Int32} {changed : Int32} {x2 : Int32} {x3 : Int32} {x4 : Int32} {x5 : Int32} {res : (Nat → Int32) × (Nat → Int32) × (Nat → Int32) × (Nat → Int32) × Int32 × Int32} (hR : ∀ (lv : List (Nat × Value)) (pc : Nat), decode cX0_pass pc = .ok (.return_, 1) → GG p l e rm0_pass s m args below meth c G A 6 0 0 Q [(fl, oB 0 [.ref fl_come, .ref fl_taints, .ref fl_knowns, .ref fl_outKnowns, .int res.2.2.2.2.1, .int res.2.2.2.2.2]), (fl_come, aZ G 21 res.1), (fl_taints, aI G 21 res.2.1), (fl_knowns, aI G 126 res.2.2.1), (fl_outKnowns, aI G 6 res.2.2.2.1), (aq0, oB 2 [.ref aq0_lines, .ref aq0_cells, .ref aq0_starts, .int (P0_N 0), .int (P0_N 1)]), (aq0_lines, aI G 80 (fun j => P0_N (24 + j))), (aq0_cells, aI G 16 (fun j => P0_N (8 + j))), (aq0_starts, aI G 6 (fun j => P0_N (2 + j)))] lv pc [])
    (hf : f0_pass_51 P0_N come taints knowns outKnowns outTaints changed x2 x3 x4 x5 = some res) : GG p l e rm0_pass s m args below meth c G A 6 0 0 Q [(fl, oB 0 [.ref fl_come, .ref fl_taints, .ref fl_knowns, .ref fl_outKnowns, .int outTaints, .int changed]), (fl_come, aZ G 21 come), (fl_taints, aI G 21 taints), (fl_knowns, aI G 126 knowns), (fl_outKnowns, aI G 6 outKnowns), (aq0, oB 2 [.ref aq0_lines, .ref aq0_cells, .ref aq0_starts, .int (P0_N 0), .int (P0_N 1)]), (aq0_lines, aI G 80 (fun j => P0_N (24 + j))), (aq0_cells, aI G 16 (fun j => P0_N (8 + j))), (aq0_starts, aI G 6 (fun j => P0_N (2 + j)))] [(0, .ref fl), (1, .ref aq0), (2, .int x2), (3, .int x3), (4, .int x4), (5, .int x5)] 51 [] := by
  unfold f0_pass_51 at hf
  refine g_iload_n C dX0_pass_51 rfl 3 rfl ?_
  refine g_bipush (v := (7 : Int32)) C dX0_pass_52 (by decide +kernel) ?_
  refine g_icmp_ne (tgt := 81) C dX0_pass_54 (by decide) (fun c1 => ?_) (fun c1 => ?_)
  · replace hf := ite_f c1 hf
    refine g_aload_n C dX0_pass_81 rfl 0 rfl ?_
    refine g_aload_n C dX0_pass_82 rfl 1 rfl ?_
    refine g_iload_n C dX0_pass_83 rfl 3 rfl ?_
    refine g_iload C dX0_pass_84 4 rfl ?_
    refine g_iload C dX0_pass_86 5 rfl ?_
    refine g_aload_n C dX0_pass_88 rfl 1 rfl ?_
    refine g_iload_n C dX0_pass_89 rfl 2 rfl ?_
    refine g_iconst (v := (3 : Int32)) C dX0_pass_90 (by decide +kernel) ?_
    obtain ⟨q2, hq2, hf⟩ := bs hf
    refine g_callVi (n := 2) (As := [.int x2, .int (3 : Int32)]) (rest := [.int x5, .int x4, .int x3, .ref aq0, .ref fl]) (wc := [(aq0, oB 2 [.ref aq0_lines, .ref aq0_cells, .ref aq0_starts, .int (P0_N 0), .int (P0_N 1)]), (aq0_lines, aI G 80 (fun j => P0_N (24 + j))), (aq0_cells, aI G 16 (fun j => P0_N (8 + j))), (aq0_starts, aI G 6 (fun j => P0_N (2 + j)))]) (w1 := [(aq0, oB 2 [.ref aq0_lines, .ref aq0_cells, .ref aq0_starts, .int (P0_N 0), .int (P0_N 1)]), (aq0_lines, aI G 80 (fun j => P0_N (24 + j))), (aq0_cells, aI G 16 (fun j => P0_N (8 + j))), (aq0_starts, aI G 6 (fun j => P0_N (2 + j)))]) (wr := [(fl, oB 0 [.ref fl_come, .ref fl_taints, .ref fl_knowns, .ref fl_outKnowns, .int outTaints, .int changed]), (fl_come, aZ G 21 come), (fl_taints, aI G 21 taints), (fl_knowns, aI G 126 knowns), (fl_outKnowns, aI G 6 outKnowns)]) (WS' := [(fl, oB 0 [.ref fl_come, .ref fl_taints, .ref fl_knowns, .ref fl_outKnowns, .int outTaints, .int changed]), (fl_come, aZ G 21 come), (fl_taints, aI G 21 taints), (fl_knowns, aI G 126 knowns), (fl_outKnowns, aI G 6 outKnowns), (aq0, oB 2 [.ref aq0_lines, .ref aq0_cells, .ref aq0_starts, .int (P0_N 0), .int (P0_N 1)]), (aq0_lines, aI G 80 (fun j => P0_N (24 + j))), (aq0_cells, aI G 16 (fun j => P0_N (8 + j))), (aq0_starts, aI G 6 (fun j => P0_N (2 + j)))]) C (c2_partOf hq2) gX0_pass_X2_partOf (by decide +kernel) rfl rfl rfl rfl rfl rfl ⟨by decide, by decide⟩ rfl [5, 6, 7, 8] [0, 1, 2, 3, 4] [0, 1, 2, 3, 4, 5, 6, 7, 8] rfl (by decide) rfl (by decide) (by decide) rfl (by decide) (Nat.le_of_ble_eq_true rfl) ⟨Nat.zero_le _, Nat.zero_le _⟩ rfl dX0_pass_91 ?_
    obtain ⟨q3, hq3, hf⟩ := bs hf
    refine g_callVv (n := 5) (As := [.ref aq0, .int x3, .int x4, .int x5, .int q2]) (rest := []) (wc := [(fl, oB 0 [.ref fl_come, .ref fl_taints, .ref fl_knowns, .ref fl_outKnowns, .int outTaints, .int changed]), (fl_come, aZ G 21 come), (fl_taints, aI G 21 taints), (fl_knowns, aI G 126 knowns), (fl_outKnowns, aI G 6 outKnowns), (aq0, oB 2 [.ref aq0_lines, .ref aq0_cells, .ref aq0_starts, .int (P0_N 0), .int (P0_N 1)]), (aq0_lines, aI G 80 (fun j => P0_N (24 + j))), (aq0_cells, aI G 16 (fun j => P0_N (8 + j))), (aq0_starts, aI G 6 (fun j => P0_N (2 + j)))]) (w1 := [(fl, oB 0 [.ref fl_come, .ref fl_taints, .ref fl_knowns, .ref fl_outKnowns, .int q3.2, .int changed]), (fl_come, aZ G 21 come), (fl_taints, aI G 21 taints), (fl_knowns, aI G 126 knowns), (fl_outKnowns, aI G 6 q3.1), (aq0, oB 2 [.ref aq0_lines, .ref aq0_cells, .ref aq0_starts, .int (P0_N 0), .int (P0_N 1)]), (aq0_lines, aI G 80 (fun j => P0_N (24 + j))), (aq0_cells, aI G 16 (fun j => P0_N (8 + j))), (aq0_starts, aI G 6 (fun j => P0_N (2 + j)))]) (wr := []) (WS' := [(fl, oB 0 [.ref fl_come, .ref fl_taints, .ref fl_knowns, .ref fl_outKnowns, .int q3.2, .int changed]), (fl_come, aZ G 21 come), (fl_taints, aI G 21 taints), (fl_knowns, aI G 126 knowns), (fl_outKnowns, aI G 6 q3.1), (aq0, oB 2 [.ref aq0_lines, .ref aq0_cells, .ref aq0_starts, .int (P0_N 0), .int (P0_N 1)]), (aq0_lines, aI G 80 (fun j => P0_N (24 + j))), (aq0_cells, aI G 16 (fun j => P0_N (8 + j))), (aq0_starts, aI G 6 (fun j => P0_N (2 + j)))]) C (c0_change hq3) gX0_pass_X0_change (by decide +kernel) rfl rfl rfl rfl rfl rfl ⟨by decide, by decide⟩ rfl [0, 1, 2, 3, 4, 5, 6, 7, 8] [] [0, 1, 2, 3, 4, 5, 6, 7, 8] rfl (by decide) rfl (by decide) (by decide) rfl (by decide) (Nat.le_of_ble_eq_true rfl) ⟨Nat.zero_le _, Nat.zero_le _⟩ rfl dX0_pass_94 ?_
    refine g_aload_n C dX0_pass_97 rfl 0 rfl ?_
    refine g_iload_n C dX0_pass_98 rfl 2 rfl ?_
    refine g_iconst (v := (1 : Int32)) C dX0_pass_99 (by decide +kernel) ?_
    refine g_iadd C dX0_pass_100 ?_
    obtain ⟨q4, hq4, hf⟩ := bs hf
    refine g_callVv (n := 1) (As := [.int (x2 + (1 : Int32))]) (rest := []) (wc := [(fl, oB 0 [.ref fl_come, .ref fl_taints, .ref fl_knowns, .ref fl_outKnowns, .int q3.2, .int changed]), (fl_come, aZ G 21 come), (fl_taints, aI G 21 taints), (fl_knowns, aI G 126 knowns), (fl_outKnowns, aI G 6 q3.1)]) (w1 := [(fl, oB 0 [.ref fl_come, .ref fl_taints, .ref fl_knowns, .ref fl_outKnowns, .int q3.2, .int q4.2.2.2]), (fl_come, aZ G 21 q4.1), (fl_taints, aI G 21 q4.2.1), (fl_knowns, aI G 126 q4.2.2.1), (fl_outKnowns, aI G 6 q3.1)]) (wr := [(aq0, oB 2 [.ref aq0_lines, .ref aq0_cells, .ref aq0_starts, .int (P0_N 0), .int (P0_N 1)]), (aq0_lines, aI G 80 (fun j => P0_N (24 + j))), (aq0_cells, aI G 16 (fun j => P0_N (8 + j))), (aq0_starts, aI G 6 (fun j => P0_N (2 + j)))]) (WS' := [(fl, oB 0 [.ref fl_come, .ref fl_taints, .ref fl_knowns, .ref fl_outKnowns, .int q3.2, .int q4.2.2.2]), (fl_come, aZ G 21 q4.1), (fl_taints, aI G 21 q4.2.1), (fl_knowns, aI G 126 q4.2.2.1), (fl_outKnowns, aI G 6 q3.1), (aq0, oB 2 [.ref aq0_lines, .ref aq0_cells, .ref aq0_starts, .int (P0_N 0), .int (P0_N 1)]), (aq0_lines, aI G 80 (fun j => P0_N (24 + j))), (aq0_cells, aI G 16 (fun j => P0_N (8 + j))), (aq0_starts, aI G 6 (fun j => P0_N (2 + j)))]) C (c0_join hq4) gX0_pass_X0_join (by decide +kernel) rfl rfl rfl rfl rfl rfl ⟨by decide, by decide⟩ rfl [0, 1, 2, 3, 4] [5, 6, 7, 8] [4, 5, 6, 7, 8, 0, 1, 2, 3] rfl (by decide) rfl (by decide) (by decide) rfl (by decide) (Nat.le_of_ble_eq_true rfl) ⟨Nat.zero_le _, Nat.zero_le _⟩ rfl dX0_pass_101 ?_
    obtain rfl := Option.some.inj hf
    exact hR _ _ dX0_pass_104
  · replace hf := ite_t c1 hf
    refine g_aload_n C dX0_pass_57 rfl 0 rfl ?_
    refine g_aload_n C dX0_pass_58 rfl 0 rfl ?_
    refine g_get (C0 := RX0) (T := TX0) (N := 6) (ci := 0) (v := .ref fl_outKnowns) C hm0_pass_0 0 rfl rfl 3 (by decide) hm0_pass_1 rfl dX0_pass_59 ?_
    refine g_iload C dX0_pass_62 4 rfl ?_
    obtain ⟨h5, hf⟩ := ck_some hf
    refine g_iald (n := 6) (v := (outKnowns x4.toNatClampNeg)) C 4 rfl h5 rfl rfl dX0_pass_64 ?_
    refine g_iload_n C dX0_pass_65 rfl 2 rfl ?_
    refine g_iconst (v := (1 : Int32)) C dX0_pass_66 (by decide +kernel) ?_
    refine g_iadd C dX0_pass_67 ?_
    refine g_iload C dX0_pass_68 5 rfl ?_
    refine g_aload_n C dX0_pass_70 rfl 1 rfl ?_
    refine g_getN (C0 := RX2) (T := TX2) (N := 5) (ci := 2) (v := .int (P0_N 0)) (host := "SecretSteps") C hm0_pass_2 5 rfl rfl 3 (by decide) hn0_39 rfl dX0_pass_71 ?_
    refine g_mmin C hm0_pass_3 hm0_pass_4 hm0_pass_5 hm0_pass_6 (by decide) (Nat.le_of_ble_eq_true rfl) (Nat.zero_le _) (Nat.zero_le _) dX0_pass_74 ?_
    obtain ⟨q6, hq6, hf⟩ := bs hf
    refine g_callVv (n := 3) (As := [.int (outKnowns x4.toNatClampNeg), .int (x2 + (1 : Int32)), .int (if (P0_N 0) < x5 then (P0_N 0) else x5)]) (rest := []) (wc := [(fl, oB 0 [.ref fl_come, .ref fl_taints, .ref fl_knowns, .ref fl_outKnowns, .int outTaints, .int changed]), (fl_come, aZ G 21 come), (fl_taints, aI G 21 taints), (fl_knowns, aI G 126 knowns), (fl_outKnowns, aI G 6 outKnowns)]) (w1 := [(fl, oB 0 [.ref fl_come, .ref fl_taints, .ref fl_knowns, .ref fl_outKnowns, .int outTaints, .int q6.2.2.2]), (fl_come, aZ G 21 q6.1), (fl_taints, aI G 21 q6.2.1), (fl_knowns, aI G 126 q6.2.2.1), (fl_outKnowns, aI G 6 outKnowns)]) (wr := [(aq0, oB 2 [.ref aq0_lines, .ref aq0_cells, .ref aq0_starts, .int (P0_N 0), .int (P0_N 1)]), (aq0_lines, aI G 80 (fun j => P0_N (24 + j))), (aq0_cells, aI G 16 (fun j => P0_N (8 + j))), (aq0_starts, aI G 6 (fun j => P0_N (2 + j)))]) (WS' := [(fl, oB 0 [.ref fl_come, .ref fl_taints, .ref fl_knowns, .ref fl_outKnowns, .int outTaints, .int q6.2.2.2]), (fl_come, aZ G 21 q6.1), (fl_taints, aI G 21 q6.2.1), (fl_knowns, aI G 126 q6.2.2.1), (fl_outKnowns, aI G 6 outKnowns), (aq0, oB 2 [.ref aq0_lines, .ref aq0_cells, .ref aq0_starts, .int (P0_N 0), .int (P0_N 1)]), (aq0_lines, aI G 80 (fun j => P0_N (24 + j))), (aq0_cells, aI G 16 (fun j => P0_N (8 + j))), (aq0_starts, aI G 6 (fun j => P0_N (2 + j)))]) C (c0_passJump hq6) gX0_pass_X0_passJump (by decide +kernel) rfl rfl rfl rfl rfl rfl ⟨by decide, by decide⟩ rfl [0, 1, 2, 3, 4] [5, 6, 7, 8] [4, 5, 6, 7, 8, 0, 1, 2, 3] rfl (by decide) rfl (by decide) (by decide) rfl (by decide) (Nat.le_of_ble_eq_true rfl) ⟨Nat.zero_le _, Nat.zero_le _⟩ rfl dX0_pass_77 ?_
    obtain rfl := Option.some.inj hf
    exact hR _ _ dX0_pass_80
set_option maxHeartbeats 4000000 in
set_option maxRecDepth 100000 in
theorem c0_pass {l : Launch} {G : gG} {fl fl_come fl_taints fl_knowns fl_outKnowns aq0 aq0_lines aq0_cells aq0_starts : Nat} {come : Nat → Int32} {taints : Nat → Int32} {knowns : Nat → Int32} {outKnowns : Nat → Int32} {outTaints : Int32} {changed : Int32} {P0_N : Nat → Int32} {v1 : Int32} {res : (Nat → Int32) × (Nat → Int32) × (Nat → Int32) × (Nat → Int32) × Int32 × Int32} (hf : f0_pass P0_N come taints knowns outKnowns outTaints changed v1 = some res) : MV l yX0_pass wsX0_pass rm0_pass G [.ref fl, .ref aq0, .int v1] [(fl, oB 0 [.ref fl_come, .ref fl_taints, .ref fl_knowns, .ref fl_outKnowns, .int outTaints, .int changed]), (fl_come, aZ G 21 come), (fl_taints, aI G 21 taints), (fl_knowns, aI G 126 knowns), (fl_outKnowns, aI G 6 outKnowns), (aq0, oB 2 [.ref aq0_lines, .ref aq0_cells, .ref aq0_starts, .int (P0_N 0), .int (P0_N 1)]), (aq0_lines, aI G 80 (fun j => P0_N (24 + j))), (aq0_cells, aI G 16 (fun j => P0_N (8 + j))), (aq0_starts, aI G 6 (fun j => P0_N (2 + j)))] [(fl, oB 0 [.ref fl_come, .ref fl_taints, .ref fl_knowns, .ref fl_outKnowns, .int res.2.2.2.2.1, .int res.2.2.2.2.2]), (fl_come, aZ G 21 res.1), (fl_taints, aI G 21 res.2.1), (fl_knowns, aI G 126 res.2.2.1), (fl_outKnowns, aI G 6 res.2.2.2.1), (aq0, oB 2 [.ref aq0_lines, .ref aq0_cells, .ref aq0_starts, .int (P0_N 0), .int (P0_N 1)]), (aq0_lines, aI G 80 (fun j => P0_N (24 + j))), (aq0_cells, aI G 16 (fun j => P0_N (8 + j))), (aq0_starts, aI G 6 (fun j => P0_N (2 + j)))] := by
  refine MV_of (cc := cX0_pass) (nL := 6) (lv := [(0, .ref fl), (1, .ref aq0), (2, .int v1)]) (by decide +kernel) rfl (Nat.le_of_ble_eq_true rfl) rfl ?_
  intro p e s m args below meth c A Q C hR
  unfold f0_pass at hf
  refine g_aload_n C dX0_pass_0 rfl 0 rfl ?_
  refine g_get (C0 := RX0) (T := TX0) (N := 6) (ci := 0) (v := .ref fl_knowns) C hm0_pass_0 0 rfl rfl 2 (by decide) hm0_pass_7 rfl dX0_pass_1 ?_
  refine g_iload_n C dX0_pass_4 rfl 2 rfl ?_
  refine g_bipush (v := (6 : Int32)) C dX0_pass_5 (by decide +kernel) ?_
  refine g_imul C dX0_pass_7 ?_
  refine g_aload_n C dX0_pass_8 rfl 0 rfl ?_
  refine g_get (C0 := RX0) (T := TX0) (N := 6) (ci := 0) (v := .ref fl_outKnowns) C hm0_pass_0 0 rfl rfl 3 (by decide) hm0_pass_1 rfl dX0_pass_9 ?_
  refine g_iconst (v := (0 : Int32)) C dX0_pass_12 (by decide +kernel) ?_
  refine g_bipush (v := (6 : Int32)) C dX0_pass_13 (by decide +kernel) ?_
  obtain ⟨h7, hf⟩ := ck_some hf
  obtain ⟨h8, hf⟩ := ck_some hf
  refine g_copyi (WS' := [(fl, oB 0 [.ref fl_come, .ref fl_taints, .ref fl_knowns, .ref fl_outKnowns, .int outTaints, .int changed]), (fl_come, aZ G 21 come), (fl_taints, aI G 21 taints), (fl_knowns, aI G 126 knowns), (fl_outKnowns, aI G 6 (va_cpy knowns outKnowns (v1 * (6 : Int32)).toNatClampNeg 0 6)), (aq0, oB 2 [.ref aq0_lines, .ref aq0_cells, .ref aq0_starts, .int (P0_N 0), .int (P0_N 1)]), (aq0_lines, aI G 80 (fun j => P0_N (24 + j))), (aq0_cells, aI G 16 (fun j => P0_N (8 + j))), (aq0_starts, aI G 6 (fun j => P0_N (2 + j)))]) C hm0_pass_8 hm0_pass_9 hm0_pass_10 hm0_pass_11 3 4 rfl rfl (fun h9 => by rw [decide_eq_true h9] at h7; cases h7) (by decide +kernel) (by decide +kernel) rfl (by decide +kernel) (by decide +kernel) (of_decide_eq_true h8) (by decide) (by decide) (by decide +kernel) dX0_pass_15 rfl ?_
  refine g_aload_n C dX0_pass_18 rfl 0 rfl ?_
  refine g_aload_n C dX0_pass_19 rfl 0 rfl ?_
  refine g_get (C0 := RX0) (T := TX0) (N := 6) (ci := 0) (v := .ref fl_taints) C hm0_pass_0 0 rfl rfl 1 (by decide) hm0_pass_12 rfl dX0_pass_20 ?_
  refine g_iload_n C dX0_pass_23 rfl 2 rfl ?_
  obtain ⟨h9, hf⟩ := ck_some hf
  refine g_iald (n := 21) (v := (taints v1.toNatClampNeg)) C 2 rfl h9 rfl rfl dX0_pass_24 ?_
  refine g_put (C0 := RX0) (T := TX0) (N := 6) (ci := 0) (ty := .int) (WS' := [(fl, oB 0 [.ref fl_come, .ref fl_taints, .ref fl_knowns, .ref fl_outKnowns, .int (taints v1.toNatClampNeg), .int changed]), (fl_come, aZ G 21 come), (fl_taints, aI G 21 taints), (fl_knowns, aI G 126 knowns), (fl_outKnowns, aI G 6 (va_cpy knowns outKnowns (v1 * (6 : Int32)).toNatClampNeg 0 6)), (aq0, oB 2 [.ref aq0_lines, .ref aq0_cells, .ref aq0_starts, .int (P0_N 0), .int (P0_N 1)]), (aq0_lines, aI G 80 (fun j => P0_N (24 + j))), (aq0_cells, aI G 16 (fun j => P0_N (8 + j))), (aq0_starts, aI G 6 (fun j => P0_N (2 + j)))]) C hm0_pass_0 tyX0 tyX0_ok nmX0 0 rfl rfl 4 (by decide) hm0_pass_13 rfl rfl rfl rfl (Nat.le_of_ble_eq_true rfl) dX0_pass_25 rfl ?_
  refine g_aload_n C dX0_pass_28 rfl 1 rfl ?_
  refine g_iload_n C dX0_pass_29 rfl 2 rfl ?_
  refine g_iconst (v := (0 : Int32)) C dX0_pass_30 (by decide +kernel) ?_
  obtain ⟨q10, hq10, hf⟩ := bs hf
  refine g_callVi (n := 2) (As := [.int v1, .int (0 : Int32)]) (rest := []) (wc := [(aq0, oB 2 [.ref aq0_lines, .ref aq0_cells, .ref aq0_starts, .int (P0_N 0), .int (P0_N 1)]), (aq0_lines, aI G 80 (fun j => P0_N (24 + j))), (aq0_cells, aI G 16 (fun j => P0_N (8 + j))), (aq0_starts, aI G 6 (fun j => P0_N (2 + j)))]) (w1 := [(aq0, oB 2 [.ref aq0_lines, .ref aq0_cells, .ref aq0_starts, .int (P0_N 0), .int (P0_N 1)]), (aq0_lines, aI G 80 (fun j => P0_N (24 + j))), (aq0_cells, aI G 16 (fun j => P0_N (8 + j))), (aq0_starts, aI G 6 (fun j => P0_N (2 + j)))]) (wr := [(fl, oB 0 [.ref fl_come, .ref fl_taints, .ref fl_knowns, .ref fl_outKnowns, .int (taints v1.toNatClampNeg), .int changed]), (fl_come, aZ G 21 come), (fl_taints, aI G 21 taints), (fl_knowns, aI G 126 knowns), (fl_outKnowns, aI G 6 (va_cpy knowns outKnowns (v1 * (6 : Int32)).toNatClampNeg 0 6))]) (WS' := [(fl, oB 0 [.ref fl_come, .ref fl_taints, .ref fl_knowns, .ref fl_outKnowns, .int (taints v1.toNatClampNeg), .int changed]), (fl_come, aZ G 21 come), (fl_taints, aI G 21 taints), (fl_knowns, aI G 126 knowns), (fl_outKnowns, aI G 6 (va_cpy knowns outKnowns (v1 * (6 : Int32)).toNatClampNeg 0 6)), (aq0, oB 2 [.ref aq0_lines, .ref aq0_cells, .ref aq0_starts, .int (P0_N 0), .int (P0_N 1)]), (aq0_lines, aI G 80 (fun j => P0_N (24 + j))), (aq0_cells, aI G 16 (fun j => P0_N (8 + j))), (aq0_starts, aI G 6 (fun j => P0_N (2 + j)))]) C (c2_partOf hq10) gX0_pass_X2_partOf (by decide +kernel) rfl rfl rfl rfl rfl rfl ⟨by decide, by decide⟩ rfl [5, 6, 7, 8] [0, 1, 2, 3, 4] [0, 1, 2, 3, 4, 5, 6, 7, 8] rfl (by decide) rfl (by decide) (by decide) rfl (by decide) (Nat.le_of_ble_eq_true rfl) ⟨Nat.zero_le _, Nat.zero_le _⟩ rfl dX0_pass_31 ?_
  refine g_istore_n (lv' := [(0, .ref fl), (1, .ref aq0), (2, .int v1), (3, .int q10)]) C dX0_pass_34 rfl (by decide) [1, 2, 3, 0] rfl ?_
  refine g_aload_n C dX0_pass_35 rfl 1 rfl ?_
  refine g_iload_n C dX0_pass_36 rfl 2 rfl ?_
  refine g_iconst (v := (1 : Int32)) C dX0_pass_37 (by decide +kernel) ?_
  obtain ⟨q11, hq11, hf⟩ := bs hf
  refine g_callVi (n := 2) (As := [.int v1, .int (1 : Int32)]) (rest := []) (wc := [(aq0, oB 2 [.ref aq0_lines, .ref aq0_cells, .ref aq0_starts, .int (P0_N 0), .int (P0_N 1)]), (aq0_lines, aI G 80 (fun j => P0_N (24 + j))), (aq0_cells, aI G 16 (fun j => P0_N (8 + j))), (aq0_starts, aI G 6 (fun j => P0_N (2 + j)))]) (w1 := [(aq0, oB 2 [.ref aq0_lines, .ref aq0_cells, .ref aq0_starts, .int (P0_N 0), .int (P0_N 1)]), (aq0_lines, aI G 80 (fun j => P0_N (24 + j))), (aq0_cells, aI G 16 (fun j => P0_N (8 + j))), (aq0_starts, aI G 6 (fun j => P0_N (2 + j)))]) (wr := [(fl, oB 0 [.ref fl_come, .ref fl_taints, .ref fl_knowns, .ref fl_outKnowns, .int (taints v1.toNatClampNeg), .int changed]), (fl_come, aZ G 21 come), (fl_taints, aI G 21 taints), (fl_knowns, aI G 126 knowns), (fl_outKnowns, aI G 6 (va_cpy knowns outKnowns (v1 * (6 : Int32)).toNatClampNeg 0 6))]) (WS' := [(fl, oB 0 [.ref fl_come, .ref fl_taints, .ref fl_knowns, .ref fl_outKnowns, .int (taints v1.toNatClampNeg), .int changed]), (fl_come, aZ G 21 come), (fl_taints, aI G 21 taints), (fl_knowns, aI G 126 knowns), (fl_outKnowns, aI G 6 (va_cpy knowns outKnowns (v1 * (6 : Int32)).toNatClampNeg 0 6)), (aq0, oB 2 [.ref aq0_lines, .ref aq0_cells, .ref aq0_starts, .int (P0_N 0), .int (P0_N 1)]), (aq0_lines, aI G 80 (fun j => P0_N (24 + j))), (aq0_cells, aI G 16 (fun j => P0_N (8 + j))), (aq0_starts, aI G 6 (fun j => P0_N (2 + j)))]) C (c2_partOf hq11) gX0_pass_X2_partOf (by decide +kernel) rfl rfl rfl rfl rfl rfl ⟨by decide, by decide⟩ rfl [5, 6, 7, 8] [0, 1, 2, 3, 4] [0, 1, 2, 3, 4, 5, 6, 7, 8] rfl (by decide) rfl (by decide) (by decide) rfl (by decide) (Nat.le_of_ble_eq_true rfl) ⟨Nat.zero_le _, Nat.zero_le _⟩ rfl dX0_pass_38 ?_
  refine g_istore (lv' := [(0, .ref fl), (1, .ref aq0), (2, .int v1), (3, .int q10), (4, .int q11)]) C dX0_pass_41 (by decide) [1, 2, 3, 4, 0] rfl ?_
  refine g_aload_n C dX0_pass_43 rfl 1 rfl ?_
  refine g_iload_n C dX0_pass_44 rfl 2 rfl ?_
  refine g_iconst (v := (2 : Int32)) C dX0_pass_45 (by decide +kernel) ?_
  obtain ⟨q12, hq12, hf⟩ := bs hf
  refine g_callVi (n := 2) (As := [.int v1, .int (2 : Int32)]) (rest := []) (wc := [(aq0, oB 2 [.ref aq0_lines, .ref aq0_cells, .ref aq0_starts, .int (P0_N 0), .int (P0_N 1)]), (aq0_lines, aI G 80 (fun j => P0_N (24 + j))), (aq0_cells, aI G 16 (fun j => P0_N (8 + j))), (aq0_starts, aI G 6 (fun j => P0_N (2 + j)))]) (w1 := [(aq0, oB 2 [.ref aq0_lines, .ref aq0_cells, .ref aq0_starts, .int (P0_N 0), .int (P0_N 1)]), (aq0_lines, aI G 80 (fun j => P0_N (24 + j))), (aq0_cells, aI G 16 (fun j => P0_N (8 + j))), (aq0_starts, aI G 6 (fun j => P0_N (2 + j)))]) (wr := [(fl, oB 0 [.ref fl_come, .ref fl_taints, .ref fl_knowns, .ref fl_outKnowns, .int (taints v1.toNatClampNeg), .int changed]), (fl_come, aZ G 21 come), (fl_taints, aI G 21 taints), (fl_knowns, aI G 126 knowns), (fl_outKnowns, aI G 6 (va_cpy knowns outKnowns (v1 * (6 : Int32)).toNatClampNeg 0 6))]) (WS' := [(fl, oB 0 [.ref fl_come, .ref fl_taints, .ref fl_knowns, .ref fl_outKnowns, .int (taints v1.toNatClampNeg), .int changed]), (fl_come, aZ G 21 come), (fl_taints, aI G 21 taints), (fl_knowns, aI G 126 knowns), (fl_outKnowns, aI G 6 (va_cpy knowns outKnowns (v1 * (6 : Int32)).toNatClampNeg 0 6)), (aq0, oB 2 [.ref aq0_lines, .ref aq0_cells, .ref aq0_starts, .int (P0_N 0), .int (P0_N 1)]), (aq0_lines, aI G 80 (fun j => P0_N (24 + j))), (aq0_cells, aI G 16 (fun j => P0_N (8 + j))), (aq0_starts, aI G 6 (fun j => P0_N (2 + j)))]) C (c2_partOf hq12) gX0_pass_X2_partOf (by decide +kernel) rfl rfl rfl rfl rfl rfl ⟨by decide, by decide⟩ rfl [5, 6, 7, 8] [0, 1, 2, 3, 4] [0, 1, 2, 3, 4, 5, 6, 7, 8] rfl (by decide) rfl (by decide) (by decide) rfl (by decide) (Nat.le_of_ble_eq_true rfl) ⟨Nat.zero_le _, Nat.zero_le _⟩ rfl dX0_pass_46 ?_
  refine g_istore (lv' := [(0, .ref fl), (1, .ref aq0), (2, .int v1), (3, .int q10), (4, .int q11), (5, .int q12)]) C dX0_pass_49 (by decide) [1, 2, 3, 4, 5, 0] rfl ?_
  exact k0_pass_51 C hR hf

-- X0_find
def f0_find_31b (P0_N : Nat → Int32) (k10 : (Nat → Int32) × (Nat → Int32) × (Nat → Int32) × (Nat → Int32) × Int32 × Int32 × Int32 → Option ((Nat → Int32) × (Nat → Int32) × (Nat → Int32) × (Nat → Int32) × Int32 × Int32)) (k31 : (Nat → Int32) × (Nat → Int32) × (Nat → Int32) × (Nat → Int32) × Int32 × Int32 × Int32 × Int32 → Option ((Nat → Int32) × (Nat → Int32) × (Nat → Int32) × (Nat → Int32) × Int32 × Int32)) (come : Nat → Int32) (taints : Nat → Int32) (knowns : Nat → Int32) (outKnowns : Nat → Int32) (outTaints : Int32) (changed : Int32) (x2 : Int32) (x3 : Int32) : Option ((Nat → Int32) × (Nat → Int32) × (Nat → Int32) × (Nat → Int32) × Int32 × Int32) :=
  if (P0_N 0) ≤ x3 then
    (k10 (come, taints, knowns, outKnowns, outTaints, changed, (x2 + (1 : Int32))))
    else (ck (inb x3 21) <|
    if (come x3.toNatClampNeg) = 0 then
    (k31 (come, taints, knowns, outKnowns, outTaints, changed, x2, (x3 + (1 : Int32))))
    else ((f0_pass P0_N come taints knowns outKnowns outTaints changed x3).bind <| fun q4 =>
    k31 (q4.1, q4.2.1, q4.2.2.1, q4.2.2.2.1, q4.2.2.2.2.1, q4.2.2.2.2.2, x2, (x3 + (1 : Int32)))))
def f0_find_31 (P0_N : Nat → Int32) (k10 : (Nat → Int32) × (Nat → Int32) × (Nat → Int32) × (Nat → Int32) × Int32 × Int32 × Int32 → Option ((Nat → Int32) × (Nat → Int32) × (Nat → Int32) × (Nat → Int32) × Int32 × Int32)) (n : Nat) (s : (Nat → Int32) × (Nat → Int32) × (Nat → Int32) × (Nat → Int32) × Int32 × Int32 × Int32 × Int32) : Option ((Nat → Int32) × (Nat → Int32) × (Nat → Int32) × (Nat → Int32) × Int32 × Int32) := itf (fun k s => f0_find_31b P0_N k10 k s.1 s.2.1 s.2.2.1 s.2.2.2.1 s.2.2.2.2.1 s.2.2.2.2.2.1 s.2.2.2.2.2.2.1 s.2.2.2.2.2.2.2) n s
def f0_find_10b (P0_N : Nat → Int32) (k10 : (Nat → Int32) × (Nat → Int32) × (Nat → Int32) × (Nat → Int32) × Int32 × Int32 × Int32 → Option ((Nat → Int32) × (Nat → Int32) × (Nat → Int32) × (Nat → Int32) × Int32 × Int32)) (come : Nat → Int32) (taints : Nat → Int32) (knowns : Nat → Int32) (outKnowns : Nat → Int32) (outTaints : Int32) (changed : Int32) (x2 : Int32) : Option ((Nat → Int32) × (Nat → Int32) × (Nat → Int32) × (Nat → Int32) × Int32 × Int32) :=
  if changed = 0 then
    (some (come, taints, knowns, outKnowns, outTaints, changed))
    else (if (274 : Int32) ≤ x2 then
    (some (come, taints, knowns, outKnowns, outTaints, changed))
    else (f0_find_31 P0_N k10 1000 (come, taints, knowns, outKnowns, outTaints, (0 : Int32), x2, (0 : Int32))))
def f0_find_10 (P0_N : Nat → Int32) (n : Nat) (s : (Nat → Int32) × (Nat → Int32) × (Nat → Int32) × (Nat → Int32) × Int32 × Int32 × Int32) : Option ((Nat → Int32) × (Nat → Int32) × (Nat → Int32) × (Nat → Int32) × Int32 × Int32) := itf (fun k s => f0_find_10b P0_N k s.1 s.2.1 s.2.2.1 s.2.2.2.1 s.2.2.2.2.1 s.2.2.2.2.2.1 s.2.2.2.2.2.2) n s
def f0_find (P0_N : Nat → Int32) (come : Nat → Int32) (taints : Nat → Int32) (knowns : Nat → Int32) (outKnowns : Nat → Int32) (outTaints : Int32) (changed : Int32) : Option ((Nat → Int32) × (Nat → Int32) × (Nat → Int32) × (Nat → Int32) × Int32 × Int32) :=
  (f0_setOut come taints knowns changed (P0_N 1)).bind <| fun q7 =>
    f0_find_10 P0_N 1000 (q7.1, q7.2.1, q7.2.2.1, outKnowns, outTaints, q7.2.2.2, (0 : Int32))
def rm0_find : Room := { frames := 4, cells := 0, slots := 0, locals := 111 }
theorem hm0_find_0 : ∀ w ∈ u_ws RX2 TX2 5, w ∈ wsX0_find := by decide +kernel
theorem hm0_find_1 : ∀ w ∈ u_ws RX0 TX0 6, w ∈ wsX0_find := by decide +kernel
theorem hm0_find_2 : Cond.fieldLink RX0 11 "SecretSteps$Flow" "come" "[Z" ∈ wsX0_find := by decide +kernel
theorem hm0_find_3 : Cond.fieldLink RX0 35 "SecretSteps$Flow" "changed" "Z" ∈ wsX0_find := by decide +kernel
set_option maxHeartbeats 4000000 in
set_option maxRecDepth 100000 in
theorem k0_find_31b {p : Program} {l : Launch} {e : Env} {s : State} {m : MethodId} {args : Array Value} {below : List Frame} {meth : Method} {c : Code} {G : gG} {A : Nat → Prop} {Q : State → Prop} {fl fl_come fl_taints fl_knowns fl_outKnowns aq0 aq0_lines aq0_cells aq0_starts : Nat} (C : CX p s m args meth c G A cX0_find 4 RX0 wsX0_find) {P0_N : Nat → Int32} {k10 : (Nat → Int32) × (Nat → Int32) × (Nat → Int32) × (Nat → Int32) × Int32 × Int32 × Int32 → Option ((Nat → Int32) × (Nat → Int32) × (Nat → Int32) × (Nat → Int32) × Int32 × Int32)} {k31 : (Nat → Int32) × (Nat → Int32) × (Nat → Int32) × (Nat → Int32) × Int32 × Int32 × Int32 × Int32 → Option ((Nat → Int32) × (Nat → Int32) × (Nat → Int32) × (Nat → Int32) × Int32 × Int32)} {come : Nat → Int32} {taints : Nat → Int32} {knowns : Nat → Int32} {outKnowns : Nat → Int32} {outTaints : Int32} {changed : Int32} {x2 : Int32} {x3 : Int32} {res : (Nat → Int32) × (Nat → Int32) × (Nat → Int32) × (Nat → Int32) × Int32 × Int32} (hR : ∀ (lv : List (Nat × Value)) (pc : Nat), decode cX0_find pc = .ok (.return_, 1) → GG p l e rm0_find s m args below meth c G A 4 0 0 Q [(fl, oB 0 [.ref fl_come, .ref fl_taints, .ref fl_knowns, .ref fl_outKnowns, .int res.2.2.2.2.1, .int res.2.2.2.2.2]), (fl_come, aZ G 21 res.1), (fl_taints, aI G 21 res.2.1), (fl_knowns, aI G 126 res.2.2.1), (fl_outKnowns, aI G 6 res.2.2.2.1), (aq0, oB 2 [.ref aq0_lines, .ref aq0_cells, .ref aq0_starts, .int (P0_N 0), .int (P0_N 1)]), (aq0_lines, aI G 80 (fun j => P0_N (24 + j))), (aq0_cells, aI G 16 (fun j => P0_N (8 + j))), (aq0_starts, aI G 6 (fun j => P0_N (2 + j)))] lv pc [])
    (hk10 : ∀ s', k10 s' = some res → GG p l e rm0_find s m args below meth c G A 4 0 0 Q [(fl, oB 0 [.ref fl_come, .ref fl_taints, .ref fl_knowns, .ref fl_outKnowns, .int s'.2.2.2.2.1, .int s'.2.2.2.2.2.1]), (fl_come, aZ G 21 s'.1), (fl_taints, aI G 21 s'.2.1), (fl_knowns, aI G 126 s'.2.2.1), (fl_outKnowns, aI G 6 s'.2.2.2.1), (aq0, oB 2 [.ref aq0_lines, .ref aq0_cells, .ref aq0_starts, .int (P0_N 0), .int (P0_N 1)]), (aq0_lines, aI G 80 (fun j => P0_N (24 + j))), (aq0_cells, aI G 16 (fun j => P0_N (8 + j))), (aq0_starts, aI G 6 (fun j => P0_N (2 + j)))] [(0, .ref fl), (1, .ref aq0), (2, .int s'.2.2.2.2.2.2)] 10 [])
    (hk31 : ∀ s', k31 s' = some res → GG p l e rm0_find s m args below meth c G A 4 0 0 Q [(fl, oB 0 [.ref fl_come, .ref fl_taints, .ref fl_knowns, .ref fl_outKnowns, .int s'.2.2.2.2.1, .int s'.2.2.2.2.2.1]), (fl_come, aZ G 21 s'.1), (fl_taints, aI G 21 s'.2.1), (fl_knowns, aI G 126 s'.2.2.1), (fl_outKnowns, aI G 6 s'.2.2.2.1), (aq0, oB 2 [.ref aq0_lines, .ref aq0_cells, .ref aq0_starts, .int (P0_N 0), .int (P0_N 1)]), (aq0_lines, aI G 80 (fun j => P0_N (24 + j))), (aq0_cells, aI G 16 (fun j => P0_N (8 + j))), (aq0_starts, aI G 6 (fun j => P0_N (2 + j)))] [(0, .ref fl), (1, .ref aq0), (2, .int s'.2.2.2.2.2.2.1), (3, .int s'.2.2.2.2.2.2.2)] 31 [])
    (hf : f0_find_31b P0_N k10 k31 come taints knowns outKnowns outTaints changed x2 x3 = some res) : GG p l e rm0_find s m args below meth c G A 4 0 0 Q [(fl, oB 0 [.ref fl_come, .ref fl_taints, .ref fl_knowns, .ref fl_outKnowns, .int outTaints, .int changed]), (fl_come, aZ G 21 come), (fl_taints, aI G 21 taints), (fl_knowns, aI G 126 knowns), (fl_outKnowns, aI G 6 outKnowns), (aq0, oB 2 [.ref aq0_lines, .ref aq0_cells, .ref aq0_starts, .int (P0_N 0), .int (P0_N 1)]), (aq0_lines, aI G 80 (fun j => P0_N (24 + j))), (aq0_cells, aI G 16 (fun j => P0_N (8 + j))), (aq0_starts, aI G 6 (fun j => P0_N (2 + j)))] [(0, .ref fl), (1, .ref aq0), (2, .int x2), (3, .int x3)] 31 [] := by
  unfold f0_find_31b at hf
  refine g_iload_n C dX0_find_31 rfl 3 rfl ?_
  refine g_aload_n C dX0_find_32 rfl 1 rfl ?_
  refine g_getN (C0 := RX2) (T := TX2) (N := 5) (ci := 2) (v := .int (P0_N 0)) (host := "SecretSteps") C hm0_find_0 5 rfl rfl 3 (by decide) hn0_39 rfl dX0_find_33 ?_
  refine g_icmp_ge (tgt := 60) C dX0_find_36 (by decide) (fun c1 => ?_) (fun c1 => ?_)
  · replace hf := ite_t c1 hf
    refine g_iinc (v := (x2 + (1 : Int32))) (lv' := [(0, .ref fl), (1, .ref aq0), (2, .int (x2 + (1 : Int32))), (3, .int x3)]) C dX0_find_60 2 rfl rfl (by decide) [1, 2, 0, 3] rfl ?_
    refine g_goto (tgt := 10) C dX0_find_63 (by decide) ?_
    refine g_lv (lv' := [(0, .ref fl), (1, .ref aq0), (2, .int (x2 + (1 : Int32)))]) [0, 1, 2] rfl ?_
    exact hk10 _ hf
  · replace hf := ite_f c1 hf
    refine g_aload_n C dX0_find_39 rfl 0 rfl ?_
    refine g_get (C0 := RX0) (T := TX0) (N := 6) (ci := 0) (v := .ref fl_come) C hm0_find_1 0 rfl rfl 0 (by decide) hm0_find_2 rfl dX0_find_40 ?_
    refine g_iload_n C dX0_find_43 rfl 3 rfl ?_
    obtain ⟨h2, hf⟩ := ck_some hf
    refine g_zald (n := 21) (v := (come x3.toNatClampNeg)) C 1 rfl h2 rfl rfl dX0_find_44 ?_
    refine g_if_eq (tgt := 54) C dX0_find_45 (by decide) (fun c3 => ?_) (fun c3 => ?_)
    · replace hf := ite_t c3 hf
      refine g_iinc (v := (x3 + (1 : Int32))) (lv' := [(0, .ref fl), (1, .ref aq0), (2, .int x2), (3, .int (x3 + (1 : Int32)))]) C dX0_find_54 3 rfl rfl (by decide) [1, 2, 3, 0] rfl ?_
      refine g_goto (tgt := 31) C dX0_find_57 (by decide) ?_
      exact hk31 _ hf
    · replace hf := ite_f c3 hf
      refine g_aload_n C dX0_find_48 rfl 0 rfl ?_
      refine g_aload_n C dX0_find_49 rfl 1 rfl ?_
      refine g_iload_n C dX0_find_50 rfl 3 rfl ?_
      obtain ⟨q4, hq4, hf⟩ := bs hf
      refine g_callVv (n := 2) (As := [.ref aq0, .int x3]) (rest := []) (wc := [(fl, oB 0 [.ref fl_come, .ref fl_taints, .ref fl_knowns, .ref fl_outKnowns, .int outTaints, .int changed]), (fl_come, aZ G 21 come), (fl_taints, aI G 21 taints), (fl_knowns, aI G 126 knowns), (fl_outKnowns, aI G 6 outKnowns), (aq0, oB 2 [.ref aq0_lines, .ref aq0_cells, .ref aq0_starts, .int (P0_N 0), .int (P0_N 1)]), (aq0_lines, aI G 80 (fun j => P0_N (24 + j))), (aq0_cells, aI G 16 (fun j => P0_N (8 + j))), (aq0_starts, aI G 6 (fun j => P0_N (2 + j)))]) (w1 := [(fl, oB 0 [.ref fl_come, .ref fl_taints, .ref fl_knowns, .ref fl_outKnowns, .int q4.2.2.2.2.1, .int q4.2.2.2.2.2]), (fl_come, aZ G 21 q4.1), (fl_taints, aI G 21 q4.2.1), (fl_knowns, aI G 126 q4.2.2.1), (fl_outKnowns, aI G 6 q4.2.2.2.1), (aq0, oB 2 [.ref aq0_lines, .ref aq0_cells, .ref aq0_starts, .int (P0_N 0), .int (P0_N 1)]), (aq0_lines, aI G 80 (fun j => P0_N (24 + j))), (aq0_cells, aI G 16 (fun j => P0_N (8 + j))), (aq0_starts, aI G 6 (fun j => P0_N (2 + j)))]) (wr := []) (WS' := [(fl, oB 0 [.ref fl_come, .ref fl_taints, .ref fl_knowns, .ref fl_outKnowns, .int q4.2.2.2.2.1, .int q4.2.2.2.2.2]), (fl_come, aZ G 21 q4.1), (fl_taints, aI G 21 q4.2.1), (fl_knowns, aI G 126 q4.2.2.1), (fl_outKnowns, aI G 6 q4.2.2.2.1), (aq0, oB 2 [.ref aq0_lines, .ref aq0_cells, .ref aq0_starts, .int (P0_N 0), .int (P0_N 1)]), (aq0_lines, aI G 80 (fun j => P0_N (24 + j))), (aq0_cells, aI G 16 (fun j => P0_N (8 + j))), (aq0_starts, aI G 6 (fun j => P0_N (2 + j)))]) C (c0_pass hq4) gX0_find_X0_pass (by decide +kernel) rfl rfl rfl rfl rfl rfl ⟨by decide, by decide⟩ rfl [0, 1, 2, 3, 4, 5, 6, 7, 8] [] [0, 1, 2, 3, 4, 5, 6, 7, 8] rfl (by decide) rfl (by decide) (by decide) rfl (by decide) (Nat.le_of_ble_eq_true rfl) ⟨Nat.zero_le _, Nat.zero_le _⟩ rfl dX0_find_51 ?_
      refine g_iinc (v := (x3 + (1 : Int32))) (lv' := [(0, .ref fl), (1, .ref aq0), (2, .int x2), (3, .int (x3 + (1 : Int32)))]) C dX0_find_54 3 rfl rfl (by decide) [1, 2, 3, 0] rfl ?_
      refine g_goto (tgt := 31) C dX0_find_57 (by decide) ?_
      exact hk31 _ hf
set_option maxHeartbeats 4000000 in
set_option maxRecDepth 100000 in
theorem k0_find_31 {p : Program} {l : Launch} {e : Env} {s : State} {m : MethodId} {args : Array Value} {below : List Frame} {meth : Method} {c : Code} {G : gG} {A : Nat → Prop} {Q : State → Prop} {fl fl_come fl_taints fl_knowns fl_outKnowns aq0 aq0_lines aq0_cells aq0_starts : Nat} (C : CX p s m args meth c G A cX0_find 4 RX0 wsX0_find) {P0_N : Nat → Int32} {k10 : (Nat → Int32) × (Nat → Int32) × (Nat → Int32) × (Nat → Int32) × Int32 × Int32 × Int32 → Option ((Nat → Int32) × (Nat → Int32) × (Nat → Int32) × (Nat → Int32) × Int32 × Int32)} {res : (Nat → Int32) × (Nat → Int32) × (Nat → Int32) × (Nat → Int32) × Int32 × Int32} (hR : ∀ (lv : List (Nat × Value)) (pc : Nat), decode cX0_find pc = .ok (.return_, 1) → GG p l e rm0_find s m args below meth c G A 4 0 0 Q [(fl, oB 0 [.ref fl_come, .ref fl_taints, .ref fl_knowns, .ref fl_outKnowns, .int res.2.2.2.2.1, .int res.2.2.2.2.2]), (fl_come, aZ G 21 res.1), (fl_taints, aI G 21 res.2.1), (fl_knowns, aI G 126 res.2.2.1), (fl_outKnowns, aI G 6 res.2.2.2.1), (aq0, oB 2 [.ref aq0_lines, .ref aq0_cells, .ref aq0_starts, .int (P0_N 0), .int (P0_N 1)]), (aq0_lines, aI G 80 (fun j => P0_N (24 + j))), (aq0_cells, aI G 16 (fun j => P0_N (8 + j))), (aq0_starts, aI G 6 (fun j => P0_N (2 + j)))] lv pc [])
    (hk10 : ∀ s', k10 s' = some res → GG p l e rm0_find s m args below meth c G A 4 0 0 Q [(fl, oB 0 [.ref fl_come, .ref fl_taints, .ref fl_knowns, .ref fl_outKnowns, .int s'.2.2.2.2.1, .int s'.2.2.2.2.2.1]), (fl_come, aZ G 21 s'.1), (fl_taints, aI G 21 s'.2.1), (fl_knowns, aI G 126 s'.2.2.1), (fl_outKnowns, aI G 6 s'.2.2.2.1), (aq0, oB 2 [.ref aq0_lines, .ref aq0_cells, .ref aq0_starts, .int (P0_N 0), .int (P0_N 1)]), (aq0_lines, aI G 80 (fun j => P0_N (24 + j))), (aq0_cells, aI G 16 (fun j => P0_N (8 + j))), (aq0_starts, aI G 6 (fun j => P0_N (2 + j)))] [(0, .ref fl), (1, .ref aq0), (2, .int s'.2.2.2.2.2.2)] 10 []) : ∀ (n : Nat) (s1 : (Nat → Int32) × (Nat → Int32) × (Nat → Int32) × (Nat → Int32) × Int32 × Int32 × Int32 × Int32), f0_find_31 P0_N k10 n s1 = some res → GG p l e rm0_find s m args below meth c G A 4 0 0 Q [(fl, oB 0 [.ref fl_come, .ref fl_taints, .ref fl_knowns, .ref fl_outKnowns, .int s1.2.2.2.2.1, .int s1.2.2.2.2.2.1]), (fl_come, aZ G 21 s1.1), (fl_taints, aI G 21 s1.2.1), (fl_knowns, aI G 126 s1.2.2.1), (fl_outKnowns, aI G 6 s1.2.2.2.1), (aq0, oB 2 [.ref aq0_lines, .ref aq0_cells, .ref aq0_starts, .int (P0_N 0), .int (P0_N 1)]), (aq0_lines, aI G 80 (fun j => P0_N (24 + j))), (aq0_cells, aI G 16 (fun j => P0_N (8 + j))), (aq0_starts, aI G 6 (fun j => P0_N (2 + j)))] [(0, .ref fl), (1, .ref aq0), (2, .int s1.2.2.2.2.2.2.1), (3, .int s1.2.2.2.2.2.2.2)] 31 [] :=
  itf_ind (fun k s1 ih hf => k0_find_31b C hR hk10 ih hf)
set_option maxHeartbeats 4000000 in
set_option maxRecDepth 100000 in
theorem k0_find_10b {p : Program} {l : Launch} {e : Env} {s : State} {m : MethodId} {args : Array Value} {below : List Frame} {meth : Method} {c : Code} {G : gG} {A : Nat → Prop} {Q : State → Prop} {fl fl_come fl_taints fl_knowns fl_outKnowns aq0 aq0_lines aq0_cells aq0_starts : Nat} (C : CX p s m args meth c G A cX0_find 4 RX0 wsX0_find) {P0_N : Nat → Int32} {k10 : (Nat → Int32) × (Nat → Int32) × (Nat → Int32) × (Nat → Int32) × Int32 × Int32 × Int32 → Option ((Nat → Int32) × (Nat → Int32) × (Nat → Int32) × (Nat → Int32) × Int32 × Int32)} {come : Nat → Int32} {taints : Nat → Int32} {knowns : Nat → Int32} {outKnowns : Nat → Int32} {outTaints : Int32} {changed : Int32} {x2 : Int32} {res : (Nat → Int32) × (Nat → Int32) × (Nat → Int32) × (Nat → Int32) × Int32 × Int32} (hR : ∀ (lv : List (Nat × Value)) (pc : Nat), decode cX0_find pc = .ok (.return_, 1) → GG p l e rm0_find s m args below meth c G A 4 0 0 Q [(fl, oB 0 [.ref fl_come, .ref fl_taints, .ref fl_knowns, .ref fl_outKnowns, .int res.2.2.2.2.1, .int res.2.2.2.2.2]), (fl_come, aZ G 21 res.1), (fl_taints, aI G 21 res.2.1), (fl_knowns, aI G 126 res.2.2.1), (fl_outKnowns, aI G 6 res.2.2.2.1), (aq0, oB 2 [.ref aq0_lines, .ref aq0_cells, .ref aq0_starts, .int (P0_N 0), .int (P0_N 1)]), (aq0_lines, aI G 80 (fun j => P0_N (24 + j))), (aq0_cells, aI G 16 (fun j => P0_N (8 + j))), (aq0_starts, aI G 6 (fun j => P0_N (2 + j)))] lv pc [])
    (hk10 : ∀ s', k10 s' = some res → GG p l e rm0_find s m args below meth c G A 4 0 0 Q [(fl, oB 0 [.ref fl_come, .ref fl_taints, .ref fl_knowns, .ref fl_outKnowns, .int s'.2.2.2.2.1, .int s'.2.2.2.2.2.1]), (fl_come, aZ G 21 s'.1), (fl_taints, aI G 21 s'.2.1), (fl_knowns, aI G 126 s'.2.2.1), (fl_outKnowns, aI G 6 s'.2.2.2.1), (aq0, oB 2 [.ref aq0_lines, .ref aq0_cells, .ref aq0_starts, .int (P0_N 0), .int (P0_N 1)]), (aq0_lines, aI G 80 (fun j => P0_N (24 + j))), (aq0_cells, aI G 16 (fun j => P0_N (8 + j))), (aq0_starts, aI G 6 (fun j => P0_N (2 + j)))] [(0, .ref fl), (1, .ref aq0), (2, .int s'.2.2.2.2.2.2)] 10 [])
    (hf : f0_find_10b P0_N k10 come taints knowns outKnowns outTaints changed x2 = some res) : GG p l e rm0_find s m args below meth c G A 4 0 0 Q [(fl, oB 0 [.ref fl_come, .ref fl_taints, .ref fl_knowns, .ref fl_outKnowns, .int outTaints, .int changed]), (fl_come, aZ G 21 come), (fl_taints, aI G 21 taints), (fl_knowns, aI G 126 knowns), (fl_outKnowns, aI G 6 outKnowns), (aq0, oB 2 [.ref aq0_lines, .ref aq0_cells, .ref aq0_starts, .int (P0_N 0), .int (P0_N 1)]), (aq0_lines, aI G 80 (fun j => P0_N (24 + j))), (aq0_cells, aI G 16 (fun j => P0_N (8 + j))), (aq0_starts, aI G 6 (fun j => P0_N (2 + j)))] [(0, .ref fl), (1, .ref aq0), (2, .int x2)] 10 [] := by
  unfold f0_find_10b at hf
  refine g_aload_n C dX0_find_10 rfl 0 rfl ?_
  refine g_get (C0 := RX0) (T := TX0) (N := 6) (ci := 0) (v := .int changed) C hm0_find_1 0 rfl rfl 5 (by decide) hm0_find_3 rfl dX0_find_11 ?_
  refine g_if_eq (tgt := 66) C dX0_find_14 (by decide) (fun c5 => ?_) (fun c5 => ?_)
  · replace hf := ite_t c5 hf
    obtain rfl := Option.some.inj hf
    exact hR _ _ dX0_find_66
  · replace hf := ite_f c5 hf
    refine g_iload_n C dX0_find_17 rfl 2 rfl ?_
    refine g_sipush (v := (274 : Int32)) C dX0_find_18 (by decide +kernel) ?_
    refine g_icmp_ge (tgt := 66) C dX0_find_21 (by decide) (fun c6 => ?_) (fun c6 => ?_)
    · replace hf := ite_t c6 hf
      obtain rfl := Option.some.inj hf
      exact hR _ _ dX0_find_66
    · replace hf := ite_f c6 hf
      refine g_aload_n C dX0_find_24 rfl 0 rfl ?_
      refine g_iconst (v := (0 : Int32)) C dX0_find_25 (by decide +kernel) ?_
      refine g_put (C0 := RX0) (T := TX0) (N := 6) (ci := 0) (ty := .boolean) (WS' := [(fl, oB 0 [.ref fl_come, .ref fl_taints, .ref fl_knowns, .ref fl_outKnowns, .int outTaints, .int (0 : Int32)]), (fl_come, aZ G 21 come), (fl_taints, aI G 21 taints), (fl_knowns, aI G 126 knowns), (fl_outKnowns, aI G 6 outKnowns), (aq0, oB 2 [.ref aq0_lines, .ref aq0_cells, .ref aq0_starts, .int (P0_N 0), .int (P0_N 1)]), (aq0_lines, aI G 80 (fun j => P0_N (24 + j))), (aq0_cells, aI G 16 (fun j => P0_N (8 + j))), (aq0_starts, aI G 6 (fun j => P0_N (2 + j)))]) C hm0_find_1 tyX0 tyX0_ok nmX0 0 rfl rfl 5 (by decide) hm0_find_3 rfl rfl rfl rfl (Nat.le_of_ble_eq_true rfl) dX0_find_26 rfl ?_
      refine g_iconst (v := (0 : Int32)) C dX0_find_29 (by decide +kernel) ?_
      refine g_istore_n (lv' := [(0, .ref fl), (1, .ref aq0), (2, .int x2), (3, .int (0 : Int32))]) C dX0_find_30 rfl (by decide) [1, 2, 3, 0] rfl ?_
      exact k0_find_31 C hR hk10 _ _ hf
set_option maxHeartbeats 4000000 in
set_option maxRecDepth 100000 in
theorem k0_find_10 {p : Program} {l : Launch} {e : Env} {s : State} {m : MethodId} {args : Array Value} {below : List Frame} {meth : Method} {c : Code} {G : gG} {A : Nat → Prop} {Q : State → Prop} {fl fl_come fl_taints fl_knowns fl_outKnowns aq0 aq0_lines aq0_cells aq0_starts : Nat} (C : CX p s m args meth c G A cX0_find 4 RX0 wsX0_find) {P0_N : Nat → Int32} {res : (Nat → Int32) × (Nat → Int32) × (Nat → Int32) × (Nat → Int32) × Int32 × Int32} (hR : ∀ (lv : List (Nat × Value)) (pc : Nat), decode cX0_find pc = .ok (.return_, 1) → GG p l e rm0_find s m args below meth c G A 4 0 0 Q [(fl, oB 0 [.ref fl_come, .ref fl_taints, .ref fl_knowns, .ref fl_outKnowns, .int res.2.2.2.2.1, .int res.2.2.2.2.2]), (fl_come, aZ G 21 res.1), (fl_taints, aI G 21 res.2.1), (fl_knowns, aI G 126 res.2.2.1), (fl_outKnowns, aI G 6 res.2.2.2.1), (aq0, oB 2 [.ref aq0_lines, .ref aq0_cells, .ref aq0_starts, .int (P0_N 0), .int (P0_N 1)]), (aq0_lines, aI G 80 (fun j => P0_N (24 + j))), (aq0_cells, aI G 16 (fun j => P0_N (8 + j))), (aq0_starts, aI G 6 (fun j => P0_N (2 + j)))] lv pc []) : ∀ (n : Nat) (s1 : (Nat → Int32) × (Nat → Int32) × (Nat → Int32) × (Nat → Int32) × Int32 × Int32 × Int32), f0_find_10 P0_N n s1 = some res → GG p l e rm0_find s m args below meth c G A 4 0 0 Q [(fl, oB 0 [.ref fl_come, .ref fl_taints, .ref fl_knowns, .ref fl_outKnowns, .int s1.2.2.2.2.1, .int s1.2.2.2.2.2.1]), (fl_come, aZ G 21 s1.1), (fl_taints, aI G 21 s1.2.1), (fl_knowns, aI G 126 s1.2.2.1), (fl_outKnowns, aI G 6 s1.2.2.2.1), (aq0, oB 2 [.ref aq0_lines, .ref aq0_cells, .ref aq0_starts, .int (P0_N 0), .int (P0_N 1)]), (aq0_lines, aI G 80 (fun j => P0_N (24 + j))), (aq0_cells, aI G 16 (fun j => P0_N (8 + j))), (aq0_starts, aI G 6 (fun j => P0_N (2 + j)))] [(0, .ref fl), (1, .ref aq0), (2, .int s1.2.2.2.2.2.2)] 10 [] :=
  itf_ind (fun k s1 ih hf => k0_find_10b C hR ih hf)
set_option maxHeartbeats 4000000 in
set_option maxRecDepth 100000 in
theorem c0_find {l : Launch} {G : gG} {fl fl_come fl_taints fl_knowns fl_outKnowns aq0 aq0_lines aq0_cells aq0_starts : Nat} {come : Nat → Int32} {taints : Nat → Int32} {knowns : Nat → Int32} {outKnowns : Nat → Int32} {outTaints : Int32} {changed : Int32} {P0_N : Nat → Int32} {res : (Nat → Int32) × (Nat → Int32) × (Nat → Int32) × (Nat → Int32) × Int32 × Int32} (hf : f0_find P0_N come taints knowns outKnowns outTaints changed = some res) : MV l yX0_find wsX0_find rm0_find G [.ref fl, .ref aq0] [(fl, oB 0 [.ref fl_come, .ref fl_taints, .ref fl_knowns, .ref fl_outKnowns, .int outTaints, .int changed]), (fl_come, aZ G 21 come), (fl_taints, aI G 21 taints), (fl_knowns, aI G 126 knowns), (fl_outKnowns, aI G 6 outKnowns), (aq0, oB 2 [.ref aq0_lines, .ref aq0_cells, .ref aq0_starts, .int (P0_N 0), .int (P0_N 1)]), (aq0_lines, aI G 80 (fun j => P0_N (24 + j))), (aq0_cells, aI G 16 (fun j => P0_N (8 + j))), (aq0_starts, aI G 6 (fun j => P0_N (2 + j)))] [(fl, oB 0 [.ref fl_come, .ref fl_taints, .ref fl_knowns, .ref fl_outKnowns, .int res.2.2.2.2.1, .int res.2.2.2.2.2]), (fl_come, aZ G 21 res.1), (fl_taints, aI G 21 res.2.1), (fl_knowns, aI G 126 res.2.2.1), (fl_outKnowns, aI G 6 res.2.2.2.1), (aq0, oB 2 [.ref aq0_lines, .ref aq0_cells, .ref aq0_starts, .int (P0_N 0), .int (P0_N 1)]), (aq0_lines, aI G 80 (fun j => P0_N (24 + j))), (aq0_cells, aI G 16 (fun j => P0_N (8 + j))), (aq0_starts, aI G 6 (fun j => P0_N (2 + j)))] := by
  refine MV_of (cc := cX0_find) (nL := 4) (lv := [(0, .ref fl), (1, .ref aq0)]) (by decide +kernel) rfl (Nat.le_of_ble_eq_true rfl) rfl ?_
  intro p e s m args below meth c A Q C hR
  unfold f0_find at hf
  refine g_aload_n C dX0_find_0 rfl 0 rfl ?_
  refine g_aload_n C dX0_find_1 rfl 1 rfl ?_
  refine g_getN (C0 := RX2) (T := TX2) (N := 5) (ci := 2) (v := .int (P0_N 1)) (host := "SecretSteps") C hm0_find_0 5 rfl rfl 4 (by decide) hn0_25 rfl dX0_find_2 ?_
  obtain ⟨q7, hq7, hf⟩ := bs hf
  refine g_callVv (n := 1) (As := [.int (P0_N 1)]) (rest := []) (wc := [(fl, oB 0 [.ref fl_come, .ref fl_taints, .ref fl_knowns, .ref fl_outKnowns, .int outTaints, .int changed]), (fl_come, aZ G 21 come), (fl_taints, aI G 21 taints), (fl_knowns, aI G 126 knowns), (fl_outKnowns, aI G 6 outKnowns)]) (w1 := [(fl, oB 0 [.ref fl_come, .ref fl_taints, .ref fl_knowns, .ref fl_outKnowns, .int outTaints, .int q7.2.2.2]), (fl_come, aZ G 21 q7.1), (fl_taints, aI G 21 q7.2.1), (fl_knowns, aI G 126 q7.2.2.1), (fl_outKnowns, aI G 6 outKnowns)]) (wr := [(aq0, oB 2 [.ref aq0_lines, .ref aq0_cells, .ref aq0_starts, .int (P0_N 0), .int (P0_N 1)]), (aq0_lines, aI G 80 (fun j => P0_N (24 + j))), (aq0_cells, aI G 16 (fun j => P0_N (8 + j))), (aq0_starts, aI G 6 (fun j => P0_N (2 + j)))]) (WS' := [(fl, oB 0 [.ref fl_come, .ref fl_taints, .ref fl_knowns, .ref fl_outKnowns, .int outTaints, .int q7.2.2.2]), (fl_come, aZ G 21 q7.1), (fl_taints, aI G 21 q7.2.1), (fl_knowns, aI G 126 q7.2.2.1), (fl_outKnowns, aI G 6 outKnowns), (aq0, oB 2 [.ref aq0_lines, .ref aq0_cells, .ref aq0_starts, .int (P0_N 0), .int (P0_N 1)]), (aq0_lines, aI G 80 (fun j => P0_N (24 + j))), (aq0_cells, aI G 16 (fun j => P0_N (8 + j))), (aq0_starts, aI G 6 (fun j => P0_N (2 + j)))]) C (c0_setOut hq7) gX0_find_X0_setOut (by decide +kernel) rfl rfl rfl rfl rfl rfl ⟨by decide, by decide⟩ rfl [0, 1, 2, 3, 4] [5, 6, 7, 8] [4, 5, 6, 7, 8, 0, 1, 2, 3] rfl (by decide) rfl (by decide) (by decide) rfl (by decide) (Nat.le_of_ble_eq_true rfl) ⟨Nat.zero_le _, Nat.zero_le _⟩ rfl dX0_find_5 ?_
  refine g_iconst (v := (0 : Int32)) C dX0_find_8 (by decide +kernel) ?_
  refine g_istore_n (lv' := [(0, .ref fl), (1, .ref aq0), (2, .int (0 : Int32))]) C dX0_find_9 rfl (by decide) [1, 2, 0] rfl ?_
  exact k0_find_10 C hR _ _ hf

-- X0_comesTo
def f0_comesTo (come : Nat → Int32) (v0 : Int32) : Option (Int32) :=
  ck (inb v0 21) <|
    ck (isb (come v0.toNatClampNeg)) <|
    some (come v0.toNatClampNeg)
def rm0_comesTo : Room := { frames := 0, cells := 0, slots := 0, locals := 0 }
theorem hm0_comesTo_0 : ∀ w ∈ u_ws RX0 TX0 6, w ∈ wsX0_comesTo := by decide +kernel
theorem hm0_comesTo_1 : Cond.fieldLink RX0 11 "SecretSteps$Flow" "come" "[Z" ∈ wsX0_comesTo := by decide +kernel
set_option maxHeartbeats 4000000 in
set_option maxRecDepth 100000 in
theorem c0_comesTo {l : Launch} {G : gG} {fl fl_come fl_taints fl_knowns fl_outKnowns : Nat} {come : Nat → Int32} {taints : Nat → Int32} {knowns : Nat → Int32} {outKnowns : Nat → Int32} {outTaints : Int32} {changed : Int32} {v0 : Int32} {res : Int32} (hf : f0_comesTo come v0 = some res) : MI l yX0_comesTo wsX0_comesTo rm0_comesTo G [.ref fl, .int v0] [(fl, oB 0 [.ref fl_come, .ref fl_taints, .ref fl_knowns, .ref fl_outKnowns, .int outTaints, .int changed]), (fl_come, aZ G 21 come), (fl_taints, aI G 21 taints), (fl_knowns, aI G 126 knowns), (fl_outKnowns, aI G 6 outKnowns)] (res) [(fl, oB 0 [.ref fl_come, .ref fl_taints, .ref fl_knowns, .ref fl_outKnowns, .int outTaints, .int changed]), (fl_come, aZ G 21 come), (fl_taints, aI G 21 taints), (fl_knowns, aI G 126 knowns), (fl_outKnowns, aI G 6 outKnowns)] := by
  refine MZ_of (res) (cc := cX0_comesTo) (nL := 2) (lv := [(0, .ref fl), (1, .int v0)]) (by decide +kernel) rfl (Nat.le_of_ble_eq_true rfl) rfl ?_
  intro p e s m args below meth c A Q C hR
  unfold f0_comesTo at hf
  refine g_aload_n C dX0_comesTo_0 rfl 0 rfl ?_
  refine g_get (C0 := RX0) (T := TX0) (N := 6) (ci := 0) (v := .ref fl_come) C hm0_comesTo_0 0 rfl rfl 0 (by decide) hm0_comesTo_1 rfl dX0_comesTo_1 ?_
  refine g_iload_n C dX0_comesTo_4 rfl 1 rfl ?_
  obtain ⟨h1, hf⟩ := ck_some hf
  refine g_zald (n := 21) (v := (come v0.toNatClampNeg)) C 1 rfl h1 rfl rfl dX0_comesTo_5 ?_
  obtain ⟨h2, hf⟩ := ck_some hf
  obtain rfl := Option.some.inj hf
  exact hR _ _ dX0_comesTo_6 h2

-- X0_taintOf
def f0_taintOf (taints : Nat → Int32) (v0 : Int32) (v1 : Int32) : Option (Int32) :=
  ck (inb v0 21) <|
    some ((sr32 (taints v0.toNatClampNeg) v1) &&& (1 : Int32))
def rm0_taintOf : Room := { frames := 0, cells := 0, slots := 0, locals := 0 }
theorem hm0_taintOf_0 : ∀ w ∈ u_ws RX0 TX0 6, w ∈ wsX0_taintOf := by decide +kernel
theorem hm0_taintOf_1 : Cond.fieldLink RX0 15 "SecretSteps$Flow" "taints" "[I" ∈ wsX0_taintOf := by decide +kernel
set_option maxHeartbeats 4000000 in
set_option maxRecDepth 100000 in
theorem c0_taintOf {l : Launch} {G : gG} {fl fl_come fl_taints fl_knowns fl_outKnowns : Nat} {come : Nat → Int32} {taints : Nat → Int32} {knowns : Nat → Int32} {outKnowns : Nat → Int32} {outTaints : Int32} {changed : Int32} {v0 : Int32} {v1 : Int32} {res : Int32} (hf : f0_taintOf taints v0 v1 = some res) : MI l yX0_taintOf wsX0_taintOf rm0_taintOf G [.ref fl, .int v0, .int v1] [(fl, oB 0 [.ref fl_come, .ref fl_taints, .ref fl_knowns, .ref fl_outKnowns, .int outTaints, .int changed]), (fl_come, aZ G 21 come), (fl_taints, aI G 21 taints), (fl_knowns, aI G 126 knowns), (fl_outKnowns, aI G 6 outKnowns)] (res) [(fl, oB 0 [.ref fl_come, .ref fl_taints, .ref fl_knowns, .ref fl_outKnowns, .int outTaints, .int changed]), (fl_come, aZ G 21 come), (fl_taints, aI G 21 taints), (fl_knowns, aI G 126 knowns), (fl_outKnowns, aI G 6 outKnowns)] := by
  refine MI_of (res) (cc := cX0_taintOf) (nL := 3) (lv := [(0, .ref fl), (1, .int v0), (2, .int v1)]) (by decide +kernel) rfl (Nat.le_of_ble_eq_true rfl) rfl ?_
  intro p e s m args below meth c A Q C hR
  unfold f0_taintOf at hf
  refine g_aload_n C dX0_taintOf_0 rfl 0 rfl ?_
  refine g_get (C0 := RX0) (T := TX0) (N := 6) (ci := 0) (v := .ref fl_taints) C hm0_taintOf_0 0 rfl rfl 1 (by decide) hm0_taintOf_1 rfl dX0_taintOf_1 ?_
  refine g_iload_n C dX0_taintOf_4 rfl 1 rfl ?_
  obtain ⟨h1, hf⟩ := ck_some hf
  refine g_iald (n := 21) (v := (taints v0.toNatClampNeg)) C 2 rfl h1 rfl rfl dX0_taintOf_5 ?_
  refine g_iload_n C dX0_taintOf_6 rfl 2 rfl ?_
  refine g_ishr C dX0_taintOf_7 ?_
  refine g_iconst (v := (1 : Int32)) C dX0_taintOf_8 (by decide +kernel) ?_
  refine g_iand C dX0_taintOf_9 ?_
  obtain rfl := Option.some.inj hf
  exact hR _ _ dX0_taintOf_10

-- X0_knownOf
def f0_knownOf (knowns : Nat → Int32) (v0 : Int32) (v1 : Int32) : Option (Int32) :=
  ck (inb ((v0 * (6 : Int32)) + v1) 126) <|
    some (knowns ((v0 * (6 : Int32)) + v1).toNatClampNeg)
def rm0_knownOf : Room := { frames := 0, cells := 0, slots := 0, locals := 0 }
theorem hm0_knownOf_0 : ∀ w ∈ u_ws RX0 TX0 6, w ∈ wsX0_knownOf := by decide +kernel
theorem hm0_knownOf_1 : Cond.fieldLink RX0 19 "SecretSteps$Flow" "knowns" "[I" ∈ wsX0_knownOf := by decide +kernel
set_option maxHeartbeats 4000000 in
set_option maxRecDepth 100000 in
theorem c0_knownOf {l : Launch} {G : gG} {fl fl_come fl_taints fl_knowns fl_outKnowns : Nat} {come : Nat → Int32} {taints : Nat → Int32} {knowns : Nat → Int32} {outKnowns : Nat → Int32} {outTaints : Int32} {changed : Int32} {v0 : Int32} {v1 : Int32} {res : Int32} (hf : f0_knownOf knowns v0 v1 = some res) : MI l yX0_knownOf wsX0_knownOf rm0_knownOf G [.ref fl, .int v0, .int v1] [(fl, oB 0 [.ref fl_come, .ref fl_taints, .ref fl_knowns, .ref fl_outKnowns, .int outTaints, .int changed]), (fl_come, aZ G 21 come), (fl_taints, aI G 21 taints), (fl_knowns, aI G 126 knowns), (fl_outKnowns, aI G 6 outKnowns)] (res) [(fl, oB 0 [.ref fl_come, .ref fl_taints, .ref fl_knowns, .ref fl_outKnowns, .int outTaints, .int changed]), (fl_come, aZ G 21 come), (fl_taints, aI G 21 taints), (fl_knowns, aI G 126 knowns), (fl_outKnowns, aI G 6 outKnowns)] := by
  refine MI_of (res) (cc := cX0_knownOf) (nL := 3) (lv := [(0, .ref fl), (1, .int v0), (2, .int v1)]) (by decide +kernel) rfl (Nat.le_of_ble_eq_true rfl) rfl ?_
  intro p e s m args below meth c A Q C hR
  unfold f0_knownOf at hf
  refine g_aload_n C dX0_knownOf_0 rfl 0 rfl ?_
  refine g_get (C0 := RX0) (T := TX0) (N := 6) (ci := 0) (v := .ref fl_knowns) C hm0_knownOf_0 0 rfl rfl 2 (by decide) hm0_knownOf_1 rfl dX0_knownOf_1 ?_
  refine g_iload_n C dX0_knownOf_4 rfl 1 rfl ?_
  refine g_bipush (v := (6 : Int32)) C dX0_knownOf_5 (by decide +kernel) ?_
  refine g_imul C dX0_knownOf_7 ?_
  refine g_iload_n C dX0_knownOf_8 rfl 2 rfl ?_
  refine g_iadd C dX0_knownOf_9 ?_
  obtain ⟨h1, hf⟩ := ck_some hf
  refine g_iald (n := 126) (v := (knowns ((v0 * (6 : Int32)) + v1).toNatClampNeg)) C 3 rfl h1 rfl rfl dX0_knownOf_10 ?_
  obtain rfl := Option.some.inj hf
  exact hR _ _ dX0_knownOf_11

-- X0_givesAlarm
def f0_givesAlarm_23 (come : Nat → Int32) (taints : Nat → Int32) (P0_N : Nat → Int32) (x2 : Int32) (x3 : Int32) : Option (Int32) :=
  (f2_partOf P0_N x2 (0 : Int32)).bind <| fun q1 =>
    (if q1 = (5 : Int32) then
    ((f2_partOf P0_N x2 (2 : Int32)).bind <| fun q3 =>
    (f0_taintOf taints x2 q3).bind <| fun q4 =>
    if q4 = (1 : Int32) then
    (some (1 : Int32))
    else (some (0 : Int32)))
    else (if q1 = (6 : Int32) then
    (if x3 = (1 : Int32) then
    (some (1 : Int32))
    else ((f2_partOf P0_N x2 (2 : Int32)).bind <| fun q8 =>
    (f0_taintOf taints x2 q8).bind <| fun q9 =>
    if q9 = (1 : Int32) then
    (some (1 : Int32))
    else (some (0 : Int32))))
    else (if q1 = (7 : Int32) then
    (if x3 = (1 : Int32) then
    (some (1 : Int32))
    else (some (0 : Int32)))
    else (some (0 : Int32)))))
def f0_givesAlarm (come : Nat → Int32) (taints : Nat → Int32) (P0_N : Nat → Int32) (v1 : Int32) : Option (Int32) :=
  ck (inb v1 21) <|
    if (come v1.toNatClampNeg) = 0 then
    (some (0 : Int32))
    else ((f2_partOf P0_N v1 (1 : Int32)).bind <| fun q15 =>
    (f0_taintOf taints v1 q15).bind <| fun q16 =>
    f0_givesAlarm_23 come taints P0_N v1 q16)
def rm0_givesAlarm : Room := { frames := 1, cells := 0, slots := 0, locals := 22 }
theorem hm0_givesAlarm_0 : ∀ w ∈ u_ws RX0 TX0 6, w ∈ wsX0_givesAlarm := by decide +kernel
theorem hm0_givesAlarm_1 : Cond.fieldLink RX0 11 "SecretSteps$Flow" "come" "[Z" ∈ wsX0_givesAlarm := by decide +kernel
set_option maxHeartbeats 4000000 in
set_option maxRecDepth 100000 in
theorem k0_givesAlarm_23 {p : Program} {l : Launch} {e : Env} {s : State} {m : MethodId} {args : Array Value} {below : List Frame} {meth : Method} {c : Code} {G : gG} {A : Nat → Prop} {Q : State → Prop} {fl fl_come fl_taints fl_knowns fl_outKnowns aq0 aq0_lines aq0_cells aq0_starts : Nat} (C : CX p s m args meth c G A cX0_givesAlarm 4 RX0 wsX0_givesAlarm) {knowns : Nat → Int32} {outKnowns : Nat → Int32} {outTaints : Int32} {changed : Int32} {come : Nat → Int32} {taints : Nat → Int32} {P0_N : Nat → Int32} {x2 : Int32} {x3 : Int32} {res : Int32} (hR : ∀ (lv : List (Nat × Value)) (pc : Nat), decode cX0_givesAlarm pc = .ok (.ireturn, 1) → isb res = true → GG p l e rm0_givesAlarm s m args below meth c G A 4 0 0 Q [(fl, oB 0 [.ref fl_come, .ref fl_taints, .ref fl_knowns, .ref fl_outKnowns, .int outTaints, .int changed]), (fl_come, aZ G 21 come), (fl_taints, aI G 21 taints), (fl_knowns, aI G 126 knowns), (fl_outKnowns, aI G 6 outKnowns), (aq0, oB 2 [.ref aq0_lines, .ref aq0_cells, .ref aq0_starts, .int (P0_N 0), .int (P0_N 1)]), (aq0_lines, aI G 80 (fun j => P0_N (24 + j))), (aq0_cells, aI G 16 (fun j => P0_N (8 + j))), (aq0_starts, aI G 6 (fun j => P0_N (2 + j)))] lv pc [.int res])
    (hf : f0_givesAlarm_23 come taints P0_N x2 x3 = some res) : GG p l e rm0_givesAlarm s m args below meth c G A 4 0 0 Q [(fl, oB 0 [.ref fl_come, .ref fl_taints, .ref fl_knowns, .ref fl_outKnowns, .int outTaints, .int changed]), (fl_come, aZ G 21 come), (fl_taints, aI G 21 taints), (fl_knowns, aI G 126 knowns), (fl_outKnowns, aI G 6 outKnowns), (aq0, oB 2 [.ref aq0_lines, .ref aq0_cells, .ref aq0_starts, .int (P0_N 0), .int (P0_N 1)]), (aq0_lines, aI G 80 (fun j => P0_N (24 + j))), (aq0_cells, aI G 16 (fun j => P0_N (8 + j))), (aq0_starts, aI G 6 (fun j => P0_N (2 + j)))] [(0, .ref fl), (1, .ref aq0), (2, .int x2), (3, .int x3)] 23 [] := by
  unfold f0_givesAlarm_23 at hf
  refine g_aload_n C dX0_givesAlarm_23 rfl 1 rfl ?_
  refine g_iload_n C dX0_givesAlarm_24 rfl 2 rfl ?_
  refine g_iconst (v := (0 : Int32)) C dX0_givesAlarm_25 (by decide +kernel) ?_
  obtain ⟨q1, hq1, hf⟩ := bs hf
  refine g_callVi (n := 2) (As := [.int x2, .int (0 : Int32)]) (rest := []) (wc := [(aq0, oB 2 [.ref aq0_lines, .ref aq0_cells, .ref aq0_starts, .int (P0_N 0), .int (P0_N 1)]), (aq0_lines, aI G 80 (fun j => P0_N (24 + j))), (aq0_cells, aI G 16 (fun j => P0_N (8 + j))), (aq0_starts, aI G 6 (fun j => P0_N (2 + j)))]) (w1 := [(aq0, oB 2 [.ref aq0_lines, .ref aq0_cells, .ref aq0_starts, .int (P0_N 0), .int (P0_N 1)]), (aq0_lines, aI G 80 (fun j => P0_N (24 + j))), (aq0_cells, aI G 16 (fun j => P0_N (8 + j))), (aq0_starts, aI G 6 (fun j => P0_N (2 + j)))]) (wr := [(fl, oB 0 [.ref fl_come, .ref fl_taints, .ref fl_knowns, .ref fl_outKnowns, .int outTaints, .int changed]), (fl_come, aZ G 21 come), (fl_taints, aI G 21 taints), (fl_knowns, aI G 126 knowns), (fl_outKnowns, aI G 6 outKnowns)]) (WS' := [(fl, oB 0 [.ref fl_come, .ref fl_taints, .ref fl_knowns, .ref fl_outKnowns, .int outTaints, .int changed]), (fl_come, aZ G 21 come), (fl_taints, aI G 21 taints), (fl_knowns, aI G 126 knowns), (fl_outKnowns, aI G 6 outKnowns), (aq0, oB 2 [.ref aq0_lines, .ref aq0_cells, .ref aq0_starts, .int (P0_N 0), .int (P0_N 1)]), (aq0_lines, aI G 80 (fun j => P0_N (24 + j))), (aq0_cells, aI G 16 (fun j => P0_N (8 + j))), (aq0_starts, aI G 6 (fun j => P0_N (2 + j)))]) C (c2_partOf hq1) gX0_givesAlarm_X2_partOf (by decide +kernel) rfl rfl rfl rfl rfl rfl ⟨by decide, by decide⟩ rfl [5, 6, 7, 8] [0, 1, 2, 3, 4] [0, 1, 2, 3, 4, 5, 6, 7, 8] rfl (by decide) rfl (by decide) (by decide) rfl (by decide) (Nat.le_of_ble_eq_true rfl) ⟨Nat.zero_le _, Nat.zero_le _⟩ rfl dX0_givesAlarm_26 ?_
  by_cases c2 : q1 = (5 : Int32)
  · replace hf := ite_t c2 hf
    refine g_tableIn (off := 27) (tgt := 56) C dX0_givesAlarm_29 (by rw [c2]; decide +kernel) (by rw [c2]; decide +kernel) (by rw [c2]; decide +kernel) (by decide) ?_
    refine g_aload_n C dX0_givesAlarm_56 rfl 0 rfl ?_
    refine g_iload_n C dX0_givesAlarm_57 rfl 2 rfl ?_
    refine g_aload_n C dX0_givesAlarm_58 rfl 1 rfl ?_
    refine g_iload_n C dX0_givesAlarm_59 rfl 2 rfl ?_
    refine g_iconst (v := (2 : Int32)) C dX0_givesAlarm_60 (by decide +kernel) ?_
    obtain ⟨q3, hq3, hf⟩ := bs hf
    refine g_callVi (n := 2) (As := [.int x2, .int (2 : Int32)]) (rest := [.int x2, .ref fl]) (wc := [(aq0, oB 2 [.ref aq0_lines, .ref aq0_cells, .ref aq0_starts, .int (P0_N 0), .int (P0_N 1)]), (aq0_lines, aI G 80 (fun j => P0_N (24 + j))), (aq0_cells, aI G 16 (fun j => P0_N (8 + j))), (aq0_starts, aI G 6 (fun j => P0_N (2 + j)))]) (w1 := [(aq0, oB 2 [.ref aq0_lines, .ref aq0_cells, .ref aq0_starts, .int (P0_N 0), .int (P0_N 1)]), (aq0_lines, aI G 80 (fun j => P0_N (24 + j))), (aq0_cells, aI G 16 (fun j => P0_N (8 + j))), (aq0_starts, aI G 6 (fun j => P0_N (2 + j)))]) (wr := [(fl, oB 0 [.ref fl_come, .ref fl_taints, .ref fl_knowns, .ref fl_outKnowns, .int outTaints, .int changed]), (fl_come, aZ G 21 come), (fl_taints, aI G 21 taints), (fl_knowns, aI G 126 knowns), (fl_outKnowns, aI G 6 outKnowns)]) (WS' := [(fl, oB 0 [.ref fl_come, .ref fl_taints, .ref fl_knowns, .ref fl_outKnowns, .int outTaints, .int changed]), (fl_come, aZ G 21 come), (fl_taints, aI G 21 taints), (fl_knowns, aI G 126 knowns), (fl_outKnowns, aI G 6 outKnowns), (aq0, oB 2 [.ref aq0_lines, .ref aq0_cells, .ref aq0_starts, .int (P0_N 0), .int (P0_N 1)]), (aq0_lines, aI G 80 (fun j => P0_N (24 + j))), (aq0_cells, aI G 16 (fun j => P0_N (8 + j))), (aq0_starts, aI G 6 (fun j => P0_N (2 + j)))]) C (c2_partOf hq3) gX0_givesAlarm_X2_partOf (by decide +kernel) rfl rfl rfl rfl rfl rfl ⟨by decide, by decide⟩ rfl [5, 6, 7, 8] [0, 1, 2, 3, 4] [0, 1, 2, 3, 4, 5, 6, 7, 8] rfl (by decide) rfl (by decide) (by decide) rfl (by decide) (Nat.le_of_ble_eq_true rfl) ⟨Nat.zero_le _, Nat.zero_le _⟩ rfl dX0_givesAlarm_61 ?_
    obtain ⟨q4, hq4, hf⟩ := bs hf
    refine g_callVi (n := 2) (As := [.int x2, .int q3]) (rest := []) (wc := [(fl, oB 0 [.ref fl_come, .ref fl_taints, .ref fl_knowns, .ref fl_outKnowns, .int outTaints, .int changed]), (fl_come, aZ G 21 come), (fl_taints, aI G 21 taints), (fl_knowns, aI G 126 knowns), (fl_outKnowns, aI G 6 outKnowns)]) (w1 := [(fl, oB 0 [.ref fl_come, .ref fl_taints, .ref fl_knowns, .ref fl_outKnowns, .int outTaints, .int changed]), (fl_come, aZ G 21 come), (fl_taints, aI G 21 taints), (fl_knowns, aI G 126 knowns), (fl_outKnowns, aI G 6 outKnowns)]) (wr := [(aq0, oB 2 [.ref aq0_lines, .ref aq0_cells, .ref aq0_starts, .int (P0_N 0), .int (P0_N 1)]), (aq0_lines, aI G 80 (fun j => P0_N (24 + j))), (aq0_cells, aI G 16 (fun j => P0_N (8 + j))), (aq0_starts, aI G 6 (fun j => P0_N (2 + j)))]) (WS' := [(fl, oB 0 [.ref fl_come, .ref fl_taints, .ref fl_knowns, .ref fl_outKnowns, .int outTaints, .int changed]), (fl_come, aZ G 21 come), (fl_taints, aI G 21 taints), (fl_knowns, aI G 126 knowns), (fl_outKnowns, aI G 6 outKnowns), (aq0, oB 2 [.ref aq0_lines, .ref aq0_cells, .ref aq0_starts, .int (P0_N 0), .int (P0_N 1)]), (aq0_lines, aI G 80 (fun j => P0_N (24 + j))), (aq0_cells, aI G 16 (fun j => P0_N (8 + j))), (aq0_starts, aI G 6 (fun j => P0_N (2 + j)))]) C (c0_taintOf hq4) gX0_givesAlarm_X0_taintOf (by decide +kernel) rfl rfl rfl rfl rfl rfl ⟨by decide, by decide⟩ rfl [0, 1, 2, 3, 4] [5, 6, 7, 8] [4, 5, 6, 7, 8, 0, 1, 2, 3] rfl (by decide) rfl (by decide) (by decide) rfl (by decide) (Nat.le_of_ble_eq_true rfl) ⟨Nat.zero_le _, Nat.zero_le _⟩ rfl dX0_givesAlarm_64 ?_
    refine g_iconst (v := (1 : Int32)) C dX0_givesAlarm_67 (by decide +kernel) ?_
    refine g_icmp_ne (tgt := 75) C dX0_givesAlarm_68 (by decide) (fun c5 => ?_) (fun c5 => ?_)
    · replace hf := ite_f c5 hf
      refine g_iconst (v := (0 : Int32)) C dX0_givesAlarm_75 (by decide +kernel) ?_
      obtain rfl := Option.some.inj hf
      exact hR _ _ dX0_givesAlarm_76 isb0
    · replace hf := ite_t c5 hf
      refine g_iconst (v := (1 : Int32)) C dX0_givesAlarm_71 (by decide +kernel) ?_
      refine g_goto (tgt := 76) C dX0_givesAlarm_72 (by decide) ?_
      obtain rfl := Option.some.inj hf
      exact hR _ _ dX0_givesAlarm_76 isb1
  replace hf := ite_f c2 hf
  by_cases c6 : q1 = (6 : Int32)
  · replace hf := ite_t c6 hf
    refine g_tableIn (off := 48) (tgt := 77) C dX0_givesAlarm_29 (by rw [c6]; decide +kernel) (by rw [c6]; decide +kernel) (by rw [c6]; decide +kernel) (by decide) ?_
    refine g_iload_n C dX0_givesAlarm_77 rfl 3 rfl ?_
    refine g_iconst (v := (1 : Int32)) C dX0_givesAlarm_78 (by decide +kernel) ?_
    refine g_icmp_eq (tgt := 97) C dX0_givesAlarm_79 (by decide) (fun c7 => ?_) (fun c7 => ?_)
    · replace hf := ite_t c7 hf
      refine g_iconst (v := (1 : Int32)) C dX0_givesAlarm_97 (by decide +kernel) ?_
      refine g_goto (tgt := 102) C dX0_givesAlarm_98 (by decide) ?_
      obtain rfl := Option.some.inj hf
      exact hR _ _ dX0_givesAlarm_102 isb1
    · replace hf := ite_f c7 hf
      refine g_aload_n C dX0_givesAlarm_82 rfl 0 rfl ?_
      refine g_iload_n C dX0_givesAlarm_83 rfl 2 rfl ?_
      refine g_aload_n C dX0_givesAlarm_84 rfl 1 rfl ?_
      refine g_iload_n C dX0_givesAlarm_85 rfl 2 rfl ?_
      refine g_iconst (v := (2 : Int32)) C dX0_givesAlarm_86 (by decide +kernel) ?_
      obtain ⟨q8, hq8, hf⟩ := bs hf
      refine g_callVi (n := 2) (As := [.int x2, .int (2 : Int32)]) (rest := [.int x2, .ref fl]) (wc := [(aq0, oB 2 [.ref aq0_lines, .ref aq0_cells, .ref aq0_starts, .int (P0_N 0), .int (P0_N 1)]), (aq0_lines, aI G 80 (fun j => P0_N (24 + j))), (aq0_cells, aI G 16 (fun j => P0_N (8 + j))), (aq0_starts, aI G 6 (fun j => P0_N (2 + j)))]) (w1 := [(aq0, oB 2 [.ref aq0_lines, .ref aq0_cells, .ref aq0_starts, .int (P0_N 0), .int (P0_N 1)]), (aq0_lines, aI G 80 (fun j => P0_N (24 + j))), (aq0_cells, aI G 16 (fun j => P0_N (8 + j))), (aq0_starts, aI G 6 (fun j => P0_N (2 + j)))]) (wr := [(fl, oB 0 [.ref fl_come, .ref fl_taints, .ref fl_knowns, .ref fl_outKnowns, .int outTaints, .int changed]), (fl_come, aZ G 21 come), (fl_taints, aI G 21 taints), (fl_knowns, aI G 126 knowns), (fl_outKnowns, aI G 6 outKnowns)]) (WS' := [(fl, oB 0 [.ref fl_come, .ref fl_taints, .ref fl_knowns, .ref fl_outKnowns, .int outTaints, .int changed]), (fl_come, aZ G 21 come), (fl_taints, aI G 21 taints), (fl_knowns, aI G 126 knowns), (fl_outKnowns, aI G 6 outKnowns), (aq0, oB 2 [.ref aq0_lines, .ref aq0_cells, .ref aq0_starts, .int (P0_N 0), .int (P0_N 1)]), (aq0_lines, aI G 80 (fun j => P0_N (24 + j))), (aq0_cells, aI G 16 (fun j => P0_N (8 + j))), (aq0_starts, aI G 6 (fun j => P0_N (2 + j)))]) C (c2_partOf hq8) gX0_givesAlarm_X2_partOf (by decide +kernel) rfl rfl rfl rfl rfl rfl ⟨by decide, by decide⟩ rfl [5, 6, 7, 8] [0, 1, 2, 3, 4] [0, 1, 2, 3, 4, 5, 6, 7, 8] rfl (by decide) rfl (by decide) (by decide) rfl (by decide) (Nat.le_of_ble_eq_true rfl) ⟨Nat.zero_le _, Nat.zero_le _⟩ rfl dX0_givesAlarm_87 ?_
      obtain ⟨q9, hq9, hf⟩ := bs hf
      refine g_callVi (n := 2) (As := [.int x2, .int q8]) (rest := []) (wc := [(fl, oB 0 [.ref fl_come, .ref fl_taints, .ref fl_knowns, .ref fl_outKnowns, .int outTaints, .int changed]), (fl_come, aZ G 21 come), (fl_taints, aI G 21 taints), (fl_knowns, aI G 126 knowns), (fl_outKnowns, aI G 6 outKnowns)]) (w1 := [(fl, oB 0 [.ref fl_come, .ref fl_taints, .ref fl_knowns, .ref fl_outKnowns, .int outTaints, .int changed]), (fl_come, aZ G 21 come), (fl_taints, aI G 21 taints), (fl_knowns, aI G 126 knowns), (fl_outKnowns, aI G 6 outKnowns)]) (wr := [(aq0, oB 2 [.ref aq0_lines, .ref aq0_cells, .ref aq0_starts, .int (P0_N 0), .int (P0_N 1)]), (aq0_lines, aI G 80 (fun j => P0_N (24 + j))), (aq0_cells, aI G 16 (fun j => P0_N (8 + j))), (aq0_starts, aI G 6 (fun j => P0_N (2 + j)))]) (WS' := [(fl, oB 0 [.ref fl_come, .ref fl_taints, .ref fl_knowns, .ref fl_outKnowns, .int outTaints, .int changed]), (fl_come, aZ G 21 come), (fl_taints, aI G 21 taints), (fl_knowns, aI G 126 knowns), (fl_outKnowns, aI G 6 outKnowns), (aq0, oB 2 [.ref aq0_lines, .ref aq0_cells, .ref aq0_starts, .int (P0_N 0), .int (P0_N 1)]), (aq0_lines, aI G 80 (fun j => P0_N (24 + j))), (aq0_cells, aI G 16 (fun j => P0_N (8 + j))), (aq0_starts, aI G 6 (fun j => P0_N (2 + j)))]) C (c0_taintOf hq9) gX0_givesAlarm_X0_taintOf (by decide +kernel) rfl rfl rfl rfl rfl rfl ⟨by decide, by decide⟩ rfl [0, 1, 2, 3, 4] [5, 6, 7, 8] [4, 5, 6, 7, 8, 0, 1, 2, 3] rfl (by decide) rfl (by decide) (by decide) rfl (by decide) (Nat.le_of_ble_eq_true rfl) ⟨Nat.zero_le _, Nat.zero_le _⟩ rfl dX0_givesAlarm_90 ?_
      refine g_iconst (v := (1 : Int32)) C dX0_givesAlarm_93 (by decide +kernel) ?_
      refine g_icmp_ne (tgt := 101) C dX0_givesAlarm_94 (by decide) (fun c10 => ?_) (fun c10 => ?_)
      · replace hf := ite_f c10 hf
        refine g_iconst (v := (0 : Int32)) C dX0_givesAlarm_101 (by decide +kernel) ?_
        obtain rfl := Option.some.inj hf
        exact hR _ _ dX0_givesAlarm_102 isb0
      · replace hf := ite_t c10 hf
        refine g_iconst (v := (1 : Int32)) C dX0_givesAlarm_97 (by decide +kernel) ?_
        refine g_goto (tgt := 102) C dX0_givesAlarm_98 (by decide) ?_
        obtain rfl := Option.some.inj hf
        exact hR _ _ dX0_givesAlarm_102 isb1
  replace hf := ite_f c6 hf
  by_cases c11 : q1 = (7 : Int32)
  · replace hf := ite_t c11 hf
    refine g_tableIn (off := 74) (tgt := 103) C dX0_givesAlarm_29 (by rw [c11]; decide +kernel) (by rw [c11]; decide +kernel) (by rw [c11]; decide +kernel) (by decide) ?_
    refine g_iload_n C dX0_givesAlarm_103 rfl 3 rfl ?_
    refine g_iconst (v := (1 : Int32)) C dX0_givesAlarm_104 (by decide +kernel) ?_
    refine g_icmp_ne (tgt := 112) C dX0_givesAlarm_105 (by decide) (fun c12 => ?_) (fun c12 => ?_)
    · replace hf := ite_f c12 hf
      refine g_iconst (v := (0 : Int32)) C dX0_givesAlarm_112 (by decide +kernel) ?_
      obtain rfl := Option.some.inj hf
      exact hR _ _ dX0_givesAlarm_113 isb0
    · replace hf := ite_t c12 hf
      refine g_iconst (v := (1 : Int32)) C dX0_givesAlarm_108 (by decide +kernel) ?_
      refine g_goto (tgt := 113) C dX0_givesAlarm_109 (by decide) ?_
      obtain rfl := Option.some.inj hf
      exact hR _ _ dX0_givesAlarm_113 isb1
  replace hf := ite_f c11 hf
  refine g_tableOut (tgt := 114) C dX0_givesAlarm_29 (by have e0 := lv_neT (a := 5) c2 (by decide +kernel); have e1 := lv_neT (a := 6) c6 (by decide +kernel); have e2 := lv_neT (a := 7) c11 (by decide +kernel); omega) (by decide) ?_
  refine g_iconst (v := (0 : Int32)) C dX0_givesAlarm_114 (by decide +kernel) ?_
  obtain rfl := Option.some.inj hf
  exact hR _ _ dX0_givesAlarm_115 isb0
set_option maxHeartbeats 4000000 in
set_option maxRecDepth 100000 in
theorem c0_givesAlarm {l : Launch} {G : gG} {fl fl_come fl_taints fl_knowns fl_outKnowns aq0 aq0_lines aq0_cells aq0_starts : Nat} {come : Nat → Int32} {taints : Nat → Int32} {knowns : Nat → Int32} {outKnowns : Nat → Int32} {outTaints : Int32} {changed : Int32} {P0_N : Nat → Int32} {v1 : Int32} {res : Int32} (hf : f0_givesAlarm come taints P0_N v1 = some res) : MI l yX0_givesAlarm wsX0_givesAlarm rm0_givesAlarm G [.ref fl, .ref aq0, .int v1] [(fl, oB 0 [.ref fl_come, .ref fl_taints, .ref fl_knowns, .ref fl_outKnowns, .int outTaints, .int changed]), (fl_come, aZ G 21 come), (fl_taints, aI G 21 taints), (fl_knowns, aI G 126 knowns), (fl_outKnowns, aI G 6 outKnowns), (aq0, oB 2 [.ref aq0_lines, .ref aq0_cells, .ref aq0_starts, .int (P0_N 0), .int (P0_N 1)]), (aq0_lines, aI G 80 (fun j => P0_N (24 + j))), (aq0_cells, aI G 16 (fun j => P0_N (8 + j))), (aq0_starts, aI G 6 (fun j => P0_N (2 + j)))] (res) [(fl, oB 0 [.ref fl_come, .ref fl_taints, .ref fl_knowns, .ref fl_outKnowns, .int outTaints, .int changed]), (fl_come, aZ G 21 come), (fl_taints, aI G 21 taints), (fl_knowns, aI G 126 knowns), (fl_outKnowns, aI G 6 outKnowns), (aq0, oB 2 [.ref aq0_lines, .ref aq0_cells, .ref aq0_starts, .int (P0_N 0), .int (P0_N 1)]), (aq0_lines, aI G 80 (fun j => P0_N (24 + j))), (aq0_cells, aI G 16 (fun j => P0_N (8 + j))), (aq0_starts, aI G 6 (fun j => P0_N (2 + j)))] := by
  refine MZ_of (res) (cc := cX0_givesAlarm) (nL := 4) (lv := [(0, .ref fl), (1, .ref aq0), (2, .int v1)]) (by decide +kernel) rfl (Nat.le_of_ble_eq_true rfl) rfl ?_
  intro p e s m args below meth c A Q C hR
  unfold f0_givesAlarm at hf
  refine g_aload_n C dX0_givesAlarm_0 rfl 0 rfl ?_
  refine g_get (C0 := RX0) (T := TX0) (N := 6) (ci := 0) (v := .ref fl_come) C hm0_givesAlarm_0 0 rfl rfl 0 (by decide) hm0_givesAlarm_1 rfl dX0_givesAlarm_1 ?_
  refine g_iload_n C dX0_givesAlarm_4 rfl 2 rfl ?_
  obtain ⟨h13, hf⟩ := ck_some hf
  refine g_zald (n := 21) (v := (come v1.toNatClampNeg)) C 1 rfl h13 rfl rfl dX0_givesAlarm_5 ?_
  refine g_if_ne (tgt := 11) C dX0_givesAlarm_6 (by decide) (fun c14 => ?_) (fun c14 => ?_)
  · replace hf := ite_f c14 hf
    refine g_aload_n C dX0_givesAlarm_11 rfl 0 rfl ?_
    refine g_iload_n C dX0_givesAlarm_12 rfl 2 rfl ?_
    refine g_aload_n C dX0_givesAlarm_13 rfl 1 rfl ?_
    refine g_iload_n C dX0_givesAlarm_14 rfl 2 rfl ?_
    refine g_iconst (v := (1 : Int32)) C dX0_givesAlarm_15 (by decide +kernel) ?_
    obtain ⟨q15, hq15, hf⟩ := bs hf
    refine g_callVi (n := 2) (As := [.int v1, .int (1 : Int32)]) (rest := [.int v1, .ref fl]) (wc := [(aq0, oB 2 [.ref aq0_lines, .ref aq0_cells, .ref aq0_starts, .int (P0_N 0), .int (P0_N 1)]), (aq0_lines, aI G 80 (fun j => P0_N (24 + j))), (aq0_cells, aI G 16 (fun j => P0_N (8 + j))), (aq0_starts, aI G 6 (fun j => P0_N (2 + j)))]) (w1 := [(aq0, oB 2 [.ref aq0_lines, .ref aq0_cells, .ref aq0_starts, .int (P0_N 0), .int (P0_N 1)]), (aq0_lines, aI G 80 (fun j => P0_N (24 + j))), (aq0_cells, aI G 16 (fun j => P0_N (8 + j))), (aq0_starts, aI G 6 (fun j => P0_N (2 + j)))]) (wr := [(fl, oB 0 [.ref fl_come, .ref fl_taints, .ref fl_knowns, .ref fl_outKnowns, .int outTaints, .int changed]), (fl_come, aZ G 21 come), (fl_taints, aI G 21 taints), (fl_knowns, aI G 126 knowns), (fl_outKnowns, aI G 6 outKnowns)]) (WS' := [(fl, oB 0 [.ref fl_come, .ref fl_taints, .ref fl_knowns, .ref fl_outKnowns, .int outTaints, .int changed]), (fl_come, aZ G 21 come), (fl_taints, aI G 21 taints), (fl_knowns, aI G 126 knowns), (fl_outKnowns, aI G 6 outKnowns), (aq0, oB 2 [.ref aq0_lines, .ref aq0_cells, .ref aq0_starts, .int (P0_N 0), .int (P0_N 1)]), (aq0_lines, aI G 80 (fun j => P0_N (24 + j))), (aq0_cells, aI G 16 (fun j => P0_N (8 + j))), (aq0_starts, aI G 6 (fun j => P0_N (2 + j)))]) C (c2_partOf hq15) gX0_givesAlarm_X2_partOf (by decide +kernel) rfl rfl rfl rfl rfl rfl ⟨by decide, by decide⟩ rfl [5, 6, 7, 8] [0, 1, 2, 3, 4] [0, 1, 2, 3, 4, 5, 6, 7, 8] rfl (by decide) rfl (by decide) (by decide) rfl (by decide) (Nat.le_of_ble_eq_true rfl) ⟨Nat.zero_le _, Nat.zero_le _⟩ rfl dX0_givesAlarm_16 ?_
    obtain ⟨q16, hq16, hf⟩ := bs hf
    refine g_callVi (n := 2) (As := [.int v1, .int q15]) (rest := []) (wc := [(fl, oB 0 [.ref fl_come, .ref fl_taints, .ref fl_knowns, .ref fl_outKnowns, .int outTaints, .int changed]), (fl_come, aZ G 21 come), (fl_taints, aI G 21 taints), (fl_knowns, aI G 126 knowns), (fl_outKnowns, aI G 6 outKnowns)]) (w1 := [(fl, oB 0 [.ref fl_come, .ref fl_taints, .ref fl_knowns, .ref fl_outKnowns, .int outTaints, .int changed]), (fl_come, aZ G 21 come), (fl_taints, aI G 21 taints), (fl_knowns, aI G 126 knowns), (fl_outKnowns, aI G 6 outKnowns)]) (wr := [(aq0, oB 2 [.ref aq0_lines, .ref aq0_cells, .ref aq0_starts, .int (P0_N 0), .int (P0_N 1)]), (aq0_lines, aI G 80 (fun j => P0_N (24 + j))), (aq0_cells, aI G 16 (fun j => P0_N (8 + j))), (aq0_starts, aI G 6 (fun j => P0_N (2 + j)))]) (WS' := [(fl, oB 0 [.ref fl_come, .ref fl_taints, .ref fl_knowns, .ref fl_outKnowns, .int outTaints, .int changed]), (fl_come, aZ G 21 come), (fl_taints, aI G 21 taints), (fl_knowns, aI G 126 knowns), (fl_outKnowns, aI G 6 outKnowns), (aq0, oB 2 [.ref aq0_lines, .ref aq0_cells, .ref aq0_starts, .int (P0_N 0), .int (P0_N 1)]), (aq0_lines, aI G 80 (fun j => P0_N (24 + j))), (aq0_cells, aI G 16 (fun j => P0_N (8 + j))), (aq0_starts, aI G 6 (fun j => P0_N (2 + j)))]) C (c0_taintOf hq16) gX0_givesAlarm_X0_taintOf (by decide +kernel) rfl rfl rfl rfl rfl rfl ⟨by decide, by decide⟩ rfl [0, 1, 2, 3, 4] [5, 6, 7, 8] [4, 5, 6, 7, 8, 0, 1, 2, 3] rfl (by decide) rfl (by decide) (by decide) rfl (by decide) (Nat.le_of_ble_eq_true rfl) ⟨Nat.zero_le _, Nat.zero_le _⟩ rfl dX0_givesAlarm_19 ?_
    refine g_istore_n (lv' := [(0, .ref fl), (1, .ref aq0), (2, .int v1), (3, .int q16)]) C dX0_givesAlarm_22 rfl (by decide) [1, 2, 3, 0] rfl ?_
    exact k0_givesAlarm_23 C hR hf
  · replace hf := ite_t c14 hf
    refine g_iconst (v := (0 : Int32)) C dX0_givesAlarm_9 (by decide +kernel) ?_
    obtain rfl := Option.some.inj hf
    exact hR _ _ dX0_givesAlarm_10 isb0

-- X0_alarmAt
def f0_alarmAt_5b (come : Nat → Int32) (taints : Nat → Int32) (P0_N : Nat → Int32) (k5 : Int32 × Int32 × Int32 → Option (Int32)) (x2 : Int32) (x3 : Int32) (x4 : Int32) : Option (Int32) :=
  if (P0_N 0) ≤ x4 then
    (some (-1 : Int32))
    else ((f0_givesAlarm come taints P0_N x4).bind <| fun q2 =>
    if q2 = 0 then
    (k5 (x2, x3, (x4 + (1 : Int32))))
    else (if x3 = 0 then
    (some x4)
    else (k5 (x2, (x3 + (-1 : Int32)), (x4 + (1 : Int32))))))
def f0_alarmAt_5 (come : Nat → Int32) (taints : Nat → Int32) (P0_N : Nat → Int32) (n : Nat) (s : Int32 × Int32 × Int32) : Option (Int32) := itf (fun k s => f0_alarmAt_5b come taints P0_N k s.1 s.2.1 s.2.2) n s
def f0_alarmAt (come : Nat → Int32) (taints : Nat → Int32) (P0_N : Nat → Int32) (v1 : Int32) : Option (Int32) :=
  f0_alarmAt_5 come taints P0_N 1000 (v1, v1, (0 : Int32))
def rm0_alarmAt : Room := { frames := 2, cells := 0, slots := 0, locals := 45 }
theorem hm0_alarmAt_0 : ∀ w ∈ u_ws RX2 TX2 5, w ∈ wsX0_alarmAt := by decide +kernel
set_option maxHeartbeats 4000000 in
set_option maxRecDepth 100000 in
theorem k0_alarmAt_5b {p : Program} {l : Launch} {e : Env} {s : State} {m : MethodId} {args : Array Value} {below : List Frame} {meth : Method} {c : Code} {G : gG} {A : Nat → Prop} {Q : State → Prop} {fl fl_come fl_taints fl_knowns fl_outKnowns aq0 aq0_lines aq0_cells aq0_starts : Nat} (C : CX p s m args meth c G A cX0_alarmAt 5 RX0 wsX0_alarmAt) {knowns : Nat → Int32} {outKnowns : Nat → Int32} {outTaints : Int32} {changed : Int32} {come : Nat → Int32} {taints : Nat → Int32} {P0_N : Nat → Int32} {k5 : Int32 × Int32 × Int32 → Option (Int32)} {x2 : Int32} {x3 : Int32} {x4 : Int32} {res : Int32} (hR : ∀ (lv : List (Nat × Value)) (pc : Nat), decode cX0_alarmAt pc = .ok (.ireturn, 1) → GG p l e rm0_alarmAt s m args below meth c G A 5 0 0 Q [(fl, oB 0 [.ref fl_come, .ref fl_taints, .ref fl_knowns, .ref fl_outKnowns, .int outTaints, .int changed]), (fl_come, aZ G 21 come), (fl_taints, aI G 21 taints), (fl_knowns, aI G 126 knowns), (fl_outKnowns, aI G 6 outKnowns), (aq0, oB 2 [.ref aq0_lines, .ref aq0_cells, .ref aq0_starts, .int (P0_N 0), .int (P0_N 1)]), (aq0_lines, aI G 80 (fun j => P0_N (24 + j))), (aq0_cells, aI G 16 (fun j => P0_N (8 + j))), (aq0_starts, aI G 6 (fun j => P0_N (2 + j)))] lv pc [.int res])
    (hk5 : ∀ s', k5 s' = some res → GG p l e rm0_alarmAt s m args below meth c G A 5 0 0 Q [(fl, oB 0 [.ref fl_come, .ref fl_taints, .ref fl_knowns, .ref fl_outKnowns, .int outTaints, .int changed]), (fl_come, aZ G 21 come), (fl_taints, aI G 21 taints), (fl_knowns, aI G 126 knowns), (fl_outKnowns, aI G 6 outKnowns), (aq0, oB 2 [.ref aq0_lines, .ref aq0_cells, .ref aq0_starts, .int (P0_N 0), .int (P0_N 1)]), (aq0_lines, aI G 80 (fun j => P0_N (24 + j))), (aq0_cells, aI G 16 (fun j => P0_N (8 + j))), (aq0_starts, aI G 6 (fun j => P0_N (2 + j)))] [(0, .ref fl), (1, .ref aq0), (2, .int s'.1), (3, .int s'.2.1), (4, .int s'.2.2)] 5 [])
    (hf : f0_alarmAt_5b come taints P0_N k5 x2 x3 x4 = some res) : GG p l e rm0_alarmAt s m args below meth c G A 5 0 0 Q [(fl, oB 0 [.ref fl_come, .ref fl_taints, .ref fl_knowns, .ref fl_outKnowns, .int outTaints, .int changed]), (fl_come, aZ G 21 come), (fl_taints, aI G 21 taints), (fl_knowns, aI G 126 knowns), (fl_outKnowns, aI G 6 outKnowns), (aq0, oB 2 [.ref aq0_lines, .ref aq0_cells, .ref aq0_starts, .int (P0_N 0), .int (P0_N 1)]), (aq0_lines, aI G 80 (fun j => P0_N (24 + j))), (aq0_cells, aI G 16 (fun j => P0_N (8 + j))), (aq0_starts, aI G 6 (fun j => P0_N (2 + j)))] [(0, .ref fl), (1, .ref aq0), (2, .int x2), (3, .int x3), (4, .int x4)] 5 [] := by
  unfold f0_alarmAt_5b at hf
  refine g_iload C dX0_alarmAt_5 4 rfl ?_
  refine g_aload_n C dX0_alarmAt_7 rfl 1 rfl ?_
  refine g_getN (C0 := RX2) (T := TX2) (N := 5) (ci := 2) (v := .int (P0_N 0)) (host := "SecretSteps") C hm0_alarmAt_0 5 rfl rfl 3 (by decide) hn0_39 rfl dX0_alarmAt_8 ?_
  refine g_icmp_ge (tgt := 40) C dX0_alarmAt_11 (by decide) (fun c1 => ?_) (fun c1 => ?_)
  · replace hf := ite_t c1 hf
    refine g_iconst (v := (-1 : Int32)) C dX0_alarmAt_40 (by decide +kernel) ?_
    obtain rfl := Option.some.inj hf
    exact hR _ _ dX0_alarmAt_41
  · replace hf := ite_f c1 hf
    refine g_aload_n C dX0_alarmAt_14 rfl 0 rfl ?_
    refine g_aload_n C dX0_alarmAt_15 rfl 1 rfl ?_
    refine g_iload C dX0_alarmAt_16 4 rfl ?_
    obtain ⟨q2, hq2, hf⟩ := bs hf
    refine g_callVi (n := 2) (As := [.ref aq0, .int x4]) (rest := []) (wc := [(fl, oB 0 [.ref fl_come, .ref fl_taints, .ref fl_knowns, .ref fl_outKnowns, .int outTaints, .int changed]), (fl_come, aZ G 21 come), (fl_taints, aI G 21 taints), (fl_knowns, aI G 126 knowns), (fl_outKnowns, aI G 6 outKnowns), (aq0, oB 2 [.ref aq0_lines, .ref aq0_cells, .ref aq0_starts, .int (P0_N 0), .int (P0_N 1)]), (aq0_lines, aI G 80 (fun j => P0_N (24 + j))), (aq0_cells, aI G 16 (fun j => P0_N (8 + j))), (aq0_starts, aI G 6 (fun j => P0_N (2 + j)))]) (w1 := [(fl, oB 0 [.ref fl_come, .ref fl_taints, .ref fl_knowns, .ref fl_outKnowns, .int outTaints, .int changed]), (fl_come, aZ G 21 come), (fl_taints, aI G 21 taints), (fl_knowns, aI G 126 knowns), (fl_outKnowns, aI G 6 outKnowns), (aq0, oB 2 [.ref aq0_lines, .ref aq0_cells, .ref aq0_starts, .int (P0_N 0), .int (P0_N 1)]), (aq0_lines, aI G 80 (fun j => P0_N (24 + j))), (aq0_cells, aI G 16 (fun j => P0_N (8 + j))), (aq0_starts, aI G 6 (fun j => P0_N (2 + j)))]) (wr := []) (WS' := [(fl, oB 0 [.ref fl_come, .ref fl_taints, .ref fl_knowns, .ref fl_outKnowns, .int outTaints, .int changed]), (fl_come, aZ G 21 come), (fl_taints, aI G 21 taints), (fl_knowns, aI G 126 knowns), (fl_outKnowns, aI G 6 outKnowns), (aq0, oB 2 [.ref aq0_lines, .ref aq0_cells, .ref aq0_starts, .int (P0_N 0), .int (P0_N 1)]), (aq0_lines, aI G 80 (fun j => P0_N (24 + j))), (aq0_cells, aI G 16 (fun j => P0_N (8 + j))), (aq0_starts, aI G 6 (fun j => P0_N (2 + j)))]) C (c0_givesAlarm hq2) gX0_alarmAt_X0_givesAlarm (by decide +kernel) rfl rfl rfl rfl rfl rfl ⟨by decide, by decide⟩ rfl [0, 1, 2, 3, 4, 5, 6, 7, 8] [] [0, 1, 2, 3, 4, 5, 6, 7, 8] rfl (by decide) rfl (by decide) (by decide) rfl (by decide) (Nat.le_of_ble_eq_true rfl) ⟨Nat.zero_le _, Nat.zero_le _⟩ rfl dX0_alarmAt_18 ?_
    refine g_if_eq (tgt := 34) C dX0_alarmAt_21 (by decide) (fun c3 => ?_) (fun c3 => ?_)
    · replace hf := ite_t c3 hf
      refine g_iinc (v := (x4 + (1 : Int32))) (lv' := [(0, .ref fl), (1, .ref aq0), (2, .int x2), (3, .int x3), (4, .int (x4 + (1 : Int32)))]) C dX0_alarmAt_34 4 rfl rfl (by decide) [1, 2, 3, 4, 0] rfl ?_
      refine g_goto (tgt := 5) C dX0_alarmAt_37 (by decide) ?_
      exact hk5 _ hf
    · replace hf := ite_f c3 hf
      refine g_iload_n C dX0_alarmAt_24 rfl 3 rfl ?_
      refine g_if_ne (tgt := 31) C dX0_alarmAt_25 (by decide) (fun c4 => ?_) (fun c4 => ?_)
      · replace hf := ite_f c4 hf
        refine g_iinc (v := (x3 + (-1 : Int32))) (lv' := [(0, .ref fl), (1, .ref aq0), (2, .int x2), (3, .int (x3 + (-1 : Int32))), (4, .int x4)]) C dX0_alarmAt_31 3 rfl rfl (by decide) [1, 2, 3, 0, 4] rfl ?_
        refine g_iinc (v := (x4 + (1 : Int32))) (lv' := [(0, .ref fl), (1, .ref aq0), (2, .int x2), (3, .int (x3 + (-1 : Int32))), (4, .int (x4 + (1 : Int32)))]) C dX0_alarmAt_34 4 rfl rfl (by decide) [1, 2, 3, 4, 0] rfl ?_
        refine g_goto (tgt := 5) C dX0_alarmAt_37 (by decide) ?_
        exact hk5 _ hf
      · replace hf := ite_t c4 hf
        refine g_iload C dX0_alarmAt_28 4 rfl ?_
        obtain rfl := Option.some.inj hf
        exact hR _ _ dX0_alarmAt_30
set_option maxHeartbeats 4000000 in
set_option maxRecDepth 100000 in
theorem k0_alarmAt_5 {p : Program} {l : Launch} {e : Env} {s : State} {m : MethodId} {args : Array Value} {below : List Frame} {meth : Method} {c : Code} {G : gG} {A : Nat → Prop} {Q : State → Prop} {fl fl_come fl_taints fl_knowns fl_outKnowns aq0 aq0_lines aq0_cells aq0_starts : Nat} (C : CX p s m args meth c G A cX0_alarmAt 5 RX0 wsX0_alarmAt) {knowns : Nat → Int32} {outKnowns : Nat → Int32} {outTaints : Int32} {changed : Int32} {come : Nat → Int32} {taints : Nat → Int32} {P0_N : Nat → Int32} {res : Int32} (hR : ∀ (lv : List (Nat × Value)) (pc : Nat), decode cX0_alarmAt pc = .ok (.ireturn, 1) → GG p l e rm0_alarmAt s m args below meth c G A 5 0 0 Q [(fl, oB 0 [.ref fl_come, .ref fl_taints, .ref fl_knowns, .ref fl_outKnowns, .int outTaints, .int changed]), (fl_come, aZ G 21 come), (fl_taints, aI G 21 taints), (fl_knowns, aI G 126 knowns), (fl_outKnowns, aI G 6 outKnowns), (aq0, oB 2 [.ref aq0_lines, .ref aq0_cells, .ref aq0_starts, .int (P0_N 0), .int (P0_N 1)]), (aq0_lines, aI G 80 (fun j => P0_N (24 + j))), (aq0_cells, aI G 16 (fun j => P0_N (8 + j))), (aq0_starts, aI G 6 (fun j => P0_N (2 + j)))] lv pc [.int res]) : ∀ (n : Nat) (s1 : Int32 × Int32 × Int32), f0_alarmAt_5 come taints P0_N n s1 = some res → GG p l e rm0_alarmAt s m args below meth c G A 5 0 0 Q [(fl, oB 0 [.ref fl_come, .ref fl_taints, .ref fl_knowns, .ref fl_outKnowns, .int outTaints, .int changed]), (fl_come, aZ G 21 come), (fl_taints, aI G 21 taints), (fl_knowns, aI G 126 knowns), (fl_outKnowns, aI G 6 outKnowns), (aq0, oB 2 [.ref aq0_lines, .ref aq0_cells, .ref aq0_starts, .int (P0_N 0), .int (P0_N 1)]), (aq0_lines, aI G 80 (fun j => P0_N (24 + j))), (aq0_cells, aI G 16 (fun j => P0_N (8 + j))), (aq0_starts, aI G 6 (fun j => P0_N (2 + j)))] [(0, .ref fl), (1, .ref aq0), (2, .int s1.1), (3, .int s1.2.1), (4, .int s1.2.2)] 5 [] :=
  itf_ind (fun k s1 ih hf => k0_alarmAt_5b C hR ih hf)
set_option maxHeartbeats 4000000 in
set_option maxRecDepth 100000 in
theorem c0_alarmAt {l : Launch} {G : gG} {fl fl_come fl_taints fl_knowns fl_outKnowns aq0 aq0_lines aq0_cells aq0_starts : Nat} {come : Nat → Int32} {taints : Nat → Int32} {knowns : Nat → Int32} {outKnowns : Nat → Int32} {outTaints : Int32} {changed : Int32} {P0_N : Nat → Int32} {v1 : Int32} {res : Int32} (hf : f0_alarmAt come taints P0_N v1 = some res) : MI l yX0_alarmAt wsX0_alarmAt rm0_alarmAt G [.ref fl, .ref aq0, .int v1] [(fl, oB 0 [.ref fl_come, .ref fl_taints, .ref fl_knowns, .ref fl_outKnowns, .int outTaints, .int changed]), (fl_come, aZ G 21 come), (fl_taints, aI G 21 taints), (fl_knowns, aI G 126 knowns), (fl_outKnowns, aI G 6 outKnowns), (aq0, oB 2 [.ref aq0_lines, .ref aq0_cells, .ref aq0_starts, .int (P0_N 0), .int (P0_N 1)]), (aq0_lines, aI G 80 (fun j => P0_N (24 + j))), (aq0_cells, aI G 16 (fun j => P0_N (8 + j))), (aq0_starts, aI G 6 (fun j => P0_N (2 + j)))] (res) [(fl, oB 0 [.ref fl_come, .ref fl_taints, .ref fl_knowns, .ref fl_outKnowns, .int outTaints, .int changed]), (fl_come, aZ G 21 come), (fl_taints, aI G 21 taints), (fl_knowns, aI G 126 knowns), (fl_outKnowns, aI G 6 outKnowns), (aq0, oB 2 [.ref aq0_lines, .ref aq0_cells, .ref aq0_starts, .int (P0_N 0), .int (P0_N 1)]), (aq0_lines, aI G 80 (fun j => P0_N (24 + j))), (aq0_cells, aI G 16 (fun j => P0_N (8 + j))), (aq0_starts, aI G 6 (fun j => P0_N (2 + j)))] := by
  refine MI_of (res) (cc := cX0_alarmAt) (nL := 5) (lv := [(0, .ref fl), (1, .ref aq0), (2, .int v1)]) (by decide +kernel) rfl (Nat.le_of_ble_eq_true rfl) rfl ?_
  intro p e s m args below meth c A Q C hR
  unfold f0_alarmAt at hf
  refine g_iload_n C dX0_alarmAt_0 rfl 2 rfl ?_
  refine g_istore_n (lv' := [(0, .ref fl), (1, .ref aq0), (2, .int v1), (3, .int v1)]) C dX0_alarmAt_1 rfl (by decide) [1, 2, 3, 0] rfl ?_
  refine g_iconst (v := (0 : Int32)) C dX0_alarmAt_2 (by decide +kernel) ?_
  refine g_istore (lv' := [(0, .ref fl), (1, .ref aq0), (2, .int v1), (3, .int v1), (4, .int (0 : Int32))]) C dX0_alarmAt_3 (by decide) [1, 2, 3, 4, 0] rfl ?_
  exact k0_alarmAt_5 C hR _ _ hf

-- X0_accepts
def f0_accepts (come : Nat → Int32) (taints : Nat → Int32) (P0_N : Nat → Int32) : Option (Int32) :=
  (f0_alarmAt come taints P0_N (0 : Int32)).bind <| fun q1 =>
    if q1 = (-1 : Int32) then
    (some (1 : Int32))
    else (some (0 : Int32))
def rm0_accepts : Room := { frames := 3, cells := 0, slots := 0, locals := 69 }
set_option maxHeartbeats 4000000 in
set_option maxRecDepth 100000 in
theorem c0_accepts {l : Launch} {G : gG} {fl fl_come fl_taints fl_knowns fl_outKnowns aq0 aq0_lines aq0_cells aq0_starts : Nat} {come : Nat → Int32} {taints : Nat → Int32} {knowns : Nat → Int32} {outKnowns : Nat → Int32} {outTaints : Int32} {changed : Int32} {P0_N : Nat → Int32} {res : Int32} (hf : f0_accepts come taints P0_N = some res) : MI l yX0_accepts wsX0_accepts rm0_accepts G [.ref fl, .ref aq0] [(fl, oB 0 [.ref fl_come, .ref fl_taints, .ref fl_knowns, .ref fl_outKnowns, .int outTaints, .int changed]), (fl_come, aZ G 21 come), (fl_taints, aI G 21 taints), (fl_knowns, aI G 126 knowns), (fl_outKnowns, aI G 6 outKnowns), (aq0, oB 2 [.ref aq0_lines, .ref aq0_cells, .ref aq0_starts, .int (P0_N 0), .int (P0_N 1)]), (aq0_lines, aI G 80 (fun j => P0_N (24 + j))), (aq0_cells, aI G 16 (fun j => P0_N (8 + j))), (aq0_starts, aI G 6 (fun j => P0_N (2 + j)))] (res) [(fl, oB 0 [.ref fl_come, .ref fl_taints, .ref fl_knowns, .ref fl_outKnowns, .int outTaints, .int changed]), (fl_come, aZ G 21 come), (fl_taints, aI G 21 taints), (fl_knowns, aI G 126 knowns), (fl_outKnowns, aI G 6 outKnowns), (aq0, oB 2 [.ref aq0_lines, .ref aq0_cells, .ref aq0_starts, .int (P0_N 0), .int (P0_N 1)]), (aq0_lines, aI G 80 (fun j => P0_N (24 + j))), (aq0_cells, aI G 16 (fun j => P0_N (8 + j))), (aq0_starts, aI G 6 (fun j => P0_N (2 + j)))] := by
  refine MI_of (res) (cc := cX0_accepts) (nL := 2) (lv := [(0, .ref fl), (1, .ref aq0)]) (by decide +kernel) rfl (Nat.le_of_ble_eq_true rfl) rfl ?_
  intro p e s m args below meth c A Q C hR
  unfold f0_accepts at hf
  refine g_aload_n C dX0_accepts_0 rfl 0 rfl ?_
  refine g_aload_n C dX0_accepts_1 rfl 1 rfl ?_
  refine g_iconst (v := (0 : Int32)) C dX0_accepts_2 (by decide +kernel) ?_
  obtain ⟨q1, hq1, hf⟩ := bs hf
  refine g_callVi (n := 2) (As := [.ref aq0, .int (0 : Int32)]) (rest := []) (wc := [(fl, oB 0 [.ref fl_come, .ref fl_taints, .ref fl_knowns, .ref fl_outKnowns, .int outTaints, .int changed]), (fl_come, aZ G 21 come), (fl_taints, aI G 21 taints), (fl_knowns, aI G 126 knowns), (fl_outKnowns, aI G 6 outKnowns), (aq0, oB 2 [.ref aq0_lines, .ref aq0_cells, .ref aq0_starts, .int (P0_N 0), .int (P0_N 1)]), (aq0_lines, aI G 80 (fun j => P0_N (24 + j))), (aq0_cells, aI G 16 (fun j => P0_N (8 + j))), (aq0_starts, aI G 6 (fun j => P0_N (2 + j)))]) (w1 := [(fl, oB 0 [.ref fl_come, .ref fl_taints, .ref fl_knowns, .ref fl_outKnowns, .int outTaints, .int changed]), (fl_come, aZ G 21 come), (fl_taints, aI G 21 taints), (fl_knowns, aI G 126 knowns), (fl_outKnowns, aI G 6 outKnowns), (aq0, oB 2 [.ref aq0_lines, .ref aq0_cells, .ref aq0_starts, .int (P0_N 0), .int (P0_N 1)]), (aq0_lines, aI G 80 (fun j => P0_N (24 + j))), (aq0_cells, aI G 16 (fun j => P0_N (8 + j))), (aq0_starts, aI G 6 (fun j => P0_N (2 + j)))]) (wr := []) (WS' := [(fl, oB 0 [.ref fl_come, .ref fl_taints, .ref fl_knowns, .ref fl_outKnowns, .int outTaints, .int changed]), (fl_come, aZ G 21 come), (fl_taints, aI G 21 taints), (fl_knowns, aI G 126 knowns), (fl_outKnowns, aI G 6 outKnowns), (aq0, oB 2 [.ref aq0_lines, .ref aq0_cells, .ref aq0_starts, .int (P0_N 0), .int (P0_N 1)]), (aq0_lines, aI G 80 (fun j => P0_N (24 + j))), (aq0_cells, aI G 16 (fun j => P0_N (8 + j))), (aq0_starts, aI G 6 (fun j => P0_N (2 + j)))]) C (c0_alarmAt hq1) gX0_accepts_X0_alarmAt (by decide +kernel) rfl rfl rfl rfl rfl rfl ⟨by decide, by decide⟩ rfl [0, 1, 2, 3, 4, 5, 6, 7, 8] [] [0, 1, 2, 3, 4, 5, 6, 7, 8] rfl (by decide) rfl (by decide) (by decide) rfl (by decide) (Nat.le_of_ble_eq_true rfl) ⟨Nat.zero_le _, Nat.zero_le _⟩ rfl dX0_accepts_3 ?_
  refine g_iconst (v := (-1 : Int32)) C dX0_accepts_6 (by decide +kernel) ?_
  refine g_icmp_ne (tgt := 14) C dX0_accepts_7 (by decide) (fun c2 => ?_) (fun c2 => ?_)
  · replace hf := ite_f c2 hf
    refine g_iconst (v := (0 : Int32)) C dX0_accepts_14 (by decide +kernel) ?_
    obtain rfl := Option.some.inj hf
    exact hR _ _ dX0_accepts_15
  · replace hf := ite_t c2 hf
    refine g_iconst (v := (1 : Int32)) C dX0_accepts_10 (by decide +kernel) ?_
    refine g_goto (tgt := 15) C dX0_accepts_11 (by decide) ?_
    obtain rfl := Option.some.inj hf
    exact hR _ _ dX0_accepts_15

-- X0_mixInto
def f0_mixInto_32b (come : Nat → Int32) (taints : Nat → Int32) (knowns : Nat → Int32) (k3 : Int64 × Int32 × Int32 → Option (Int64)) (k32 : Int64 × Int32 × Int32 × Int32 → Option (Int64)) (x1 : Int64) (x3 : Int32) (x4 : Int32) (x5 : Int32) : Option (Int64) :=
  if (6 : Int32) ≤ x5 then
    (k3 (x1, x3, (x4 + (1 : Int32))))
    else ((f0_taintOf taints x4 x5).bind <| fun q2 =>
    (f0_knownOf knowns x4 x5).bind <| fun q3 =>
    k32 ((((31 : Int64) * (((31 : Int64) * x1) + q2.toInt64)) + q3.toInt64), x3, x4, (x5 + (1 : Int32))))
def f0_mixInto_32 (come : Nat → Int32) (taints : Nat → Int32) (knowns : Nat → Int32) (k3 : Int64 × Int32 × Int32 → Option (Int64)) (n : Nat) (s : Int64 × Int32 × Int32 × Int32) : Option (Int64) := itf (fun k s => f0_mixInto_32b come taints knowns k3 k s.1 s.2.1 s.2.2.1 s.2.2.2) n s
def f0_mixInto_3b (come : Nat → Int32) (taints : Nat → Int32) (knowns : Nat → Int32) (k3 : Int64 × Int32 × Int32 → Option (Int64)) (x1 : Int64) (x3 : Int32) (x4 : Int32) : Option (Int64) :=
  if x3 < x4 then
    (some x1)
    else (ck (inb x4 21) <|
    if (come x4.toNatClampNeg) = 0 then
    (k3 (x1, x3, (x4 + (1 : Int32))))
    else (f0_mixInto_32 come taints knowns k3 1000 ((((31 : Int64) * x1) + x4.toInt64), x3, x4, (0 : Int32))))
def f0_mixInto_3 (come : Nat → Int32) (taints : Nat → Int32) (knowns : Nat → Int32) (n : Nat) (s : Int64 × Int32 × Int32) : Option (Int64) := itf (fun k s => f0_mixInto_3b come taints knowns k s.1 s.2.1 s.2.2) n s
def f0_mixInto (come : Nat → Int32) (taints : Nat → Int32) (knowns : Nat → Int32) (v0 : Int64) (v1 : Int32) : Option (Int64) :=
  f0_mixInto_3 come taints knowns 1000 (v0, v1, (0 : Int32))
def rm0_mixInto : Room := { frames := 1, cells := 0, slots := 0, locals := 22 }
theorem hm0_mixInto_0 : Cond.constantLong RX0 107 (31) ∈ wsX0_mixInto := by decide +kernel
theorem hm0_mixInto_1 : ∀ w ∈ u_ws RX0 TX0 6, w ∈ wsX0_mixInto := by decide +kernel
theorem hm0_mixInto_2 : Cond.fieldLink RX0 11 "SecretSteps$Flow" "come" "[Z" ∈ wsX0_mixInto := by decide +kernel
set_option maxHeartbeats 4000000 in
set_option maxRecDepth 100000 in
theorem k0_mixInto_32b {p : Program} {l : Launch} {e : Env} {s : State} {m : MethodId} {args : Array Value} {below : List Frame} {meth : Method} {c : Code} {G : gG} {A : Nat → Prop} {Q : State → Prop} {fl fl_come fl_taints fl_knowns fl_outKnowns : Nat} (C : CX p s m args meth c G A cX0_mixInto 6 RX0 wsX0_mixInto) {outKnowns : Nat → Int32} {outTaints : Int32} {changed : Int32} {come : Nat → Int32} {taints : Nat → Int32} {knowns : Nat → Int32} {k3 : Int64 × Int32 × Int32 → Option (Int64)} {k32 : Int64 × Int32 × Int32 × Int32 → Option (Int64)} {x1 : Int64} {x3 : Int32} {x4 : Int32} {x5 : Int32} {res : Int64} (hR : ∀ (lv : List (Nat × Value)) (pc : Nat), decode cX0_mixInto pc = .ok (.lreturn, 1) → GG p l e rm0_mixInto s m args below meth c G A 6 0 0 Q [(fl, oB 0 [.ref fl_come, .ref fl_taints, .ref fl_knowns, .ref fl_outKnowns, .int outTaints, .int changed]), (fl_come, aZ G 21 come), (fl_taints, aI G 21 taints), (fl_knowns, aI G 126 knowns), (fl_outKnowns, aI G 6 outKnowns)] lv pc [.long res])
    (hk3 : ∀ s', k3 s' = some res → GG p l e rm0_mixInto s m args below meth c G A 6 0 0 Q [(fl, oB 0 [.ref fl_come, .ref fl_taints, .ref fl_knowns, .ref fl_outKnowns, .int outTaints, .int changed]), (fl_come, aZ G 21 come), (fl_taints, aI G 21 taints), (fl_knowns, aI G 126 knowns), (fl_outKnowns, aI G 6 outKnowns)] [(0, .ref fl), (1, .long s'.1), (3, .int s'.2.1), (4, .int s'.2.2)] 3 [])
    (hk32 : ∀ s', k32 s' = some res → GG p l e rm0_mixInto s m args below meth c G A 6 0 0 Q [(fl, oB 0 [.ref fl_come, .ref fl_taints, .ref fl_knowns, .ref fl_outKnowns, .int outTaints, .int changed]), (fl_come, aZ G 21 come), (fl_taints, aI G 21 taints), (fl_knowns, aI G 126 knowns), (fl_outKnowns, aI G 6 outKnowns)] [(0, .ref fl), (1, .long s'.1), (3, .int s'.2.1), (4, .int s'.2.2.1), (5, .int s'.2.2.2)] 32 [])
    (hf : f0_mixInto_32b come taints knowns k3 k32 x1 x3 x4 x5 = some res) : GG p l e rm0_mixInto s m args below meth c G A 6 0 0 Q [(fl, oB 0 [.ref fl_come, .ref fl_taints, .ref fl_knowns, .ref fl_outKnowns, .int outTaints, .int changed]), (fl_come, aZ G 21 come), (fl_taints, aI G 21 taints), (fl_knowns, aI G 126 knowns), (fl_outKnowns, aI G 6 outKnowns)] [(0, .ref fl), (1, .long x1), (3, .int x3), (4, .int x4), (5, .int x5)] 32 [] := by
  unfold f0_mixInto_32b at hf
  refine g_iload C dX0_mixInto_32 4 rfl ?_
  refine g_bipush (v := (6 : Int32)) C dX0_mixInto_34 (by decide +kernel) ?_
  refine g_icmp_ge (tgt := 77) C dX0_mixInto_36 (by decide) (fun c1 => ?_) (fun c1 => ?_)
  · replace hf := ite_t c1 hf
    refine g_iinc (v := (x4 + (1 : Int32))) (lv' := [(0, .ref fl), (1, .long x1), (3, .int x3), (4, .int (x4 + (1 : Int32))), (5, .int x5)]) C dX0_mixInto_77 3 rfl rfl (by decide) [1, 2, 3, 0, 4] rfl ?_
    refine g_goto (tgt := 3) C dX0_mixInto_80 (by decide) ?_
    refine g_lv (lv' := [(0, .ref fl), (1, .long x1), (3, .int x3), (4, .int (x4 + (1 : Int32)))]) [0, 1, 2, 3] rfl ?_
    exact hk3 _ hf
  · replace hf := ite_f c1 hf
    refine g_ldc2 C hm0_mixInto_0 dX0_mixInto_39 ?_
    refine g_lload_n C dX0_mixInto_42 rfl 1 rfl ?_
    refine g_lmul C dX0_mixInto_43 ?_
    refine g_aload_n C dX0_mixInto_44 rfl 0 rfl ?_
    refine g_iload C dX0_mixInto_45 3 rfl ?_
    refine g_iload C dX0_mixInto_47 4 rfl ?_
    obtain ⟨q2, hq2, hf⟩ := bs hf
    refine g_callVi (n := 2) (As := [.int x4, .int x5]) (rest := [.long ((31 : Int64) * x1)]) (wc := [(fl, oB 0 [.ref fl_come, .ref fl_taints, .ref fl_knowns, .ref fl_outKnowns, .int outTaints, .int changed]), (fl_come, aZ G 21 come), (fl_taints, aI G 21 taints), (fl_knowns, aI G 126 knowns), (fl_outKnowns, aI G 6 outKnowns)]) (w1 := [(fl, oB 0 [.ref fl_come, .ref fl_taints, .ref fl_knowns, .ref fl_outKnowns, .int outTaints, .int changed]), (fl_come, aZ G 21 come), (fl_taints, aI G 21 taints), (fl_knowns, aI G 126 knowns), (fl_outKnowns, aI G 6 outKnowns)]) (wr := []) (WS' := [(fl, oB 0 [.ref fl_come, .ref fl_taints, .ref fl_knowns, .ref fl_outKnowns, .int outTaints, .int changed]), (fl_come, aZ G 21 come), (fl_taints, aI G 21 taints), (fl_knowns, aI G 126 knowns), (fl_outKnowns, aI G 6 outKnowns)]) C (c0_taintOf hq2) gX0_mixInto_X0_taintOf (by decide +kernel) rfl rfl rfl rfl rfl rfl ⟨by decide, by decide⟩ rfl [0, 1, 2, 3, 4] [] [0, 1, 2, 3, 4] rfl (by decide) rfl (by decide) (by decide) rfl (by decide) (Nat.le_of_ble_eq_true rfl) ⟨Nat.zero_le _, Nat.zero_le _⟩ rfl dX0_mixInto_49 ?_
    refine g_i2l C dX0_mixInto_52 ?_
    refine g_ladd C dX0_mixInto_53 ?_
    refine g_lstore_n (lv' := [(0, .ref fl), (1, .long (((31 : Int64) * x1) + q2.toInt64)), (3, .int x3), (4, .int x4), (5, .int x5)]) C dX0_mixInto_54 rfl (by decide) [1, 0, 2, 3, 4] rfl ?_
    refine g_ldc2 C hm0_mixInto_0 dX0_mixInto_55 ?_
    refine g_lload_n C dX0_mixInto_58 rfl 1 rfl ?_
    refine g_lmul C dX0_mixInto_59 ?_
    refine g_aload_n C dX0_mixInto_60 rfl 0 rfl ?_
    refine g_iload C dX0_mixInto_61 3 rfl ?_
    refine g_iload C dX0_mixInto_63 4 rfl ?_
    obtain ⟨q3, hq3, hf⟩ := bs hf
    refine g_callVi (n := 2) (As := [.int x4, .int x5]) (rest := [.long ((31 : Int64) * (((31 : Int64) * x1) + q2.toInt64))]) (wc := [(fl, oB 0 [.ref fl_come, .ref fl_taints, .ref fl_knowns, .ref fl_outKnowns, .int outTaints, .int changed]), (fl_come, aZ G 21 come), (fl_taints, aI G 21 taints), (fl_knowns, aI G 126 knowns), (fl_outKnowns, aI G 6 outKnowns)]) (w1 := [(fl, oB 0 [.ref fl_come, .ref fl_taints, .ref fl_knowns, .ref fl_outKnowns, .int outTaints, .int changed]), (fl_come, aZ G 21 come), (fl_taints, aI G 21 taints), (fl_knowns, aI G 126 knowns), (fl_outKnowns, aI G 6 outKnowns)]) (wr := []) (WS' := [(fl, oB 0 [.ref fl_come, .ref fl_taints, .ref fl_knowns, .ref fl_outKnowns, .int outTaints, .int changed]), (fl_come, aZ G 21 come), (fl_taints, aI G 21 taints), (fl_knowns, aI G 126 knowns), (fl_outKnowns, aI G 6 outKnowns)]) C (c0_knownOf hq3) gX0_mixInto_X0_knownOf (by decide +kernel) rfl rfl rfl rfl rfl rfl ⟨by decide, by decide⟩ rfl [0, 1, 2, 3, 4] [] [0, 1, 2, 3, 4] rfl (by decide) rfl (by decide) (by decide) rfl (by decide) (Nat.le_of_ble_eq_true rfl) ⟨Nat.zero_le _, Nat.zero_le _⟩ rfl dX0_mixInto_65 ?_
    refine g_i2l C dX0_mixInto_68 ?_
    refine g_ladd C dX0_mixInto_69 ?_
    refine g_lstore_n (lv' := [(0, .ref fl), (1, .long (((31 : Int64) * (((31 : Int64) * x1) + q2.toInt64)) + q3.toInt64)), (3, .int x3), (4, .int x4), (5, .int x5)]) C dX0_mixInto_70 rfl (by decide) [1, 0, 2, 3, 4] rfl ?_
    refine g_iinc (v := (x5 + (1 : Int32))) (lv' := [(0, .ref fl), (1, .long (((31 : Int64) * (((31 : Int64) * x1) + q2.toInt64)) + q3.toInt64)), (3, .int x3), (4, .int x4), (5, .int (x5 + (1 : Int32)))]) C dX0_mixInto_71 4 rfl rfl (by decide) [1, 2, 3, 4, 0] rfl ?_
    refine g_goto (tgt := 32) C dX0_mixInto_74 (by decide) ?_
    exact hk32 _ hf
set_option maxHeartbeats 4000000 in
set_option maxRecDepth 100000 in
theorem k0_mixInto_32 {p : Program} {l : Launch} {e : Env} {s : State} {m : MethodId} {args : Array Value} {below : List Frame} {meth : Method} {c : Code} {G : gG} {A : Nat → Prop} {Q : State → Prop} {fl fl_come fl_taints fl_knowns fl_outKnowns : Nat} (C : CX p s m args meth c G A cX0_mixInto 6 RX0 wsX0_mixInto) {outKnowns : Nat → Int32} {outTaints : Int32} {changed : Int32} {come : Nat → Int32} {taints : Nat → Int32} {knowns : Nat → Int32} {k3 : Int64 × Int32 × Int32 → Option (Int64)} {res : Int64} (hR : ∀ (lv : List (Nat × Value)) (pc : Nat), decode cX0_mixInto pc = .ok (.lreturn, 1) → GG p l e rm0_mixInto s m args below meth c G A 6 0 0 Q [(fl, oB 0 [.ref fl_come, .ref fl_taints, .ref fl_knowns, .ref fl_outKnowns, .int outTaints, .int changed]), (fl_come, aZ G 21 come), (fl_taints, aI G 21 taints), (fl_knowns, aI G 126 knowns), (fl_outKnowns, aI G 6 outKnowns)] lv pc [.long res])
    (hk3 : ∀ s', k3 s' = some res → GG p l e rm0_mixInto s m args below meth c G A 6 0 0 Q [(fl, oB 0 [.ref fl_come, .ref fl_taints, .ref fl_knowns, .ref fl_outKnowns, .int outTaints, .int changed]), (fl_come, aZ G 21 come), (fl_taints, aI G 21 taints), (fl_knowns, aI G 126 knowns), (fl_outKnowns, aI G 6 outKnowns)] [(0, .ref fl), (1, .long s'.1), (3, .int s'.2.1), (4, .int s'.2.2)] 3 []) : ∀ (n : Nat) (s1 : Int64 × Int32 × Int32 × Int32), f0_mixInto_32 come taints knowns k3 n s1 = some res → GG p l e rm0_mixInto s m args below meth c G A 6 0 0 Q [(fl, oB 0 [.ref fl_come, .ref fl_taints, .ref fl_knowns, .ref fl_outKnowns, .int outTaints, .int changed]), (fl_come, aZ G 21 come), (fl_taints, aI G 21 taints), (fl_knowns, aI G 126 knowns), (fl_outKnowns, aI G 6 outKnowns)] [(0, .ref fl), (1, .long s1.1), (3, .int s1.2.1), (4, .int s1.2.2.1), (5, .int s1.2.2.2)] 32 [] :=
  itf_ind (fun k s1 ih hf => k0_mixInto_32b C hR hk3 ih hf)
set_option maxHeartbeats 4000000 in
set_option maxRecDepth 100000 in
theorem k0_mixInto_3b {p : Program} {l : Launch} {e : Env} {s : State} {m : MethodId} {args : Array Value} {below : List Frame} {meth : Method} {c : Code} {G : gG} {A : Nat → Prop} {Q : State → Prop} {fl fl_come fl_taints fl_knowns fl_outKnowns : Nat} (C : CX p s m args meth c G A cX0_mixInto 6 RX0 wsX0_mixInto) {outKnowns : Nat → Int32} {outTaints : Int32} {changed : Int32} {come : Nat → Int32} {taints : Nat → Int32} {knowns : Nat → Int32} {k3 : Int64 × Int32 × Int32 → Option (Int64)} {x1 : Int64} {x3 : Int32} {x4 : Int32} {res : Int64} (hR : ∀ (lv : List (Nat × Value)) (pc : Nat), decode cX0_mixInto pc = .ok (.lreturn, 1) → GG p l e rm0_mixInto s m args below meth c G A 6 0 0 Q [(fl, oB 0 [.ref fl_come, .ref fl_taints, .ref fl_knowns, .ref fl_outKnowns, .int outTaints, .int changed]), (fl_come, aZ G 21 come), (fl_taints, aI G 21 taints), (fl_knowns, aI G 126 knowns), (fl_outKnowns, aI G 6 outKnowns)] lv pc [.long res])
    (hk3 : ∀ s', k3 s' = some res → GG p l e rm0_mixInto s m args below meth c G A 6 0 0 Q [(fl, oB 0 [.ref fl_come, .ref fl_taints, .ref fl_knowns, .ref fl_outKnowns, .int outTaints, .int changed]), (fl_come, aZ G 21 come), (fl_taints, aI G 21 taints), (fl_knowns, aI G 126 knowns), (fl_outKnowns, aI G 6 outKnowns)] [(0, .ref fl), (1, .long s'.1), (3, .int s'.2.1), (4, .int s'.2.2)] 3 [])
    (hf : f0_mixInto_3b come taints knowns k3 x1 x3 x4 = some res) : GG p l e rm0_mixInto s m args below meth c G A 6 0 0 Q [(fl, oB 0 [.ref fl_come, .ref fl_taints, .ref fl_knowns, .ref fl_outKnowns, .int outTaints, .int changed]), (fl_come, aZ G 21 come), (fl_taints, aI G 21 taints), (fl_knowns, aI G 126 knowns), (fl_outKnowns, aI G 6 outKnowns)] [(0, .ref fl), (1, .long x1), (3, .int x3), (4, .int x4)] 3 [] := by
  unfold f0_mixInto_3b at hf
  refine g_iload C dX0_mixInto_3 3 rfl ?_
  refine g_iload_n C dX0_mixInto_5 rfl 2 rfl ?_
  refine g_icmp_gt (tgt := 83) C dX0_mixInto_6 (by decide) (fun c4 => ?_) (fun c4 => ?_)
  · replace hf := ite_t c4 hf
    refine g_lload_n C dX0_mixInto_83 rfl 1 rfl ?_
    obtain rfl := Option.some.inj hf
    exact hR _ _ dX0_mixInto_84
  · replace hf := ite_f c4 hf
    refine g_aload_n C dX0_mixInto_9 rfl 0 rfl ?_
    refine g_get (C0 := RX0) (T := TX0) (N := 6) (ci := 0) (v := .ref fl_come) C hm0_mixInto_1 0 rfl rfl 0 (by decide) hm0_mixInto_2 rfl dX0_mixInto_10 ?_
    refine g_iload C dX0_mixInto_13 3 rfl ?_
    obtain ⟨h5, hf⟩ := ck_some hf
    refine g_zald (n := 21) (v := (come x4.toNatClampNeg)) C 1 rfl h5 rfl rfl dX0_mixInto_15 ?_
    refine g_if_eq (tgt := 77) C dX0_mixInto_16 (by decide) (fun c6 => ?_) (fun c6 => ?_)
    · replace hf := ite_t c6 hf
      refine g_iinc (v := (x4 + (1 : Int32))) (lv' := [(0, .ref fl), (1, .long x1), (3, .int x3), (4, .int (x4 + (1 : Int32)))]) C dX0_mixInto_77 3 rfl rfl (by decide) [1, 2, 3, 0] rfl ?_
      refine g_goto (tgt := 3) C dX0_mixInto_80 (by decide) ?_
      exact hk3 _ hf
    · replace hf := ite_f c6 hf
      refine g_ldc2 C hm0_mixInto_0 dX0_mixInto_19 ?_
      refine g_lload_n C dX0_mixInto_22 rfl 1 rfl ?_
      refine g_lmul C dX0_mixInto_23 ?_
      refine g_iload C dX0_mixInto_24 3 rfl ?_
      refine g_i2l C dX0_mixInto_26 ?_
      refine g_ladd C dX0_mixInto_27 ?_
      refine g_lstore_n (lv' := [(0, .ref fl), (1, .long (((31 : Int64) * x1) + x4.toInt64)), (3, .int x3), (4, .int x4)]) C dX0_mixInto_28 rfl (by decide) [1, 0, 2, 3] rfl ?_
      refine g_iconst (v := (0 : Int32)) C dX0_mixInto_29 (by decide +kernel) ?_
      refine g_istore (lv' := [(0, .ref fl), (1, .long (((31 : Int64) * x1) + x4.toInt64)), (3, .int x3), (4, .int x4), (5, .int (0 : Int32))]) C dX0_mixInto_30 (by decide) [1, 2, 3, 4, 0] rfl ?_
      exact k0_mixInto_32 C hR hk3 _ _ hf
set_option maxHeartbeats 4000000 in
set_option maxRecDepth 100000 in
theorem k0_mixInto_3 {p : Program} {l : Launch} {e : Env} {s : State} {m : MethodId} {args : Array Value} {below : List Frame} {meth : Method} {c : Code} {G : gG} {A : Nat → Prop} {Q : State → Prop} {fl fl_come fl_taints fl_knowns fl_outKnowns : Nat} (C : CX p s m args meth c G A cX0_mixInto 6 RX0 wsX0_mixInto) {outKnowns : Nat → Int32} {outTaints : Int32} {changed : Int32} {come : Nat → Int32} {taints : Nat → Int32} {knowns : Nat → Int32} {res : Int64} (hR : ∀ (lv : List (Nat × Value)) (pc : Nat), decode cX0_mixInto pc = .ok (.lreturn, 1) → GG p l e rm0_mixInto s m args below meth c G A 6 0 0 Q [(fl, oB 0 [.ref fl_come, .ref fl_taints, .ref fl_knowns, .ref fl_outKnowns, .int outTaints, .int changed]), (fl_come, aZ G 21 come), (fl_taints, aI G 21 taints), (fl_knowns, aI G 126 knowns), (fl_outKnowns, aI G 6 outKnowns)] lv pc [.long res]) : ∀ (n : Nat) (s1 : Int64 × Int32 × Int32), f0_mixInto_3 come taints knowns n s1 = some res → GG p l e rm0_mixInto s m args below meth c G A 6 0 0 Q [(fl, oB 0 [.ref fl_come, .ref fl_taints, .ref fl_knowns, .ref fl_outKnowns, .int outTaints, .int changed]), (fl_come, aZ G 21 come), (fl_taints, aI G 21 taints), (fl_knowns, aI G 126 knowns), (fl_outKnowns, aI G 6 outKnowns)] [(0, .ref fl), (1, .long s1.1), (3, .int s1.2.1), (4, .int s1.2.2)] 3 [] :=
  itf_ind (fun k s1 ih hf => k0_mixInto_3b C hR ih hf)
set_option maxHeartbeats 4000000 in
set_option maxRecDepth 100000 in
theorem c0_mixInto {l : Launch} {G : gG} {fl fl_come fl_taints fl_knowns fl_outKnowns : Nat} {come : Nat → Int32} {taints : Nat → Int32} {knowns : Nat → Int32} {outKnowns : Nat → Int32} {outTaints : Int32} {changed : Int32} {v0 : Int64} {v1 : Int32} {res : Int64} (hf : f0_mixInto come taints knowns v0 v1 = some res) : ML l yX0_mixInto wsX0_mixInto rm0_mixInto G [.ref fl, .long v0, .int v1] [(fl, oB 0 [.ref fl_come, .ref fl_taints, .ref fl_knowns, .ref fl_outKnowns, .int outTaints, .int changed]), (fl_come, aZ G 21 come), (fl_taints, aI G 21 taints), (fl_knowns, aI G 126 knowns), (fl_outKnowns, aI G 6 outKnowns)] (res) [(fl, oB 0 [.ref fl_come, .ref fl_taints, .ref fl_knowns, .ref fl_outKnowns, .int outTaints, .int changed]), (fl_come, aZ G 21 come), (fl_taints, aI G 21 taints), (fl_knowns, aI G 126 knowns), (fl_outKnowns, aI G 6 outKnowns)] := by
  refine ML_of (res) (cc := cX0_mixInto) (nL := 6) (lv := [(0, .ref fl), (1, .long v0), (3, .int v1)]) (by decide +kernel) rfl (Nat.le_of_ble_eq_true rfl) rfl ?_
  intro p e s m args below meth c A Q C hR
  unfold f0_mixInto at hf
  refine g_iconst (v := (0 : Int32)) C dX0_mixInto_0 (by decide +kernel) ?_
  refine g_istore (lv' := [(0, .ref fl), (1, .long v0), (3, .int v1), (4, .int (0 : Int32))]) C dX0_mixInto_1 (by decide) [1, 2, 3, 0] rfl ?_
  exact k0_mixInto_3 C hR _ _ hf
