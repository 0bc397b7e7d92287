-- X4_pack
def f4_pack_67 (O0_sights : Nat → Int32) (O0_seenCount : Int32) (k8 : (Nat → Int64) × Int32 × Int32 × Int32 → Option ((Nat → Int64))) (packed : Nat → Int64) (x2 : Int32) (x3 : Int32) (x4 : Int32) (x5 : Int64) (x7 : Int32) : Option ((Nat → Int64)) :=
  ck (inb x4 2816) <|
    k8 ((vp_updL packed x4.toNatClampNeg x5), x2, x3, (x4 + (1 : Int32)))
def f4_pack_57 (O0_sights : Nat → Int32) (O0_seenCount : Int32) (k8 : (Nat → Int64) × Int32 × Int32 × Int32 → Option ((Nat → Int64))) (k28 : (Nat → Int64) × Int32 × Int32 × Int32 × Int64 × Int32 → Option ((Nat → Int64))) (packed : Nat → Int64) (x2 : Int32) (x3 : Int32) (x4 : Int32) (x5 : Int64) (x7 : Int32) (y0 : Int64) (y1 : Int32) : Option ((Nat → Int64)) :=
  k28 (packed, x2, (x3 + (1 : Int32)), x4, (y0 ||| y1.toInt64), x7)
def f4_pack_28b (O0_sights : Nat → Int32) (O0_seenCount : Int32) (k8 : (Nat → Int64) × Int32 × Int32 × Int32 → Option ((Nat → Int64))) (k28 : (Nat → Int64) × Int32 × Int32 × Int32 × Int64 × Int32 → Option ((Nat → Int64))) (packed : Nat → Int64) (x2 : Int32) (x3 : Int32) (x4 : Int32) (x5 : Int64) (x7 : Int32) : Option ((Nat → Int64)) :=
  if x7 ≤ x3 then
    (f4_pack_67 O0_sights O0_seenCount k8 packed x2 x3 x4 x5 x7)
    else (if O0_seenCount ≤ x3 then
    (f4_pack_57 O0_sights O0_seenCount k8 k28 packed x2 x3 x4 x5 x7 (sl64 x5 (10 : Int32)) (0 : Int32))
    else (ck (inb x3 61) <|
    f4_pack_57 O0_sights O0_seenCount k8 k28 packed x2 x3 x4 x5 x7 (sl64 x5 (10 : Int32)) (O0_sights x3.toNatClampNeg)))
def f4_pack_28 (O0_sights : Nat → Int32) (O0_seenCount : Int32) (k8 : (Nat → Int64) × Int32 × Int32 × Int32 → Option ((Nat → Int64))) (n : Nat) (s : (Nat → Int64) × Int32 × Int32 × Int32 × Int64 × Int32) : Option ((Nat → Int64)) := itf (fun k s => f4_pack_28b O0_sights O0_seenCount k8 k s.1 s.2.1 s.2.2.1 s.2.2.2.1 s.2.2.2.2.1 s.2.2.2.2.2) n s
def f4_pack_8b (O0_sights : Nat → Int32) (O0_seenCount : Int32) (k8 : (Nat → Int64) × Int32 × Int32 × Int32 → Option ((Nat → Int64))) (packed : Nat → Int64) (x2 : Int32) (x3 : Int32) (x4 : Int32) : Option ((Nat → Int64)) :=
  if ((x2 + (1 : Int32)) * (11 : Int32)) ≤ x4 then
    (some packed)
    else (f4_pack_28 O0_sights O0_seenCount k8 1000 (packed, x2, x3, x4, (0 : Int64), (x3 + (6 : Int32))))
def f4_pack_8 (O0_sights : Nat → Int32) (O0_seenCount : Int32) (n : Nat) (s : (Nat → Int64) × Int32 × Int32 × Int32) : Option ((Nat → Int64)) := itf (fun k s => f4_pack_8b O0_sights O0_seenCount k s.1 s.2.1 s.2.2.1 s.2.2.2) n s
def f4_pack (O0_sights : Nat → Int32) (O0_seenCount : Int32) (packed : Nat → Int64) (v1 : Int32) : Option ((Nat → Int64)) :=
  f4_pack_8 O0_sights O0_seenCount 1000 (packed, v1, (0 : Int32), (v1 * (11 : Int32)))
def rm4_pack : Room := { frames := 0, cells := 0, slots := 0, locals := 0 }
theorem hm4_pack_0 : ∀ w ∈ u_ws RX4 TX4 3, w ∈ wsX4_pack := by decide +kernel
theorem hm4_pack_1 : Cond.fieldLink RX4 11 "SecretSteps$Survey" "packed" "[J" ∈ wsX4_pack := by decide +kernel
theorem hm4_pack_2 : ∀ w ∈ u_ws RX3 TX3 5, w ∈ wsX4_pack := by decide +kernel
set_option maxHeartbeats 4000000 in
set_option maxRecDepth 100000 in
theorem k4_pack_67 {p : Program} {l : Launch} {e : Env} {s : State} {m : MethodId} {args : Array Value} {below : List Frame} {meth : Method} {c : Code} {G : gG} {A : Nat → Prop} {Q : State → Prop} {sv sv_packed aq0 aq0_values aq0_sights : Nat} (C : CX p s m args meth c G A cX4_pack 8 RX4 wsX4_pack) {unlike : Int32} {other : Int32} {O0_values : Nat → Int32} {O0_steps : Int32} {O0_cut : Int32} {O0_sights : Nat → Int32} {O0_seenCount : Int32} {k8 : (Nat → Int64) × Int32 × Int32 × Int32 → Option ((Nat → Int64))} {packed : Nat → Int64} {x2 : Int32} {x3 : Int32} {x4 : Int32} {x5 : Int64} {x7 : Int32} {res : (Nat → Int64)} (hR : ∀ (lv : List (Nat × Value)) (pc : Nat), decode cX4_pack pc = .ok (.return_, 1) → GG p l e rm4_pack s m args below meth c G A 8 0 0 Q [(sv, oB 4 [.ref sv_packed, .int unlike, .int other]), (sv_packed, aJ G 2816 res), (aq0, oB 3 [.ref aq0_values, .ref aq0_sights, .int O0_seenCount, .int O0_steps, .int O0_cut]), (aq0_values, aI G 6 O0_values), (aq0_sights, aI G 61 O0_sights)] lv pc [])
    (hk8 : ∀ s', k8 s' = some res → GG p l e rm4_pack s m args below meth c G A 8 0 0 Q [(sv, oB 4 [.ref sv_packed, .int unlike, .int other]), (sv_packed, aJ G 2816 s'.1), (aq0, oB 3 [.ref aq0_values, .ref aq0_sights, .int O0_seenCount, .int O0_steps, .int O0_cut]), (aq0_values, aI G 6 O0_values), (aq0_sights, aI G 61 O0_sights)] [(0, .ref sv), (1, .ref aq0), (2, .int s'.2.1), (3, .int s'.2.2.1), (4, .int s'.2.2.2)] 8 [])
    (hf : f4_pack_67 O0_sights O0_seenCount k8 packed x2 x3 x4 x5 x7 = some res) : GG p l e rm4_pack s m args below meth c G A 8 0 0 Q [(sv, oB 4 [.ref sv_packed, .int unlike, .int other]), (sv_packed, aJ G 2816 packed), (aq0, oB 3 [.ref aq0_values, .ref aq0_sights, .int O0_seenCount, .int O0_steps, .int O0_cut]), (aq0_values, aI G 6 O0_values), (aq0_sights, aI G 61 O0_sights)] [(0, .ref sv), (1, .ref aq0), (2, .int x2), (3, .int x3), (4, .int x4), (5, .long x5), (7, .int x7)] 67 [] := by
  unfold f4_pack_67 at hf
  refine g_aload_n C dX4_pack_67 rfl 0 rfl ?_
  refine g_get (C0 := RX4) (T := TX4) (N := 3) (ci := 4) (v := .ref sv_packed) C hm4_pack_0 0 rfl rfl 0 (by decide) hm4_pack_1 rfl dX4_pack_68 ?_
  refine g_iload C dX4_pack_71 4 rfl ?_
  refine g_lload C dX4_pack_73 5 rfl ?_
  obtain ⟨h1, hf⟩ := ck_some hf
  refine g_last (n := 2816) (WS' := [(sv, oB 4 [.ref sv_packed, .int unlike, .int other]), (sv_packed, aJ G 2816 (vp_updL packed x4.toNatClampNeg x5)), (aq0, oB 3 [.ref aq0_values, .ref aq0_sights, .int O0_seenCount, .int O0_steps, .int O0_cut]), (aq0_values, aI G 6 O0_values), (aq0_sights, aI G 61 O0_sights)]) C 1 rfl h1 rfl dX4_pack_75 rfl ?_
  refine g_iinc (v := (x4 + (1 : Int32))) (lv' := [(0, .ref sv), (1, .ref aq0), (2, .int x2), (3, .int x3), (4, .int (x4 + (1 : Int32))), (5, .long x5), (7, .int x7)]) C dX4_pack_76 4 rfl rfl (by decide) [1, 2, 3, 4, 0, 5, 6] rfl ?_
  refine g_goto (tgt := 8) C dX4_pack_79 (by decide) ?_
  refine g_lv (lv' := [(0, .ref sv), (1, .ref aq0), (2, .int x2), (3, .int x3), (4, .int (x4 + (1 : Int32)))]) [0, 1, 2, 3, 4] rfl ?_
  exact hk8 _ hf
set_option maxHeartbeats 4000000 in
set_option maxRecDepth 100000 in
theorem k4_pack_57 {p : Program} {l : Launch} {e : Env} {s : State} {m : MethodId} {args : Array Value} {below : List Frame} {meth : Method} {c : Code} {G : gG} {A : Nat → Prop} {Q : State → Prop} {sv sv_packed aq0 aq0_values aq0_sights : Nat} (C : CX p s m args meth c G A cX4_pack 8 RX4 wsX4_pack) {unlike : Int32} {other : Int32} {O0_values : Nat → Int32} {O0_steps : Int32} {O0_cut : Int32} {O0_sights : Nat → Int32} {O0_seenCount : Int32} {k8 : (Nat → Int64) × Int32 × Int32 × Int32 → Option ((Nat → Int64))} {k28 : (Nat → Int64) × Int32 × Int32 × Int32 × Int64 × Int32 → Option ((Nat → Int64))} {packed : Nat → Int64} {x2 : Int32} {x3 : Int32} {x4 : Int32} {x5 : Int64} {x7 : Int32} {y0 : Int64} {y1 : Int32} {res : (Nat → Int64)} (hR : ∀ (lv : List (Nat × Value)) (pc : Nat), decode cX4_pack pc = .ok (.return_, 1) → GG p l e rm4_pack s m args below meth c G A 8 0 0 Q [(sv, oB 4 [.ref sv_packed, .int unlike, .int other]), (sv_packed, aJ G 2816 res), (aq0, oB 3 [.ref aq0_values, .ref aq0_sights, .int O0_seenCount, .int O0_steps, .int O0_cut]), (aq0_values, aI G 6 O0_values), (aq0_sights, aI G 61 O0_sights)] lv pc [])
    (hk8 : ∀ s', k8 s' = some res → GG p l e rm4_pack s m args below meth c G A 8 0 0 Q [(sv, oB 4 [.ref sv_packed, .int unlike, .int other]), (sv_packed, aJ G 2816 s'.1), (aq0, oB 3 [.ref aq0_values, .ref aq0_sights, .int O0_seenCount, .int O0_steps, .int O0_cut]), (aq0_values, aI G 6 O0_values), (aq0_sights, aI G 61 O0_sights)] [(0, .ref sv), (1, .ref aq0), (2, .int s'.2.1), (3, .int s'.2.2.1), (4, .int s'.2.2.2)] 8 [])
    (hk28 : ∀ s', k28 s' = some res → GG p l e rm4_pack s m args below meth c G A 8 0 0 Q [(sv, oB 4 [.ref sv_packed, .int unlike, .int other]), (sv_packed, aJ G 2816 s'.1), (aq0, oB 3 [.ref aq0_values, .ref aq0_sights, .int O0_seenCount, .int O0_steps, .int O0_cut]), (aq0_values, aI G 6 O0_values), (aq0_sights, aI G 61 O0_sights)] [(0, .ref sv), (1, .ref aq0), (2, .int s'.2.1), (3, .int s'.2.2.1), (4, .int s'.2.2.2.1), (5, .long s'.2.2.2.2.1), (7, .int s'.2.2.2.2.2)] 28 [])
    (hf : f4_pack_57 O0_sights O0_seenCount k8 k28 packed x2 x3 x4 x5 x7 y0 y1 = some res) : GG p l e rm4_pack s m args below meth c G A 8 0 0 Q [(sv, oB 4 [.ref sv_packed, .int unlike, .int other]), (sv_packed, aJ G 2816 packed), (aq0, oB 3 [.ref aq0_values, .ref aq0_sights, .int O0_seenCount, .int O0_steps, .int O0_cut]), (aq0_values, aI G 6 O0_values), (aq0_sights, aI G 61 O0_sights)] [(0, .ref sv), (1, .ref aq0), (2, .int x2), (3, .int x3), (4, .int x4), (5, .long x5), (7, .int x7)] 57 [.int y1, .long y0] := by
  unfold f4_pack_57 at hf
  refine g_i2l C dX4_pack_57 ?_
  refine g_lor C dX4_pack_58 ?_
  refine g_lstore (lv' := [(0, .ref sv), (1, .ref aq0), (2, .int x2), (3, .int x3), (4, .int x4), (5, .long (y0 ||| y1.toInt64)), (7, .int x7)]) C dX4_pack_59 (by decide) [1, 2, 3, 4, 5, 0, 6] rfl ?_
  refine g_iinc (v := (x3 + (1 : Int32))) (lv' := [(0, .ref sv), (1, .ref aq0), (2, .int x2), (3, .int (x3 + (1 : Int32))), (4, .int x4), (5, .long (y0 ||| y1.toInt64)), (7, .int x7)]) C dX4_pack_61 3 rfl rfl (by decide) [1, 2, 3, 0, 4, 5, 6] rfl ?_
  refine g_goto (tgt := 28) C dX4_pack_64 (by decide) ?_
  exact hk28 _ hf
set_option maxHeartbeats 4000000 in
set_option maxRecDepth 100000 in
theorem k4_pack_28b {p : Program} {l : Launch} {e : Env} {s : State} {m : MethodId} {args : Array Value} {below : List Frame} {meth : Method} {c : Code} {G : gG} {A : Nat → Prop} {Q : State → Prop} {sv sv_packed aq0 aq0_values aq0_sights : Nat} (C : CX p s m args meth c G A cX4_pack 8 RX4 wsX4_pack) {unlike : Int32} {other : Int32} {O0_values : Nat → Int32} {O0_steps : Int32} {O0_cut : Int32} {O0_sights : Nat → Int32} {O0_seenCount : Int32} {k8 : (Nat → Int64) × Int32 × Int32 × Int32 → Option ((Nat → Int64))} {k28 : (Nat → Int64) × Int32 × Int32 × Int32 × Int64 × Int32 → Option ((Nat → Int64))} {packed : Nat → Int64} {x2 : Int32} {x3 : Int32} {x4 : Int32} {x5 : Int64} {x7 : Int32} {res : (Nat → Int64)} (hR : ∀ (lv : List (Nat × Value)) (pc : Nat), decode cX4_pack pc = .ok (.return_, 1) → GG p l e rm4_pack s m args below meth c G A 8 0 0 Q [(sv, oB 4 [.ref sv_packed, .int unlike, .int other]), (sv_packed, aJ G 2816 res), (aq0, oB 3 [.ref aq0_values, .ref aq0_sights, .int O0_seenCount, .int O0_steps, .int O0_cut]), (aq0_values, aI G 6 O0_values), (aq0_sights, aI G 61 O0_sights)] lv pc [])
    (hk8 : ∀ s', k8 s' = some res → GG p l e rm4_pack s m args below meth c G A 8 0 0 Q [(sv, oB 4 [.ref sv_packed, .int unlike, .int other]), (sv_packed, aJ G 2816 s'.1), (aq0, oB 3 [.ref aq0_values, .ref aq0_sights, .int O0_seenCount, .int O0_steps, .int O0_cut]), (aq0_values, aI G 6 O0_values), (aq0_sights, aI G 61 O0_sights)] [(0, .ref sv), (1, .ref aq0), (2, .int s'.2.1), (3, .int s'.2.2.1), (4, .int s'.2.2.2)] 8 [])
    (hk28 : ∀ s', k28 s' = some res → GG p l e rm4_pack s m args below meth c G A 8 0 0 Q [(sv, oB 4 [.ref sv_packed, .int unlike, .int other]), (sv_packed, aJ G 2816 s'.1), (aq0, oB 3 [.ref aq0_values, .ref aq0_sights, .int O0_seenCount, .int O0_steps, .int O0_cut]), (aq0_values, aI G 6 O0_values), (aq0_sights, aI G 61 O0_sights)] [(0, .ref sv), (1, .ref aq0), (2, .int s'.2.1), (3, .int s'.2.2.1), (4, .int s'.2.2.2.1), (5, .long s'.2.2.2.2.1), (7, .int s'.2.2.2.2.2)] 28 [])
    (hf : f4_pack_28b O0_sights O0_seenCount k8 k28 packed x2 x3 x4 x5 x7 = some res) : GG p l e rm4_pack s m args below meth c G A 8 0 0 Q [(sv, oB 4 [.ref sv_packed, .int unlike, .int other]), (sv_packed, aJ G 2816 packed), (aq0, oB 3 [.ref aq0_values, .ref aq0_sights, .int O0_seenCount, .int O0_steps, .int O0_cut]), (aq0_values, aI G 6 O0_values), (aq0_sights, aI G 61 O0_sights)] [(0, .ref sv), (1, .ref aq0), (2, .int x2), (3, .int x3), (4, .int x4), (5, .long x5), (7, .int x7)] 28 [] := by
  unfold f4_pack_28b at hf
  refine g_iload_n C dX4_pack_28 rfl 3 rfl ?_
  refine g_iload C dX4_pack_29 6 rfl ?_
  refine g_icmp_ge (tgt := 67) C dX4_pack_31 (by decide) (fun c2 => ?_) (fun c2 => ?_)
  · replace hf := ite_t c2 hf
    exact k4_pack_67 C hR hk8 hf
  · replace hf := ite_f c2 hf
    refine g_lload C dX4_pack_34 5 rfl ?_
    refine g_bipush (v := (10 : Int32)) C dX4_pack_36 (by decide +kernel) ?_
    refine g_lshl C dX4_pack_38 ?_
    refine g_iload_n C dX4_pack_39 rfl 3 rfl ?_
    refine g_aload_n C dX4_pack_40 rfl 1 rfl ?_
    refine g_getN (C0 := RX3) (T := TX3) (N := 5) (ci := 3) (v := .int O0_seenCount) (host := "SecretSteps") C hm4_pack_2 2 rfl rfl 2 (by decide) hn4_48 rfl dX4_pack_41 ?_
    refine g_icmp_ge (tgt := 56) C dX4_pack_44 (by decide) (fun c3 => ?_) (fun c3 => ?_)
    · replace hf := ite_t c3 hf
      refine g_iconst (v := (0 : Int32)) C dX4_pack_56 (by decide +kernel) ?_
      exact k4_pack_57 C hR hk8 hk28 hf
    · replace hf := ite_f c3 hf
      refine g_aload_n C dX4_pack_47 rfl 1 rfl ?_
      refine g_getN (C0 := RX3) (T := TX3) (N := 5) (ci := 3) (v := .ref aq0_sights) (host := "SecretSteps") C hm4_pack_2 2 rfl rfl 1 (by decide) hn4_51 rfl dX4_pack_48 ?_
      refine g_iload_n C dX4_pack_51 rfl 3 rfl ?_
      obtain ⟨h4, hf⟩ := ck_some hf
      refine g_iald (n := 61) (v := (O0_sights x3.toNatClampNeg)) C 4 rfl h4 rfl rfl dX4_pack_52 ?_
      refine g_goto (tgt := 57) C dX4_pack_53 (by decide) ?_
      exact k4_pack_57 C hR hk8 hk28 hf
set_option maxHeartbeats 4000000 in
set_option maxRecDepth 100000 in
theorem k4_pack_28 {p : Program} {l : Launch} {e : Env} {s : State} {m : MethodId} {args : Array Value} {below : List Frame} {meth : Method} {c : Code} {G : gG} {A : Nat → Prop} {Q : State → Prop} {sv sv_packed aq0 aq0_values aq0_sights : Nat} (C : CX p s m args meth c G A cX4_pack 8 RX4 wsX4_pack) {unlike : Int32} {other : Int32} {O0_values : Nat → Int32} {O0_steps : Int32} {O0_cut : Int32} {O0_sights : Nat → Int32} {O0_seenCount : Int32} {k8 : (Nat → Int64) × Int32 × Int32 × Int32 → Option ((Nat → Int64))} {res : (Nat → Int64)} (hR : ∀ (lv : List (Nat × Value)) (pc : Nat), decode cX4_pack pc = .ok (.return_, 1) → GG p l e rm4_pack s m args below meth c G A 8 0 0 Q [(sv, oB 4 [.ref sv_packed, .int unlike, .int other]), (sv_packed, aJ G 2816 res), (aq0, oB 3 [.ref aq0_values, .ref aq0_sights, .int O0_seenCount, .int O0_steps, .int O0_cut]), (aq0_values, aI G 6 O0_values), (aq0_sights, aI G 61 O0_sights)] lv pc [])
    (hk8 : ∀ s', k8 s' = some res → GG p l e rm4_pack s m args below meth c G A 8 0 0 Q [(sv, oB 4 [.ref sv_packed, .int unlike, .int other]), (sv_packed, aJ G 2816 s'.1), (aq0, oB 3 [.ref aq0_values, .ref aq0_sights, .int O0_seenCount, .int O0_steps, .int O0_cut]), (aq0_values, aI G 6 O0_values), (aq0_sights, aI G 61 O0_sights)] [(0, .ref sv), (1, .ref aq0), (2, .int s'.2.1), (3, .int s'.2.2.1), (4, .int s'.2.2.2)] 8 []) : ∀ (n : Nat) (s1 : (Nat → Int64) × Int32 × Int32 × Int32 × Int64 × Int32), f4_pack_28 O0_sights O0_seenCount k8 n s1 = some res → GG p l e rm4_pack s m args below meth c G A 8 0 0 Q [(sv, oB 4 [.ref sv_packed, .int unlike, .int other]), (sv_packed, aJ G 2816 s1.1), (aq0, oB 3 [.ref aq0_values, .ref aq0_sights, .int O0_seenCount, .int O0_steps, .int O0_cut]), (aq0_values, aI G 6 O0_values), (aq0_sights, aI G 61 O0_sights)] [(0, .ref sv), (1, .ref aq0), (2, .int s1.2.1), (3, .int s1.2.2.1), (4, .int s1.2.2.2.1), (5, .long s1.2.2.2.2.1), (7, .int s1.2.2.2.2.2)] 28 [] :=
  itf_ind (fun k s1 ih hf => k4_pack_28b C hR hk8 ih hf)
set_option maxHeartbeats 4000000 in
set_option maxRecDepth 100000 in
theorem k4_pack_8b {p : Program} {l : Launch} {e : Env} {s : State} {m : MethodId} {args : Array Value} {below : List Frame} {meth : Method} {c : Code} {G : gG} {A : Nat → Prop} {Q : State → Prop} {sv sv_packed aq0 aq0_values aq0_sights : Nat} (C : CX p s m args meth c G A cX4_pack 8 RX4 wsX4_pack) {unlike : Int32} {other : Int32} {O0_values : Nat → Int32} {O0_steps : Int32} {O0_cut : Int32} {O0_sights : Nat → Int32} {O0_seenCount : Int32} {k8 : (Nat → Int64) × Int32 × Int32 × Int32 → Option ((Nat → Int64))} {packed : Nat → Int64} {x2 : Int32} {x3 : Int32} {x4 : Int32} {res : (Nat → Int64)} (hR : ∀ (lv : List (Nat × Value)) (pc : Nat), decode cX4_pack pc = .ok (.return_, 1) → GG p l e rm4_pack s m args below meth c G A 8 0 0 Q [(sv, oB 4 [.ref sv_packed, .int unlike, .int other]), (sv_packed, aJ G 2816 res), (aq0, oB 3 [.ref aq0_values, .ref aq0_sights, .int O0_seenCount, .int O0_steps, .int O0_cut]), (aq0_values, aI G 6 O0_values), (aq0_sights, aI G 61 O0_sights)] lv pc [])
    (hk8 : ∀ s', k8 s' = some res → GG p l e rm4_pack s m args below meth c G A 8 0 0 Q [(sv, oB 4 [.ref sv_packed, .int unlike, .int other]), (sv_packed, aJ G 2816 s'.1), (aq0, oB 3 [.ref aq0_values, .ref aq0_sights, .int O0_seenCount, .int O0_steps, .int O0_cut]), (aq0_values, aI G 6 O0_values), (aq0_sights, aI G 61 O0_sights)] [(0, .ref sv), (1, .ref aq0), (2, .int s'.2.1), (3, .int s'.2.2.1), (4, .int s'.2.2.2)] 8 [])
    (hf : f4_pack_8b O0_sights O0_seenCount k8 packed x2 x3 x4 = some res) : GG p l e rm4_pack s m args below meth c G A 8 0 0 Q [(sv, oB 4 [.ref sv_packed, .int unlike, .int other]), (sv_packed, aJ G 2816 packed), (aq0, oB 3 [.ref aq0_values, .ref aq0_sights, .int O0_seenCount, .int O0_steps, .int O0_cut]), (aq0_values, aI G 6 O0_values), (aq0_sights, aI G 61 O0_sights)] [(0, .ref sv), (1, .ref aq0), (2, .int x2), (3, .int x3), (4, .int x4)] 8 [] := by
  unfold f4_pack_8b at hf
  refine g_iload C dX4_pack_8 4 rfl ?_
  refine g_iload_n C dX4_pack_10 rfl 2 rfl ?_
  refine g_iconst (v := (1 : Int32)) C dX4_pack_11 (by decide +kernel) ?_
  refine g_iadd C dX4_pack_12 ?_
  refine g_bipush (v := (11 : Int32)) C dX4_pack_13 (by decide +kernel) ?_
  refine g_imul C dX4_pack_15 ?_
  refine g_icmp_ge (tgt := 82) C dX4_pack_16 (by decide) (fun c5 => ?_) (fun c5 => ?_)
  · replace hf := ite_t c5 hf
    obtain rfl := Option.some.inj hf
    exact hR _ _ dX4_pack_82
  · replace hf := ite_f c5 hf
    refine g_lconst (v := (0 : Int64)) C dX4_pack_19 (by decide +kernel) ?_
    refine g_lstore (lv' := [(0, .ref sv), (1, .ref aq0), (2, .int x2), (3, .int x3), (4, .int x4), (5, .long (0 : Int64))]) C dX4_pack_20 (by decide) [1, 2, 3, 4, 5, 0] rfl ?_
    refine g_iload_n C dX4_pack_22 rfl 3 rfl ?_
    refine g_bipush (v := (6 : Int32)) C dX4_pack_23 (by decide +kernel) ?_
    refine g_iadd C dX4_pack_25 ?_
    refine g_istore (lv' := [(0, .ref sv), (1, .ref aq0), (2, .int x2), (3, .int x3), (4, .int x4), (5, .long (0 : Int64)), (7, .int (x3 + (6 : Int32)))]) C dX4_pack_26 (by decide) [1, 2, 3, 4, 5, 6, 0] rfl ?_
    exact k4_pack_28 C hR hk8 _ _ hf
set_option maxHeartbeats 4000000 in
set_option maxRecDepth 100000 in
theorem k4_pack_8 {p : Program} {l : Launch} {e : Env} {s : State} {m : MethodId} {args : Array Value} {below : List Frame} {meth : Method} {c : Code} {G : gG} {A : Nat → Prop} {Q : State → Prop} {sv sv_packed aq0 aq0_values aq0_sights : Nat} (C : CX p s m args meth c G A cX4_pack 8 RX4 wsX4_pack) {unlike : Int32} {other : Int32} {O0_values : Nat → Int32} {O0_steps : Int32} {O0_cut : Int32} {O0_sights : Nat → Int32} {O0_seenCount : Int32} {res : (Nat → Int64)} (hR : ∀ (lv : List (Nat × Value)) (pc : Nat), decode cX4_pack pc = .ok (.return_, 1) → GG p l e rm4_pack s m args below meth c G A 8 0 0 Q [(sv, oB 4 [.ref sv_packed, .int unlike, .int other]), (sv_packed, aJ G 2816 res), (aq0, oB 3 [.ref aq0_values, .ref aq0_sights, .int O0_seenCount, .int O0_steps, .int O0_cut]), (aq0_values, aI G 6 O0_values), (aq0_sights, aI G 61 O0_sights)] lv pc []) : ∀ (n : Nat) (s1 : (Nat → Int64) × Int32 × Int32 × Int32), f4_pack_8 O0_sights O0_seenCount n s1 = some res → GG p l e rm4_pack s m args below meth c G A 8 0 0 Q [(sv, oB 4 [.ref sv_packed, .int unlike, .int other]), (sv_packed, aJ G 2816 s1.1), (aq0, oB 3 [.ref aq0_values, .ref aq0_sights, .int O0_seenCount, .int O0_steps, .int O0_cut]), (aq0_values, aI G 6 O0_values), (aq0_sights, aI G 61 O0_sights)] [(0, .ref sv), (1, .ref aq0), (2, .int s1.2.1), (3, .int s1.2.2.1), (4, .int s1.2.2.2)] 8 [] :=
  itf_ind (fun k s1 ih hf => k4_pack_8b C hR ih hf)
set_option maxHeartbeats 4000000 in
set_option maxRecDepth 100000 in
theorem c4_pack {l : Launch} {G : gG} {sv sv_packed aq0 aq0_values aq0_sights : Nat} {packed : Nat → Int64} {unlike : Int32} {other : Int32} {O0_values : Nat → Int32} {O0_sights : Nat → Int32} {O0_seenCount : Int32} {O0_steps : Int32} {O0_cut : Int32} {v1 : Int32} {res : (Nat → Int64)} (hf : f4_pack O0_sights O0_seenCount packed v1 = some res) : MV l yX4_pack wsX4_pack rm4_pack G [.ref sv, .ref aq0, .int v1] [(sv, oB 4 [.ref sv_packed, .int unlike, .int other]), (sv_packed, aJ G 2816 packed), (aq0, oB 3 [.ref aq0_values, .ref aq0_sights, .int O0_seenCount, .int O0_steps, .int O0_cut]), (aq0_values, aI G 6 O0_values), (aq0_sights, aI G 61 O0_sights)] [(sv, oB 4 [.ref sv_packed, .int unlike, .int other]), (sv_packed, aJ G 2816 res), (aq0, oB 3 [.ref aq0_values, .ref aq0_sights, .int O0_seenCount, .int O0_steps, .int O0_cut]), (aq0_values, aI G 6 O0_values), (aq0_sights, aI G 61 O0_sights)] := by
  refine MV_of (cc := cX4_pack) (nL := 8) (lv := [(0, .ref sv), (1, .ref aq0), (2, .int v1)]) (by decide +kernel) rfl (Nat.le_of_ble_eq_true rfl) rfl ?_
  intro p e s m args below meth c A Q C hR
  unfold f4_pack at hf
  refine g_iconst (v := (0 : Int32)) C dX4_pack_0 (by decide +kernel) ?_
  refine g_istore_n (lv' := [(0, .ref sv), (1, .ref aq0), (2, .int v1), (3, .int (0 : Int32))]) C dX4_pack_1 rfl (by decide) [1, 2, 3, 0] rfl ?_
  refine g_iload_n C dX4_pack_2 rfl 2 rfl ?_
  refine g_bipush (v := (11 : Int32)) C dX4_pack_3 (by decide +kernel) ?_
  refine g_imul C dX4_pack_5 ?_
  refine g_istore (lv' := [(0, .ref sv), (1, .ref aq0), (2, .int v1), (3, .int (0 : Int32)), (4, .int (v1 * (11 : Int32)))]) C dX4_pack_6 (by decide) [1, 2, 3, 4, 0] rfl ?_
  exact k4_pack_8 C hR _ _ hf

-- X4_alike
def f4_alike_2b (packed : Nat → Int64) (k2 : Int32 × Int32 × Int32 → Option (Int32)) (x1 : Int32) (x2 : Int32) (x3 : Int32) : Option (Int32) :=
  if (11 : Int32) ≤ x3 then
    (some (1 : Int32))
    else (ck (inb ((x1 * (11 : Int32)) + x3) 2816) <|
    ck (inb ((x2 * (11 : Int32)) + x3) 2816) <|
    if (lg_cmp (packed ((x1 * (11 : Int32)) + x3).toNatClampNeg) (packed ((x2 * (11 : Int32)) + x3).toNatClampNeg)) = 0 then
    (k2 (x1, x2, (x3 + (1 : Int32))))
    else (some (0 : Int32)))
def f4_alike_2 (packed : Nat → Int64) (n : Nat) (s : Int32 × Int32 × Int32) : Option (Int32) := itf (fun k s => f4_alike_2b packed k s.1 s.2.1 s.2.2) n s
def f4_alike (packed : Nat → Int64) (v0 : Int32) (v1 : Int32) : Option (Int32) :=
  f4_alike_2 packed 1000 (v0, v1, (0 : Int32))
def rm4_alike : Room := { frames := 0, cells := 0, slots := 0, locals := 0 }
theorem hm4_alike_0 : ∀ w ∈ u_ws RX4 TX4 3, w ∈ wsX4_alike := by decide +kernel
theorem hm4_alike_1 : Cond.fieldLink RX4 11 "SecretSteps$Survey" "packed" "[J" ∈ wsX4_alike := by decide +kernel
set_option maxHeartbeats 4000000 in
set_option maxRecDepth 100000 in
theorem k4_alike_2b {p : Program} {l : Launch} {e : Env} {s : State} {m : MethodId} {args : Array Value} {below : List Frame} {meth : Method} {c : Code} {G : gG} {A : Nat → Prop} {Q : State → Prop} {sv sv_packed : Nat} (C : CX p s m args meth c G A cX4_alike 4 RX4 wsX4_alike) {unlike : Int32} {other : Int32} {packed : Nat → Int64} {k2 : Int32 × Int32 × Int32 → Option (Int32)} {x1 : Int32} {x2 : Int32} {x3 : Int32} {res : Int32} (hR : ∀ (lv : List (Nat × Value)) (pc : Nat), decode cX4_alike pc = .ok (.ireturn, 1) → isb res = true → GG p l e rm4_alike s m args below meth c G A 4 0 0 Q [(sv, oB 4 [.ref sv_packed, .int unlike, .int other]), (sv_packed, aJ G 2816 packed)] lv pc [.int res])
    (hk2 : ∀ s', k2 s' = some res → GG p l e rm4_alike s m args below meth c G A 4 0 0 Q [(sv, oB 4 [.ref sv_packed, .int unlike, .int other]), (sv_packed, aJ G 2816 packed)] [(0, .ref sv), (1, .int s'.1), (2, .int s'.2.1), (3, .int s'.2.2)] 2 [])
    (hf : f4_alike_2b packed k2 x1 x2 x3 = some res) : GG p l e rm4_alike s m args below meth c G A 4 0 0 Q [(sv, oB 4 [.ref sv_packed, .int unlike, .int other]), (sv_packed, aJ G 2816 packed)] [(0, .ref sv), (1, .int x1), (2, .int x2), (3, .int x3)] 2 [] := by
  unfold f4_alike_2b at hf
  refine g_iload_n C dX4_alike_2 rfl 3 rfl ?_
  refine g_bipush (v := (11 : Int32)) C dX4_alike_3 (by decide +kernel) ?_
  refine g_icmp_ge (tgt := 42) C dX4_alike_5 (by decide) (fun c1 => ?_) (fun c1 => ?_)
  · replace hf := ite_t c1 hf
    refine g_iconst (v := (1 : Int32)) C dX4_alike_42 (by decide +kernel) ?_
    obtain rfl := Option.some.inj hf
    exact hR _ _ dX4_alike_43 isb1
  · replace hf := ite_f c1 hf
    refine g_aload_n C dX4_alike_8 rfl 0 rfl ?_
    refine g_get (C0 := RX4) (T := TX4) (N := 3) (ci := 4) (v := .ref sv_packed) C hm4_alike_0 0 rfl rfl 0 (by decide) hm4_alike_1 rfl dX4_alike_9 ?_
    refine g_iload_n C dX4_alike_12 rfl 1 rfl ?_
    refine g_bipush (v := (11 : Int32)) C dX4_alike_13 (by decide +kernel) ?_
    refine g_imul C dX4_alike_15 ?_
    refine g_iload_n C dX4_alike_16 rfl 3 rfl ?_
    refine g_iadd C dX4_alike_17 ?_
    obtain ⟨h2, hf⟩ := ck_some hf
    refine g_lald (n := 2816) (v := (packed ((x1 * (11 : Int32)) + x3).toNatClampNeg)) C 1 rfl h2 rfl rfl dX4_alike_18 ?_
    refine g_aload_n C dX4_alike_19 rfl 0 rfl ?_
    refine g_get (C0 := RX4) (T := TX4) (N := 3) (ci := 4) (v := .ref sv_packed) C hm4_alike_0 0 rfl rfl 0 (by decide) hm4_alike_1 rfl dX4_alike_20 ?_
    refine g_iload_n C dX4_alike_23 rfl 2 rfl ?_
    refine g_bipush (v := (11 : Int32)) C dX4_alike_24 (by decide +kernel) ?_
    refine g_imul C dX4_alike_26 ?_
    refine g_iload_n C dX4_alike_27 rfl 3 rfl ?_
    refine g_iadd C dX4_alike_28 ?_
    obtain ⟨h3, hf⟩ := ck_some hf
    refine g_lald (n := 2816) (v := (packed ((x2 * (11 : Int32)) + x3).toNatClampNeg)) C 1 rfl h3 rfl rfl dX4_alike_29 ?_
    refine g_lcmp C dX4_alike_30 ?_
    refine g_if_eq (tgt := 36) C dX4_alike_31 (by decide) (fun c4 => ?_) (fun c4 => ?_)
    · replace hf := ite_t c4 hf
      refine g_iinc (v := (x3 + (1 : Int32))) (lv' := [(0, .ref sv), (1, .int x1), (2, .int x2), (3, .int (x3 + (1 : Int32)))]) C dX4_alike_36 3 rfl rfl (by decide) [1, 2, 3, 0] rfl ?_
      refine g_goto (tgt := 2) C dX4_alike_39 (by decide) ?_
      exact hk2 _ hf
    · replace hf := ite_f c4 hf
      refine g_iconst (v := (0 : Int32)) C dX4_alike_34 (by decide +kernel) ?_
      obtain rfl := Option.some.inj hf
      exact hR _ _ dX4_alike_35 isb0
set_option maxHeartbeats 4000000 in
set_option maxRecDepth 100000 in
theorem k4_alike_2 {p : Program} {l : Launch} {e : Env} {s : State} {m : MethodId} {args : Array Value} {below : List Frame} {meth : Method} {c : Code} {G : gG} {A : Nat → Prop} {Q : State → Prop} {sv sv_packed : Nat} (C : CX p s m args meth c G A cX4_alike 4 RX4 wsX4_alike) {unlike : Int32} {other : Int32} {packed : Nat → Int64} {res : Int32} (hR : ∀ (lv : List (Nat × Value)) (pc : Nat), decode cX4_alike pc = .ok (.ireturn, 1) → isb res = true → GG p l e rm4_alike s m args below meth c G A 4 0 0 Q [(sv, oB 4 [.ref sv_packed, .int unlike, .int other]), (sv_packed, aJ G 2816 packed)] lv pc [.int res]) : ∀ (n : Nat) (s1 : Int32 × Int32 × Int32), f4_alike_2 packed n s1 = some res → GG p l e rm4_alike s m args below meth c G A 4 0 0 Q [(sv, oB 4 [.ref sv_packed, .int unlike, .int other]), (sv_packed, aJ G 2816 packed)] [(0, .ref sv), (1, .int s1.1), (2, .int s1.2.1), (3, .int s1.2.2)] 2 [] :=
  itf_ind (fun k s1 ih hf => k4_alike_2b C hR ih hf)
set_option maxHeartbeats 4000000 in
set_option maxRecDepth 100000 in
theorem c4_alike {l : Launch} {G : gG} {sv sv_packed : Nat} {packed : Nat → Int64} {unlike : Int32} {other : Int32} {v0 : Int32} {v1 : Int32} {res : Int32} (hf : f4_alike packed v0 v1 = some res) : MI l yX4_alike wsX4_alike rm4_alike G [.ref sv, .int v0, .int v1] [(sv, oB 4 [.ref sv_packed, .int unlike, .int other]), (sv_packed, aJ G 2816 packed)] (res) [(sv, oB 4 [.ref sv_packed, .int unlike, .int other]), (sv_packed, aJ G 2816 packed)] := by
  refine MZ_of (res) (cc := cX4_alike) (nL := 4) (lv := [(0, .ref sv), (1, .int v0), (2, .int v1)]) (by decide +kernel) rfl (Nat.le_of_ble_eq_true rfl) rfl ?_
  intro p e s m args below meth c A Q C hR
  unfold f4_alike at hf
  refine g_iconst (v := (0 : Int32)) C dX4_alike_0 (by decide +kernel) ?_
  refine g_istore_n (lv' := [(0, .ref sv), (1, .int v0), (2, .int v1), (3, .int (0 : Int32))]) C dX4_alike_1 rfl (by decide) [1, 2, 3, 0] rfl ?_
  exact k4_alike_2 C hR _ _ hf

-- X4_isNew
def f4_isNew_2b (packed : Nat → Int64) (k2 : Int32 × Int32 → Option (Int32)) (x1 : Int32) (x2 : Int32) : Option (Int32) :=
  if x1 ≤ x2 then
    (some (1 : Int32))
    else ((f4_alike packed x2 x1).bind <| fun q2 =>
    if q2 = 0 then
    (k2 (x1, (x2 + (1 : Int32))))
    else (some (0 : Int32)))
def f4_isNew_2 (packed : Nat → Int64) (n : Nat) (s : Int32 × Int32) : Option (Int32) := itf (fun k s => f4_isNew_2b packed k s.1 s.2) n s
def f4_isNew (packed : Nat → Int64) (v0 : Int32) : Option (Int32) :=
  f4_isNew_2 packed 1000 (v0, (0 : Int32))
def rm4_isNew : Room := { frames := 1, cells := 0, slots := 0, locals := 23 }
set_option maxHeartbeats 4000000 in
set_option maxRecDepth 100000 in
theorem k4_isNew_2b {p : Program} {l : Launch} {e : Env} {s : State} {m : MethodId} {args : Array Value} {below : List Frame} {meth : Method} {c : Code} {G : gG} {A : Nat → Prop} {Q : State → Prop} {sv sv_packed : Nat} (C : CX p s m args meth c G A cX4_isNew 3 RX4 wsX4_isNew) {unlike : Int32} {other : Int32} {packed : Nat → Int64} {k2 : Int32 × Int32 → Option (Int32)} {x1 : Int32} {x2 : Int32} {res : Int32} (hR : ∀ (lv : List (Nat × Value)) (pc : Nat), decode cX4_isNew pc = .ok (.ireturn, 1) → isb res = true → GG p l e rm4_isNew s m args below meth c G A 3 0 0 Q [(sv, oB 4 [.ref sv_packed, .int unlike, .int other]), (sv_packed, aJ G 2816 packed)] lv pc [.int res])
    (hk2 : ∀ s', k2 s' = some res → GG p l e rm4_isNew s m args below meth c G A 3 0 0 Q [(sv, oB 4 [.ref sv_packed, .int unlike, .int other]), (sv_packed, aJ G 2816 packed)] [(0, .ref sv), (1, .int s'.1), (2, .int s'.2)] 2 [])
    (hf : f4_isNew_2b packed k2 x1 x2 = some res) : GG p l e rm4_isNew s m args below meth c G A 3 0 0 Q [(sv, oB 4 [.ref sv_packed, .int unlike, .int other]), (sv_packed, aJ G 2816 packed)] [(0, .ref sv), (1, .int x1), (2, .int x2)] 2 [] := by
  unfold f4_isNew_2b at hf
  refine g_iload_n C dX4_isNew_2 rfl 2 rfl ?_
  refine g_iload_n C dX4_isNew_3 rfl 1 rfl ?_
  refine g_icmp_ge (tgt := 24) C dX4_isNew_4 (by decide) (fun c1 => ?_) (fun c1 => ?_)
  · replace hf := ite_t c1 hf
    refine g_iconst (v := (1 : Int32)) C dX4_isNew_24 (by decide +kernel) ?_
    obtain rfl := Option.some.inj hf
    exact hR _ _ dX4_isNew_25 isb1
  · replace hf := ite_f c1 hf
    refine g_aload_n C dX4_isNew_7 rfl 0 rfl ?_
    refine g_iload_n C dX4_isNew_8 rfl 2 rfl ?_
    refine g_iload_n C dX4_isNew_9 rfl 1 rfl ?_
    obtain ⟨q2, hq2, hf⟩ := bs hf
    refine g_callVi (n := 2) (As := [.int x2, .int x1]) (rest := []) (wc := [(sv, oB 4 [.ref sv_packed, .int unlike, .int other]), (sv_packed, aJ G 2816 packed)]) (w1 := [(sv, oB 4 [.ref sv_packed, .int unlike, .int other]), (sv_packed, aJ G 2816 packed)]) (wr := []) (WS' := [(sv, oB 4 [.ref sv_packed, .int unlike, .int other]), (sv_packed, aJ G 2816 packed)]) C (c4_alike hq2) gX4_isNew_X4_alike (by decide +kernel) rfl rfl rfl rfl rfl rfl ⟨by decide, by decide⟩ rfl [0, 1] [] [0, 1] rfl (by decide) rfl (by decide) (by decide) rfl (by decide) (Nat.le_of_ble_eq_true rfl) ⟨Nat.zero_le _, Nat.zero_le _⟩ rfl dX4_isNew_10 ?_
    refine g_if_eq (tgt := 18) C dX4_isNew_13 (by decide) (fun c3 => ?_) (fun c3 => ?_)
    · replace hf := ite_t c3 hf
      refine g_iinc (v := (x2 + (1 : Int32))) (lv' := [(0, .ref sv), (1, .int x1), (2, .int (x2 + (1 : Int32)))]) C dX4_isNew_18 2 rfl rfl (by decide) [1, 2, 0] rfl ?_
      refine g_goto (tgt := 2) C dX4_isNew_21 (by decide) ?_
      exact hk2 _ hf
    · replace hf := ite_f c3 hf
      refine g_iconst (v := (0 : Int32)) C dX4_isNew_16 (by decide +kernel) ?_
      obtain rfl := Option.some.inj hf
      exact hR _ _ dX4_isNew_17 isb0
set_option maxHeartbeats 4000000 in
set_option maxRecDepth 100000 in
theorem k4_isNew_2 {p : Program} {l : Launch} {e : Env} {s : State} {m : MethodId} {args : Array Value} {below : List Frame} {meth : Method} {c : Code} {G : gG} {A : Nat → Prop} {Q : State → Prop} {sv sv_packed : Nat} (C : CX p s m args meth c G A cX4_isNew 3 RX4 wsX4_isNew) {unlike : Int32} {other : Int32} {packed : Nat → Int64} {res : Int32} (hR : ∀ (lv : List (Nat × Value)) (pc : Nat), decode cX4_isNew pc = .ok (.ireturn, 1) → isb res = true → GG p l e rm4_isNew s m args below meth c G A 3 0 0 Q [(sv, oB 4 [.ref sv_packed, .int unlike, .int other]), (sv_packed, aJ G 2816 packed)] lv pc [.int res]) : ∀ (n : Nat) (s1 : Int32 × Int32), f4_isNew_2 packed n s1 = some res → GG p l e rm4_isNew s m args below meth c G A 3 0 0 Q [(sv, oB 4 [.ref sv_packed, .int unlike, .int other]), (sv_packed, aJ G 2816 packed)] [(0, .ref sv), (1, .int s1.1), (2, .int s1.2)] 2 [] :=
  itf_ind (fun k s1 ih hf => k4_isNew_2b C hR ih hf)
set_option maxHeartbeats 4000000 in
set_option maxRecDepth 100000 in
theorem c4_isNew {l : Launch} {G : gG} {sv sv_packed : Nat} {packed : Nat → Int64} {unlike : Int32} {other : Int32} {v0 : Int32} {res : Int32} (hf : f4_isNew packed v0 = some res) : MI l yX4_isNew wsX4_isNew rm4_isNew G [.ref sv, .int v0] [(sv, oB 4 [.ref sv_packed, .int unlike, .int other]), (sv_packed, aJ G 2816 packed)] (res) [(sv, oB 4 [.ref sv_packed, .int unlike, .int other]), (sv_packed, aJ G 2816 packed)] := by
  refine MZ_of (res) (cc := cX4_isNew) (nL := 3) (lv := [(0, .ref sv), (1, .int v0)]) (by decide +kernel) rfl (Nat.le_of_ble_eq_true rfl) rfl ?_
  intro p e s m args below meth c A Q C hR
  unfold f4_isNew at hf
  refine g_iconst (v := (0 : Int32)) C dX4_isNew_0 (by decide +kernel) ?_
  refine g_istore_n (lv' := [(0, .ref sv), (1, .int v0), (2, .int (0 : Int32))]) C dX4_isNew_1 rfl (by decide) [1, 2, 0] rfl ?_
  exact k4_isNew_2 C hR _ _ hf

-- X4_take
def f4_take_71 (P0_N : Nat → Int32) (k24 : (Nat → Int64) × Int32 × Int32 × (Nat → Int32) × (Nat → Int32) × Int32 × Int32 × Int32 × Int32 × Int32 → Option ((Nat → Int64) × Int32 × Int32 × (Nat → Int32) × (Nat → Int32) × Int32 × Int32 × Int32)) (packed : Nat → Int64) (unlike : Int32) (other : Int32) (O1_values : Nat → Int32) (O1_sights : Nat → Int32) (O1_seenCount : Int32) (O1_steps : Int32) (O1_cut : Int32) (x3 : Int32) (x4 : Int32) : Option ((Nat → Int64) × Int32 × Int32 × (Nat → Int32) × (Nat → Int32) × Int32 × Int32 × Int32) :=
  k24 (packed, (unlike + (1 : Int32)), other, O1_values, O1_sights, O1_seenCount, O1_steps, O1_cut, x3, (x4 + (1 : Int32)))
def f4_take_24b (P0_N : Nat → Int32) (k24 : (Nat → Int64) × Int32 × Int32 × (Nat → Int32) × (Nat → Int32) × Int32 × Int32 × Int32 × Int32 × Int32 → Option ((Nat → Int64) × Int32 × Int32 × (Nat → Int32) × (Nat → Int32) × Int32 × Int32 × Int32)) (packed : Nat → Int64) (unlike : Int32) (other : Int32) (O1_values : Nat → Int32) (O1_sights : Nat → Int32) (O1_seenCount : Int32) (O1_steps : Int32) (O1_cut : Int32) (x3 : Int32) (x4 : Int32) : Option ((Nat → Int64) × Int32 × Int32 × (Nat → Int32) × (Nat → Int32) × Int32 × Int32 × Int32) :=
  if x3 ≤ x4 then
    (some (packed, unlike, other, O1_values, O1_sights, O1_seenCount, O1_steps, O1_cut))
    else ((f3_follow P0_N O1_values O1_sights O1_seenCount O1_steps O1_cut x4).bind <| fun q2 =>
    (f4_pack q2.2.1 q2.2.2.1 packed unlike).bind <| fun q3 =>
    (f4_isNew q3 unlike).bind <| fun q4 =>
    if q4 = 0 then
    (k24 (q3, unlike, other, q2.1, q2.2.1, q2.2.2.1, q2.2.2.2.1, q2.2.2.2.2, x3, (x4 + (1 : Int32))))
    else (if unlike = (1 : Int32) then
    (f4_take_71 P0_N k24 q3 unlike x4 q2.1 q2.2.1 q2.2.2.1 q2.2.2.2.1 q2.2.2.2.2 x3 x4)
    else (f4_take_71 P0_N k24 q3 unlike other q2.1 q2.2.1 q2.2.2.1 q2.2.2.2.1 q2.2.2.2.2 x3 x4)))
def f4_take_24 (P0_N : Nat → Int32) (n : Nat) (s : (Nat → Int64) × Int32 × Int32 × (Nat → Int32) × (Nat → Int32) × Int32 × Int32 × Int32 × Int32 × Int32) : Option ((Nat → Int64) × Int32 × Int32 × (Nat → Int32) × (Nat → Int32) × Int32 × Int32 × Int32) := itf (fun k s => f4_take_24b P0_N k s.1 s.2.1 s.2.2.1 s.2.2.2.1 s.2.2.2.2.1 s.2.2.2.2.2.1 s.2.2.2.2.2.2.1 s.2.2.2.2.2.2.2.1 s.2.2.2.2.2.2.2.2.1 s.2.2.2.2.2.2.2.2.2) n s
def f4_take (P0_N : Nat → Int32) (packed : Nat → Int64) (unlike : Int32) (other : Int32) (O1_values : Nat → Int32) (O1_sights : Nat → Int32) (O1_seenCount : Int32) (O1_steps : Int32) (O1_cut : Int32) : Option ((Nat → Int64) × Int32 × Int32 × (Nat → Int32) × (Nat → Int32) × Int32 × Int32 × Int32) :=
  (f2_secretsEnd P0_N).bind <| fun q7 =>
    f4_take_24 P0_N 1000 (packed, (0 : Int32), (-1 : Int32), O1_values, O1_sights, O1_seenCount, O1_steps, O1_cut, (if (256 : Int32) < q7 then (256 : Int32) else q7), (0 : Int32))
def rm4_take : Room := { frames := 3, cells := 0, slots := 0, locals := 72 }
theorem hm4_take_0 : ∀ w ∈ u_ws RX4 TX4 3, w ∈ wsX4_take := by decide +kernel
theorem hm4_take_1 : Cond.fieldLink RX4 15 "SecretSteps$Survey" "unlike" "I" ∈ wsX4_take := by decide +kernel
theorem hm4_take_2 : Cond.fieldLink RX4 19 "SecretSteps$Survey" "other" "I" ∈ wsX4_take := by decide +kernel
theorem hm4_take_3 : Cond.methodLink RX4 28 Lib.Math.min.name ∈ wsX4_take := by decide +kernel
theorem hm4_take_4 : Cond.static Lib.Math.min.name ∈ wsX4_take := by decide +kernel
theorem hm4_take_5 : Cond.initialized "java/lang/Math" ∈ wsX4_take := by decide +kernel
theorem hm4_take_6 : Cond.code Lib.Math.min.name Lib.Math.min.code 2 (some .int) ∈ wsX4_take := by decide +kernel
set_option maxHeartbeats 4000000 in
set_option maxRecDepth 100000 in
theorem k4_take_71 {p : Program} {l : Launch} {e : Env} {s : State} {m : MethodId} {args : Array Value} {below : List Frame} {meth : Method} {c : Code} {G : gG} {A : Nat → Prop} {Q : State → Prop} {sv sv_packed aq0 aq0_lines aq0_cells aq0_starts aq1 aq1_values aq1_sights : Nat} (C : CX p s m args meth c G A cX4_take 5 RX4 wsX4_take) {P0_N : Nat → Int32} {k24 : (Nat → Int64) × Int32 × Int32 × (Nat → Int32) × (Nat → Int32) × Int32 × Int32 × Int32 × Int32 × Int32 → Option ((Nat → Int64) × Int32 × Int32 × (Nat → Int32) × (Nat → Int32) × Int32 × Int32 × Int32)} {packed : Nat → Int64} {unlike : Int32} {other : Int32} {O1_values : Nat → Int32} {O1_sights : Nat → Int32} {O1_seenCount : Int32} {O1_steps : Int32} {O1_cut : Int32} {x3 : Int32} {x4 : Int32} {res : (Nat → Int64) × Int32 × Int32 × (Nat → Int32) × (Nat → Int32) × Int32 × Int32 × Int32} (hR : ∀ (lv : List (Nat × Value)) (pc : Nat), decode cX4_take pc = .ok (.return_, 1) → GG p l e rm4_take s m args below meth c G A 5 0 0 Q [(sv, oB 4 [.ref sv_packed, .int res.2.1, .int res.2.2.1]), (sv_packed, aJ G 2816 res.1), (aq0, oB 2 [.ref aq0_lines, .ref aq0_cells, .ref aq0_starts, .int (P0_N 0), .int (P0_N 1)]), (aq0_lines, aI G 80 (fun j => P0_N (24 + j))), (aq0_cells, aI G 16 (fun j => P0_N (8 + j))), (aq0_starts, aI G 6 (fun j => P0_N (2 + j))), (aq1, oB 3 [.ref aq1_values, .ref aq1_sights, .int res.2.2.2.2.2.1, .int res.2.2.2.2.2.2.1, .int res.2.2.2.2.2.2.2]), (aq1_values, aI G 6 res.2.2.2.1), (aq1_sights, aI G 61 res.2.2.2.2.1)] lv pc [])
    (hk24 : ∀ s', k24 s' = some res → GG p l e rm4_take s m args below meth c G A 5 0 0 Q [(sv, oB 4 [.ref sv_packed, .int s'.2.1, .int s'.2.2.1]), (sv_packed, aJ G 2816 s'.1), (aq0, oB 2 [.ref aq0_lines, .ref aq0_cells, .ref aq0_starts, .int (P0_N 0), .int (P0_N 1)]), (aq0_lines, aI G 80 (fun j => P0_N (24 + j))), (aq0_cells, aI G 16 (fun j => P0_N (8 + j))), (aq0_starts, aI G 6 (fun j => P0_N (2 + j))), (aq1, oB 3 [.ref aq1_values, .ref aq1_sights, .int s'.2.2.2.2.2.1, .int s'.2.2.2.2.2.2.1, .int s'.2.2.2.2.2.2.2.1]), (aq1_values, aI G 6 s'.2.2.2.1), (aq1_sights, aI G 61 s'.2.2.2.2.1)] [(0, .ref sv), (1, .ref aq0), (2, .ref aq1), (3, .int s'.2.2.2.2.2.2.2.2.1), (4, .int s'.2.2.2.2.2.2.2.2.2)] 24 [])
    (hf : f4_take_71 P0_N k24 packed unlike other O1_values O1_sights O1_seenCount O1_steps O1_cut x3 x4 = some res) : GG p l e rm4_take s m args below meth c G A 5 0 0 Q [(sv, oB 4 [.ref sv_packed, .int unlike, .int other]), (sv_packed, aJ G 2816 packed), (aq0, oB 2 [.ref aq0_lines, .ref aq0_cells, .ref aq0_starts, .int (P0_N 0), .int (P0_N 1)]), (aq0_lines, aI G 80 (fun j => P0_N (24 + j))), (aq0_cells, aI G 16 (fun j => P0_N (8 + j))), (aq0_starts, aI G 6 (fun j => P0_N (2 + j))), (aq1, oB 3 [.ref aq1_values, .ref aq1_sights, .int O1_seenCount, .int O1_steps, .int O1_cut]), (aq1_values, aI G 6 O1_values), (aq1_sights, aI G 61 O1_sights)] [(0, .ref sv), (1, .ref aq0), (2, .ref aq1), (3, .int x3), (4, .int x4)] 71 [] := by
  unfold f4_take_71 at hf
  refine g_aload_n C dX4_take_71 rfl 0 rfl ?_
  refine g_dup C dX4_take_72 rfl ?_
  refine g_get (C0 := RX4) (T := TX4) (N := 3) (ci := 4) (v := .int unlike) C hm4_take_0 0 rfl rfl 1 (by decide) hm4_take_1 rfl dX4_take_73 ?_
  refine g_iconst (v := (1 : Int32)) C dX4_take_76 (by decide +kernel) ?_
  refine g_iadd C dX4_take_77 ?_
  refine g_put (C0 := RX4) (T := TX4) (N := 3) (ci := 4) (ty := .int) (WS' := [(sv, oB 4 [.ref sv_packed, .int (unlike + (1 : Int32)), .int other]), (sv_packed, aJ G 2816 packed), (aq0, oB 2 [.ref aq0_lines, .ref aq0_cells, .ref aq0_starts, .int (P0_N 0), .int (P0_N 1)]), (aq0_lines, aI G 80 (fun j => P0_N (24 + j))), (aq0_cells, aI G 16 (fun j => P0_N (8 + j))), (aq0_starts, aI G 6 (fun j => P0_N (2 + j))), (aq1, oB 3 [.ref aq1_values, .ref aq1_sights, .int O1_seenCount, .int O1_steps, .int O1_cut]), (aq1_values, aI G 6 O1_values), (aq1_sights, aI G 61 O1_sights)]) C hm4_take_0 tyX4 tyX4_ok nmX4 0 rfl rfl 1 (by decide) hm4_take_1 rfl rfl rfl rfl (Nat.le_of_ble_eq_true rfl) dX4_take_78 rfl ?_
  refine g_iinc (v := (x4 + (1 : Int32))) (lv' := [(0, .ref sv), (1, .ref aq0), (2, .ref aq1), (3, .int x3), (4, .int (x4 + (1 : Int32)))]) C dX4_take_81 4 rfl rfl (by decide) [1, 2, 3, 4, 0] rfl ?_
  refine g_goto (tgt := 24) C dX4_take_84 (by decide) ?_
  exact hk24 _ hf
set_option maxHeartbeats 4000000 in
set_option maxRecDepth 100000 in
theorem k4_take_24b {p : Program} {l : Launch} {e : Env} {s : State} {m : MethodId} {args : Array Value} {below : List Frame} {meth : Method} {c : Code} {G : gG} {A : Nat → Prop} {Q : State → Prop} {sv sv_packed aq0 aq0_lines aq0_cells aq0_starts aq1 aq1_values aq1_sights : Nat} (C : CX p s m args meth c G A cX4_take 5 RX4 wsX4_take) {P0_N : Nat → Int32} {k24 : (Nat → Int64) × Int32 × Int32 × (Nat → Int32) × (Nat → Int32) × Int32 × Int32 × Int32 × Int32 × Int32 → Option ((Nat → Int64) × Int32 × Int32 × (Nat → Int32) × (Nat → Int32) × Int32 × Int32 × Int32)} {packed : Nat → Int64} {unlike : Int32} {other : Int32} {O1_values : Nat → Int32} {O1_sights : Nat → Int32} {O1_seenCount : Int32} {O1_steps : Int32} {O1_cut : Int32} {x3 : Int32} {x4 : Int32} {res : (Nat → Int64) × Int32 × Int32 × (Nat → Int32) × (Nat → Int32) × Int32 × Int32 × Int32} (hR : ∀ (lv : List (Nat × Value)) (pc : Nat), decode cX4_take pc = .ok (.return_, 1) → GG p l e rm4_take s m args below meth c G A 5 0 0 Q [(sv, oB 4 [.ref sv_packed, .int res.2.1, .int res.2.2.1]), (sv_packed, aJ G 2816 res.1), (aq0, oB 2 [.ref aq0_lines, .ref aq0_cells, .ref aq0_starts, .int (P0_N 0), .int (P0_N 1)]), (aq0_lines, aI G 80 (fun j => P0_N (24 + j))), (aq0_cells, aI G 16 (fun j => P0_N (8 + j))), (aq0_starts, aI G 6 (fun j => P0_N (2 + j))), (aq1, oB 3 [.ref aq1_values, .ref aq1_sights, .int res.2.2.2.2.2.1, .int res.2.2.2.2.2.2.1, .int res.2.2.2.2.2.2.2]), (aq1_values, aI G 6 res.2.2.2.1), (aq1_sights, aI G 61 res.2.2.2.2.1)] lv pc [])
    (hk24 : ∀ s', k24 s' = some res → GG p l e rm4_take s m args below meth c G A 5 0 0 Q [(sv, oB 4 [.ref sv_packed, .int s'.2.1, .int s'.2.2.1]), (sv_packed, aJ G 2816 s'.1), (aq0, oB 2 [.ref aq0_lines, .ref aq0_cells, .ref aq0_starts, .int (P0_N 0), .int (P0_N 1)]), (aq0_lines, aI G 80 (fun j => P0_N (24 + j))), (aq0_cells, aI G 16 (fun j => P0_N (8 + j))), (aq0_starts, aI G 6 (fun j => P0_N (2 + j))), (aq1, oB 3 [.ref aq1_values, .ref aq1_sights, .int s'.2.2.2.2.2.1, .int s'.2.2.2.2.2.2.1, .int s'.2.2.2.2.2.2.2.1]), (aq1_values, aI G 6 s'.2.2.2.1), (aq1_sights, aI G 61 s'.2.2.2.2.1)] [(0, .ref sv), (1, .ref aq0), (2, .ref aq1), (3, .int s'.2.2.2.2.2.2.2.2.1), (4, .int s'.2.2.2.2.2.2.2.2.2)] 24 [])
    (hf : f4_take_24b P0_N k24 packed unlike other O1_values O1_sights O1_seenCount O1_steps O1_cut x3 x4 = some res) : GG p l e rm4_take s m args below meth c G A 5 0 0 Q [(sv, oB 4 [.ref sv_packed, .int unlike, .int other]), (sv_packed, aJ G 2816 packed), (aq0, oB 2 [.ref aq0_lines, .ref aq0_cells, .ref aq0_starts, .int (P0_N 0), .int (P0_N 1)]), (aq0_lines, aI G 80 (fun j => P0_N (24 + j))), (aq0_cells, aI G 16 (fun j => P0_N (8 + j))), (aq0_starts, aI G 6 (fun j => P0_N (2 + j))), (aq1, oB 3 [.ref aq1_values, .ref aq1_sights, .int O1_seenCount, .int O1_steps, .int O1_cut]), (aq1_values, aI G 6 O1_values), (aq1_sights, aI G 61 O1_sights)] [(0, .ref sv), (1, .ref aq0), (2, .ref aq1), (3, .int x3), (4, .int x4)] 24 [] := by
  unfold f4_take_24b at hf
  refine g_iload C dX4_take_24 4 rfl ?_
  refine g_iload_n C dX4_take_26 rfl 3 rfl ?_
  refine g_icmp_ge (tgt := 87) C dX4_take_27 (by decide) (fun c1 => ?_) (fun c1 => ?_)
  · replace hf := ite_t c1 hf
    obtain rfl := Option.some.inj hf
    exact hR _ _ dX4_take_87
  · replace hf := ite_f c1 hf
    refine g_aload_n C dX4_take_30 rfl 2 rfl ?_
    refine g_aload_n C dX4_take_31 rfl 1 rfl ?_
    refine g_iload C dX4_take_32 4 rfl ?_
    obtain ⟨q2, hq2, hf⟩ := bs hf
    refine g_callVv (n := 2) (As := [.ref aq0, .int x4]) (rest := []) (wc := [(aq1, oB 3 [.ref aq1_values, .ref aq1_sights, .int O1_seenCount, .int O1_steps, .int O1_cut]), (aq1_values, aI G 6 O1_values), (aq1_sights, aI G 61 O1_sights), (aq0, oB 2 [.ref aq0_lines, .ref aq0_cells, .ref aq0_starts, .int (P0_N 0), .int (P0_N 1)]), (aq0_lines, aI G 80 (fun j => P0_N (24 + j))), (aq0_cells, aI G 16 (fun j => P0_N (8 + j))), (aq0_starts, aI G 6 (fun j => P0_N (2 + j)))]) (w1 := [(aq1, oB 3 [.ref aq1_values, .ref aq1_sights, .int q2.2.2.1, .int q2.2.2.2.1, .int q2.2.2.2.2]), (aq1_values, aI G 6 q2.1), (aq1_sights, aI G 61 q2.2.1), (aq0, oB 2 [.ref aq0_lines, .ref aq0_cells, .ref aq0_starts, .int (P0_N 0), .int (P0_N 1)]), (aq0_lines, aI G 80 (fun j => P0_N (24 + j))), (aq0_cells, aI G 16 (fun j => P0_N (8 + j))), (aq0_starts, aI G 6 (fun j => P0_N (2 + j)))]) (wr := [(sv, oB 4 [.ref sv_packed, .int unlike, .int other]), (sv_packed, aJ G 2816 packed)]) (WS' := [(sv, oB 4 [.ref sv_packed, .int unlike, .int other]), (sv_packed, aJ G 2816 packed), (aq0, oB 2 [.ref aq0_lines, .ref aq0_cells, .ref aq0_starts, .int (P0_N 0), .int (P0_N 1)]), (aq0_lines, aI G 80 (fun j => P0_N (24 + j))), (aq0_cells, aI G 16 (fun j => P0_N (8 + j))), (aq0_starts, aI G 6 (fun j => P0_N (2 + j))), (aq1, oB 3 [.ref aq1_values, .ref aq1_sights, .int q2.2.2.1, .int q2.2.2.2.1, .int q2.2.2.2.2]), (aq1_values, aI G 6 q2.1), (aq1_sights, aI G 61 q2.2.1)]) C (c3_follow hq2) gX4_take_X3_follow (by decide +kernel) rfl rfl rfl rfl rfl rfl ⟨by decide, by decide⟩ rfl [6, 7, 8, 2, 3, 4, 5] [0, 1] [0, 1, 5, 6, 7, 8, 2, 3, 4] rfl (by decide) rfl (by decide) (by decide) rfl (by decide) (Nat.le_of_ble_eq_true rfl) ⟨Nat.zero_le _, Nat.zero_le _⟩ rfl dX4_take_34 ?_
    refine g_aload_n C dX4_take_37 rfl 0 rfl ?_
    refine g_aload_n C dX4_take_38 rfl 2 rfl ?_
    refine g_aload_n C dX4_take_39 rfl 0 rfl ?_
    refine g_get (C0 := RX4) (T := TX4) (N := 3) (ci := 4) (v := .int unlike) C hm4_take_0 0 rfl rfl 1 (by decide) hm4_take_1 rfl dX4_take_40 ?_
    obtain ⟨q3, hq3, hf⟩ := bs hf
    refine g_callVv (n := 2) (As := [.ref aq1, .int unlike]) (rest := []) (wc := [(sv, oB 4 [.ref sv_packed, .int unlike, .int other]), (sv_packed, aJ G 2816 packed), (aq1, oB 3 [.ref aq1_values, .ref aq1_sights, .int q2.2.2.1, .int q2.2.2.2.1, .int q2.2.2.2.2]), (aq1_values, aI G 6 q2.1), (aq1_sights, aI G 61 q2.2.1)]) (w1 := [(sv, oB 4 [.ref sv_packed, .int unlike, .int other]), (sv_packed, aJ G 2816 q3), (aq1, oB 3 [.ref aq1_values, .ref aq1_sights, .int q2.2.2.1, .int q2.2.2.2.1, .int q2.2.2.2.2]), (aq1_values, aI G 6 q2.1), (aq1_sights, aI G 61 q2.2.1)]) (wr := [(aq0, oB 2 [.ref aq0_lines, .ref aq0_cells, .ref aq0_starts, .int (P0_N 0), .int (P0_N 1)]), (aq0_lines, aI G 80 (fun j => P0_N (24 + j))), (aq0_cells, aI G 16 (fun j => P0_N (8 + j))), (aq0_starts, aI G 6 (fun j => P0_N (2 + j)))]) (WS' := [(sv, oB 4 [.ref sv_packed, .int unlike, .int other]), (sv_packed, aJ G 2816 q3), (aq0, oB 2 [.ref aq0_lines, .ref aq0_cells, .ref aq0_starts, .int (P0_N 0), .int (P0_N 1)]), (aq0_lines, aI G 80 (fun j => P0_N (24 + j))), (aq0_cells, aI G 16 (fun j => P0_N (8 + j))), (aq0_starts, aI G 6 (fun j => P0_N (2 + j))), (aq1, oB 3 [.ref aq1_values, .ref aq1_sights, .int q2.2.2.1, .int q2.2.2.2.1, .int q2.2.2.2.2]), (aq1_values, aI G 6 q2.1), (aq1_sights, aI G 61 q2.2.1)]) C (c4_pack hq3) gX4_take_X4_pack (by decide +kernel) rfl rfl rfl rfl rfl rfl ⟨by decide, by decide⟩ rfl [0, 1, 6, 7, 8] [2, 3, 4, 5] [4, 5, 0, 1, 2, 3, 6, 7, 8] rfl (by decide) rfl (by decide) (by decide) rfl (by decide) (Nat.le_of_ble_eq_true rfl) ⟨Nat.zero_le _, Nat.zero_le _⟩ rfl dX4_take_43 ?_
    refine g_aload_n C dX4_take_46 rfl 0 rfl ?_
    refine g_aload_n C dX4_take_47 rfl 0 rfl ?_
    refine g_get (C0 := RX4) (T := TX4) (N := 3) (ci := 4) (v := .int unlike) C hm4_take_0 0 rfl rfl 1 (by decide) hm4_take_1 rfl dX4_take_48 ?_
    obtain ⟨q4, hq4, hf⟩ := bs hf
    refine g_callVi (n := 1) (As := [.int unlike]) (rest := []) (wc := [(sv, oB 4 [.ref sv_packed, .int unlike, .int other]), (sv_packed, aJ G 2816 q3)]) (w1 := [(sv, oB 4 [.ref sv_packed, .int unlike, .int other]), (sv_packed, aJ G 2816 q3)]) (wr := [(aq0, oB 2 [.ref aq0_lines, .ref aq0_cells, .ref aq0_starts, .int (P0_N 0), .int (P0_N 1)]), (aq0_lines, aI G 80 (fun j => P0_N (24 + j))), (aq0_cells, aI G 16 (fun j => P0_N (8 + j))), (aq0_starts, aI G 6 (fun j => P0_N (2 + j))), (aq1, oB 3 [.ref aq1_values, .ref aq1_sights, .int q2.2.2.1, .int q2.2.2.2.1, .int q2.2.2.2.2]), (aq1_values, aI G 6 q2.1), (aq1_sights, aI G 61 q2.2.1)]) (WS' := [(sv, oB 4 [.ref sv_packed, .int unlike, .int other]), (sv_packed, aJ G 2816 q3), (aq0, oB 2 [.ref aq0_lines, .ref aq0_cells, .ref aq0_starts, .int (P0_N 0), .int (P0_N 1)]), (aq0_lines, aI G 80 (fun j => P0_N (24 + j))), (aq0_cells, aI G 16 (fun j => P0_N (8 + j))), (aq0_starts, aI G 6 (fun j => P0_N (2 + j))), (aq1, oB 3 [.ref aq1_values, .ref aq1_sights, .int q2.2.2.1, .int q2.2.2.2.1, .int q2.2.2.2.2]), (aq1_values, aI G 6 q2.1), (aq1_sights, aI G 61 q2.2.1)]) C (c4_isNew hq4) gX4_take_X4_isNew (by decide +kernel) rfl rfl rfl rfl rfl rfl ⟨by decide, by decide⟩ rfl [0, 1] [2, 3, 4, 5, 6, 7, 8] [7, 8, 0, 1, 2, 3, 4, 5, 6] rfl (by decide) rfl (by decide) (by decide) rfl (by decide) (Nat.le_of_ble_eq_true rfl) ⟨Nat.zero_le _, Nat.zero_le _⟩ rfl dX4_take_51 ?_
    refine g_if_eq (tgt := 81) C dX4_take_54 (by decide) (fun c5 => ?_) (fun c5 => ?_)
    · replace hf := ite_t c5 hf
      refine g_iinc (v := (x4 + (1 : Int32))) (lv' := [(0, .ref sv), (1, .ref aq0), (2, .ref aq1), (3, .int x3), (4, .int (x4 + (1 : Int32)))]) C dX4_take_81 4 rfl rfl (by decide) [1, 2, 3, 4, 0] rfl ?_
      refine g_goto (tgt := 24) C dX4_take_84 (by decide) ?_
      exact hk24 _ hf
    · replace hf := ite_f c5 hf
      refine g_aload_n C dX4_take_57 rfl 0 rfl ?_
      refine g_get (C0 := RX4) (T := TX4) (N := 3) (ci := 4) (v := .int unlike) C hm4_take_0 0 rfl rfl 1 (by decide) hm4_take_1 rfl dX4_take_58 ?_
      refine g_iconst (v := (1 : Int32)) C dX4_take_61 (by decide +kernel) ?_
      refine g_icmp_ne (tgt := 71) C dX4_take_62 (by decide) (fun c6 => ?_) (fun c6 => ?_)
      · replace hf := ite_f c6 hf
        exact k4_take_71 C hR hk24 hf
      · replace hf := ite_t c6 hf
        refine g_aload_n C dX4_take_65 rfl 0 rfl ?_
        refine g_iload C dX4_take_66 4 rfl ?_
        refine g_put (C0 := RX4) (T := TX4) (N := 3) (ci := 4) (ty := .int) (WS' := [(sv, oB 4 [.ref sv_packed, .int unlike, .int x4]), (sv_packed, aJ G 2816 q3), (aq0, oB 2 [.ref aq0_lines, .ref aq0_cells, .ref aq0_starts, .int (P0_N 0), .int (P0_N 1)]), (aq0_lines, aI G 80 (fun j => P0_N (24 + j))), (aq0_cells, aI G 16 (fun j => P0_N (8 + j))), (aq0_starts, aI G 6 (fun j => P0_N (2 + j))), (aq1, oB 3 [.ref aq1_values, .ref aq1_sights, .int q2.2.2.1, .int q2.2.2.2.1, .int q2.2.2.2.2]), (aq1_values, aI G 6 q2.1), (aq1_sights, aI G 61 q2.2.1)]) C hm4_take_0 tyX4 tyX4_ok nmX4 0 rfl rfl 2 (by decide) hm4_take_2 rfl rfl rfl rfl (Nat.le_of_ble_eq_true rfl) dX4_take_68 rfl ?_
        exact k4_take_71 C hR hk24 hf
set_option maxHeartbeats 4000000 in
set_option maxRecDepth 100000 in
theorem k4_take_24 {p : Program} {l : Launch} {e : Env} {s : State} {m : MethodId} {args : Array Value} {below : List Frame} {meth : Method} {c : Code} {G : gG} {A : Nat → Prop} {Q : State → Prop} {sv sv_packed aq0 aq0_lines aq0_cells aq0_starts aq1 aq1_values aq1_sights : Nat} (C : CX p s m args meth c G A cX4_take 5 RX4 wsX4_take) {P0_N : Nat → Int32} {res : (Nat → Int64) × Int32 × Int32 × (Nat → Int32) × (Nat → Int32) × Int32 × Int32 × Int32} (hR : ∀ (lv : List (Nat × Value)) (pc : Nat), decode cX4_take pc = .ok (.return_, 1) → GG p l e rm4_take s m args below meth c G A 5 0 0 Q [(sv, oB 4 [.ref sv_packed, .int res.2.1, .int res.2.2.1]), (sv_packed, aJ G 2816 res.1), (aq0, oB 2 [.ref aq0_lines, .ref aq0_cells, .ref aq0_starts, .int (P0_N 0), .int (P0_N 1)]), (aq0_lines, aI G 80 (fun j => P0_N (24 + j))), (aq0_cells, aI G 16 (fun j => P0_N (8 + j))), (aq0_starts, aI G 6 (fun j => P0_N (2 + j))), (aq1, oB 3 [.ref aq1_values, .ref aq1_sights, .int res.2.2.2.2.2.1, .int res.2.2.2.2.2.2.1, .int res.2.2.2.2.2.2.2]), (aq1_values, aI G 6 res.2.2.2.1), (aq1_sights, aI G 61 res.2.2.2.2.1)] lv pc []) : ∀ (n : Nat) (s1 : (Nat → Int64) × Int32 × Int32 × (Nat → Int32) × (Nat → Int32) × Int32 × Int32 × Int32 × Int32 × Int32), f4_take_24 P0_N n s1 = some res → GG p l e rm4_take s m args below meth c G A 5 0 0 Q [(sv, oB 4 [.ref sv_packed, .int s1.2.1, .int s1.2.2.1]), (sv_packed, aJ G 2816 s1.1), (aq0, oB 2 [.ref aq0_lines, .ref aq0_cells, .ref aq0_starts, .int (P0_N 0), .int (P0_N 1)]), (aq0_lines, aI G 80 (fun j => P0_N (24 + j))), (aq0_cells, aI G 16 (fun j => P0_N (8 + j))), (aq0_starts, aI G 6 (fun j => P0_N (2 + j))), (aq1, oB 3 [.ref aq1_values, .ref aq1_sights, .int s1.2.2.2.2.2.1, .int s1.2.2.2.2.2.2.1, .int s1.2.2.2.2.2.2.2.1]), (aq1_values, aI G 6 s1.2.2.2.1), (aq1_sights, aI G 61 s1.2.2.2.2.1)] [(0, .ref sv), (1, .ref aq0), (2, .ref aq1), (3, .int s1.2.2.2.2.2.2.2.2.1), (4, .int s1.2.2.2.2.2.2.2.2.2)] 24 [] :=
  itf_ind (fun k s1 ih hf => k4_take_24b C hR ih hf)
set_option maxHeartbeats 4000000 in
set_option maxRecDepth 100000 in
theorem c4_take {l : Launch} {G : gG} {sv sv_packed aq0 aq0_lines aq0_cells aq0_starts aq1 aq1_values aq1_sights : Nat} {packed : Nat → Int64} {unlike : Int32} {other : Int32} {P0_N : Nat → Int32} {O1_values : Nat → Int32} {O1_sights : Nat → Int32} {O1_seenCount : Int32} {O1_steps : Int32} {O1_cut : Int32} {res : (Nat → Int64) × Int32 × Int32 × (Nat → Int32) × (Nat → Int32) × Int32 × Int32 × Int32} (hf : f4_take P0_N packed unlike other O1_values O1_sights O1_seenCount O1_steps O1_cut = some res) : MV l yX4_take wsX4_take rm4_take G [.ref sv, .ref aq0, .ref aq1] [(sv, oB 4 [.ref sv_packed, .int unlike, .int other]), (sv_packed, aJ G 2816 packed), (aq0, oB 2 [.ref aq0_lines, .ref aq0_cells, .ref aq0_starts, .int (P0_N 0), .int (P0_N 1)]), (aq0_lines, aI G 80 (fun j => P0_N (24 + j))), (aq0_cells, aI G 16 (fun j => P0_N (8 + j))), (aq0_starts, aI G 6 (fun j => P0_N (2 + j))), (aq1, oB 3 [.ref aq1_values, .ref aq1_sights, .int O1_seenCount, .int O1_steps, .int O1_cut]), (aq1_values, aI G 6 O1_values), (aq1_sights, aI G 61 O1_sights)] [(sv, oB 4 [.ref sv_packed, .int res.2.1, .int res.2.2.1]), (sv_packed, aJ G 2816 res.1), (aq0, oB 2 [.ref aq0_lines, .ref aq0_cells, .ref aq0_starts, .int (P0_N 0), .int (P0_N 1)]), (aq0_lines, aI G 80 (fun j => P0_N (24 + j))), (aq0_cells, aI G 16 (fun j => P0_N (8 + j))), (aq0_starts, aI G 6 (fun j => P0_N (2 + j))), (aq1, oB 3 [.ref aq1_values, .ref aq1_sights, .int res.2.2.2.2.2.1, .int res.2.2.2.2.2.2.1, .int res.2.2.2.2.2.2.2]), (aq1_values, aI G 6 res.2.2.2.1), (aq1_sights, aI G 61 res.2.2.2.2.1)] := by
  refine MV_of (cc := cX4_take) (nL := 5) (lv := [(0, .ref sv), (1, .ref aq0), (2, .ref aq1)]) (by decide +kernel) rfl (Nat.le_of_ble_eq_true rfl) rfl ?_
  intro p e s m args below meth c A Q C hR
  unfold f4_take at hf
  refine g_aload_n C dX4_take_0 rfl 0 rfl ?_
  refine g_iconst (v := (0 : Int32)) C dX4_take_1 (by decide +kernel) ?_
  refine g_put (C0 := RX4) (T := TX4) (N := 3) (ci := 4) (ty := .int) (WS' := [(sv, oB 4 [.ref sv_packed, .int (0 : Int32), .int other]), (sv_packed, aJ G 2816 packed), (aq0, oB 2 [.ref aq0_lines, .ref aq0_cells, .ref aq0_starts, .int (P0_N 0), .int (P0_N 1)]), (aq0_lines, aI G 80 (fun j => P0_N (24 + j))), (aq0_cells, aI G 16 (fun j => P0_N (8 + j))), (aq0_starts, aI G 6 (fun j => P0_N (2 + j))), (aq1, oB 3 [.ref aq1_values, .ref aq1_sights, .int O1_seenCount, .int O1_steps, .int O1_cut]), (aq1_values, aI G 6 O1_values), (aq1_sights, aI G 61 O1_sights)]) C hm4_take_0 tyX4 tyX4_ok nmX4 0 rfl rfl 1 (by decide) hm4_take_1 rfl rfl rfl rfl (Nat.le_of_ble_eq_true rfl) dX4_take_2 rfl ?_
  refine g_aload_n C dX4_take_5 rfl 0 rfl ?_
  refine g_iconst (v := (-1 : Int32)) C dX4_take_6 (by decide +kernel) ?_
  refine g_put (C0 := RX4) (T := TX4) (N := 3) (ci := 4) (ty := .int) (WS' := [(sv, oB 4 [.ref sv_packed, .int (0 : Int32), .int (-1 : Int32)]), (sv_packed, aJ G 2816 packed), (aq0, oB 2 [.ref aq0_lines, .ref aq0_cells, .ref aq0_starts, .int (P0_N 0), .int (P0_N 1)]), (aq0_lines, aI G 80 (fun j => P0_N (24 + j))), (aq0_cells, aI G 16 (fun j => P0_N (8 + j))), (aq0_starts, aI G 6 (fun j => P0_N (2 + j))), (aq1, oB 3 [.ref aq1_values, .ref aq1_sights, .int O1_seenCount, .int O1_steps, .int O1_cut]), (aq1_values, aI G 6 O1_values), (aq1_sights, aI G 61 O1_sights)]) C hm4_take_0 tyX4 tyX4_ok nmX4 0 rfl rfl 2 (by decide) hm4_take_2 rfl rfl rfl rfl (Nat.le_of_ble_eq_true rfl) dX4_take_7 rfl ?_
  refine g_aload_n C dX4_take_10 rfl 1 rfl ?_
  obtain ⟨q7, hq7, hf⟩ := bs hf
  refine g_callVi (n := 0) (As := []) (rest := []) (wc := [(aq0, oB 2 [.ref aq0_lines, .ref aq0_cells, .ref aq0_starts, .int (P0_N 0), .int (P0_N 1)]), (aq0_lines, aI G 80 (fun j => P0_N (24 + j))), (aq0_cells, aI G 16 (fun j => P0_N (8 + j))), (aq0_starts, aI G 6 (fun j => P0_N (2 + j)))]) (w1 := [(aq0, oB 2 [.ref aq0_lines, .ref aq0_cells, .ref aq0_starts, .int (P0_N 0), .int (P0_N 1)]), (aq0_lines, aI G 80 (fun j => P0_N (24 + j))), (aq0_cells, aI G 16 (fun j => P0_N (8 + j))), (aq0_starts, aI G 6 (fun j => P0_N (2 + j)))]) (wr := [(sv, oB 4 [.ref sv_packed, .int (0 : Int32), .int (-1 : Int32)]), (sv_packed, aJ G 2816 packed), (aq1, oB 3 [.ref aq1_values, .ref aq1_sights, .int O1_seenCount, .int O1_steps, .int O1_cut]), (aq1_values, aI G 6 O1_values), (aq1_sights, aI G 61 O1_sights)]) (WS' := [(sv, oB 4 [.ref sv_packed, .int (0 : Int32), .int (-1 : Int32)]), (sv_packed, aJ G 2816 packed), (aq0, oB 2 [.ref aq0_lines, .ref aq0_cells, .ref aq0_starts, .int (P0_N 0), .int (P0_N 1)]), (aq0_lines, aI G 80 (fun j => P0_N (24 + j))), (aq0_cells, aI G 16 (fun j => P0_N (8 + j))), (aq0_starts, aI G 6 (fun j => P0_N (2 + j))), (aq1, oB 3 [.ref aq1_values, .ref aq1_sights, .int O1_seenCount, .int O1_steps, .int O1_cut]), (aq1_values, aI G 6 O1_values), (aq1_sights, aI G 61 O1_sights)]) C (c2_secretsEnd hq7) gX4_take_X2_secretsEnd (by decide +kernel) rfl rfl rfl rfl rfl rfl ⟨by decide, by decide⟩ rfl [2, 3, 4, 5] [0, 1, 6, 7, 8] [0, 1, 5, 6, 7, 8, 2, 3, 4] rfl (by decide) rfl (by decide) (by decide) rfl (by decide) (Nat.le_of_ble_eq_true rfl) ⟨Nat.zero_le _, Nat.zero_le _⟩ rfl dX4_take_11 ?_
  refine g_sipush (v := (256 : Int32)) C dX4_take_14 (by decide +kernel) ?_
  refine g_mmin C hm4_take_3 hm4_take_4 hm4_take_5 hm4_take_6 (by decide) (Nat.le_of_ble_eq_true rfl) (Nat.zero_le _) (Nat.zero_le _) dX4_take_17 ?_
  refine g_istore_n (lv' := [(0, .ref sv), (1, .ref aq0), (2, .ref aq1), (3, .int (if (256 : Int32) < q7 then (256 : Int32) else q7))]) C dX4_take_20 rfl (by decide) [1, 2, 3, 0] rfl ?_
  refine g_iconst (v := (0 : Int32)) C dX4_take_21 (by decide +kernel) ?_
  refine g_istore (lv' := [(0, .ref sv), (1, .ref aq0), (2, .ref aq1), (3, .int (if (256 : Int32) < q7 then (256 : Int32) else q7)), (4, .int (0 : Int32))]) C dX4_take_22 (by decide) [1, 2, 3, 4, 0] rfl ?_
  exact k4_take_24 C hR _ _ hf

-- X5_append
def f5_append (bytes : Nat → Int32) (length : Int32) (v0 : Int32) : Option (Int32 × (Nat → Int32) × Int32) :=
  if length < (120 : Int32) then
    (ck (inb length 120) <|
    some ((length + (1 : Int32)), (upd bytes length.toNatClampNeg v0), (length + (1 : Int32))))
    else (some ((-4 : Int32), bytes, length))
def rm5_append : Room := { frames := 0, cells := 0, slots := 0, locals := 0 }
theorem hm5_append_0 : ∀ w ∈ u_ws RX5 TX5 8, w ∈ wsX5_append := by decide +kernel
theorem hm5_append_1 : Cond.fieldLink RX5 21 "SecretSteps$Text" "length" "I" ∈ wsX5_append := by decide +kernel
theorem hm5_append_2 : Cond.fieldLink RX5 9 "SecretSteps$Text" "bytes" "[I" ∈ wsX5_append := by decide +kernel
set_option maxHeartbeats 4000000 in
set_option maxRecDepth 100000 in
theorem c5_append {l : Launch} {G : gG} {tx tx_bytes tx_letters tx_arguments : Nat} {bytes : Nat → Int32} {length : Int32} {letters : Nat → Int32} {arguments : Nat → Int32} {orders : Int32} {open_ : Int32} {numbers : Int32} {figures : Int32} {v0 : Int32} {res : Int32 × (Nat → Int32) × Int32} (hf : f5_append bytes length v0 = some res) : MI l yX5_append wsX5_append rm5_append G [.ref tx, .int v0] [(tx, oB 5 [.ref tx_bytes, .int length, .ref tx_letters, .ref tx_arguments, .int orders, .int open_, .int numbers, .int figures]), (tx_bytes, aI G 120 bytes), (tx_letters, aI G 40 letters), (tx_arguments, aI G 160 arguments)] (res.1) [(tx, oB 5 [.ref tx_bytes, .int res.2.2, .ref tx_letters, .ref tx_arguments, .int orders, .int open_, .int numbers, .int figures]), (tx_bytes, aI G 120 res.2.1), (tx_letters, aI G 40 letters), (tx_arguments, aI G 160 arguments)] := by
  refine MI_of (res.1) (cc := cX5_append) (nL := 2) (lv := [(0, .ref tx), (1, .int v0)]) (by decide +kernel) rfl (Nat.le_of_ble_eq_true rfl) rfl ?_
  intro p e s m args below meth c A Q C hR
  unfold f5_append at hf
  refine g_aload_n C dX5_append_0 rfl 0 rfl ?_
  refine g_get (C0 := RX5) (T := TX5) (N := 8) (ci := 5) (v := .int length) C hm5_append_0 0 rfl rfl 1 (by decide) hm5_append_1 rfl dX5_append_1 ?_
  refine g_bipush (v := (120 : Int32)) C dX5_append_4 (by decide +kernel) ?_
  refine g_icmp_lt (tgt := 12) C dX5_append_6 (by decide) (fun c1 => ?_) (fun c1 => ?_)
  · replace hf := ite_t c1 hf
    refine g_aload_n C dX5_append_12 rfl 0 rfl ?_
    refine g_get (C0 := RX5) (T := TX5) (N := 8) (ci := 5) (v := .ref tx_bytes) C hm5_append_0 0 rfl rfl 0 (by decide) hm5_append_2 rfl dX5_append_13 ?_
    refine g_aload_n C dX5_append_16 rfl 0 rfl ?_
    refine g_get (C0 := RX5) (T := TX5) (N := 8) (ci := 5) (v := .int length) C hm5_append_0 0 rfl rfl 1 (by decide) hm5_append_1 rfl dX5_append_17 ?_
    refine g_iload_n C dX5_append_20 rfl 1 rfl ?_
    obtain ⟨h2, hf⟩ := ck_some hf
    refine g_iast (n := 120) (WS' := [(tx, oB 5 [.ref tx_bytes, .int length, .ref tx_letters, .ref tx_arguments, .int orders, .int open_, .int numbers, .int figures]), (tx_bytes, aI G 120 (upd bytes length.toNatClampNeg v0)), (tx_letters, aI G 40 letters), (tx_arguments, aI G 160 arguments)]) C 1 rfl h2 rfl dX5_append_21 rfl ?_
    refine g_aload_n C dX5_append_22 rfl 0 rfl ?_
    refine g_dup C dX5_append_23 rfl ?_
    refine g_get (C0 := RX5) (T := TX5) (N := 8) (ci := 5) (v := .int length) C hm5_append_0 0 rfl rfl 1 (by decide) hm5_append_1 rfl dX5_append_24 ?_
    refine g_iconst (v := (1 : Int32)) C dX5_append_27 (by decide +kernel) ?_
    refine g_iadd C dX5_append_28 ?_
    refine g_put (C0 := RX5) (T := TX5) (N := 8) (ci := 5) (ty := .int) (WS' := [(tx, oB 5 [.ref tx_bytes, .int (length + (1 : Int32)), .ref tx_letters, .ref tx_arguments, .int orders, .int open_, .int numbers, .int figures]), (tx_bytes, aI G 120 (upd bytes length.toNatClampNeg v0)), (tx_letters, aI G 40 letters), (tx_arguments, aI G 160 arguments)]) C hm5_append_0 tyX5 tyX5_ok nmX5 0 rfl rfl 1 (by decide) hm5_append_1 rfl rfl rfl rfl (Nat.le_of_ble_eq_true rfl) dX5_append_29 rfl ?_
    refine g_aload_n C dX5_append_32 rfl 0 rfl ?_
    refine g_get (C0 := RX5) (T := TX5) (N := 8) (ci := 5) (v := .int (length + (1 : Int32))) C hm5_append_0 0 rfl rfl 1 (by decide) hm5_append_1 rfl dX5_append_33 ?_
    obtain rfl := Option.some.inj hf
    exact hR _ _ dX5_append_36
  · replace hf := ite_f c1 hf
    refine g_bipush (v := (-4 : Int32)) C dX5_append_9 (by decide +kernel) ?_
    obtain rfl := Option.some.inj hf
    exact hR _ _ dX5_append_11

-- X5_empty
def f5_empty (length : Int32) : Option (Int32 × Int32) :=
  some (length, (0 : Int32))
def rm5_empty : Room := { frames := 0, cells := 0, slots := 0, locals := 0 }
theorem hm5_empty_0 : ∀ w ∈ u_ws RX5 TX5 8, w ∈ wsX5_empty := by decide +kernel
theorem hm5_empty_1 : Cond.fieldLink RX5 21 "SecretSteps$Text" "length" "I" ∈ wsX5_empty := by decide +kernel
set_option maxHeartbeats 4000000 in
set_option maxRecDepth 100000 in
theorem c5_empty {l : Launch} {G : gG} {tx tx_bytes tx_letters tx_arguments : Nat} {bytes : Nat → Int32} {length : Int32} {letters : Nat → Int32} {arguments : Nat → Int32} {orders : Int32} {open_ : Int32} {numbers : Int32} {figures : Int32} {res : Int32 × Int32} (hf : f5_empty length = some res) : MI l yX5_empty wsX5_empty rm5_empty G [.ref tx] [(tx, oB 5 [.ref tx_bytes, .int length, .ref tx_letters, .ref tx_arguments, .int orders, .int open_, .int numbers, .int figures]), (tx_bytes, aI G 120 bytes), (tx_letters, aI G 40 letters), (tx_arguments, aI G 160 arguments)] (res.1) [(tx, oB 5 [.ref tx_bytes, .int res.2, .ref tx_letters, .ref tx_arguments, .int orders, .int open_, .int numbers, .int figures]), (tx_bytes, aI G 120 bytes), (tx_letters, aI G 40 letters), (tx_arguments, aI G 160 arguments)] := by
  refine MI_of (res.1) (cc := cX5_empty) (nL := 2) (lv := [(0, .ref tx)]) (by decide +kernel) rfl (Nat.le_of_ble_eq_true rfl) rfl ?_
  intro p e s m args below meth c A Q C hR
  unfold f5_empty at hf
  refine g_aload_n C dX5_empty_0 rfl 0 rfl ?_
  refine g_get (C0 := RX5) (T := TX5) (N := 8) (ci := 5) (v := .int length) C hm5_empty_0 0 rfl rfl 1 (by decide) hm5_empty_1 rfl dX5_empty_1 ?_
  refine g_istore_n (lv' := [(0, .ref tx), (1, .int length)]) C dX5_empty_4 rfl (by decide) [1, 0] rfl ?_
  refine g_aload_n C dX5_empty_5 rfl 0 rfl ?_
  refine g_iconst (v := (0 : Int32)) C dX5_empty_6 (by decide +kernel) ?_
  refine g_put (C0 := RX5) (T := TX5) (N := 8) (ci := 5) (ty := .int) (WS' := [(tx, oB 5 [.ref tx_bytes, .int (0 : Int32), .ref tx_letters, .ref tx_arguments, .int orders, .int open_, .int numbers, .int figures]), (tx_bytes, aI G 120 bytes), (tx_letters, aI G 40 letters), (tx_arguments, aI G 160 arguments)]) C hm5_empty_0 tyX5 tyX5_ok nmX5 0 rfl rfl 1 (by decide) hm5_empty_1 rfl rfl rfl rfl (Nat.le_of_ble_eq_true rfl) dX5_empty_7 rfl ?_
  refine g_iload_n C dX5_empty_10 rfl 1 rfl ?_
  obtain rfl := Option.some.inj hf
  exact hR _ _ dX5_empty_11

-- X5_numbersOf
def f5_numbersOf (v0 : Int32) : Option (Int32) :=
  (if v0 = (100 : Int32) then
    (some (1 : Int32))
    else (if v0 = (108 : Int32) then
    (some (4 : Int32))
    else (if v0 = (112 : Int32) then
    (some (2 : Int32))
    else (if v0 = (116 : Int32) then
    (some (2 : Int32))
    else (if v0 = (118 : Int32) then
    (some (2 : Int32))
    else (some (0 : Int32)))))))
def rm5_numbersOf : Room := { frames := 0, cells := 0, slots := 0, locals := 0 }
set_option maxHeartbeats 4000000 in
set_option maxRecDepth 100000 in
theorem c5_numbersOf {l : Launch} {G : gG} {v0 : Int32} {res : Int32} (hf : f5_numbersOf v0 = some res) : MI l yX5_numbersOf wsX5_numbersOf rm5_numbersOf G [.int v0] [] (res) [] := by
  refine MI_of (res) (cc := cX5_numbersOf) (nL := 1) (lv := [(0, .int v0)]) (by decide +kernel) rfl (Nat.le_of_ble_eq_true rfl) rfl ?_
  intro p e s m args below meth c A Q C hR
  unfold f5_numbersOf at hf
  refine g_iload_n C dX5_numbersOf_0 rfl 0 rfl ?_
  by_cases c1 : v0 = (100 : Int32)
  · replace hf := ite_t c1 hf
    refine g_lookup (off := 53) (tgt := 54) C dX5_numbersOf_1 (by decide +kernel) (by rw [c1]; decide +kernel) (by decide) ?_
    refine g_iconst (v := (1 : Int32)) C dX5_numbersOf_54 (by decide +kernel) ?_
    obtain rfl := Option.some.inj hf
    exact hR _ _ dX5_numbersOf_55
  replace hf := ite_f c1 hf
  by_cases c2 : v0 = (108 : Int32)
  · replace hf := ite_t c2 hf
    refine g_lookup (off := 51) (tgt := 52) C dX5_numbersOf_1 (by decide +kernel) (by rw [c2]; decide +kernel) (by decide) ?_
    refine g_iconst (v := (4 : Int32)) C dX5_numbersOf_52 (by decide +kernel) ?_
    obtain rfl := Option.some.inj hf
    exact hR _ _ dX5_numbersOf_53
  replace hf := ite_f c2 hf
  by_cases c3 : v0 = (112 : Int32)
  · replace hf := ite_t c3 hf
    refine g_lookup (off := 55) (tgt := 56) C dX5_numbersOf_1 (by decide +kernel) (by rw [c3]; decide +kernel) (by decide) ?_
    refine g_iconst (v := (2 : Int32)) C dX5_numbersOf_56 (by decide +kernel) ?_
    obtain rfl := Option.some.inj hf
    exact hR _ _ dX5_numbersOf_57
  replace hf := ite_f c3 hf
  by_cases c4 : v0 = (116 : Int32)
  · replace hf := ite_t c4 hf
    refine g_lookup (off := 55) (tgt := 56) C dX5_numbersOf_1 (by decide +kernel) (by rw [c4]; decide +kernel) (by decide) ?_
    refine g_iconst (v := (2 : Int32)) C dX5_numbersOf_56 (by decide +kernel) ?_
    obtain rfl := Option.some.inj hf
    exact hR _ _ dX5_numbersOf_57
  replace hf := ite_f c4 hf
  by_cases c5 : v0 = (118 : Int32)
  · replace hf := ite_t c5 hf
    refine g_lookup (off := 55) (tgt := 56) C dX5_numbersOf_1 (by decide +kernel) (by rw [c5]; decide +kernel) (by decide) ?_
    refine g_iconst (v := (2 : Int32)) C dX5_numbersOf_56 (by decide +kernel) ?_
    obtain rfl := Option.some.inj hf
    exact hR _ _ dX5_numbersOf_57
  replace hf := ite_f c5 hf
  refine g_lookup (off := 57) (tgt := 58) C dX5_numbersOf_1 (by decide +kernel) (by refine (lv_osw (k := (100 : Int32)) c1 (by decide +kernel)).trans ?_; refine (lv_osw (k := (108 : Int32)) c2 (by decide +kernel)).trans ?_; refine (lv_osw (k := (112 : Int32)) c3 (by decide +kernel)).trans ?_; refine (lv_osw (k := (116 : Int32)) c4 (by decide +kernel)).trans ?_; refine (lv_osw (k := (118 : Int32)) c5 (by decide +kernel)).trans ?_; rfl) (by decide) ?_
  refine g_iconst (v := (0 : Int32)) C dX5_numbersOf_58 (by decide +kernel) ?_
  obtain rfl := Option.some.inj hf
  exact hR _ _ dX5_numbersOf_59

-- X5_begins
def f5_begins (orders : Int32) (letters : Nat → Int32) (open_ : Int32) (numbers : Int32) (figures : Int32) (v0 : Int32) : Option (Int32 × (Nat → Int32) × Int32 × Int32 × Int32) :=
  (f5_numbersOf v0).bind <| fun q1 =>
    if q1 = 0 then
    (some ((0 : Int32), letters, open_, numbers, figures))
    else (if orders < (40 : Int32) then
    (ck (inb orders 40) <|
    some ((1 : Int32), (upd letters orders.toNatClampNeg v0), (1 : Int32), (0 : Int32), (0 : Int32)))
    else (some ((0 : Int32), letters, open_, numbers, figures)))
def rm5_begins : Room := { frames := 1, cells := 0, slots := 0, locals := 20 }
theorem hm5_begins_0 : ∀ w ∈ u_ws RX5 TX5 8, w ∈ wsX5_begins := by decide +kernel
theorem hm5_begins_1 : Cond.fieldLink RX5 25 "SecretSteps$Text" "orders" "I" ∈ wsX5_begins := by decide +kernel
theorem hm5_begins_2 : Cond.fieldLink RX5 15 "SecretSteps$Text" "letters" "[I" ∈ wsX5_begins := by decide +kernel
theorem hm5_begins_3 : Cond.fieldLink RX5 28 "SecretSteps$Text" "open" "Z" ∈ wsX5_begins := by decide +kernel
theorem hm5_begins_4 : Cond.fieldLink RX5 53 "SecretSteps$Text" "numbers" "I" ∈ wsX5_begins := by decide +kernel
theorem hm5_begins_5 : Cond.fieldLink RX5 36 "SecretSteps$Text" "figures" "I" ∈ wsX5_begins := by decide +kernel
set_option maxHeartbeats 4000000 in
set_option maxRecDepth 100000 in
theorem c5_begins {l : Launch} {G : gG} {tx tx_bytes tx_letters tx_arguments : Nat} {bytes : Nat → Int32} {length : Int32} {letters : Nat → Int32} {arguments : Nat → Int32} {orders : Int32} {open_ : Int32} {numbers : Int32} {figures : Int32} {v0 : Int32} {res : Int32 × (Nat → Int32) × Int32 × Int32 × Int32} (hf : f5_begins orders letters open_ numbers figures v0 = some res) : MI l yX5_begins wsX5_begins rm5_begins G [.ref tx, .int v0] [(tx, oB 5 [.ref tx_bytes, .int length, .ref tx_letters, .ref tx_arguments, .int orders, .int open_, .int numbers, .int figures]), (tx_bytes, aI G 120 bytes), (tx_letters, aI G 40 letters), (tx_arguments, aI G 160 arguments)] (res.1) [(tx, oB 5 [.ref tx_bytes, .int length, .ref tx_letters, .ref tx_arguments, .int orders, .int res.2.2.1, .int res.2.2.2.1, .int res.2.2.2.2]), (tx_bytes, aI G 120 bytes), (tx_letters, aI G 40 res.2.1), (tx_arguments, aI G 160 arguments)] := by
  refine MZ_of (res.1) (cc := cX5_begins) (nL := 2) (lv := [(0, .ref tx), (1, .int v0)]) (by decide +kernel) rfl (Nat.le_of_ble_eq_true rfl) rfl ?_
  intro p e s m args below meth c A Q C hR
  unfold f5_begins at hf
  refine g_iload_n C dX5_begins_0 rfl 1 rfl ?_
  obtain ⟨q1, hq1, hf⟩ := bs hf
  refine g_callSi (n := 1) (As := [.int v0]) (rest := []) (wc := []) (w1 := []) (wr := [(tx, oB 5 [.ref tx_bytes, .int length, .ref tx_letters, .ref tx_arguments, .int orders, .int open_, .int numbers, .int figures]), (tx_bytes, aI G 120 bytes), (tx_letters, aI G 40 letters), (tx_arguments, aI G 160 arguments)]) (WS' := [(tx, oB 5 [.ref tx_bytes, .int length, .ref tx_letters, .ref tx_arguments, .int orders, .int open_, .int numbers, .int figures]), (tx_bytes, aI G 120 bytes), (tx_letters, aI G 40 letters), (tx_arguments, aI G 160 arguments)]) C (c5_numbersOf hq1) gX5_begins_X5_numbersOf (by decide +kernel) rfl rfl rfl ⟨by decide, by decide⟩ rfl [] [0, 1, 2, 3] [0, 1, 2, 3] rfl (by decide) rfl (by decide) (by decide) rfl (by decide) (Nat.le_of_ble_eq_true rfl) ⟨Nat.zero_le _, Nat.zero_le _⟩ rfl dX5_begins_1 ?_
  refine g_if_eq (tgt := 16) C dX5_begins_4 (by decide) (fun c2 => ?_) (fun c2 => ?_)
  · replace hf := ite_t c2 hf
    refine g_iconst (v := (0 : Int32)) C dX5_begins_16 (by decide +kernel) ?_
    obtain rfl := Option.some.inj hf
    exact hR _ _ dX5_begins_17 isb0
  · replace hf := ite_f c2 hf
    refine g_aload_n C dX5_begins_7 rfl 0 rfl ?_
    refine g_get (C0 := RX5) (T := TX5) (N := 8) (ci := 5) (v := .int orders) C hm5_begins_0 0 rfl rfl 4 (by decide) hm5_begins_1 rfl dX5_begins_8 ?_
    refine g_bipush (v := (40 : Int32)) C dX5_begins_11 (by decide +kernel) ?_
    refine g_icmp_lt (tgt := 18) C dX5_begins_13 (by decide) (fun c3 => ?_) (fun c3 => ?_)
    · replace hf := ite_t c3 hf
      refine g_aload_n C dX5_begins_18 rfl 0 rfl ?_
      refine g_get (C0 := RX5) (T := TX5) (N := 8) (ci := 5) (v := .ref tx_letters) C hm5_begins_0 0 rfl rfl 2 (by decide) hm5_begins_2 rfl dX5_begins_19 ?_
      refine g_aload_n C dX5_begins_22 rfl 0 rfl ?_
      refine g_get (C0 := RX5) (T := TX5) (N := 8) (ci := 5) (v := .int orders) C hm5_begins_0 0 rfl rfl 4 (by decide) hm5_begins_1 rfl dX5_begins_23 ?_
      refine g_iload_n C dX5_begins_26 rfl 1 rfl ?_
      obtain ⟨h4, hf⟩ := ck_some hf
      refine g_iast (n := 40) (WS' := [(tx, oB 5 [.ref tx_bytes, .int length, .ref tx_letters, .ref tx_arguments, .int orders, .int open_, .int numbers, .int figures]), (tx_bytes, aI G 120 bytes), (tx_letters, aI G 40 (upd letters orders.toNatClampNeg v0)), (tx_arguments, aI G 160 arguments)]) C 2 rfl h4 rfl dX5_begins_27 rfl ?_
      refine g_aload_n C dX5_begins_28 rfl 0 rfl ?_
      refine g_iconst (v := (1 : Int32)) C dX5_begins_29 (by decide +kernel) ?_
      refine g_put (C0 := RX5) (T := TX5) (N := 8) (ci := 5) (ty := .boolean) (WS' := [(tx, oB 5 [.ref tx_bytes, .int length, .ref tx_letters, .ref tx_arguments, .int orders, .int (1 : Int32), .int numbers, .int figures]), (tx_bytes, aI G 120 bytes), (tx_letters, aI G 40 (upd letters orders.toNatClampNeg v0)), (tx_arguments, aI G 160 arguments)]) C hm5_begins_0 tyX5 tyX5_ok nmX5 0 rfl rfl 5 (by decide) hm5_begins_3 rfl rfl rfl rfl (Nat.le_of_ble_eq_true rfl) dX5_begins_30 rfl ?_
      refine g_aload_n C dX5_begins_33 rfl 0 rfl ?_
      refine g_iconst (v := (0 : Int32)) C dX5_begins_34 (by decide +kernel) ?_
      refine g_put (C0 := RX5) (T := TX5) (N := 8) (ci := 5) (ty := .int) (WS' := [(tx, oB 5 [.ref tx_bytes, .int length, .ref tx_letters, .ref tx_arguments, .int orders, .int (1 : Int32), .int (0 : Int32), .int figures]), (tx_bytes, aI G 120 bytes), (tx_letters, aI G 40 (upd letters orders.toNatClampNeg v0)), (tx_arguments, aI G 160 arguments)]) C hm5_begins_0 tyX5 tyX5_ok nmX5 0 rfl rfl 6 (by decide) hm5_begins_4 rfl rfl rfl rfl (Nat.le_of_ble_eq_true rfl) dX5_begins_35 rfl ?_
      refine g_aload_n C dX5_begins_38 rfl 0 rfl ?_
      refine g_iconst (v := (0 : Int32)) C dX5_begins_39 (by decide +kernel) ?_
      refine g_put (C0 := RX5) (T := TX5) (N := 8) (ci := 5) (ty := .int) (WS' := [(tx, oB 5 [.ref tx_bytes, .int length, .ref tx_letters, .ref tx_arguments, .int orders, .int (1 : Int32), .int (0 : Int32), .int (0 : Int32)]), (tx_bytes, aI G 120 bytes), (tx_letters, aI G 40 (upd letters orders.toNatClampNeg v0)), (tx_arguments, aI G 160 arguments)]) C hm5_begins_0 tyX5 tyX5_ok nmX5 0 rfl rfl 7 (by decide) hm5_begins_5 rfl rfl rfl rfl (Nat.le_of_ble_eq_true rfl) dX5_begins_40 rfl ?_
      refine g_iconst (v := (1 : Int32)) C dX5_begins_43 (by decide +kernel) ?_
      obtain rfl := Option.some.inj hf
      exact hR _ _ dX5_begins_44 isb1
    · replace hf := ite_f c3 hf
      refine g_iconst (v := (0 : Int32)) C dX5_begins_16 (by decide +kernel) ?_
      obtain rfl := Option.some.inj hf
      exact hR _ _ dX5_begins_17 isb0

-- X5_ends
def f5_ends (letters : Nat → Int32) (numbers : Int32) (orders : Int32) (open_ : Int32) : Option (Int32 × Int32 × Int32) :=
  ck (inb orders 40) <|
    (f5_numbersOf (letters orders.toNatClampNeg)).bind <| fun q2 =>
    if numbers = q2 then
    (some ((1 : Int32), (orders + (1 : Int32)), (0 : Int32)))
    else (some ((0 : Int32), orders, open_))
def rm5_ends : Room := { frames := 1, cells := 0, slots := 0, locals := 20 }
theorem hm5_ends_0 : ∀ w ∈ u_ws RX5 TX5 8, w ∈ wsX5_ends := by decide +kernel
theorem hm5_ends_1 : Cond.fieldLink RX5 53 "SecretSteps$Text" "numbers" "I" ∈ wsX5_ends := by decide +kernel
theorem hm5_ends_2 : Cond.fieldLink RX5 15 "SecretSteps$Text" "letters" "[I" ∈ wsX5_ends := by decide +kernel
theorem hm5_ends_3 : Cond.fieldLink RX5 25 "SecretSteps$Text" "orders" "I" ∈ wsX5_ends := by decide +kernel
theorem hm5_ends_4 : Cond.fieldLink RX5 28 "SecretSteps$Text" "open" "Z" ∈ wsX5_ends := by decide +kernel
set_option maxHeartbeats 4000000 in
set_option maxRecDepth 100000 in
theorem c5_ends {l : Launch} {G : gG} {tx tx_bytes tx_letters tx_arguments : Nat} {bytes : Nat → Int32} {length : Int32} {letters : Nat → Int32} {arguments : Nat → Int32} {orders : Int32} {open_ : Int32} {numbers : Int32} {figures : Int32} {res : Int32 × Int32 × Int32} (hf : f5_ends letters numbers orders open_ = some res) : MI l yX5_ends wsX5_ends rm5_ends G [.ref tx] [(tx, oB 5 [.ref tx_bytes, .int length, .ref tx_letters, .ref tx_arguments, .int orders, .int open_, .int numbers, .int figures]), (tx_bytes, aI G 120 bytes), (tx_letters, aI G 40 letters), (tx_arguments, aI G 160 arguments)] (res.1) [(tx, oB 5 [.ref tx_bytes, .int length, .ref tx_letters, .ref tx_arguments, .int res.2.1, .int res.2.2, .int numbers, .int figures]), (tx_bytes, aI G 120 bytes), (tx_letters, aI G 40 letters), (tx_arguments, aI G 160 arguments)] := by
  refine MZ_of (res.1) (cc := cX5_ends) (nL := 1) (lv := [(0, .ref tx)]) (by decide +kernel) rfl (Nat.le_of_ble_eq_true rfl) rfl ?_
  intro p e s m args below meth c A Q C hR
  unfold f5_ends at hf
  refine g_aload_n C dX5_ends_0 rfl 0 rfl ?_
  refine g_get (C0 := RX5) (T := TX5) (N := 8) (ci := 5) (v := .int numbers) C hm5_ends_0 0 rfl rfl 6 (by decide) hm5_ends_1 rfl dX5_ends_1 ?_
  refine g_aload_n C dX5_ends_4 rfl 0 rfl ?_
  refine g_get (C0 := RX5) (T := TX5) (N := 8) (ci := 5) (v := .ref tx_letters) C hm5_ends_0 0 rfl rfl 2 (by decide) hm5_ends_2 rfl dX5_ends_5 ?_
  refine g_aload_n C dX5_ends_8 rfl 0 rfl ?_
  refine g_get (C0 := RX5) (T := TX5) (N := 8) (ci := 5) (v := .int orders) C hm5_ends_0 0 rfl rfl 4 (by decide) hm5_ends_3 rfl dX5_ends_9 ?_
  obtain ⟨h1, hf⟩ := ck_some hf
  refine g_iald (n := 40) (v := (letters orders.toNatClampNeg)) C 2 rfl h1 rfl rfl dX5_ends_12 ?_
  obtain ⟨q2, hq2, hf⟩ := bs hf
  refine g_callSi (n := 1) (As := [.int (letters orders.toNatClampNeg)]) (rest := [.int numbers]) (wc := []) (w1 := []) (wr := [(tx, oB 5 [.ref tx_bytes, .int length, .ref tx_letters, .ref tx_arguments, .int orders, .int open_, .int numbers, .int figures]), (tx_bytes, aI G 120 bytes), (tx_letters, aI G 40 letters), (tx_arguments, aI G 160 arguments)]) (WS' := [(tx, oB 5 [.ref tx_bytes, .int length, .ref tx_letters, .ref tx_arguments, .int orders, .int open_, .int numbers, .int figures]), (tx_bytes, aI G 120 bytes), (tx_letters, aI G 40 letters), (tx_arguments, aI G 160 arguments)]) C (c5_numbersOf hq2) gX5_ends_X5_numbersOf (by decide +kernel) rfl rfl rfl ⟨by decide, by decide⟩ rfl [] [0, 1, 2, 3] [0, 1, 2, 3] rfl (by decide) rfl (by decide) (by decide) rfl (by decide) (Nat.le_of_ble_eq_true rfl) ⟨Nat.zero_le _, Nat.zero_le _⟩ rfl dX5_ends_13 ?_
  refine g_icmp_eq (tgt := 21) C dX5_ends_16 (by decide) (fun c3 => ?_) (fun c3 => ?_)
  · replace hf := ite_t c3 hf
    refine g_aload_n C dX5_ends_21 rfl 0 rfl ?_
    refine g_dup C dX5_ends_22 rfl ?_
    refine g_get (C0 := RX5) (T := TX5) (N := 8) (ci := 5) (v := .int orders) C hm5_ends_0 0 rfl rfl 4 (by decide) hm5_ends_3 rfl dX5_ends_23 ?_
    refine g_iconst (v := (1 : Int32)) C dX5_ends_26 (by decide +kernel) ?_
    refine g_iadd C dX5_ends_27 ?_
    refine g_put (C0 := RX5) (T := TX5) (N := 8) (ci := 5) (ty := .int) (WS' := [(tx, oB 5 [.ref tx_bytes, .int length, .ref tx_letters, .ref tx_arguments, .int (orders + (1 : Int32)), .int open_, .int numbers, .int figures]), (tx_bytes, aI G 120 bytes), (tx_letters, aI G 40 letters), (tx_arguments, aI G 160 arguments)]) C hm5_ends_0 tyX5 tyX5_ok nmX5 0 rfl rfl 4 (by decide) hm5_ends_3 rfl rfl rfl rfl (Nat.le_of_ble_eq_true rfl) dX5_ends_28 rfl ?_
    refine g_aload_n C dX5_ends_31 rfl 0 rfl ?_
    refine g_iconst (v := (0 : Int32)) C dX5_ends_32 (by decide +kernel) ?_
    refine g_put (C0 := RX5) (T := TX5) (N := 8) (ci := 5) (ty := .boolean) (WS' := [(tx, oB 5 [.ref tx_bytes, .int length, .ref tx_letters, .ref tx_arguments, .int (orders + (1 : Int32)), .int (0 : Int32), .int numbers, .int figures]), (tx_bytes, aI G 120 bytes), (tx_letters, aI G 40 letters), (tx_arguments, aI G 160 arguments)]) C hm5_ends_0 tyX5 tyX5_ok nmX5 0 rfl rfl 5 (by decide) hm5_ends_4 rfl rfl rfl rfl (Nat.le_of_ble_eq_true rfl) dX5_ends_33 rfl ?_
    refine g_iconst (v := (1 : Int32)) C dX5_ends_36 (by decide +kernel) ?_
    obtain rfl := Option.some.inj hf
    exact hR _ _ dX5_ends_37 isb1
  · replace hf := ite_f c3 hf
    refine g_iconst (v := (0 : Int32)) C dX5_ends_19 (by decide +kernel) ?_
    obtain rfl := Option.some.inj hf
    exact hR _ _ dX5_ends_20 isb0

-- X5_takesFigure
def f5_takesFigure (letters : Nat → Int32) (orders : Int32) (arguments : Nat → Int32) (numbers : Int32) (figures : Int32) (v0 : Int32) : Option (Int32 × (Nat → Int32) × Int32 × Int32) :=
  if figures = (1 : Int32) then
    (ck (inb (((orders * (4 : Int32)) + numbers) - (1 : Int32)) 160) <|
    ck (inb (((orders * (4 : Int32)) + numbers) - (1 : Int32)) 160) <|
    some ((1 : Int32), (upd arguments (((orders * (4 : Int32)) + numbers) - (1 : Int32)).toNatClampNeg (((10 : Int32) * (arguments (((orders * (4 : Int32)) + numbers) - (1 : Int32)).toNatClampNeg)) + v0)), numbers, (2 : Int32)))
    else (if figures = (2 : Int32) then
    (some ((0 : Int32), arguments, numbers, figures))
    else (ck (inb orders 40) <|
    (f5_numbersOf (letters orders.toNatClampNeg)).bind <| fun q4 =>
    if numbers = q4 then
    (some ((0 : Int32), arguments, numbers, figures))
    else (ck (inb ((orders * (4 : Int32)) + numbers) 160) <|
    some ((1 : Int32), (upd arguments ((orders * (4 : Int32)) + numbers).toNatClampNeg v0), (numbers + (1 : Int32)), (1 : Int32)))))
def rm5_takesFigure : Room := { frames := 1, cells := 0, slots := 0, locals := 20 }
theorem hm5_takesFigure_0 : ∀ w ∈ u_ws RX5 TX5 8, w ∈ wsX5_takesFigure := by decide +kernel
theorem hm5_takesFigure_1 : Cond.fieldLink RX5 25 "SecretSteps$Text" "orders" "I" ∈ wsX5_takesFigure := by decide +kernel
theorem hm5_takesFigure_2 : Cond.fieldLink RX5 53 "SecretSteps$Text" "numbers" "I" ∈ wsX5_takesFigure := by decide +kernel
theorem hm5_takesFigure_3 : Cond.fieldLink RX5 36 "SecretSteps$Text" "figures" "I" ∈ wsX5_takesFigure := by decide +kernel
theorem hm5_takesFigure_4 : Cond.fieldLink RX5 15 "SecretSteps$Text" "letters" "[I" ∈ wsX5_takesFigure := by decide +kernel
theorem hm5_takesFigure_5 : Cond.fieldLink RX5 18 "SecretSteps$Text" "arguments" "[I" ∈ wsX5_takesFigure := by decide +kernel
set_option maxHeartbeats 4000000 in
set_option maxRecDepth 100000 in
theorem c5_takesFigure {l : Launch} {G : gG} {tx tx_bytes tx_letters tx_arguments : Nat} {bytes : Nat → Int32} {length : Int32} {letters : Nat → Int32} {arguments : Nat → Int32} {orders : Int32} {open_ : Int32} {numbers : Int32} {figures : Int32} {v0 : Int32} {res : Int32 × (Nat → Int32) × Int32 × Int32} (hf : f5_takesFigure letters orders arguments numbers figures v0 = some res) : MI l yX5_takesFigure wsX5_takesFigure rm5_takesFigure G [.ref tx, .int v0] [(tx, oB 5 [.ref tx_bytes, .int length, .ref tx_letters, .ref tx_arguments, .int orders, .int open_, .int numbers, .int figures]), (tx_bytes, aI G 120 bytes), (tx_letters, aI G 40 letters), (tx_arguments, aI G 160 arguments)] (res.1) [(tx, oB 5 [.ref tx_bytes, .int length, .ref tx_letters, .ref tx_arguments, .int orders, .int open_, .int res.2.2.1, .int res.2.2.2]), (tx_bytes, aI G 120 bytes), (tx_letters, aI G 40 letters), (tx_arguments, aI G 160 res.2.1)] := by
  refine MZ_of (res.1) (cc := cX5_takesFigure) (nL := 3) (lv := [(0, .ref tx), (1, .int v0)]) (by decide +kernel) rfl (Nat.le_of_ble_eq_true rfl) rfl ?_
  intro p e s m args below meth c A Q C hR
  unfold f5_takesFigure at hf
  refine g_aload_n C dX5_takesFigure_0 rfl 0 rfl ?_
  refine g_get (C0 := RX5) (T := TX5) (N := 8) (ci := 5) (v := .int orders) C hm5_takesFigure_0 0 rfl rfl 4 (by decide) hm5_takesFigure_1 rfl dX5_takesFigure_1 ?_
  refine g_iconst (v := (4 : Int32)) C dX5_takesFigure_4 (by decide +kernel) ?_
  refine g_imul C dX5_takesFigure_5 ?_
  refine g_aload_n C dX5_takesFigure_6 rfl 0 rfl ?_
  refine g_get (C0 := RX5) (T := TX5) (N := 8) (ci := 5) (v := .int numbers) C hm5_takesFigure_0 0 rfl rfl 6 (by decide) hm5_takesFigure_2 rfl dX5_takesFigure_7 ?_
  refine g_iadd C dX5_takesFigure_10 ?_
  refine g_istore_n (lv' := [(0, .ref tx), (1, .int v0), (2, .int ((orders * (4 : Int32)) + numbers))]) C dX5_takesFigure_11 rfl (by decide) [1, 2, 0] rfl ?_
  refine g_aload_n C dX5_takesFigure_12 rfl 0 rfl ?_
  refine g_get (C0 := RX5) (T := TX5) (N := 8) (ci := 5) (v := .int figures) C hm5_takesFigure_0 0 rfl rfl 7 (by decide) hm5_takesFigure_3 rfl dX5_takesFigure_13 ?_
  refine g_iconst (v := (1 : Int32)) C dX5_takesFigure_16 (by decide +kernel) ?_
  refine g_icmp_ne (tgt := 48) C dX5_takesFigure_17 (by decide) (fun c1 => ?_) (fun c1 => ?_)
  · replace hf := ite_f c1 hf
    refine g_aload_n C dX5_takesFigure_48 rfl 0 rfl ?_
    refine g_get (C0 := RX5) (T := TX5) (N := 8) (ci := 5) (v := .int figures) C hm5_takesFigure_0 0 rfl rfl 7 (by decide) hm5_takesFigure_3 rfl dX5_takesFigure_49 ?_
    refine g_iconst (v := (2 : Int32)) C dX5_takesFigure_52 (by decide +kernel) ?_
    refine g_icmp_eq (tgt := 75) C dX5_takesFigure_53 (by decide) (fun c2 => ?_) (fun c2 => ?_)
    · replace hf := ite_t c2 hf
      refine g_iconst (v := (0 : Int32)) C dX5_takesFigure_75 (by decide +kernel) ?_
      obtain rfl := Option.some.inj hf
      exact hR _ _ dX5_takesFigure_76 isb0
    · replace hf := ite_f c2 hf
      refine g_aload_n C dX5_takesFigure_56 rfl 0 rfl ?_
      refine g_get (C0 := RX5) (T := TX5) (N := 8) (ci := 5) (v := .int numbers) C hm5_takesFigure_0 0 rfl rfl 6 (by decide) hm5_takesFigure_2 rfl dX5_takesFigure_57 ?_
      refine g_aload_n C dX5_takesFigure_60 rfl 0 rfl ?_
      refine g_get (C0 := RX5) (T := TX5) (N := 8) (ci := 5) (v := .ref tx_letters) C hm5_takesFigure_0 0 rfl rfl 2 (by decide) hm5_takesFigure_4 rfl dX5_takesFigure_61 ?_
      refine g_aload_n C dX5_takesFigure_64 rfl 0 rfl ?_
      refine g_get (C0 := RX5) (T := TX5) (N := 8) (ci := 5) (v := .int orders) C hm5_takesFigure_0 0 rfl rfl 4 (by decide) hm5_takesFigure_1 rfl dX5_takesFigure_65 ?_
      obtain ⟨h3, hf⟩ := ck_some hf
      refine g_iald (n := 40) (v := (letters orders.toNatClampNeg)) C 2 rfl h3 rfl rfl dX5_takesFigure_68 ?_
      obtain ⟨q4, hq4, hf⟩ := bs hf
      refine g_callSi (n := 1) (As := [.int (letters orders.toNatClampNeg)]) (rest := [.int numbers]) (wc := []) (w1 := []) (wr := [(tx, oB 5 [.ref tx_bytes, .int length, .ref tx_letters, .ref tx_arguments, .int orders, .int open_, .int numbers, .int figures]), (tx_bytes, aI G 120 bytes), (tx_letters, aI G 40 letters), (tx_arguments, aI G 160 arguments)]) (WS' := [(tx, oB 5 [.ref tx_bytes, .int length, .ref tx_letters, .ref tx_arguments, .int orders, .int open_, .int numbers, .int figures]), (tx_bytes, aI G 120 bytes), (tx_letters, aI G 40 letters), (tx_arguments, aI G 160 arguments)]) C (c5_numbersOf hq4) gX5_takesFigure_X5_numbersOf (by decide +kernel) rfl rfl rfl ⟨by decide, by decide⟩ rfl [] [0, 1, 2, 3] [0, 1, 2, 3] rfl (by decide) rfl (by decide) (by decide) rfl (by decide) (Nat.le_of_ble_eq_true rfl) ⟨Nat.zero_le _, Nat.zero_le _⟩ rfl dX5_takesFigure_69 ?_
      refine g_icmp_ne (tgt := 77) C dX5_takesFigure_72 (by decide) (fun c5 => ?_) (fun c5 => ?_)
      · replace hf := ite_f c5 hf
        refine g_aload_n C dX5_takesFigure_77 rfl 0 rfl ?_
        refine g_get (C0 := RX5) (T := TX5) (N := 8) (ci := 5) (v := .ref tx_arguments) C hm5_takesFigure_0 0 rfl rfl 3 (by decide) hm5_takesFigure_5 rfl dX5_takesFigure_78 ?_
        refine g_iload_n C dX5_takesFigure_81 rfl 2 rfl ?_
        refine g_iload_n C dX5_takesFigure_82 rfl 1 rfl ?_
        obtain ⟨h6, hf⟩ := ck_some hf
        refine g_iast (n := 160) (WS' := [(tx, oB 5 [.ref tx_bytes, .int length, .ref tx_letters, .ref tx_arguments, .int orders, .int open_, .int numbers, .int figures]), (tx_bytes, aI G 120 bytes), (tx_letters, aI G 40 letters), (tx_arguments, aI G 160 (upd arguments ((orders * (4 : Int32)) + numbers).toNatClampNeg v0))]) C 3 rfl h6 rfl dX5_takesFigure_83 rfl ?_
        refine g_aload_n C dX5_takesFigure_84 rfl 0 rfl ?_
        refine g_dup C dX5_takesFigure_85 rfl ?_
        refine g_get (C0 := RX5) (T := TX5) (N := 8) (ci := 5) (v := .int numbers) C hm5_takesFigure_0 0 rfl rfl 6 (by decide) hm5_takesFigure_2 rfl dX5_takesFigure_86 ?_
        refine g_iconst (v := (1 : Int32)) C dX5_takesFigure_89 (by decide +kernel) ?_
        refine g_iadd C dX5_takesFigure_90 ?_
        refine g_put (C0 := RX5) (T := TX5) (N := 8) (ci := 5) (ty := .int) (WS' := [(tx, oB 5 [.ref tx_bytes, .int length, .ref tx_letters, .ref tx_arguments, .int orders, .int open_, .int (numbers + (1 : Int32)), .int figures]), (tx_bytes, aI G 120 bytes), (tx_letters, aI G 40 letters), (tx_arguments, aI G 160 (upd arguments ((orders * (4 : Int32)) + numbers).toNatClampNeg v0))]) C hm5_takesFigure_0 tyX5 tyX5_ok nmX5 0 rfl rfl 6 (by decide) hm5_takesFigure_2 rfl rfl rfl rfl (Nat.le_of_ble_eq_true rfl) dX5_takesFigure_91 rfl ?_
        refine g_aload_n C dX5_takesFigure_94 rfl 0 rfl ?_
        refine g_iconst (v := (1 : Int32)) C dX5_takesFigure_95 (by decide +kernel) ?_
        refine g_put (C0 := RX5) (T := TX5) (N := 8) (ci := 5) (ty := .int) (WS' := [(tx, oB 5 [.ref tx_bytes, .int length, .ref tx_letters, .ref tx_arguments, .int orders, .int open_, .int (numbers + (1 : Int32)), .int (1 : Int32)]), (tx_bytes, aI G 120 bytes), (tx_letters, aI G 40 letters), (tx_arguments, aI G 160 (upd arguments ((orders * (4 : Int32)) + numbers).toNatClampNeg v0))]) C hm5_takesFigure_0 tyX5 tyX5_ok nmX5 0 rfl rfl 7 (by decide) hm5_takesFigure_3 rfl rfl rfl rfl (Nat.le_of_ble_eq_true rfl) dX5_takesFigure_96 rfl ?_
        refine g_iconst (v := (1 : Int32)) C dX5_takesFigure_99 (by decide +kernel) ?_
        obtain rfl := Option.some.inj hf
        exact hR _ _ dX5_takesFigure_100 isb1
      · replace hf := ite_t c5 hf
        refine g_iconst (v := (0 : Int32)) C dX5_takesFigure_75 (by decide +kernel) ?_
        obtain rfl := Option.some.inj hf
        exact hR _ _ dX5_takesFigure_76 isb0
  · replace hf := ite_t c1 hf
    refine g_aload_n C dX5_takesFigure_20 rfl 0 rfl ?_
    refine g_get (C0 := RX5) (T := TX5) (N := 8) (ci := 5) (v := .ref tx_arguments) C hm5_takesFigure_0 0 rfl rfl 3 (by decide) hm5_takesFigure_5 rfl dX5_takesFigure_21 ?_
    refine g_iload_n C dX5_takesFigure_24 rfl 2 rfl ?_
    refine g_iconst (v := (1 : Int32)) C dX5_takesFigure_25 (by decide +kernel) ?_
    refine g_isub C dX5_takesFigure_26 ?_
    refine g_bipush (v := (10 : Int32)) C dX5_takesFigure_27 (by decide +kernel) ?_
    refine g_aload_n C dX5_takesFigure_29 rfl 0 rfl ?_
    refine g_get (C0 := RX5) (T := TX5) (N := 8) (ci := 5) (v := .ref tx_arguments) C hm5_takesFigure_0 0 rfl rfl 3 (by decide) hm5_takesFigure_5 rfl dX5_takesFigure_30 ?_
    refine g_iload_n C dX5_takesFigure_33 rfl 2 rfl ?_
    refine g_iconst (v := (1 : Int32)) C dX5_takesFigure_34 (by decide +kernel) ?_
    refine g_isub C dX5_takesFigure_35 ?_
    obtain ⟨h7, hf⟩ := ck_some hf
    refine g_iald (n := 160) (v := (arguments (((orders * (4 : Int32)) + numbers) - (1 : Int32)).toNatClampNeg)) C 3 rfl h7 rfl rfl dX5_takesFigure_36 ?_
    refine g_imul C dX5_takesFigure_37 ?_
    refine g_iload_n C dX5_takesFigure_38 rfl 1 rfl ?_
    refine g_iadd C dX5_takesFigure_39 ?_
    obtain ⟨h8, hf⟩ := ck_some hf
    refine g_iast (n := 160) (WS' := [(tx, oB 5 [.ref tx_bytes, .int length, .ref tx_letters, .ref tx_arguments, .int orders, .int open_, .int numbers, .int figures]), (tx_bytes, aI G 120 bytes), (tx_letters, aI G 40 letters), (tx_arguments, aI G 160 (upd arguments (((orders * (4 : Int32)) + numbers) - (1 : Int32)).toNatClampNeg (((10 : Int32) * (arguments (((orders * (4 : Int32)) + numbers) - (1 : Int32)).toNatClampNeg)) + v0)))]) C 3 rfl h8 rfl dX5_takesFigure_40 rfl ?_
    refine g_aload_n C dX5_takesFigure_41 rfl 0 rfl ?_
    refine g_iconst (v := (2 : Int32)) C dX5_takesFigure_42 (by decide +kernel) ?_
    refine g_put (C0 := RX5) (T := TX5) (N := 8) (ci := 5) (ty := .int) (WS' := [(tx, oB 5 [.ref tx_bytes, .int length, .ref tx_letters, .ref tx_arguments, .int orders, .int open_, .int numbers, .int (2 : Int32)]), (tx_bytes, aI G 120 bytes), (tx_letters, aI G 40 letters), (tx_arguments, aI G 160 (upd arguments (((orders * (4 : Int32)) + numbers) - (1 : Int32)).toNatClampNeg (((10 : Int32) * (arguments (((orders * (4 : Int32)) + numbers) - (1 : Int32)).toNatClampNeg)) + v0)))]) C hm5_takesFigure_0 tyX5 tyX5_ok nmX5 0 rfl rfl 7 (by decide) hm5_takesFigure_3 rfl rfl rfl rfl (Nat.le_of_ble_eq_true rfl) dX5_takesFigure_43 rfl ?_
    refine g_iconst (v := (1 : Int32)) C dX5_takesFigure_46 (by decide +kernel) ?_
    obtain rfl := Option.some.inj hf
    exact hR _ _ dX5_takesFigure_47 isb1

-- X5_takes
def f5_takes (letters : Nat → Int32) (arguments : Nat → Int32) (orders : Int32) (open_ : Int32) (numbers : Int32) (figures : Int32) (v0 : Int32) : Option (Int32 × (Nat → Int32) × (Nat → Int32) × Int32 × Int32 × Int32 × Int32) :=
  if v0 = (32 : Int32) then
    (some ((1 : Int32), letters, arguments, orders, open_, numbers, (0 : Int32)))
    else (if open_ = 0 then
    ((f5_begins orders letters open_ numbers figures v0).bind <| fun q10 =>
    ck (isb q10.1) <|
    some (q10.1, q10.2.1, arguments, orders, q10.2.2.1, q10.2.2.2.1, q10.2.2.2.2))
    else (if v0 = (59 : Int32) then
    ((f5_ends letters numbers orders open_).bind <| fun q8 =>
    ck (isb q8.1) <|
    some (q8.1, letters, arguments, q8.2.1, q8.2.2, numbers, figures))
    else (if v0 < (48 : Int32) then
    (some ((0 : Int32), letters, arguments, orders, open_, numbers, figures))
    else (if (57 : Int32) < v0 then
    (some ((0 : Int32), letters, arguments, orders, open_, numbers, figures))
    else ((f5_takesFigure letters orders arguments numbers figures (v0 - (48 : Int32))).bind <| fun q6 =>
    if q6.1 = 0 then
    (some ((0 : Int32), letters, q6.2.1, orders, open_, q6.2.2.1, q6.2.2.2))
    else (some ((1 : Int32), letters, q6.2.1, orders, open_, q6.2.2.1, q6.2.2.2)))))))
def rm5_takes : Room := { frames := 2, cells := 0, slots := 0, locals := 42 }
theorem hm5_takes_0 : ∀ w ∈ u_ws RX5 TX5 8, w ∈ wsX5_takes := by decide +kernel
theorem hm5_takes_1 : Cond.fieldLink RX5 28 "SecretSteps$Text" "open" "Z" ∈ wsX5_takes := by decide +kernel
theorem hm5_takes_2 : Cond.fieldLink RX5 36 "SecretSteps$Text" "figures" "I" ∈ wsX5_takes := by decide +kernel
set_option maxHeartbeats 4000000 in
set_option maxRecDepth 100000 in
theorem c5_takes {l : Launch} {G : gG} {tx tx_bytes tx_letters tx_arguments : Nat} {bytes : Nat → Int32} {length : Int32} {letters : Nat → Int32} {arguments : Nat → Int32} {orders : Int32} {open_ : Int32} {numbers : Int32} {figures : Int32} {v0 : Int32} {res : Int32 × (Nat → Int32) × (Nat → Int32) × Int32 × Int32 × Int32 × Int32} (hf : f5_takes letters arguments orders open_ numbers figures v0 = some res) : MI l yX5_takes wsX5_takes rm5_takes G [.ref tx, .int v0] [(tx, oB 5 [.ref tx_bytes, .int length, .ref tx_letters, .ref tx_arguments, .int orders, .int open_, .int numbers, .int figures]), (tx_bytes, aI G 120 bytes), (tx_letters, aI G 40 letters), (tx_arguments, aI G 160 arguments)] (res.1) [(tx, oB 5 [.ref tx_bytes, .int length, .ref tx_letters, .ref tx_arguments, .int res.2.2.2.1, .int res.2.2.2.2.1, .int res.2.2.2.2.2.1, .int res.2.2.2.2.2.2]), (tx_bytes, aI G 120 bytes), (tx_letters, aI G 40 res.2.1), (tx_arguments, aI G 160 res.2.2.1)] := by
  refine MZ_of (res.1) (cc := cX5_takes) (nL := 2) (lv := [(0, .ref tx), (1, .int v0)]) (by decide +kernel) rfl (Nat.le_of_ble_eq_true rfl) rfl ?_
  intro p e s m args below meth c A Q C hR
  unfold f5_takes at hf
  refine g_iload_n C dX5_takes_0 rfl 1 rfl ?_
  refine g_bipush (v := (32 : Int32)) C dX5_takes_1 (by decide +kernel) ?_
  refine g_icmp_ne (tgt := 13) C dX5_takes_3 (by decide) (fun c1 => ?_) (fun c1 => ?_)
  · replace hf := ite_f c1 hf
    refine g_aload_n C dX5_takes_13 rfl 0 rfl ?_
    refine g_get (C0 := RX5) (T := TX5) (N := 8) (ci := 5) (v := .int open_) C hm5_takes_0 0 rfl rfl 5 (by decide) hm5_takes_1 rfl dX5_takes_14 ?_
    refine g_if_ne (tgt := 26) C dX5_takes_17 (by decide) (fun c2 => ?_) (fun c2 => ?_)
    · replace hf := ite_f c2 hf
      refine g_iload_n C dX5_takes_26 rfl 1 rfl ?_
      refine g_bipush (v := (59 : Int32)) C dX5_takes_27 (by decide +kernel) ?_
      refine g_icmp_ne (tgt := 37) C dX5_takes_29 (by decide) (fun c3 => ?_) (fun c3 => ?_)
      · replace hf := ite_f c3 hf
        refine g_iload_n C dX5_takes_37 rfl 1 rfl ?_
        refine g_bipush (v := (48 : Int32)) C dX5_takes_38 (by decide +kernel) ?_
        refine g_icmp_lt (tgt := 64) C dX5_takes_40 (by decide) (fun c4 => ?_) (fun c4 => ?_)
        · replace hf := ite_t c4 hf
          refine g_iconst (v := (0 : Int32)) C dX5_takes_64 (by decide +kernel) ?_
          obtain rfl := Option.some.inj hf
          exact hR _ _ dX5_takes_65 isb0
        · replace hf := ite_f c4 hf
          refine g_iload_n C dX5_takes_43 rfl 1 rfl ?_
          refine g_bipush (v := (57 : Int32)) C dX5_takes_44 (by decide +kernel) ?_
          refine g_icmp_gt (tgt := 64) C dX5_takes_46 (by decide) (fun c5 => ?_) (fun c5 => ?_)
          · replace hf := ite_t c5 hf
            refine g_iconst (v := (0 : Int32)) C dX5_takes_64 (by decide +kernel) ?_
            obtain rfl := Option.some.inj hf
            exact hR _ _ dX5_takes_65 isb0
          · replace hf := ite_f c5 hf
            refine g_aload_n C dX5_takes_49 rfl 0 rfl ?_
            refine g_iload_n C dX5_takes_50 rfl 1 rfl ?_
            refine g_bipush (v := (48 : Int32)) C dX5_takes_51 (by decide +kernel) ?_
            refine g_isub C dX5_takes_53 ?_
            obtain ⟨q6, hq6, hf⟩ := bs hf
            refine g_callVi (n := 1) (As := [.int (v0 - (48 : Int32))]) (rest := []) (wc := [(tx, oB 5 [.ref tx_bytes, .int length, .ref tx_letters, .ref tx_arguments, .int orders, .int open_, .int numbers, .int figures]), (tx_bytes, aI G 120 bytes), (tx_letters, aI G 40 letters), (tx_arguments, aI G 160 arguments)]) (w1 := [(tx, oB 5 [.ref tx_bytes, .int length, .ref tx_letters, .ref tx_arguments, .int orders, .int open_, .int q6.2.2.1, .int q6.2.2.2]), (tx_bytes, aI G 120 bytes), (tx_letters, aI G 40 letters), (tx_arguments, aI G 160 q6.2.1)]) (wr := []) (WS' := [(tx, oB 5 [.ref tx_bytes, .int length, .ref tx_letters, .ref tx_arguments, .int orders, .int open_, .int q6.2.2.1, .int q6.2.2.2]), (tx_bytes, aI G 120 bytes), (tx_letters, aI G 40 letters), (tx_arguments, aI G 160 q6.2.1)]) C (c5_takesFigure hq6) gX5_takes_X5_takesFigure (by decide +kernel) rfl rfl rfl rfl rfl rfl ⟨by decide, by decide⟩ rfl [0, 1, 2, 3] [] [0, 1, 2, 3] rfl (by decide) rfl (by decide) (by decide) rfl (by decide) (Nat.le_of_ble_eq_true rfl) ⟨Nat.zero_le _, Nat.zero_le _⟩ rfl dX5_takes_54 ?_
            refine g_if_eq (tgt := 64) C dX5_takes_57 (by decide) (fun c7 => ?_) (fun c7 => ?_)
            · replace hf := ite_t c7 hf
              refine g_iconst (v := (0 : Int32)) C dX5_takes_64 (by decide +kernel) ?_
              obtain rfl := Option.some.inj hf
              exact hR _ _ dX5_takes_65 isb0
            · replace hf := ite_f c7 hf
              refine g_iconst (v := (1 : Int32)) C dX5_takes_60 (by decide +kernel) ?_
              refine g_goto (tgt := 65) C dX5_takes_61 (by decide) ?_
              obtain rfl := Option.some.inj hf
              exact hR _ _ dX5_takes_65 isb1
      · replace hf := ite_t c3 hf
        refine g_aload_n C dX5_takes_32 rfl 0 rfl ?_
        obtain ⟨q8, hq8, hf⟩ := bs hf
        refine g_callVi (n := 0) (As := []) (rest := []) (wc := [(tx, oB 5 [.ref tx_bytes, .int length, .ref tx_letters, .ref tx_arguments, .int orders, .int open_, .int numbers, .int figures]), (tx_bytes, aI G 120 bytes), (tx_letters, aI G 40 letters), (tx_arguments, aI G 160 arguments)]) (w1 := [(tx, oB 5 [.ref tx_bytes, .int length, .ref tx_letters, .ref tx_arguments, .int q8.2.1, .int q8.2.2, .int numbers, .int figures]), (tx_bytes, aI G 120 bytes), (tx_letters, aI G 40 letters), (tx_arguments, aI G 160 arguments)]) (wr := []) (WS' := [(tx, oB 5 [.ref tx_bytes, .int length, .ref tx_letters, .ref tx_arguments, .int q8.2.1, .int q8.2.2, .int numbers, .int figures]), (tx_bytes, aI G 120 bytes), (tx_letters, aI G 40 letters), (tx_arguments, aI G 160 arguments)]) C (c5_ends hq8) gX5_takes_X5_ends (by decide +kernel) rfl rfl rfl rfl rfl rfl ⟨by decide, by decide⟩ rfl [0, 1, 2, 3] [] [0, 1, 2, 3] rfl (by decide) rfl (by decide) (by decide) rfl (by decide) (Nat.le_of_ble_eq_true rfl) ⟨Nat.zero_le _, Nat.zero_le _⟩ rfl dX5_takes_33 ?_
        obtain ⟨h9, hf⟩ := ck_some hf
        obtain rfl := Option.some.inj hf
        exact hR _ _ dX5_takes_36 h9
    · replace hf := ite_t c2 hf
      refine g_aload_n C dX5_takes_20 rfl 0 rfl ?_
      refine g_iload_n C dX5_takes_21 rfl 1 rfl ?_
      obtain ⟨q10, hq10, hf⟩ := bs hf
      refine g_callVi (n := 1) (As := [.int v0]) (rest := []) (wc := [(tx, oB 5 [.ref tx_bytes, .int length, .ref tx_letters, .ref tx_arguments, .int orders, .int open_, .int numbers, .int figures]), (tx_bytes, aI G 120 bytes), (tx_letters, aI G 40 letters), (tx_arguments, aI G 160 arguments)]) (w1 := [(tx, oB 5 [.ref tx_bytes, .int length, .ref tx_letters, .ref tx_arguments, .int orders, .int q10.2.2.1, .int q10.2.2.2.1, .int q10.2.2.2.2]), (tx_bytes, aI G 120 bytes), (tx_letters, aI G 40 q10.2.1), (tx_arguments, aI G 160 arguments)]) (wr := []) (WS' := [(tx, oB 5 [.ref tx_bytes, .int length, .ref tx_letters, .ref tx_arguments, .int orders, .int q10.2.2.1, .int q10.2.2.2.1, .int q10.2.2.2.2]), (tx_bytes, aI G 120 bytes), (tx_letters, aI G 40 q10.2.1), (tx_arguments, aI G 160 arguments)]) C (c5_begins hq10) gX5_takes_X5_begins (by decide +kernel) rfl rfl rfl rfl rfl rfl ⟨by decide, by decide⟩ rfl [0, 1, 2, 3] [] [0, 1, 2, 3] rfl (by decide) rfl (by decide) (by decide) rfl (by decide) (Nat.le_of_ble_eq_true rfl) ⟨Nat.zero_le _, Nat.zero_le _⟩ rfl dX5_takes_22 ?_
      obtain ⟨h11, hf⟩ := ck_some hf
      obtain rfl := Option.some.inj hf
      exact hR _ _ dX5_takes_25 h11
  · replace hf := ite_t c1 hf
    refine g_aload_n C dX5_takes_6 rfl 0 rfl ?_
    refine g_iconst (v := (0 : Int32)) C dX5_takes_7 (by decide +kernel) ?_
    refine g_put (C0 := RX5) (T := TX5) (N := 8) (ci := 5) (ty := .int) (WS' := [(tx, oB 5 [.ref tx_bytes, .int length, .ref tx_letters, .ref tx_arguments, .int orders, .int open_, .int numbers, .int (0 : Int32)]), (tx_bytes, aI G 120 bytes), (tx_letters, aI G 40 letters), (tx_arguments, aI G 160 arguments)]) C hm5_takes_0 tyX5 tyX5_ok nmX5 0 rfl rfl 7 (by decide) hm5_takes_2 rfl rfl rfl rfl (Nat.le_of_ble_eq_true rfl) dX5_takes_8 rfl ?_
    refine g_iconst (v := (1 : Int32)) C dX5_takes_11 (by decide +kernel) ?_
    obtain rfl := Option.some.inj hf
    exact hR _ _ dX5_takes_12 isb1

-- X5_read
def f5_read_12b (bytes : Nat → Int32) (length : Int32) (k12 : (Nat → Int32) × (Nat → Int32) × Int32 × Int32 × Int32 × Int32 × Int32 → Option (Int32 × (Nat → Int32) × (Nat → Int32) × Int32 × Int32 × Int32 × Int32)) (letters : Nat → Int32) (arguments : Nat → Int32) (orders : Int32) (open_ : Int32) (numbers : Int32) (figures : Int32) (x1 : Int32) : Option (Int32 × (Nat → Int32) × (Nat → Int32) × Int32 × Int32 × Int32 × Int32) :=
  if length ≤ x1 then
    (if open_ = 0 then
    (if orders = 0 then
    (some (length, letters, arguments, orders, open_, numbers, figures))
    else (some ((-1 : Int32), letters, arguments, orders, open_, numbers, figures)))
    else (some (length, letters, arguments, orders, open_, numbers, figures)))
    else (ck (inb x1 120) <|
    (f5_takes letters arguments orders open_ numbers figures (bytes x1.toNatClampNeg)).bind <| fun q5 =>
    if q5.1 = 0 then
    (some (x1, q5.2.1, q5.2.2.1, q5.2.2.2.1, q5.2.2.2.2.1, q5.2.2.2.2.2.1, q5.2.2.2.2.2.2))
    else (k12 (q5.2.1, q5.2.2.1, q5.2.2.2.1, q5.2.2.2.2.1, q5.2.2.2.2.2.1, q5.2.2.2.2.2.2, (x1 + (1 : Int32)))))
def f5_read_12 (bytes : Nat → Int32) (length : Int32) (n : Nat) (s : (Nat → Int32) × (Nat → Int32) × Int32 × Int32 × Int32 × Int32 × Int32) : Option (Int32 × (Nat → Int32) × (Nat → Int32) × Int32 × Int32 × Int32 × Int32) := itf (fun k s => f5_read_12b bytes length k s.1 s.2.1 s.2.2.1 s.2.2.2.1 s.2.2.2.2.1 s.2.2.2.2.2.1 s.2.2.2.2.2.2) n s
def f5_read (bytes : Nat → Int32) (length : Int32) (letters : Nat → Int32) (arguments : Nat → Int32) (orders : Int32) (open_ : Int32) (numbers : Int32) (figures : Int32) : Option (Int32 × (Nat → Int32) × (Nat → Int32) × Int32 × Int32 × Int32 × Int32) :=
  f5_read_12 bytes length 1000 (letters, arguments, (0 : Int32), (0 : Int32), numbers, figures, (0 : Int32))
def rm5_read : Room := { frames := 3, cells := 0, slots := 0, locals := 63 }
theorem hm5_read_0 : ∀ w ∈ u_ws RX5 TX5 8, w ∈ wsX5_read := by decide +kernel
theorem hm5_read_1 : Cond.fieldLink RX5 21 "SecretSteps$Text" "length" "I" ∈ wsX5_read := by decide +kernel
theorem hm5_read_2 : Cond.fieldLink RX5 28 "SecretSteps$Text" "open" "Z" ∈ wsX5_read := by decide +kernel
theorem hm5_read_3 : Cond.fieldLink RX5 25 "SecretSteps$Text" "orders" "I" ∈ wsX5_read := by decide +kernel
theorem hm5_read_4 : Cond.fieldLink RX5 9 "SecretSteps$Text" "bytes" "[I" ∈ wsX5_read := by decide +kernel
set_option maxHeartbeats 4000000 in
set_option maxRecDepth 100000 in
theorem k5_read_12b {p : Program} {l : Launch} {e : Env} {s : State} {m : MethodId} {args : Array Value} {below : List Frame} {meth : Method} {c : Code} {G : gG} {A : Nat → Prop} {Q : State → Prop} {tx tx_bytes tx_letters tx_arguments : Nat} (C : CX p s m args meth c G A cX5_read 2 RX5 wsX5_read) {bytes : Nat → Int32} {length : Int32} {k12 : (Nat → Int32) × (Nat → Int32) × Int32 × Int32 × Int32 × Int32 × Int32 → Option (Int32 × (Nat → Int32) × (Nat → Int32) × Int32 × Int32 × Int32 × Int32)} {letters : Nat → Int32} {arguments : Nat → Int32} {orders : Int32} {open_ : Int32} {numbers : Int32} {figures : Int32} {x1 : Int32} {res : Int32 × (Nat → Int32) × (Nat → Int32) × Int32 × Int32 × Int32 × Int32} (hR : ∀ (lv : List (Nat × Value)) (pc : Nat), decode cX5_read pc = .ok (.ireturn, 1) → GG p l e rm5_read s m args below meth c G A 2 0 0 Q [(tx, oB 5 [.ref tx_bytes, .int length, .ref tx_letters, .ref tx_arguments, .int res.2.2.2.1, .int res.2.2.2.2.1, .int res.2.2.2.2.2.1, .int res.2.2.2.2.2.2]), (tx_bytes, aI G 120 bytes), (tx_letters, aI G 40 res.2.1), (tx_arguments, aI G 160 res.2.2.1)] lv pc [.int res.1])
    (hk12 : ∀ s', k12 s' = some res → GG p l e rm5_read s m args below meth c G A 2 0 0 Q [(tx, oB 5 [.ref tx_bytes, .int length, .ref tx_letters, .ref tx_arguments, .int s'.2.2.1, .int s'.2.2.2.1, .int s'.2.2.2.2.1, .int s'.2.2.2.2.2.1]), (tx_bytes, aI G 120 bytes), (tx_letters, aI G 40 s'.1), (tx_arguments, aI G 160 s'.2.1)] [(0, .ref tx), (1, .int s'.2.2.2.2.2.2)] 12 [])
    (hf : f5_read_12b bytes length k12 letters arguments orders open_ numbers figures x1 = some res) : GG p l e rm5_read s m args below meth c G A 2 0 0 Q [(tx, oB 5 [.ref tx_bytes, .int length, .ref tx_letters, .ref tx_arguments, .int orders, .int open_, .int numbers, .int figures]), (tx_bytes, aI G 120 bytes), (tx_letters, aI G 40 letters), (tx_arguments, aI G 160 arguments)] [(0, .ref tx), (1, .int x1)] 12 [] := by
  unfold f5_read_12b at hf
  refine g_iload_n C dX5_read_12 rfl 1 rfl ?_
  refine g_aload_n C dX5_read_13 rfl 0 rfl ?_
  refine g_get (C0 := RX5) (T := TX5) (N := 8) (ci := 5) (v := .int length) C hm5_read_0 0 rfl rfl 1 (by decide) hm5_read_1 rfl dX5_read_14 ?_
  refine g_icmp_ge (tgt := 41) C dX5_read_17 (by decide) (fun c1 => ?_) (fun c1 => ?_)
  · replace hf := ite_t c1 hf
    refine g_aload_n C dX5_read_41 rfl 0 rfl ?_
    refine g_get (C0 := RX5) (T := TX5) (N := 8) (ci := 5) (v := .int open_) C hm5_read_0 0 rfl rfl 5 (by decide) hm5_read_2 rfl dX5_read_42 ?_
    refine g_if_ne (tgt := 55) C dX5_read_45 (by decide) (fun c2 => ?_) (fun c2 => ?_)
    · replace hf := ite_f c2 hf
      refine g_aload_n C dX5_read_55 rfl 0 rfl ?_
      refine g_get (C0 := RX5) (T := TX5) (N := 8) (ci := 5) (v := .int length) C hm5_read_0 0 rfl rfl 1 (by decide) hm5_read_1 rfl dX5_read_56 ?_
      refine g_goto (tgt := 63) C dX5_read_59 (by decide) ?_
      obtain rfl := Option.some.inj hf
      exact hR _ _ dX5_read_63
    · replace hf := ite_t c2 hf
      refine g_aload_n C dX5_read_48 rfl 0 rfl ?_
      refine g_get (C0 := RX5) (T := TX5) (N := 8) (ci := 5) (v := .int orders) C hm5_read_0 0 rfl rfl 4 (by decide) hm5_read_3 rfl dX5_read_49 ?_
      refine g_if_ne (tgt := 62) C dX5_read_52 (by decide) (fun c3 => ?_) (fun c3 => ?_)
      · replace hf := ite_f c3 hf
        refine g_iconst (v := (-1 : Int32)) C dX5_read_62 (by decide +kernel) ?_
        obtain rfl := Option.some.inj hf
        exact hR _ _ dX5_read_63
      · replace hf := ite_t c3 hf
        refine g_aload_n C dX5_read_55 rfl 0 rfl ?_
        refine g_get (C0 := RX5) (T := TX5) (N := 8) (ci := 5) (v := .int length) C hm5_read_0 0 rfl rfl 1 (by decide) hm5_read_1 rfl dX5_read_56 ?_
        refine g_goto (tgt := 63) C dX5_read_59 (by decide) ?_
        obtain rfl := Option.some.inj hf
        exact hR _ _ dX5_read_63
  · replace hf := ite_f c1 hf
    refine g_aload_n C dX5_read_20 rfl 0 rfl ?_
    refine g_aload_n C dX5_read_21 rfl 0 rfl ?_
    refine g_get (C0 := RX5) (T := TX5) (N := 8) (ci := 5) (v := .ref tx_bytes) C hm5_read_0 0 rfl rfl 0 (by decide) hm5_read_4 rfl dX5_read_22 ?_
    refine g_iload_n C dX5_read_25 rfl 1 rfl ?_
    obtain ⟨h4, hf⟩ := ck_some hf
    refine g_iald (n := 120) (v := (bytes x1.toNatClampNeg)) C 1 rfl h4 rfl rfl dX5_read_26 ?_
    obtain ⟨q5, hq5, hf⟩ := bs hf
    refine g_callVi (n := 1) (As := [.int (bytes x1.toNatClampNeg)]) (rest := []) (wc := [(tx, oB 5 [.ref tx_bytes, .int length, .ref tx_letters, .ref tx_arguments, .int orders, .int open_, .int numbers, .int figures]), (tx_bytes, aI G 120 bytes), (tx_letters, aI G 40 letters), (tx_arguments, aI G 160 arguments)]) (w1 := [(tx, oB 5 [.ref tx_bytes, .int length, .ref tx_letters, .ref tx_arguments, .int q5.2.2.2.1, .int q5.2.2.2.2.1, .int q5.2.2.2.2.2.1, .int q5.2.2.2.2.2.2]), (tx_bytes, aI G 120 bytes), (tx_letters, aI G 40 q5.2.1), (tx_arguments, aI G 160 q5.2.2.1)]) (wr := []) (WS' := [(tx, oB 5 [.ref tx_bytes, .int length, .ref tx_letters, .ref tx_arguments, .int q5.2.2.2.1, .int q5.2.2.2.2.1, .int q5.2.2.2.2.2.1, .int q5.2.2.2.2.2.2]), (tx_bytes, aI G 120 bytes), (tx_letters, aI G 40 q5.2.1), (tx_arguments, aI G 160 q5.2.2.1)]) C (c5_takes hq5) gX5_read_X5_takes (by decide +kernel) rfl rfl rfl rfl rfl rfl ⟨by decide, by decide⟩ rfl [0, 1, 2, 3] [] [0, 1, 2, 3] rfl (by decide) rfl (by decide) (by decide) rfl (by decide) (Nat.le_of_ble_eq_true rfl) ⟨Nat.zero_le _, Nat.zero_le _⟩ rfl dX5_read_27 ?_
    refine g_if_ne (tgt := 35) C dX5_read_30 (by decide) (fun c6 => ?_) (fun c6 => ?_)
    · replace hf := ite_f c6 hf
      refine g_iinc (v := (x1 + (1 : Int32))) (lv' := [(0, .ref tx), (1, .int (x1 + (1 : Int32)))]) C dX5_read_35 1 rfl rfl (by decide) [1, 0] rfl ?_
      refine g_goto (tgt := 12) C dX5_read_38 (by decide) ?_
      exact hk12 _ hf
    · replace hf := ite_t c6 hf
      refine g_iload_n C dX5_read_33 rfl 1 rfl ?_
      obtain rfl := Option.some.inj hf
      exact hR _ _ dX5_read_34
set_option maxHeartbeats 4000000 in
set_option maxRecDepth 100000 in
theorem k5_read_12 {p : Program} {l : Launch} {e : Env} {s : State} {m : MethodId} {args : Array Value} {below : List Frame} {meth : Method} {c : Code} {G : gG} {A : Nat → Prop} {Q : State → Prop} {tx tx_bytes tx_letters tx_arguments : Nat} (C : CX p s m args meth c G A cX5_read 2 RX5 wsX5_read) {bytes : Nat → Int32} {length : Int32} {res : Int32 × (Nat → Int32) × (Nat → Int32) × Int32 × Int32 × Int32 × Int32} (hR : ∀ (lv : List (Nat × Value)) (pc : Nat), decode cX5_read pc = .ok (.ireturn, 1) → GG p l e rm5_read s m args below meth c G A 2 0 0 Q [(tx, oB 5 [.ref tx_bytes, .int length, .ref tx_letters, .ref tx_arguments, .int res.2.2.2.1, .int res.2.2.2.2.1, .int res.2.2.2.2.2.1, .int res.2.2.2.2.2.2]), (tx_bytes, aI G 120 bytes), (tx_letters, aI G 40 res.2.1), (tx_arguments, aI G 160 res.2.2.1)] lv pc [.int res.1]) : ∀ (n : Nat) (s1 : (Nat → Int32) × (Nat → Int32) × Int32 × Int32 × Int32 × Int32 × Int32), f5_read_12 bytes length n s1 = some res → GG p l e rm5_read s m args below meth c G A 2 0 0 Q [(tx, oB 5 [.ref tx_bytes, .int length, .ref tx_letters, .ref tx_arguments, .int s1.2.2.1, .int s1.2.2.2.1, .int s1.2.2.2.2.1, .int s1.2.2.2.2.2.1]), (tx_bytes, aI G 120 bytes), (tx_letters, aI G 40 s1.1), (tx_arguments, aI G 160 s1.2.1)] [(0, .ref tx), (1, .int s1.2.2.2.2.2.2)] 12 [] :=
  itf_ind (fun k s1 ih hf => k5_read_12b C hR ih hf)
set_option maxHeartbeats 4000000 in
set_option maxRecDepth 100000 in
theorem c5_read {l : Launch} {G : gG} {tx tx_bytes tx_letters tx_arguments : Nat} {bytes : Nat → Int32} {length : Int32} {letters : Nat → Int32} {arguments : Nat → Int32} {orders : Int32} {open_ : Int32} {numbers : Int32} {figures : Int32} {res : Int32 × (Nat → Int32) × (Nat → Int32) × Int32 × Int32 × Int32 × Int32} (hf : f5_read bytes length letters arguments orders open_ numbers figures = some res) : MI l yX5_read wsX5_read rm5_read G [.ref tx] [(tx, oB 5 [.ref tx_bytes, .int length, .ref tx_letters, .ref tx_arguments, .int orders, .int open_, .int numbers, .int figures]), (tx_bytes, aI G 120 bytes), (tx_letters, aI G 40 letters), (tx_arguments, aI G 160 arguments)] (res.1) [(tx, oB 5 [.ref tx_bytes, .int length, .ref tx_letters, .ref tx_arguments, .int res.2.2.2.1, .int res.2.2.2.2.1, .int res.2.2.2.2.2.1, .int res.2.2.2.2.2.2]), (tx_bytes, aI G 120 bytes), (tx_letters, aI G 40 res.2.1), (tx_arguments, aI G 160 res.2.2.1)] := by
  refine MI_of (res.1) (cc := cX5_read) (nL := 2) (lv := [(0, .ref tx)]) (by decide +kernel) rfl (Nat.le_of_ble_eq_true rfl) rfl ?_
  intro p e s m args below meth c A Q C hR
  unfold f5_read at hf
  refine g_aload_n C dX5_read_0 rfl 0 rfl ?_
  refine g_iconst (v := (0 : Int32)) C dX5_read_1 (by decide +kernel) ?_
  refine g_put (C0 := RX5) (T := TX5) (N := 8) (ci := 5) (ty := .int) (WS' := [(tx, oB 5 [.ref tx_bytes, .int length, .ref tx_letters, .ref tx_arguments, .int (0 : Int32), .int open_, .int numbers, .int figures]), (tx_bytes, aI G 120 bytes), (tx_letters, aI G 40 letters), (tx_arguments, aI G 160 arguments)]) C hm5_read_0 tyX5 tyX5_ok nmX5 0 rfl rfl 4 (by decide) hm5_read_3 rfl rfl rfl rfl (Nat.le_of_ble_eq_true rfl) dX5_read_2 rfl ?_
  refine g_aload_n C dX5_read_5 rfl 0 rfl ?_
  refine g_iconst (v := (0 : Int32)) C dX5_read_6 (by decide +kernel) ?_
  refine g_put (C0 := RX5) (T := TX5) (N := 8) (ci := 5) (ty := .boolean) (WS' := [(tx, oB 5 [.ref tx_bytes, .int length, .ref tx_letters, .ref tx_arguments, .int (0 : Int32), .int (0 : Int32), .int numbers, .int figures]), (tx_bytes, aI G 120 bytes), (tx_letters, aI G 40 letters), (tx_arguments, aI G 160 arguments)]) C hm5_read_0 tyX5 tyX5_ok nmX5 0 rfl rfl 5 (by decide) hm5_read_2 rfl rfl rfl rfl (Nat.le_of_ble_eq_true rfl) dX5_read_7 rfl ?_
  refine g_iconst (v := (0 : Int32)) C dX5_read_10 (by decide +kernel) ?_
  refine g_istore_n (lv' := [(0, .ref tx), (1, .int (0 : Int32))]) C dX5_read_11 rfl (by decide) [1, 0] rfl ?_
  exact k5_read_12 C hR _ _ hf

-- X5_giveOrder
def f5_giveOrder_22 (letters : Nat → Int32) (arguments : Nat → Int32) (P1_N : Nat → Int32) (x1 : Int32) (x3 : Int32) (x4 : Int32) (x5 : Int32) : Option (Int32 × (Nat → Int32)) :=
  ck (inb x1 40) <|
    (if (letters x1.toNatClampNeg) = (100 : Int32) then
    ((f2_dropLine P1_N x4).bind <| fun q3 =>
    some (q3.1, q3.2))
    else (if (letters x1.toNatClampNeg) = (108 : Int32) then
    (ck (inb (x3 + (2 : Int32)) 160) <|
    ck (inb (x3 + (3 : Int32)) 160) <|
    (f2_addLine P1_N x4 x5 (arguments (x3 + (2 : Int32)).toNatClampNeg) (arguments (x3 + (3 : Int32)).toNatClampNeg)).bind <| fun q7 =>
    some (q7.1, q7.2))
    else (if (letters x1.toNatClampNeg) = (116 : Int32) then
    ((f2_putCell P1_N x4 x5).bind <| fun q9 =>
    some (q9.1, q9.2))
    else (if (letters x1.toNatClampNeg) = (118 : Int32) then
    ((f2_putStart P1_N x4 x5).bind <| fun q11 =>
    some (q11.1, q11.2))
    else ((f2_putSecret P1_N x4 x5).bind <| fun q12 =>
    some (q12.1, q12.2))))))
def f5_giveOrder (letters : Nat → Int32) (arguments : Nat → Int32) (P1_N : Nat → Int32) (v0 : Int32) : Option (Int32 × (Nat → Int32)) :=
  ck (inb (v0 * (4 : Int32)) 160) <|
    ck (inb ((v0 * (4 : Int32)) + (1 : Int32)) 160) <|
    f5_giveOrder_22 letters arguments P1_N v0 (v0 * (4 : Int32)) (arguments (v0 * (4 : Int32)).toNatClampNeg) (arguments ((v0 * (4 : Int32)) + (1 : Int32)).toNatClampNeg)
def rm5_giveOrder : Room := { frames := 3, cells := 0, slots := 0, locals := 69 }
theorem hm5_giveOrder_0 : ∀ w ∈ u_ws RX5 TX5 8, w ∈ wsX5_giveOrder := by decide +kernel
theorem hm5_giveOrder_1 : Cond.fieldLink RX5 15 "SecretSteps$Text" "letters" "[I" ∈ wsX5_giveOrder := by decide +kernel
theorem hm5_giveOrder_2 : Cond.fieldLink RX5 18 "SecretSteps$Text" "arguments" "[I" ∈ wsX5_giveOrder := by decide +kernel
set_option maxHeartbeats 4000000 in
set_option maxRecDepth 100000 in
theorem k5_giveOrder_22 {p : Program} {l : Launch} {e : Env} {s : State} {m : MethodId} {args : Array Value} {below : List Frame} {meth : Method} {c : Code} {G : gG} {A : Nat → Prop} {Q : State → Prop} {tx tx_bytes tx_letters tx_arguments aq1 aq1_lines aq1_cells aq1_starts : Nat} (C : CX p s m args meth c G A cX5_giveOrder 6 RX5 wsX5_giveOrder) {bytes : Nat → Int32} {length : Int32} {orders : Int32} {open_ : Int32} {numbers : Int32} {figures : Int32} {letters : Nat → Int32} {arguments : Nat → Int32} {P1_N : Nat → Int32} {x1 : Int32} {x3 : Int32} {x4 : Int32} {x5 : Int32} {res : Int32 × (Nat → Int32)} (hR : ∀ (lv : List (Nat × Value)) (pc : Nat), decode cX5_giveOrder pc = .ok (.ireturn, 1) → GG p l e rm5_giveOrder s m args below meth c G A 6 0 0 Q [(tx, oB 5 [.ref tx_bytes, .int length, .ref tx_letters, .ref tx_arguments, .int orders, .int open_, .int numbers, .int figures]), (tx_bytes, aI G 120 bytes), (tx_letters, aI G 40 letters), (tx_arguments, aI G 160 arguments), (aq1, oB 2 [.ref aq1_lines, .ref aq1_cells, .ref aq1_starts, .int (res.2 0), .int (res.2 1)]), (aq1_lines, aI G 80 (fun j => res.2 (24 + j))), (aq1_cells, aI G 16 (fun j => res.2 (8 + j))), (aq1_starts, aI G 6 (fun j => res.2 (2 + j)))] lv pc [.int res.1])
    (hf : f5_giveOrder_22 letters arguments P1_N x1 x3 x4 x5 = some res) : GG p l e rm5_giveOrder s m args below meth c G A 6 0 0 Q [(tx, oB 5 [.ref tx_bytes, .int length, .ref tx_letters, .ref tx_arguments, .int orders, .int open_, .int numbers, .int figures]), (tx_bytes, aI G 120 bytes), (tx_letters, aI G 40 letters), (tx_arguments, aI G 160 arguments), (aq1, oB 2 [.ref aq1_lines, .ref aq1_cells, .ref aq1_starts, .int (P1_N 0), .int (P1_N 1)]), (aq1_lines, aI G 80 (fun j => P1_N (24 + j))), (aq1_cells, aI G 16 (fun j => P1_N (8 + j))), (aq1_starts, aI G 6 (fun j => P1_N (2 + j)))] [(0, .ref tx), (1, .int x1), (2, .ref aq1), (3, .int x3), (4, .int x4), (5, .int x5)] 22 [] := by
  unfold f5_giveOrder_22 at hf
  refine g_aload_n C dX5_giveOrder_22 rfl 0 rfl ?_
  refine g_get (C0 := RX5) (T := TX5) (N := 8) (ci := 5) (v := .ref tx_letters) C hm5_giveOrder_0 0 rfl rfl 2 (by decide) hm5_giveOrder_1 rfl dX5_giveOrder_23 ?_
  refine g_iload_n C dX5_giveOrder_26 rfl 1 rfl ?_
  obtain ⟨h1, hf⟩ := ck_some hf
  refine g_iald (n := 40) (v := (letters x1.toNatClampNeg)) C 2 rfl h1 rfl rfl dX5_giveOrder_27 ?_
  by_cases c2 : (letters x1.toNatClampNeg) = (100 : Int32)
  · replace hf := ite_t c2 hf
    refine g_lookup (off := 69) (tgt := 97) C dX5_giveOrder_28 (by decide +kernel) (by rw [c2]; decide +kernel) (by decide) ?_
    refine g_aload_n C dX5_giveOrder_97 rfl 2 rfl ?_
    refine g_iload C dX5_giveOrder_98 4 rfl ?_
    obtain ⟨q3, hq3, hf⟩ := bs hf
    refine g_callVi (n := 1) (As := [.int x4]) (rest := []) (wc := [(aq1, oB 2 [.ref aq1_lines, .ref aq1_cells, .ref aq1_starts, .int (P1_N 0), .int (P1_N 1)]), (aq1_lines, aI G 80 (fun j => P1_N (24 + j))), (aq1_cells, aI G 16 (fun j => P1_N (8 + j))), (aq1_starts, aI G 6 (fun j => P1_N (2 + j)))]) (w1 := [(aq1, oB 2 [.ref aq1_lines, .ref aq1_cells, .ref aq1_starts, .int (q3.2 0), .int (q3.2 1)]), (aq1_lines, aI G 80 (fun j => q3.2 (24 + j))), (aq1_cells, aI G 16 (fun j => q3.2 (8 + j))), (aq1_starts, aI G 6 (fun j => q3.2 (2 + j)))]) (wr := [(tx, oB 5 [.ref tx_bytes, .int length, .ref tx_letters, .ref tx_arguments, .int orders, .int open_, .int numbers, .int figures]), (tx_bytes, aI G 120 bytes), (tx_letters, aI G 40 letters), (tx_arguments, aI G 160 arguments)]) (WS' := [(tx, oB 5 [.ref tx_bytes, .int length, .ref tx_letters, .ref tx_arguments, .int orders, .int open_, .int numbers, .int figures]), (tx_bytes, aI G 120 bytes), (tx_letters, aI G 40 letters), (tx_arguments, aI G 160 arguments), (aq1, oB 2 [.ref aq1_lines, .ref aq1_cells, .ref aq1_starts, .int (q3.2 0), .int (q3.2 1)]), (aq1_lines, aI G 80 (fun j => q3.2 (24 + j))), (aq1_cells, aI G 16 (fun j => q3.2 (8 + j))), (aq1_starts, aI G 6 (fun j => q3.2 (2 + j)))]) C (c2_dropLine hq3) gX5_giveOrder_X2_dropLine (by decide +kernel) rfl rfl rfl rfl rfl rfl ⟨by decide, by decide⟩ rfl [4, 5, 6, 7] [0, 1, 2, 3] [0, 1, 2, 3, 4, 5, 6, 7] rfl (by decide) rfl (by decide) (by decide) rfl (by decide) (Nat.le_of_ble_eq_true rfl) ⟨Nat.zero_le _, Nat.zero_le _⟩ rfl dX5_giveOrder_100 ?_
    obtain rfl := Option.some.inj hf
    exact hR _ _ dX5_giveOrder_103
  replace hf := ite_f c2 hf
  by_cases c4 : (letters x1.toNatClampNeg) = (108 : Int32)
  · replace hf := ite_t c4 hf
    refine g_lookup (off := 44) (tgt := 72) C dX5_giveOrder_28 (by decide +kernel) (by rw [c4]; decide +kernel) (by decide) ?_
    refine g_aload_n C dX5_giveOrder_72 rfl 2 rfl ?_
    refine g_iload C dX5_giveOrder_73 4 rfl ?_
    refine g_iload C dX5_giveOrder_75 5 rfl ?_
    refine g_aload_n C dX5_giveOrder_77 rfl 0 rfl ?_
    refine g_get (C0 := RX5) (T := TX5) (N := 8) (ci := 5) (v := .ref tx_arguments) C hm5_giveOrder_0 0 rfl rfl 3 (by decide) hm5_giveOrder_2 rfl dX5_giveOrder_78 ?_
    refine g_iload_n C dX5_giveOrder_81 rfl 3 rfl ?_
    refine g_iconst (v := (2 : Int32)) C dX5_giveOrder_82 (by decide +kernel) ?_
    refine g_iadd C dX5_giveOrder_83 ?_
    obtain ⟨h5, hf⟩ := ck_some hf
    refine g_iald (n := 160) (v := (arguments (x3 + (2 : Int32)).toNatClampNeg)) C 3 rfl h5 rfl rfl dX5_giveOrder_84 ?_
    refine g_aload_n C dX5_giveOrder_85 rfl 0 rfl ?_
    refine g_get (C0 := RX5) (T := TX5) (N := 8) (ci := 5) (v := .ref tx_arguments) C hm5_giveOrder_0 0 rfl rfl 3 (by decide) hm5_giveOrder_2 rfl dX5_giveOrder_86 ?_
    refine g_iload_n C dX5_giveOrder_89 rfl 3 rfl ?_
    refine g_iconst (v := (3 : Int32)) C dX5_giveOrder_90 (by decide +kernel) ?_
    refine g_iadd C dX5_giveOrder_91 ?_
    obtain ⟨h6, hf⟩ := ck_some hf
    refine g_iald (n := 160) (v := (arguments (x3 + (3 : Int32)).toNatClampNeg)) C 3 rfl h6 rfl rfl dX5_giveOrder_92 ?_
    obtain ⟨q7, hq7, hf⟩ := bs hf
    refine g_callVi (n := 4) (As := [.int x4, .int x5, .int (arguments (x3 + (2 : Int32)).toNatClampNeg), .int (arguments (x3 + (3 : Int32)).toNatClampNeg)]) (rest := []) (wc := [(aq1, oB 2 [.ref aq1_lines, .ref aq1_cells, .ref aq1_starts, .int (P1_N 0), .int (P1_N 1)]), (aq1_lines, aI G 80 (fun j => P1_N (24 + j))), (aq1_cells, aI G 16 (fun j => P1_N (8 + j))), (aq1_starts, aI G 6 (fun j => P1_N (2 + j)))]) (w1 := [(aq1, oB 2 [.ref aq1_lines, .ref aq1_cells, .ref aq1_starts, .int (q7.2 0), .int (q7.2 1)]), (aq1_lines, aI G 80 (fun j => q7.2 (24 + j))), (aq1_cells, aI G 16 (fun j => q7.2 (8 + j))), (aq1_starts, aI G 6 (fun j => q7.2 (2 + j)))]) (wr := [(tx, oB 5 [.ref tx_bytes, .int length, .ref tx_letters, .ref tx_arguments, .int orders, .int open_, .int numbers, .int figures]), (tx_bytes, aI G 120 bytes), (tx_letters, aI G 40 letters), (tx_arguments, aI G 160 arguments)]) (WS' := [(tx, oB 5 [.ref tx_bytes, .int length, .ref tx_letters, .ref tx_arguments, .int orders, .int open_, .int numbers, .int figures]), (tx_bytes, aI G 120 bytes), (tx_letters, aI G 40 letters), (tx_arguments, aI G 160 arguments), (aq1, oB 2 [.ref aq1_lines, .ref aq1_cells, .ref aq1_starts, .int (q7.2 0), .int (q7.2 1)]), (aq1_lines, aI G 80 (fun j => q7.2 (24 + j))), (aq1_cells, aI G 16 (fun j => q7.2 (8 + j))), (aq1_starts, aI G 6 (fun j => q7.2 (2 + j)))]) C (c2_addLine hq7) gX5_giveOrder_X2_addLine (by decide +kernel) rfl rfl rfl rfl rfl rfl ⟨by decide, by decide⟩ rfl [4, 5, 6, 7] [0, 1, 2, 3] [0, 1, 2, 3, 4, 5, 6, 7] rfl (by decide) rfl (by decide) (by decide) rfl (by decide) (Nat.le_of_ble_eq_true rfl) ⟨Nat.zero_le _, Nat.zero_le _⟩ rfl dX5_giveOrder_93 ?_
    obtain rfl := Option.some.inj hf
    exact hR _ _ dX5_giveOrder_96
  replace hf := ite_f c4 hf
  by_cases c8 : (letters x1.toNatClampNeg) = (116 : Int32)
  · replace hf := ite_t c8 hf
    refine g_lookup (off := 76) (tgt := 104) C dX5_giveOrder_28 (by decide +kernel) (by rw [c8]; decide +kernel) (by decide) ?_
    refine g_aload_n C dX5_giveOrder_104 rfl 2 rfl ?_
    refine g_iload C dX5_giveOrder_105 4 rfl ?_
    refine g_iload C dX5_giveOrder_107 5 rfl ?_
    obtain ⟨q9, hq9, hf⟩ := bs hf
    refine g_callVi (n := 2) (As := [.int x4, .int x5]) (rest := []) (wc := [(aq1, oB 2 [.ref aq1_lines, .ref aq1_cells, .ref aq1_starts, .int (P1_N 0), .int (P1_N 1)]), (aq1_lines, aI G 80 (fun j => P1_N (24 + j))), (aq1_cells, aI G 16 (fun j => P1_N (8 + j))), (aq1_starts, aI G 6 (fun j => P1_N (2 + j)))]) (w1 := [(aq1, oB 2 [.ref aq1_lines, .ref aq1_cells, .ref aq1_starts, .int (q9.2 0), .int (q9.2 1)]), (aq1_lines, aI G 80 (fun j => q9.2 (24 + j))), (aq1_cells, aI G 16 (fun j => q9.2 (8 + j))), (aq1_starts, aI G 6 (fun j => q9.2 (2 + j)))]) (wr := [(tx, oB 5 [.ref tx_bytes, .int length, .ref tx_letters, .ref tx_arguments, .int orders, .int open_, .int numbers, .int figures]), (tx_bytes, aI G 120 bytes), (tx_letters, aI G 40 letters), (tx_arguments, aI G 160 arguments)]) (WS' := [(tx, oB 5 [.ref tx_bytes, .int length, .ref tx_letters, .ref tx_arguments, .int orders, .int open_, .int numbers, .int figures]), (tx_bytes, aI G 120 bytes), (tx_letters, aI G 40 letters), (tx_arguments, aI G 160 arguments), (aq1, oB 2 [.ref aq1_lines, .ref aq1_cells, .ref aq1_starts, .int (q9.2 0), .int (q9.2 1)]), (aq1_lines, aI G 80 (fun j => q9.2 (24 + j))), (aq1_cells, aI G 16 (fun j => q9.2 (8 + j))), (aq1_starts, aI G 6 (fun j => q9.2 (2 + j)))]) C (c2_putCell hq9) gX5_giveOrder_X2_putCell (by decide +kernel) rfl rfl rfl rfl rfl rfl ⟨by decide, by decide⟩ rfl [4, 5, 6, 7] [0, 1, 2, 3] [0, 1, 2, 3, 4, 5, 6, 7] rfl (by decide) rfl (by decide) (by decide) rfl (by decide) (Nat.le_of_ble_eq_true rfl) ⟨Nat.zero_le _, Nat.zero_le _⟩ rfl dX5_giveOrder_109 ?_
    obtain rfl := Option.some.inj hf
    exact hR _ _ dX5_giveOrder_112
  replace hf := ite_f c8 hf
  by_cases c10 : (letters x1.toNatClampNeg) = (118 : Int32)
  · replace hf := ite_t c10 hf
    refine g_lookup (off := 85) (tgt := 113) C dX5_giveOrder_28 (by decide +kernel) (by rw [c10]; decide +kernel) (by decide) ?_
    refine g_aload_n C dX5_giveOrder_113 rfl 2 rfl ?_
    refine g_iload C dX5_giveOrder_114 4 rfl ?_
    refine g_iload C dX5_giveOrder_116 5 rfl ?_
    obtain ⟨q11, hq11, hf⟩ := bs hf
    refine g_callVi (n := 2) (As := [.int x4, .int x5]) (rest := []) (wc := [(aq1, oB 2 [.ref aq1_lines, .ref aq1_cells, .ref aq1_starts, .int (P1_N 0), .int (P1_N 1)]), (aq1_lines, aI G 80 (fun j => P1_N (24 + j))), (aq1_cells, aI G 16 (fun j => P1_N (8 + j))), (aq1_starts, aI G 6 (fun j => P1_N (2 + j)))]) (w1 := [(aq1, oB 2 [.ref aq1_lines, .ref aq1_cells, .ref aq1_starts, .int (q11.2 0), .int (q11.2 1)]), (aq1_lines, aI G 80 (fun j => q11.2 (24 + j))), (aq1_cells, aI G 16 (fun j => q11.2 (8 + j))), (aq1_starts, aI G 6 (fun j => q11.2 (2 + j)))]) (wr := [(tx, oB 5 [.ref tx_bytes, .int length, .ref tx_letters, .ref tx_arguments, .int orders, .int open_, .int numbers, .int figures]), (tx_bytes, aI G 120 bytes), (tx_letters, aI G 40 letters), (tx_arguments, aI G 160 arguments)]) (WS' := [(tx, oB 5 [.ref tx_bytes, .int length, .ref tx_letters, .ref tx_arguments, .int orders, .int open_, .int numbers, .int figures]), (tx_bytes, aI G 120 bytes), (tx_letters, aI G 40 letters), (tx_arguments, aI G 160 arguments), (aq1, oB 2 [.ref aq1_lines, .ref aq1_cells, .ref aq1_starts, .int (q11.2 0), .int (q11.2 1)]), (aq1_lines, aI G 80 (fun j => q11.2 (24 + j))), (aq1_cells, aI G 16 (fun j => q11.2 (8 + j))), (aq1_starts, aI G 6 (fun j => q11.2 (2 + j)))]) C (c2_putStart hq11) gX5_giveOrder_X2_putStart (by decide +kernel) rfl rfl rfl rfl rfl rfl ⟨by decide, by decide⟩ rfl [4, 5, 6, 7] [0, 1, 2, 3] [0, 1, 2, 3, 4, 5, 6, 7] rfl (by decide) rfl (by decide) (by decide) rfl (by decide) (Nat.le_of_ble_eq_true rfl) ⟨Nat.zero_le _, Nat.zero_le _⟩ rfl dX5_giveOrder_118 ?_
    obtain rfl := Option.some.inj hf
    exact hR _ _ dX5_giveOrder_121
  replace hf := ite_f c10 hf
  refine g_lookup (off := 94) (tgt := 122) C dX5_giveOrder_28 (by decide +kernel) (by refine (lv_osw (k := (100 : Int32)) c2 (by decide +kernel)).trans ?_; refine (lv_osw (k := (108 : Int32)) c4 (by decide +kernel)).trans ?_; refine (lv_osw (k := (116 : Int32)) c8 (by decide +kernel)).trans ?_; refine (lv_osw (k := (118 : Int32)) c10 (by decide +kernel)).trans ?_; rfl) (by decide) ?_
  refine g_aload_n C dX5_giveOrder_122 rfl 2 rfl ?_
  refine g_iload C dX5_giveOrder_123 4 rfl ?_
  refine g_iload C dX5_giveOrder_125 5 rfl ?_
  obtain ⟨q12, hq12, hf⟩ := bs hf
  refine g_callVi (n := 2) (As := [.int x4, .int x5]) (rest := []) (wc := [(aq1, oB 2 [.ref aq1_lines, .ref aq1_cells, .ref aq1_starts, .int (P1_N 0), .int (P1_N 1)]), (aq1_lines, aI G 80 (fun j => P1_N (24 + j))), (aq1_cells, aI G 16 (fun j => P1_N (8 + j))), (aq1_starts, aI G 6 (fun j => P1_N (2 + j)))]) (w1 := [(aq1, oB 2 [.ref aq1_lines, .ref aq1_cells, .ref aq1_starts, .int (q12.2 0), .int (q12.2 1)]), (aq1_lines, aI G 80 (fun j => q12.2 (24 + j))), (aq1_cells, aI G 16 (fun j => q12.2 (8 + j))), (aq1_starts, aI G 6 (fun j => q12.2 (2 + j)))]) (wr := [(tx, oB 5 [.ref tx_bytes, .int length, .ref tx_letters, .ref tx_arguments, .int orders, .int open_, .int numbers, .int figures]), (tx_bytes, aI G 120 bytes), (tx_letters, aI G 40 letters), (tx_arguments, aI G 160 arguments)]) (WS' := [(tx, oB 5 [.ref tx_bytes, .int length, .ref tx_letters, .ref tx_arguments, .int orders, .int open_, .int numbers, .int figures]), (tx_bytes, aI G 120 bytes), (tx_letters, aI G 40 letters), (tx_arguments, aI G 160 arguments), (aq1, oB 2 [.ref aq1_lines, .ref aq1_cells, .ref aq1_starts, .int (q12.2 0), .int (q12.2 1)]), (aq1_lines, aI G 80 (fun j => q12.2 (24 + j))), (aq1_cells, aI G 16 (fun j => q12.2 (8 + j))), (aq1_starts, aI G 6 (fun j => q12.2 (2 + j)))]) C (c2_putSecret hq12) gX5_giveOrder_X2_putSecret (by decide +kernel) rfl rfl rfl rfl rfl rfl ⟨by decide, by decide⟩ rfl [4, 5, 6, 7] [0, 1, 2, 3] [0, 1, 2, 3, 4, 5, 6, 7] rfl (by decide) rfl (by decide) (by decide) rfl (by decide) (Nat.le_of_ble_eq_true rfl) ⟨Nat.zero_le _, Nat.zero_le _⟩ rfl dX5_giveOrder_127 ?_
  obtain rfl := Option.some.inj hf
  exact hR _ _ dX5_giveOrder_130
set_option maxHeartbeats 4000000 in
set_option maxRecDepth 100000 in
theorem c5_giveOrder {l : Launch} {G : gG} {tx tx_bytes tx_letters tx_arguments aq1 aq1_lines aq1_cells aq1_starts : Nat} {bytes : Nat → Int32} {length : Int32} {letters : Nat → Int32} {arguments : Nat → Int32} {orders : Int32} {open_ : Int32} {numbers : Int32} {figures : Int32} {P1_N : Nat → Int32} {v0 : Int32} {res : Int32 × (Nat → Int32)} (hf : f5_giveOrder letters arguments P1_N v0 = some res) : MI l yX5_giveOrder wsX5_giveOrder rm5_giveOrder G [.ref tx, .int v0, .ref aq1] [(tx, oB 5 [.ref tx_bytes, .int length, .ref tx_letters, .ref tx_arguments, .int orders, .int open_, .int numbers, .int figures]), (tx_bytes, aI G 120 bytes), (tx_letters, aI G 40 letters), (tx_arguments, aI G 160 arguments), (aq1, oB 2 [.ref aq1_lines, .ref aq1_cells, .ref aq1_starts, .int (P1_N 0), .int (P1_N 1)]), (aq1_lines, aI G 80 (fun j => P1_N (24 + j))), (aq1_cells, aI G 16 (fun j => P1_N (8 + j))), (aq1_starts, aI G 6 (fun j => P1_N (2 + j)))] (res.1) [(tx, oB 5 [.ref tx_bytes, .int length, .ref tx_letters, .ref tx_arguments, .int orders, .int open_, .int numbers, .int figures]), (tx_bytes, aI G 120 bytes), (tx_letters, aI G 40 letters), (tx_arguments, aI G 160 arguments), (aq1, oB 2 [.ref aq1_lines, .ref aq1_cells, .ref aq1_starts, .int (res.2 0), .int (res.2 1)]), (aq1_lines, aI G 80 (fun j => res.2 (24 + j))), (aq1_cells, aI G 16 (fun j => res.2 (8 + j))), (aq1_starts, aI G 6 (fun j => res.2 (2 + j)))] := by
  refine MI_of (res.1) (cc := cX5_giveOrder) (nL := 6) (lv := [(0, .ref tx), (1, .int v0), (2, .ref aq1)]) (by decide +kernel) rfl (Nat.le_of_ble_eq_true rfl) rfl ?_
  intro p e s m args below meth c A Q C hR
  unfold f5_giveOrder at hf
  refine g_iload_n C dX5_giveOrder_0 rfl 1 rfl ?_
  refine g_iconst (v := (4 : Int32)) C dX5_giveOrder_1 (by decide +kernel) ?_
  refine g_imul C dX5_giveOrder_2 ?_
  refine g_istore_n (lv' := [(0, .ref tx), (1, .int v0), (2, .ref aq1), (3, .int (v0 * (4 : Int32)))]) C dX5_giveOrder_3 rfl (by decide) [1, 2, 3, 0] rfl ?_
  refine g_aload_n C dX5_giveOrder_4 rfl 0 rfl ?_
  refine g_get (C0 := RX5) (T := TX5) (N := 8) (ci := 5) (v := .ref tx_arguments) C hm5_giveOrder_0 0 rfl rfl 3 (by decide) hm5_giveOrder_2 rfl dX5_giveOrder_5 ?_
  refine g_iload_n C dX5_giveOrder_8 rfl 3 rfl ?_
  obtain ⟨h13, hf⟩ := ck_some hf
  refine g_iald (n := 160) (v := (arguments (v0 * (4 : Int32)).toNatClampNeg)) C 3 rfl h13 rfl rfl dX5_giveOrder_9 ?_
  refine g_istore (lv' := [(0, .ref tx), (1, .int v0), (2, .ref aq1), (3, .int (v0 * (4 : Int32))), (4, .int (arguments (v0 * (4 : Int32)).toNatClampNeg))]) C dX5_giveOrder_10 (by decide) [1, 2, 3, 4, 0] rfl ?_
  refine g_aload_n C dX5_giveOrder_12 rfl 0 rfl ?_
  refine g_get (C0 := RX5) (T := TX5) (N := 8) (ci := 5) (v := .ref tx_arguments) C hm5_giveOrder_0 0 rfl rfl 3 (by decide) hm5_giveOrder_2 rfl dX5_giveOrder_13 ?_
  refine g_iload_n C dX5_giveOrder_16 rfl 3 rfl ?_
  refine g_iconst (v := (1 : Int32)) C dX5_giveOrder_17 (by decide +kernel) ?_
  refine g_iadd C dX5_giveOrder_18 ?_
  obtain ⟨h14, hf⟩ := ck_some hf
  refine g_iald (n := 160) (v := (arguments ((v0 * (4 : Int32)) + (1 : Int32)).toNatClampNeg)) C 3 rfl h14 rfl rfl dX5_giveOrder_19 ?_
  refine g_istore (lv' := [(0, .ref tx), (1, .int v0), (2, .ref aq1), (3, .int (v0 * (4 : Int32))), (4, .int (arguments (v0 * (4 : Int32)).toNatClampNeg)), (5, .int (arguments ((v0 * (4 : Int32)) + (1 : Int32)).toNatClampNeg))]) C dX5_giveOrder_20 (by decide) [1, 2, 3, 4, 5, 0] rfl ?_
  exact k5_giveOrder_22 C hR hf
