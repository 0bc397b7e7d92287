/-! the law's walk -/
section GGlaw
variable {p : Program} {l : Launch} {e : Env} {R : Room} {s : State} {m : MethodId} {args : Array Value} {below : List Frame} {meth : Method} {c : Code} {G : gG} {A : Nat → Prop} {cc : ByteArray} {nL cells slots : Nat} {own : String} {Ts : List Cond} {Q : State → Prop} {WS : va_W} {lv : List (Nat × Value)} {pc : Nat} {rest : List Value}
def SX (s : State) (A : Nat → Prop) (b L : Nat) (xs : Nat → Int32) : Prop := va_X b L xs s s.heap ∧ b < s.heap.size ∧ ¬ A b
theorem g_sld (C : CX p s m args meth c G A cc nL own Ts) {b L : Nat} {xs : Nat → Int32} (X : SX s A b L xs) {i : Int32} {v : Int32} (hin : inb i L = true) (hv : xs i.toNatClampNeg = v) (hd : decode cc pc = .ok (.iaload, 1))
    (k : GG p l e R s m args below meth c G A nL cells slots Q WS lv (pc + 1) (.int v :: rest)) : GG p l e R s m args below meth c G A nL cells slots Q WS lv pc (.int i :: .ref b :: rest) := by
  subst hv
  exact fun H locs ls hP hD hS hl => va_sld C.x C.b X.1 X.2.1 X.2.2 hS (inb_in hin) hd (k H locs ls hP hD hS hl)
theorem g_slen (C : CX p s m args meth c G A cc nL own Ts) {b L : Nat} {xs : Nat → Int32} (X : SX s A b L xs) (hd : decode cc pc = .ok (.arraylength, 1))
    (k : GG p l e R s m args below meth c G A nL cells slots Q WS lv (pc + 1) (.int (Int32.ofNat L) :: rest)) : GG p l e R s m args below meth c G A nL cells slots Q WS lv pc (.ref b :: rest) := fun H locs ls hP hD hS hl => va_slen C.x C.b X.1 X.2.1 X.2.2 hS hd (k H locs ls hP hD hS hl)
/-- one number of the script -/
theorem g_arg (C : CX p s m args meth c G A cc nL own Ts) {b L i n : Nat} {xs : Nat → Int32} {x1 x2 : Nat} (X : SX s A b L xs) (hi : i + n < L) (hL : L ≤ 2560) (d0 : decode cc pc = .ok (.aload_n 0, 1)) (d1 : decode cc (pc + 1) = .ok (.iload_n 3, 1)) (d2 : decode cc (pc + 1 + 1) = .ok (.iconst n, 1)) (d3 : decode cc (pc + 1 + 1 + 1) = .ok (.iadd, 1)) (d4 : decode cc (pc + 1 + 1 + 1 + 1) = .ok (.iaload, 1))
    (k : GG p l e R s m args below meth c G A nL cells slots Q WS [(0, .ref b), (1, .ref x1), (2, .ref x2), (3, .int (nI i))] (pc + 5) (.int (xs (i + n)) :: rest)) : GG p l e R s m args below meth c G A nL cells slots Q WS [(0, .ref b), (1, .ref x1), (2, .ref x2), (3, .int (nI i))] pc rest := by
  have e : nI i + nI n = nI (i + n) := nI_add ..
  refine g_aload_n C d0 rfl 0 rfl ?_
  refine g_iload_n C d1 rfl 3 rfl ?_
  refine g_iconst (v := nI n) C d2 rfl ?_
  refine g_iadd C d3 ?_
  rw [e]
  exact g_sld C X (inb_nI hi (by omega)) (by rw [nI_clamp (show i + n < 2 ^ 31 by omega)]) d4 k
end GGlaw
theorem lcmp_self (x : Int64) : lg_cmp x x = 0 := by
  unfold lg_cmp
  have h : ¬ x < x := by rw [Int64.lt_iff_toInt_lt]; omega
  simp [h]
