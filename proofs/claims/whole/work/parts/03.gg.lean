/-! the walking layer: a world, locals and a stack as lists; one row an instruction, one row a call -/
abbrev gG : Type := va_G × (Nat → ClassId)
abbrev aI (G : gG) (n : Nat) (f : Nat → Int32) : va_E := .inl (G.2 0, n, .inl f)
abbrev aZ (G : gG) (n : Nat) (f : Nat → Int32) : va_E := .inl (G.2 1, n, .inl f)
abbrev aJ (G : gG) (n : Nat) (f : Nat → Int64) : va_E := .inl (G.2 2, n, .inr (.inl f))
abbrev aP (G : gG) (n : Nat) (f : Nat → Option Nat) : va_E := .inl (G.2 3, n, .inr (.inr (.inr (.inr f))))
abbrev oB (ci : Nat) (fs : List Value) : va_E := .inr (ci, fs)
def gTy (G : gG) : List (ClassId × FieldType) := [(G.2 0, .int), (G.2 1, .boolean), (G.2 2, .long), (G.2 3, .object "SecretSteps$Program")]
def gNest : List Cond := [.fieldLinkNest RX3 52 "SecretSteps$Program" "lines" "[I" "SecretSteps", .fieldLinkNest RX3 55 "SecretSteps$Program" "cells" "[I" "SecretSteps", .fieldLinkNest RX0 83 "SecretSteps$Program" "cells" "[I" "SecretSteps",
  .fieldLinkNest RX3 49 "SecretSteps$Program" "starts" "[I" "SecretSteps", .fieldLinkNest RX3 26 "SecretSteps$Program" "count" "I" "SecretSteps", .fieldLinkNest RX0 39 "SecretSteps$Program" "count" "I" "SecretSteps",
  .fieldLinkNest RX6 118 "SecretSteps$Program" "count" "I" "SecretSteps", .fieldLinkNest RX0 25 "SecretSteps$Program" "secretBits" "I" "SecretSteps", .fieldLinkNest RX3 46 "SecretSteps$Program" "secretBits" "I" "SecretSteps",
  .fieldLinkNest RX6 172 "SecretSteps$History" "size" "I" "SecretSteps", .fieldLinkNest RX6 214 "SecretSteps$Text" "length" "I" "SecretSteps", .fieldLinkNest RX6 162 "SecretSteps$Text" "orders" "I" "SecretSteps",
  .fieldLinkNest RX4 51 "SecretSteps$Run" "sights" "[I" "SecretSteps", .fieldLinkNest RX4 48 "SecretSteps$Run" "seenCount" "I" "SecretSteps", .fieldLinkNest RX6 115 "SecretSteps$Survey" "unlike" "I" "SecretSteps",
  .fieldLinkNest RX6 111 "SecretSteps$Survey" "other" "I" "SecretSteps",
  .methodLinkNest RX6 28 yX5_init "SecretSteps", .methodLinkNest RX6 35 yX3_init "SecretSteps", .methodLinkNest RX6 45 yX0_init "SecretSteps", .methodLinkNest RX6 52 yX4_init "SecretSteps",
  .methodLinkNest RX2 38 yX6_within "SecretSteps", .methodLinkNest RX3 58 yX6_combined "SecretSteps", .methodLinkNest RX3 62 yX6_within "SecretSteps", .methodLinkNest RX0 92 yX6_combined "SecretSteps"]
def gK (G : gG) (U : State) : Prop := va_K G.1 vwCl (gTy G) U ∧ ∀ w ∈ gNest, va_Nw w U
theorem gNest_warm {s U : State} (hW : s.WarmedH U.vm) : ∀ w ∈ gNest, va_Nw w s → va_Nw w U := by
  unfold gNest
  repeat' (rw [List.forall_mem_cons]; refine ⟨?_, ?_⟩)
  all_goals first | exact va_Nw.warmF hW | exact va_Nw.warmM hW | (intro w h; cases h)
theorem gNest_tab : ∀ w ∈ gNest, w.onTables = true := by
  unfold gNest
  repeat' (rw [List.forall_mem_cons]; refine ⟨?_, ?_⟩)
  all_goals first | rfl | (intro w h; cases h)
theorem gK.warm {G : gG} {s U : State} (hW : s.WarmedH U.vm) (h : gK G s) : gK G U := ⟨va_K.moved hW.alike h.1, fun w hw => gNest_warm hW w hw (h.2 w hw)⟩
theorem gK.same {G : gG} {u U : State} (hv : u.vm = U.vm) (h : gK G u) : gK G U := ⟨va_K.moved (hv ▸ Vm.Alike.refl u.vm) h.1, fun w hw => va_Nw.same (gNest_tab w hw) hv (h.2 w hw)⟩
/-- a method's start and end -/
def mPre (G : gG) (WS : va_W) (sz : Nat) (U : State) : Prop := U.heap.size = sz ∧ va_P G.1 vwCl WS U.heap ∧ gK G U ∧ va_D (fun _ => True) WS
def mPost (G : gG) (WS : va_W) (A : Nat → Prop) (t : State) : Prop := va_P G.1 vwCl WS t.heap ∧ va_D A WS
theorem mPre_blind {G : gG} {WS : va_W} {sz : Nat} {av : List Value} : FrameBlind (va_Pc av (mPre G WS sz)) := fun a U g mk q => ⟨q.1, q.2.1, q.2.2.1, gK.same (u := U) (U := U.calling g mk a) rfl q.2.2.2.1, q.2.2.2.2⟩
def MI (l : Launch) (y : MethodName) (ws : List Cond) (rm : Room) (G : gG) (av : List Value) (WS : va_W) (r : Int32) (WS' : va_W) : Prop :=
  ∀ sz, Met l y ws rm (va_Pc av (mPre G WS sz)) (va_Qi (fun x (_ : Unit) => x = r) (fun _ t => mPost G WS' (va_A WS sz) t) (va_A WS sz)) 0 0 (va_A WS sz)
def ML (l : Launch) (y : MethodName) (ws : List Cond) (rm : Room) (G : gG) (av : List Value) (WS : va_W) (r : Int64) (WS' : va_W) : Prop :=
  ∀ sz, Met l y ws rm (va_Pc av (mPre G WS sz)) (va_Ql (fun x (_ : Unit) => x = r) (fun _ t => mPost G WS' (va_A WS sz) t) (va_A WS sz)) 0 0 (va_A WS sz)
def MV (l : Launch) (y : MethodName) (ws : List Cond) (rm : Room) (G : gG) (av : List Value) (WS : va_W) (WS' : va_W) : Prop :=
  ∀ sz, Met l y ws rm (va_Pc av (mPre G WS sz)) (va_Qv (fun (_ : Unit) => True) (fun _ t => mPost G WS' (va_A WS sz) t) (va_A WS sz)) 0 0 (va_A WS sz)
def MR (l : Launch) (y : MethodName) (ws : List Cond) (rm : Room) (G : gG) (av : List Value) (WS : va_W) (r : Nat) (WS' : va_W) : Prop :=
  ∀ sz, Met l y ws rm (va_Pc av (mPre G WS sz)) (va_Qr (fun (_ : Unit) => True) (fun _ a t => a = r ∧ mPost G WS' (va_A WS sz) t) (va_A WS sz)) 0 0 (va_A WS sz)
def CX (p : Program) (s : State) (m : MethodId) (args : Array Value) (meth : Method) (c : Code) (G : gG) (A : Nat → Prop) (cc : ByteArray) (nL : Nat) (own : String) (Ts : List Cond) : Prop :=
  CallFix p m c cc nL s args Ts own ∧ gK G s ∧ (∀ q, s.heap.size ≤ q → A q) ∧ meth.locks = false
def GG (p : Program) (l : Launch) (e : Env) (R : Room) (s : State) (m : MethodId) (args : Array Value) (below : List Frame) (meth : Method) (c : Code) (G : gG) (A : Nat → Prop) (nL cells slots : Nat) (Q : State → Prop) (WS : va_W) (lv : List (Nat × Value)) (pc : Nat) (st : List Value) : Prop :=
  ∀ (H : Heap) (locs : List Loc) (ls : Array Slot), va_P G.1 vwCl WS H → va_D A WS → va_S A s.heap H locs → lv_has ls nL lv → W p l e R s m args below meth c H locs cells slots Q (F0 m pc ls st)
/-! pure words -/
def inb (i : Int32) (n : Nat) : Bool := decide (¬ (i < 0 ∨ n ≤ i.toNatClampNeg))
theorem inb_in {i : Int32} {n : Nat} (h : inb i n = true) : vp_in i n := of_decide_eq_true (p := ¬ (i < 0 ∨ n ≤ i.toNatClampNeg)) h
def ck {α : Type} (b : Bool) (k : Option α) : Option α := bif b then k else none
theorem ck_some {α : Type} {b : Bool} {k : Option α} {r : α} (h : ck b k = some r) : b = true ∧ k = some r := by
  cases b with
  | true => exact ⟨rfl, h⟩
  | false => cases h
theorem ite_t {α : Type} {c : Prop} [Decidable c] {a b r : α} (h : c) (hf : (if c then a else b) = r) : a = r := by rw [if_pos h] at hf; exact hf
theorem ite_f {α : Type} {c : Prop} [Decidable c] {a b r : α} (h : ¬ c) (hf : (if c then a else b) = r) : b = r := by rw [if_neg h] at hf; exact hf
theorem bs {α β : Type} {o : Option α} {k : α → Option β} {r : β} (h : o.bind k = some r) : ∃ q, o = some q ∧ k q = some r := by
  cases o with
  | none => cases h
  | some q => exact ⟨q, rfl, h⟩
def itf {σ ρ : Type} (body : (σ → Option ρ) → σ → Option ρ) : Nat → σ → Option ρ
  | 0, _ => none
  | n + 1, s => body (itf body n) s
theorem itf_ind {σ ρ : Type} {body : (σ → Option ρ) → σ → Option ρ} {P : σ → Prop} {res : ρ} (step : ∀ (k : σ → Option ρ) (s : σ), (∀ s', k s' = some res → P s') → body k s = some res → P s) : ∀ (n : Nat) (s : σ), itf body n s = some res → P s := by
  intro n
  induction n with
  | zero => intro s h; cases h
  | succ n ih => intro s h; exact step (itf body n) s ih h
def irm (x y : Int32) : Int32 := x - x / y * y
def sl32 (x y : Int32) : Int32 := x <<< (y &&& 31)
def sr32 (x y : Int32) : Int32 := x >>> (y &&& 31)
def ur32 (x y : Int32) : Int32 := (x.toUInt32 >>> (y.toUInt32 &&& Int32.toUInt32 31)).toInt32
def sl64 (x : Int64) (y : Int32) : Int64 := x <<< (y.toInt64 &&& 63)
def isb (x : Int32) : Bool := decide (x = 0 ∨ x = 1)
theorem isb_n {x : Int32} (h : isb x = true) : narrow .boolean (.int x) = .int x := by
  rcases of_decide_eq_true h with rfl | rfl <;> rfl
theorem isb_f {x : Int32} (h : isb x = true) : fits .boolean (.int x) = true := by
  rcases of_decide_eq_true h with rfl | rfl <;> rfl
theorem isb_v {x : Int32} (h : isb x = true) : vp_nar .boolean x = x := by
  rcases of_decide_eq_true h with rfl | rfl <;> rfl
section GGrows
variable {p : Program} {l : Launch} {e : Env} {R : Room} {s : State} {m : MethodId} {args : Array Value} {below : List Frame} {meth : Method} {c : Code} {G : gG} {A : Nat → Prop} {cc : ByteArray} {nL cells slots : Nat} {own : String} {Ts : List Cond} {Q : State → Prop} {WS : va_W} {lv : List (Nat × Value)} {pc : Nat} {rest : List Value}
theorem CX.x (C : CX p s m args meth c G A cc nL own Ts) : p.tables.exec = Jvm.exec := C.1.1
theorem CX.b (C : CX p s m args meth c G A cc nL own Ts) : c.code = cc := C.1.2.1
theorem CX.ml (C : CX p s m args meth c G A cc nL own Ts) : c.maxLocals = nL := C.1.2.2.1
theorem CX.o (C : CX p s m args meth c G A cc nL own Ts) : s.vm.findClass own = some m.cls := C.1.2.2.2.1
theorem CX.t (C : CX p s m args meth c G A cc nL own Ts) : ∀ w ∈ Ts, w.before args s = true := C.1.2.2.2.2
theorem CX.K (C : CX p s m args meth c G A cc nL own Ts) : va_K G.1 vwCl (gTy G) s := C.2.1.1
theorem CX.N (C : CX p s m args meth c G A cc nL own Ts) {w : Cond} (hw : w ∈ gNest) : w.before args s = true := va_Nw.use (gNest_tab w hw) (C.2.1.2 w hw)
theorem CX.Nw (C : CX p s m args meth c G A cc nL own Ts) {w : Cond} (hw : w ∈ gNest) : va_Nw w s := C.2.1.2 w hw
theorem CX.Af (C : CX p s m args meth c G A cc nL own Ts) : ∀ q, s.heap.size ≤ q → A q := C.2.2.1
theorem CX.k (C : CX p s m args meth c G A cc nL own Ts) : meth.locks = false := C.2.2.2
theorem g_iconst (C : CX p s m args meth c G A cc nL own Ts) {n : Int} {v : Int32} (hd : decode cc pc = .ok (.iconst n, 1)) (hv : Int32.ofInt n = v)
    (k : GG p l e R s m args below meth c G A nL cells slots Q WS lv (pc + 1) (.int v :: rest)) : GG p l e R s m args below meth c G A nL cells slots Q WS lv pc rest := fun H locs ls hP hD hS hl => lv_iconst C.x C.b hd hv (k H locs ls hP hD hS hl)
theorem g_bipush (C : CX p s m args meth c G A cc nL own Ts) {n : Int} {v : Int32} (hd : decode cc pc = .ok (.bipush n, 2)) (hv : (Int8.ofInt n).toInt32 = v)
    (k : GG p l e R s m args below meth c G A nL cells slots Q WS lv (pc + 2) (.int v :: rest)) : GG p l e R s m args below meth c G A nL cells slots Q WS lv pc rest := fun H locs ls hP hD hS hl => lv_bipush C.x C.b hd hv (k H locs ls hP hD hS hl)
theorem g_sipush (C : CX p s m args meth c G A cc nL own Ts) {n : Int} {v : Int32} (hd : decode cc pc = .ok (.sipush n, 3)) (hv : (Int16.ofInt n).toInt32 = v)
    (k : GG p l e R s m args below meth c G A nL cells slots Q WS lv (pc + 3) (.int v :: rest)) : GG p l e R s m args below meth c G A nL cells slots Q WS lv pc rest := fun H locs ls hP hD hS hl => lv_sipush C.x C.b hd hv (k H locs ls hP hD hS hl)
theorem g_lconst (C : CX p s m args meth c G A cc nL own Ts) {n : Fin 2} {v : Int64} (hd : decode cc pc = .ok (.lconst n, 1)) (hv : Int64.ofNat (n : Nat) = v)
    (k : GG p l e R s m args below meth c G A nL cells slots Q WS lv (pc + 1) (.long v :: rest)) : GG p l e R s m args below meth c G A nL cells slots Q WS lv pc rest := fun H locs ls hP hD hS hl => lv_lconst C.x C.b hd hv (k H locs ls hP hD hS hl)
theorem g_ldcw (C : CX p s m args meth c G A cc nL own Ts) {idx : Nat} {v : Int32} (hw : Cond.constant own idx v ∈ Ts) (hd : decode cc pc = .ok (.ldc_w idx, 3))
    (k : GG p l e R s m args below meth c G A nL cells slots Q WS lv (pc + 3) (.int v :: rest)) : GG p l e R s m args below meth c G A nL cells slots Q WS lv pc rest := fun H locs ls hP hD hS hl => lv_ldcw C.x C.b C.o (C.t _ hw) hd (k H locs ls hP hD hS hl)
theorem g_ldc2 (C : CX p s m args meth c G A cc nL own Ts) {idx : Nat} {v : Int64} (hw : Cond.constantLong own idx v ∈ Ts) (hd : decode cc pc = .ok (.ldc2_w idx, 3))
    (k : GG p l e R s m args below meth c G A nL cells slots Q WS lv (pc + 3) (.long v :: rest)) : GG p l e R s m args below meth c G A nL cells slots Q WS lv pc rest := fun H locs ls hP hD hS hl => lv_ldc2 C.x C.b C.o (C.t _ hw) hd (k H locs ls hP hD hS hl)
theorem g_iload_n (C : CX p s m args meth c G A cc nL own Ts) {k : Fin 4} {i : Nat} {x : Int32} (hd : decode cc pc = .ok (.iload_n k, 1)) (hi : (k : Nat) = i) (j : Nat) (hj : lv[j]? = some (i, .int x))
    (kk : GG p l e R s m args below meth c G A nL cells slots Q WS lv (pc + 1) (.int x :: rest)) : GG p l e R s m args below meth c G A nL cells slots Q WS lv pc rest := fun H locs ls hP hD hS hl => lv_iload_n C.x C.b hd hi (lv_at hl j hj) (kk H locs ls hP hD hS hl)
theorem g_iload (C : CX p s m args meth c G A cc nL own Ts) {i : Nat} {x : Int32} (hd : decode cc pc = .ok (.iload i, 2)) (j : Nat) (hj : lv[j]? = some (i, .int x))
    (kk : GG p l e R s m args below meth c G A nL cells slots Q WS lv (pc + 2) (.int x :: rest)) : GG p l e R s m args below meth c G A nL cells slots Q WS lv pc rest := fun H locs ls hP hD hS hl => lv_iload C.x C.b hd (lv_at hl j hj) (kk H locs ls hP hD hS hl)
theorem g_lload_n (C : CX p s m args meth c G A cc nL own Ts) {k : Fin 4} {i : Nat} {x : Int64} (hd : decode cc pc = .ok (.lload_n k, 1)) (hi : (k : Nat) = i) (j : Nat) (hj : lv[j]? = some (i, .long x))
    (kk : GG p l e R s m args below meth c G A nL cells slots Q WS lv (pc + 1) (.long x :: rest)) : GG p l e R s m args below meth c G A nL cells slots Q WS lv pc rest := fun H locs ls hP hD hS hl => lv_lload_n C.x C.b hd hi (lv_at hl j hj) (kk H locs ls hP hD hS hl)
theorem g_lload (C : CX p s m args meth c G A cc nL own Ts) {i : Nat} {x : Int64} (hd : decode cc pc = .ok (.lload i, 2)) (j : Nat) (hj : lv[j]? = some (i, .long x))
    (kk : GG p l e R s m args below meth c G A nL cells slots Q WS lv (pc + 2) (.long x :: rest)) : GG p l e R s m args below meth c G A nL cells slots Q WS lv pc rest := fun H locs ls hP hD hS hl => lv_lload C.x C.b hd (lv_at hl j hj) (kk H locs ls hP hD hS hl)
theorem g_aload_n (C : CX p s m args meth c G A cc nL own Ts) {k : Fin 4} {i : Nat} {x : Nat} (hd : decode cc pc = .ok (.aload_n k, 1)) (hi : (k : Nat) = i) (j : Nat) (hj : lv[j]? = some (i, .ref x))
    (kk : GG p l e R s m args below meth c G A nL cells slots Q WS lv (pc + 1) (.ref x :: rest)) : GG p l e R s m args below meth c G A nL cells slots Q WS lv pc rest := fun H locs ls hP hD hS hl => lv_aload_n C.x C.b hd hi (lv_at hl j hj) (kk H locs ls hP hD hS hl)
theorem g_aload (C : CX p s m args meth c G A cc nL own Ts) {i : Nat} {x : Nat} (hd : decode cc pc = .ok (.aload i, 2)) (j : Nat) (hj : lv[j]? = some (i, .ref x))
    (kk : GG p l e R s m args below meth c G A nL cells slots Q WS lv (pc + 2) (.ref x :: rest)) : GG p l e R s m args below meth c G A nL cells slots Q WS lv pc rest := fun H locs ls hP hD hS hl => lv_aload C.x C.b hd (lv_at hl j hj) (kk H locs ls hP hD hS hl)
theorem g_istore_n (C : CX p s m args meth c G A cc nL own Ts) {k : Fin 4} {i : Nat} {x : Int32} {lv' : List (Nat × Value)} (hd : decode cc pc = .ok (.istore_n k, 1)) (hi : (k : Nat) = i) (hn : i < nL) (ks : List Nat) (hl' : lv_pick ((i, Value.int x) :: lv.filter (fun q => !(q.1 == i) && !(q.1 + 1 == i && q.2.category == 2))) ks = lv')
    (kk : GG p l e R s m args below meth c G A nL cells slots Q WS lv' (pc + 1) rest) : GG p l e R s m args below meth c G A nL cells slots Q WS lv pc (.int x :: rest) := fun H locs ls hP hD hS hl => lv_istore_n C.x C.b hd hi hl hn rfl (fun ls' hl2 => kk H locs ls' hP hD hS (lv_sub hl2 ks hl'))
theorem g_istore (C : CX p s m args meth c G A cc nL own Ts) {i : Nat} {x : Int32} {lv' : List (Nat × Value)} (hd : decode cc pc = .ok (.istore i, 2)) (hn : i < nL) (ks : List Nat) (hl' : lv_pick ((i, Value.int x) :: lv.filter (fun q => !(q.1 == i) && !(q.1 + 1 == i && q.2.category == 2))) ks = lv')
    (kk : GG p l e R s m args below meth c G A nL cells slots Q WS lv' (pc + 2) rest) : GG p l e R s m args below meth c G A nL cells slots Q WS lv pc (.int x :: rest) := fun H locs ls hP hD hS hl => lv_istore C.x C.b hd hl hn rfl (fun ls' hl2 => kk H locs ls' hP hD hS (lv_sub hl2 ks hl'))
theorem g_lstore_n (C : CX p s m args meth c G A cc nL own Ts) {k : Fin 4} {i : Nat} {x : Int64} {lv' : List (Nat × Value)} (hd : decode cc pc = .ok (.lstore_n k, 1)) (hi : (k : Nat) = i) (hn : i + 1 < nL) (ks : List Nat) (hl' : lv_pick ((i, Value.long x) :: lv.filter (fun q => !(q.1 == i) && (!(q.1 == i + 1) && !(q.1 + 1 == i && q.2.category == 2)))) ks = lv')
    (kk : GG p l e R s m args below meth c G A nL cells slots Q WS lv' (pc + 1) rest) : GG p l e R s m args below meth c G A nL cells slots Q WS lv pc (.long x :: rest) := fun H locs ls hP hD hS hl => lv_lstore_n C.x C.b hd hi hl hn rfl (fun ls' hl2 => kk H locs ls' hP hD hS (lv_sub hl2 ks hl'))
theorem g_lstore (C : CX p s m args meth c G A cc nL own Ts) {i : Nat} {x : Int64} {lv' : List (Nat × Value)} (hd : decode cc pc = .ok (.lstore i, 2)) (hn : i + 1 < nL) (ks : List Nat) (hl' : lv_pick ((i, Value.long x) :: lv.filter (fun q => !(q.1 == i) && (!(q.1 == i + 1) && !(q.1 + 1 == i && q.2.category == 2)))) ks = lv')
    (kk : GG p l e R s m args below meth c G A nL cells slots Q WS lv' (pc + 2) rest) : GG p l e R s m args below meth c G A nL cells slots Q WS lv pc (.long x :: rest) := fun H locs ls hP hD hS hl => lv_lstore C.x C.b hd hl hn rfl (fun ls' hl2 => kk H locs ls' hP hD hS (lv_sub hl2 ks hl'))
theorem g_astore_n (C : CX p s m args meth c G A cc nL own Ts) {k : Fin 4} {i : Nat} {x : Nat} {lv' : List (Nat × Value)} (hd : decode cc pc = .ok (.astore_n k, 1)) (hi : (k : Nat) = i) (hn : i < nL) (ks : List Nat) (hl' : lv_pick ((i, Value.ref x) :: lv.filter (fun q => !(q.1 == i) && !(q.1 + 1 == i && q.2.category == 2))) ks = lv')
    (kk : GG p l e R s m args below meth c G A nL cells slots Q WS lv' (pc + 1) rest) : GG p l e R s m args below meth c G A nL cells slots Q WS lv pc (.ref x :: rest) := fun H locs ls hP hD hS hl => lv_astore_n C.x C.b hd hi hl hn rfl (fun ls' hl2 => kk H locs ls' hP hD hS (lv_sub hl2 ks hl'))
theorem g_astore (C : CX p s m args meth c G A cc nL own Ts) {i : Nat} {x : Nat} {lv' : List (Nat × Value)} (hd : decode cc pc = .ok (.astore i, 2)) (hn : i < nL) (ks : List Nat) (hl' : lv_pick ((i, Value.ref x) :: lv.filter (fun q => !(q.1 == i) && !(q.1 + 1 == i && q.2.category == 2))) ks = lv')
    (kk : GG p l e R s m args below meth c G A nL cells slots Q WS lv' (pc + 2) rest) : GG p l e R s m args below meth c G A nL cells slots Q WS lv pc (.ref x :: rest) := fun H locs ls hP hD hS hl => lv_astore C.x C.b hd hl hn rfl (fun ls' hl2 => kk H locs ls' hP hD hS (lv_sub hl2 ks hl'))
theorem g_iinc (C : CX p s m args meth c G A cc nL own Ts) {i : Nat} {n : Int} {x v : Int32} {lv' : List (Nat × Value)} (hd : decode cc pc = .ok (.iinc i n, 3)) (j : Nat) (hj : lv[j]? = some (i, .int x)) (hv : x + Int32.ofInt n = v) (hn : i < nL) (ks : List Nat) (hl' : lv_pick ((i, Value.int v) :: lv.filter (fun q => !(q.1 == i) && !(q.1 + 1 == i && q.2.category == 2))) ks = lv')
    (kk : GG p l e R s m args below meth c G A nL cells slots Q WS lv' (pc + 3) rest) : GG p l e R s m args below meth c G A nL cells slots Q WS lv pc rest := fun H locs ls hP hD hS hl => lv_iinc C.x C.b hd hl hj hv hn rfl (fun ls' hl2 => kk H locs ls' hP hD hS (lv_sub hl2 ks hl'))
theorem g_iadd (C : CX p s m args meth c G A cc nL own Ts) {x y : Int32} (hd : decode cc pc = .ok (.iadd, 1))
    (k : GG p l e R s m args below meth c G A nL cells slots Q WS lv (pc + 1) (.int (x + y) :: rest)) : GG p l e R s m args below meth c G A nL cells slots Q WS lv pc (.int y :: .int x :: rest) := fun H locs ls hP hD hS hl => lv_iadd C.x C.b hd (k H locs ls hP hD hS hl)
theorem g_isub (C : CX p s m args meth c G A cc nL own Ts) {x y : Int32} (hd : decode cc pc = .ok (.isub, 1))
    (k : GG p l e R s m args below meth c G A nL cells slots Q WS lv (pc + 1) (.int (x - y) :: rest)) : GG p l e R s m args below meth c G A nL cells slots Q WS lv pc (.int y :: .int x :: rest) := fun H locs ls hP hD hS hl => lv_isub C.x C.b hd (k H locs ls hP hD hS hl)
theorem g_imul (C : CX p s m args meth c G A cc nL own Ts) {x y : Int32} (hd : decode cc pc = .ok (.imul, 1))
    (k : GG p l e R s m args below meth c G A nL cells slots Q WS lv (pc + 1) (.int (x * y) :: rest)) : GG p l e R s m args below meth c G A nL cells slots Q WS lv pc (.int y :: .int x :: rest) := fun H locs ls hP hD hS hl => lv_imul C.x C.b hd (k H locs ls hP hD hS hl)
theorem g_iand (C : CX p s m args meth c G A cc nL own Ts) {x y : Int32} (hd : decode cc pc = .ok (.iand, 1))
    (k : GG p l e R s m args below meth c G A nL cells slots Q WS lv (pc + 1) (.int (x &&& y) :: rest)) : GG p l e R s m args below meth c G A nL cells slots Q WS lv pc (.int y :: .int x :: rest) := fun H locs ls hP hD hS hl => lv_iand C.x C.b hd (k H locs ls hP hD hS hl)
theorem g_ior (C : CX p s m args meth c G A cc nL own Ts) {x y : Int32} (hd : decode cc pc = .ok (.ior, 1))
    (k : GG p l e R s m args below meth c G A nL cells slots Q WS lv (pc + 1) (.int (x ||| y) :: rest)) : GG p l e R s m args below meth c G A nL cells slots Q WS lv pc (.int y :: .int x :: rest) := fun H locs ls hP hD hS hl => lv_ior C.x C.b hd (k H locs ls hP hD hS hl)
theorem g_ixor (C : CX p s m args meth c G A cc nL own Ts) {x y : Int32} (hd : decode cc pc = .ok (.ixor, 1))
    (k : GG p l e R s m args below meth c G A nL cells slots Q WS lv (pc + 1) (.int (x ^^^ y) :: rest)) : GG p l e R s m args below meth c G A nL cells slots Q WS lv pc (.int y :: .int x :: rest) := fun H locs ls hP hD hS hl => lv_ixor C.x C.b hd (k H locs ls hP hD hS hl)
theorem g_idiv (C : CX p s m args meth c G A cc nL own Ts) {x y : Int32} (hd : decode cc pc = .ok (.idiv, 1)) (hne : ¬ y = 0)
    (k : GG p l e R s m args below meth c G A nL cells slots Q WS lv (pc + 1) (.int (x / y) :: rest)) : GG p l e R s m args below meth c G A nL cells slots Q WS lv pc (.int y :: .int x :: rest) := fun H locs ls hP hD hS hl => lv_idiv C.x C.b hd hne (k H locs ls hP hD hS hl)
theorem g_irem (C : CX p s m args meth c G A cc nL own Ts) {x y : Int32} (hd : decode cc pc = .ok (.irem, 1)) (hne : ¬ y = 0)
    (k : GG p l e R s m args below meth c G A nL cells slots Q WS lv (pc + 1) (.int (irm x y) :: rest)) : GG p l e R s m args below meth c G A nL cells slots Q WS lv pc (.int y :: .int x :: rest) := fun H locs ls hP hD hS hl => lv_irem C.x C.b hd hne (k H locs ls hP hD hS hl)
theorem g_ishl (C : CX p s m args meth c G A cc nL own Ts) {x y : Int32} (hd : decode cc pc = .ok (.ishl, 1))
    (k : GG p l e R s m args below meth c G A nL cells slots Q WS lv (pc + 1) (.int (sl32 x y) :: rest)) : GG p l e R s m args below meth c G A nL cells slots Q WS lv pc (.int y :: .int x :: rest) := fun H locs ls hP hD hS hl => lv_ishl C.x C.b hd (k H locs ls hP hD hS hl)
theorem g_ishr (C : CX p s m args meth c G A cc nL own Ts) {x y : Int32} (hd : decode cc pc = .ok (.ishr, 1))
    (k : GG p l e R s m args below meth c G A nL cells slots Q WS lv (pc + 1) (.int (sr32 x y) :: rest)) : GG p l e R s m args below meth c G A nL cells slots Q WS lv pc (.int y :: .int x :: rest) := fun H locs ls hP hD hS hl => lv_ishr C.x C.b hd (k H locs ls hP hD hS hl)
theorem g_iushr (C : CX p s m args meth c G A cc nL own Ts) {x y : Int32} (hd : decode cc pc = .ok (.iushr, 1))
    (k : GG p l e R s m args below meth c G A nL cells slots Q WS lv (pc + 1) (.int (ur32 x y) :: rest)) : GG p l e R s m args below meth c G A nL cells slots Q WS lv pc (.int y :: .int x :: rest) := fun H locs ls hP hD hS hl => lv_iushr C.x C.b hd rfl (k H locs ls hP hD hS hl)
theorem g_ladd (C : CX p s m args meth c G A cc nL own Ts) {x y : Int64} (hd : decode cc pc = .ok (.ladd, 1))
    (k : GG p l e R s m args below meth c G A nL cells slots Q WS lv (pc + 1) (.long (x + y) :: rest)) : GG p l e R s m args below meth c G A nL cells slots Q WS lv pc (.long y :: .long x :: rest) := fun H locs ls hP hD hS hl => lv_ladd C.x C.b hd (k H locs ls hP hD hS hl)
theorem g_lmul (C : CX p s m args meth c G A cc nL own Ts) {x y : Int64} (hd : decode cc pc = .ok (.lmul, 1))
    (k : GG p l e R s m args below meth c G A nL cells slots Q WS lv (pc + 1) (.long (x * y) :: rest)) : GG p l e R s m args below meth c G A nL cells slots Q WS lv pc (.long y :: .long x :: rest) := fun H locs ls hP hD hS hl => lv_lmul C.x C.b hd (k H locs ls hP hD hS hl)
theorem g_lor (C : CX p s m args meth c G A cc nL own Ts) {x y : Int64} (hd : decode cc pc = .ok (.lor, 1))
    (k : GG p l e R s m args below meth c G A nL cells slots Q WS lv (pc + 1) (.long (x ||| y) :: rest)) : GG p l e R s m args below meth c G A nL cells slots Q WS lv pc (.long y :: .long x :: rest) := fun H locs ls hP hD hS hl => lv_lor C.x C.b hd (k H locs ls hP hD hS hl)
theorem g_lshl (C : CX p s m args meth c G A cc nL own Ts) {x : Int64} {y : Int32} (hd : decode cc pc = .ok (.lshl, 1))
    (k : GG p l e R s m args below meth c G A nL cells slots Q WS lv (pc + 1) (.long (sl64 x y) :: rest)) : GG p l e R s m args below meth c G A nL cells slots Q WS lv pc (.int y :: .long x :: rest) := fun H locs ls hP hD hS hl => lv_lshl C.x C.b hd rfl (k H locs ls hP hD hS hl)
theorem g_i2l (C : CX p s m args meth c G A cc nL own Ts) {x : Int32} (hd : decode cc pc = .ok (.i2l, 1))
    (k : GG p l e R s m args below meth c G A nL cells slots Q WS lv (pc + 1) (.long x.toInt64 :: rest)) : GG p l e R s m args below meth c G A nL cells slots Q WS lv pc (.int x :: rest) := fun H locs ls hP hD hS hl => lv_i2l C.x C.b hd rfl (k H locs ls hP hD hS hl)
theorem g_lcmp (C : CX p s m args meth c G A cc nL own Ts) {x y : Int64} (hd : decode cc pc = .ok (.lcmp, 1))
    (k : GG p l e R s m args below meth c G A nL cells slots Q WS lv (pc + 1) (.int (lg_cmp x y) :: rest)) : GG p l e R s m args below meth c G A nL cells slots Q WS lv pc (.long y :: .long x :: rest) := fun H locs ls hP hD hS hl => W.lcmp C.x C.b hd (k H locs ls hP hD hS hl)
theorem g_dup (C : CX p s m args meth c G A cc nL own Ts) {va : Value} (hd : decode cc pc = .ok (.dup, 1)) (hva : va.category = 1)
    (k : GG p l e R s m args below meth c G A nL cells slots Q WS lv (pc + 1) (va :: va :: rest)) : GG p l e R s m args below meth c G A nL cells slots Q WS lv pc (va :: rest) := fun H locs ls hP hD hS hl => lv_dup C.x C.b hd hva (k H locs ls hP hD hS hl)
theorem g_dup_x1 (C : CX p s m args meth c G A cc nL own Ts) {va vb : Value} (hd : decode cc pc = .ok (.dup_x1, 1)) (hva : va.category = 1) (hvb : vb.category = 1)
    (k : GG p l e R s m args below meth c G A nL cells slots Q WS lv (pc + 1) (va :: vb :: va :: rest)) : GG p l e R s m args below meth c G A nL cells slots Q WS lv pc (va :: vb :: rest) := fun H locs ls hP hD hS hl => lv_dup_x1 C.x C.b hd hva hvb (k H locs ls hP hD hS hl)
theorem g_dup2 (C : CX p s m args meth c G A cc nL own Ts) {va vb : Value} (hd : decode cc pc = .ok (.dup2, 1)) (hva : va.category = 1) (hvb : vb.category = 1)
    (k : GG p l e R s m args below meth c G A nL cells slots Q WS lv (pc + 1) (va :: vb :: va :: vb :: rest)) : GG p l e R s m args below meth c G A nL cells slots Q WS lv pc (va :: vb :: rest) := fun H locs ls hP hD hS hl => lv_dup2_11 C.x C.b hd hva hvb (k H locs ls hP hD hS hl)
theorem g_if_eq (C : CX p s m args meth c G A cc nL own Ts) {x : Int32} {off : Int} {tgt : Nat} (hd : decode cc pc = .ok (.ifCond .eq off, 3)) (ht : (pc : Int) + off = (tgt : Int))
    (kt : x = 0 → GG p l e R s m args below meth c G A nL cells slots Q WS lv tgt rest) (kf : ¬ x = 0 → GG p l e R s m args below meth c G A nL cells slots Q WS lv (pc + 3) rest) : GG p l e R s m args below meth c G A nL cells slots Q WS lv pc (.int x :: rest) := fun H locs ls hP hD hS hl => lv_if_eq C.x C.b hd ht (fun h => kt h H locs ls hP hD hS hl) (fun h => kf h H locs ls hP hD hS hl)
theorem g_if_ne (C : CX p s m args meth c G A cc nL own Ts) {x : Int32} {off : Int} {tgt : Nat} (hd : decode cc pc = .ok (.ifCond .ne off, 3)) (ht : (pc : Int) + off = (tgt : Int))
    (kt : ¬ x = 0 → GG p l e R s m args below meth c G A nL cells slots Q WS lv tgt rest) (kf : x = 0 → GG p l e R s m args below meth c G A nL cells slots Q WS lv (pc + 3) rest) : GG p l e R s m args below meth c G A nL cells slots Q WS lv pc (.int x :: rest) := fun H locs ls hP hD hS hl => lv_if_ne C.x C.b hd ht (fun h => kt h H locs ls hP hD hS hl) (fun h => kf h H locs ls hP hD hS hl)
theorem g_if_lt (C : CX p s m args meth c G A cc nL own Ts) {x : Int32} {off : Int} {tgt : Nat} (hd : decode cc pc = .ok (.ifCond .lt off, 3)) (ht : (pc : Int) + off = (tgt : Int))
    (kt : x < 0 → GG p l e R s m args below meth c G A nL cells slots Q WS lv tgt rest) (kf : ¬ x < 0 → GG p l e R s m args below meth c G A nL cells slots Q WS lv (pc + 3) rest) : GG p l e R s m args below meth c G A nL cells slots Q WS lv pc (.int x :: rest) := fun H locs ls hP hD hS hl => lv_if_lt C.x C.b hd ht (fun h => kt h H locs ls hP hD hS hl) (fun h => kf h H locs ls hP hD hS hl)
theorem g_if_ge (C : CX p s m args meth c G A cc nL own Ts) {x : Int32} {off : Int} {tgt : Nat} (hd : decode cc pc = .ok (.ifCond .ge off, 3)) (ht : (pc : Int) + off = (tgt : Int))
    (kt : 0 ≤ x → GG p l e R s m args below meth c G A nL cells slots Q WS lv tgt rest) (kf : ¬ 0 ≤ x → GG p l e R s m args below meth c G A nL cells slots Q WS lv (pc + 3) rest) : GG p l e R s m args below meth c G A nL cells slots Q WS lv pc (.int x :: rest) := fun H locs ls hP hD hS hl => lv_if_ge C.x C.b hd ht (fun h => kt h H locs ls hP hD hS hl) (fun h => kf h H locs ls hP hD hS hl)
theorem g_if_gt (C : CX p s m args meth c G A cc nL own Ts) {x : Int32} {off : Int} {tgt : Nat} (hd : decode cc pc = .ok (.ifCond .gt off, 3)) (ht : (pc : Int) + off = (tgt : Int))
    (kt : 0 < x → GG p l e R s m args below meth c G A nL cells slots Q WS lv tgt rest) (kf : ¬ 0 < x → GG p l e R s m args below meth c G A nL cells slots Q WS lv (pc + 3) rest) : GG p l e R s m args below meth c G A nL cells slots Q WS lv pc (.int x :: rest) := fun H locs ls hP hD hS hl => lv_if_gt C.x C.b hd ht (fun h => kt h H locs ls hP hD hS hl) (fun h => kf h H locs ls hP hD hS hl)
theorem g_if_le (C : CX p s m args meth c G A cc nL own Ts) {x : Int32} {off : Int} {tgt : Nat} (hd : decode cc pc = .ok (.ifCond .le off, 3)) (ht : (pc : Int) + off = (tgt : Int))
    (kt : x ≤ 0 → GG p l e R s m args below meth c G A nL cells slots Q WS lv tgt rest) (kf : ¬ x ≤ 0 → GG p l e R s m args below meth c G A nL cells slots Q WS lv (pc + 3) rest) : GG p l e R s m args below meth c G A nL cells slots Q WS lv pc (.int x :: rest) := fun H locs ls hP hD hS hl => lv_if_le C.x C.b hd ht (fun h => kt h H locs ls hP hD hS hl) (fun h => kf h H locs ls hP hD hS hl)
theorem g_icmp_eq (C : CX p s m args meth c G A cc nL own Ts) {x y : Int32} {off : Int} {tgt : Nat} (hd : decode cc pc = .ok (.if_icmp .eq off, 3)) (ht : (pc : Int) + off = (tgt : Int))
    (kt : x = y → GG p l e R s m args below meth c G A nL cells slots Q WS lv tgt rest) (kf : ¬ x = y → GG p l e R s m args below meth c G A nL cells slots Q WS lv (pc + 3) rest) : GG p l e R s m args below meth c G A nL cells slots Q WS lv pc (.int y :: .int x :: rest) := fun H locs ls hP hD hS hl => lv_icmp_eq C.x C.b hd ht (fun h => kt h H locs ls hP hD hS hl) (fun h => kf h H locs ls hP hD hS hl)
theorem g_icmp_ne (C : CX p s m args meth c G A cc nL own Ts) {x y : Int32} {off : Int} {tgt : Nat} (hd : decode cc pc = .ok (.if_icmp .ne off, 3)) (ht : (pc : Int) + off = (tgt : Int))
    (kt : ¬ x = y → GG p l e R s m args below meth c G A nL cells slots Q WS lv tgt rest) (kf : x = y → GG p l e R s m args below meth c G A nL cells slots Q WS lv (pc + 3) rest) : GG p l e R s m args below meth c G A nL cells slots Q WS lv pc (.int y :: .int x :: rest) := fun H locs ls hP hD hS hl => lv_icmp_ne C.x C.b hd ht (fun h => kt h H locs ls hP hD hS hl) (fun h => kf h H locs ls hP hD hS hl)
theorem g_icmp_lt (C : CX p s m args meth c G A cc nL own Ts) {x y : Int32} {off : Int} {tgt : Nat} (hd : decode cc pc = .ok (.if_icmp .lt off, 3)) (ht : (pc : Int) + off = (tgt : Int))
    (kt : x < y → GG p l e R s m args below meth c G A nL cells slots Q WS lv tgt rest) (kf : ¬ x < y → GG p l e R s m args below meth c G A nL cells slots Q WS lv (pc + 3) rest) : GG p l e R s m args below meth c G A nL cells slots Q WS lv pc (.int y :: .int x :: rest) := fun H locs ls hP hD hS hl => lv_icmp_lt C.x C.b hd ht (fun h => kt h H locs ls hP hD hS hl) (fun h => kf h H locs ls hP hD hS hl)
theorem g_icmp_ge (C : CX p s m args meth c G A cc nL own Ts) {x y : Int32} {off : Int} {tgt : Nat} (hd : decode cc pc = .ok (.if_icmp .ge off, 3)) (ht : (pc : Int) + off = (tgt : Int))
    (kt : y ≤ x → GG p l e R s m args below meth c G A nL cells slots Q WS lv tgt rest) (kf : ¬ y ≤ x → GG p l e R s m args below meth c G A nL cells slots Q WS lv (pc + 3) rest) : GG p l e R s m args below meth c G A nL cells slots Q WS lv pc (.int y :: .int x :: rest) := fun H locs ls hP hD hS hl => lv_icmp_ge C.x C.b hd ht (fun h => kt h H locs ls hP hD hS hl) (fun h => kf h H locs ls hP hD hS hl)
theorem g_icmp_gt (C : CX p s m args meth c G A cc nL own Ts) {x y : Int32} {off : Int} {tgt : Nat} (hd : decode cc pc = .ok (.if_icmp .gt off, 3)) (ht : (pc : Int) + off = (tgt : Int))
    (kt : y < x → GG p l e R s m args below meth c G A nL cells slots Q WS lv tgt rest) (kf : ¬ y < x → GG p l e R s m args below meth c G A nL cells slots Q WS lv (pc + 3) rest) : GG p l e R s m args below meth c G A nL cells slots Q WS lv pc (.int y :: .int x :: rest) := fun H locs ls hP hD hS hl => lv_icmp_gt C.x C.b hd ht (fun h => kt h H locs ls hP hD hS hl) (fun h => kf h H locs ls hP hD hS hl)
theorem g_icmp_le (C : CX p s m args meth c G A cc nL own Ts) {x y : Int32} {off : Int} {tgt : Nat} (hd : decode cc pc = .ok (.if_icmp .le off, 3)) (ht : (pc : Int) + off = (tgt : Int))
    (kt : x ≤ y → GG p l e R s m args below meth c G A nL cells slots Q WS lv tgt rest) (kf : ¬ x ≤ y → GG p l e R s m args below meth c G A nL cells slots Q WS lv (pc + 3) rest) : GG p l e R s m args below meth c G A nL cells slots Q WS lv pc (.int y :: .int x :: rest) := fun H locs ls hP hD hS hl => lv_icmp_le C.x C.b hd ht (fun h => kt h H locs ls hP hD hS hl) (fun h => kf h H locs ls hP hD hS hl)
theorem g_goto (C : CX p s m args meth c G A cc nL own Ts) {off : Int} {tgt : Nat} (hd : decode cc pc = .ok (.goto off, 3)) (ht : (pc : Int) + off = (tgt : Int))
    (k : GG p l e R s m args below meth c G A nL cells slots Q WS lv tgt rest) : GG p l e R s m args below meth c G A nL cells slots Q WS lv pc rest := fun H locs ls hP hD hS hl => lv_goto C.x C.b hd ht (k H locs ls hP hD hS hl)
theorem g_ifnull (C : CX p s m args meth c G A cc nL own Ts) {x : Nat} {off : Int} (hd : decode cc pc = .ok (.ifnull off, 3))
    (k : GG p l e R s m args below meth c G A nL cells slots Q WS lv (pc + 3) rest) : GG p l e R s m args below meth c G A nL cells slots Q WS lv pc (.ref x :: rest) := fun H locs ls hP hD hS hl => lv_ifnull C.x C.b hd (k H locs ls hP hD hS hl)
theorem g_lookup (C : CX p s m args meth c G A cc nL own Ts) {dflt : Int} {ps : Array (Int × Int)} {len : Nat} {x : Int32} {off : Int} {tgt : Nat} (hd : decode cc pc = .ok (.lookupswitch dflt ps, len)) (hp : (ps.toList.zip (ps.toList.drop 1)).all (fun (a, next) => a.1 < next.1) = true) (ho : Op.lookupswitch.offset ps.toList dflt x.toInt = off) (ht : (pc : Int) + off = (tgt : Int))
    (k : GG p l e R s m args below meth c G A nL cells slots Q WS lv tgt rest) : GG p l e R s m args below meth c G A nL cells slots Q WS lv pc (.int x :: rest) := fun H locs ls hP hD hS hl => lv_lookup C.x C.b hd hp ho ht (k H locs ls hP hD hS hl)
theorem g_tableOut (C : CX p s m args meth c G A cc nL own Ts) {dflt lo hi : Int} {offs : Array Int} {len : Nat} {x : Int32} {tgt : Nat} (hd : decode cc pc = .ok (.tableswitch dflt lo hi offs, len)) (h : x.toInt < lo ∨ hi < x.toInt) (ht : (pc : Int) + dflt = (tgt : Int))
    (k : GG p l e R s m args below meth c G A nL cells slots Q WS lv tgt rest) : GG p l e R s m args below meth c G A nL cells slots Q WS lv pc (.int x :: rest) := fun H locs ls hP hD hS hl => lv_tableOut C.x C.b hd h ht (k H locs ls hP hD hS hl)
theorem g_tableIn (C : CX p s m args meth c G A cc nL own Ts) {dflt lo hi : Int} {offs : Array Int} {len : Nat} {x : Int32} {off : Int} {tgt : Nat} (hd : decode cc pc = .ok (.tableswitch dflt lo hi offs, len)) (h1 : ¬ x.toInt < lo) (h2 : ¬ hi < x.toInt) (ho : offs[(x.toInt - lo).toNat]? = some off) (ht : (pc : Int) + off = (tgt : Int))
    (k : GG p l e R s m args below meth c G A nL cells slots Q WS lv tgt rest) : GG p l e R s m args below meth c G A nL cells slots Q WS lv pc (.int x :: rest) := fun H locs ls hP hD hS hl => lv_tableIn C.x C.b hd h1 h2 ho ht (k H locs ls hP hD hS hl)
theorem g_get (C : CX p s m args meth c G A cc nL own Ts) {C0 : String} {T : u_T} {N ci idx : Nat} {a : Nat} (hin : ∀ w ∈ u_ws C0 T N, w ∈ Ts) (q0 : Nat) {fs : List Value} (he : WS[q0]? = some (a, .inr (ci, fs))) (hc : vwCl[ci]? = some (C0, T, N)) (k : Nat) (hk : k < N) (hlink : Cond.fieldLink own idx (T k).1 (T k).2.1 (T k).2.2.1 ∈ Ts) {v : Value} (hv : fs[k]? = some v) (hd : decode cc pc = .ok (.getfield idx, 3))
    (kk : GG p l e R s m args below meth c G A nL cells slots Q WS lv (pc + 3) (v :: rest)) : GG p l e R s m args below meth c G A nL cells slots Q WS lv pc (.ref a :: rest) := fun H locs ls hP hD hS hl => va_get C.x C.b C.t hin C.o C.K hP q0 he hc k hk (C.t _ hlink) (fun _ h => h) hv hd (kk H locs ls hP hD hS hl)
theorem g_getN (C : CX p s m args meth c G A cc nL own Ts) {C0 : String} {T : u_T} {N ci idx : Nat} {a : Nat} {host : String} (hin : ∀ w ∈ u_ws C0 T N, w ∈ Ts) (q0 : Nat) {fs : List Value} (he : WS[q0]? = some (a, .inr (ci, fs))) (hc : vwCl[ci]? = some (C0, T, N)) (k : Nat) (hk : k < N) (hlink : Cond.fieldLinkNest own idx (T k).1 (T k).2.1 (T k).2.2.1 host ∈ gNest) {v : Value} (hv : fs[k]? = some v) (hd : decode cc pc = .ok (.getfield idx, 3))
    (kk : GG p l e R s m args below meth c G A nL cells slots Q WS lv (pc + 3) (v :: rest)) : GG p l e R s m args below meth c G A nL cells slots Q WS lv pc (.ref a :: rest) := fun H locs ls hP hD hS hl => va_getN C.x C.b C.t hin C.o C.K hP q0 he hc k hk (C.N hlink) (fun _ h => h) hv hd (kk H locs ls hP hD hS hl)
theorem g_put (C : CX p s m args meth c G A cc nL own Ts) {C0 : String} {T : u_T} {N ci idx : Nat} {a : Nat} {WS' : va_W} (hin : ∀ w ∈ u_ws C0 T N, w ∈ Ts) (ty0 : Nat → FieldType) (hty : ∀ k, k < N → parseFieldDescriptor (T k).2.2.1 = some (ty0 k)) (hnm : ∀ a, a < N → ∀ b, b < N → a ≠ b → (T a).2.1 ≠ (T b).2.1) (q0 : Nat) {fs : List Value} (he : WS[q0]? = some (a, .inr (ci, fs))) (hc : vwCl[ci]? = some (C0, T, N)) (k : Nat) (hk : k < N) (hlink : Cond.fieldLink own idx (T k).1 (T k).2.1 (T k).2.2.1 ∈ Ts) (hfin : (T k).2.2.2 = false) {ty : FieldType} {v : Value} (hd2 : parseFieldDescriptor (T k).2.2.1 = some ty) (hn : narrow ty v = v) (hfit : fits ty v = true) (hl2 : k < fs.length) (hd : decode cc pc = .ok (.putfield idx, 3)) (hw : WS.set q0 (a, .inr (ci, fs.set k v)) = WS')
    (kk : GG p l e R s m args below meth c G A nL cells slots Q WS' lv (pc + 3) rest) : GG p l e R s m args below meth c G A nL cells slots Q WS lv pc (v :: .ref a :: rest) := fun H locs ls hP hD hS hl => va_put C.x C.b C.t hin ty0 hty hnm C.o C.K hP hD hS q0 he hc k hk (C.t _ hlink) (fun _ h => h) hfin hd2 hn hfit hl2 hd (fun H1 locs1 hP1 hD1 hS1 => kk H1 locs1 ls (hw ▸ hP1) (hw ▸ hD1) hS1 hl)
theorem g_iald (C : CX p s m args meth c G A cc nL own Ts) {a : Nat} (q0 : Nat) {n j : Nat} {f : Nat → Int32} {v : Int32} (ha : WS[q0]? = some (a, aI G n f)) {i : Int32} (hin : inb i n = true) (hj : i.toNatClampNeg = j) (hv : f j = v) (hd : decode cc pc = .ok (.iaload, 1))
    (k : GG p l e R s m args below meth c G A nL cells slots Q WS lv (pc + 1) (.int v :: rest)) : GG p l e R s m args below meth c G A nL cells slots Q WS lv pc (.int i :: .ref a :: rest) := fun H locs ls hP hD hS hl => va_iald C.x C.b C.K hP q0 0 ha rfl (inb_in hin) hd (by rw [hj, hv]; exact k H locs ls hP hD hS hl)
theorem g_zald (C : CX p s m args meth c G A cc nL own Ts) {a : Nat} (q0 : Nat) {n j : Nat} {f : Nat → Int32} {v : Int32} (ha : WS[q0]? = some (a, aZ G n f)) {i : Int32} (hin : inb i n = true) (hj : i.toNatClampNeg = j) (hv : f j = v) (hd : decode cc pc = .ok (.baload, 1))
    (k : GG p l e R s m args below meth c G A nL cells slots Q WS lv (pc + 1) (.int v :: rest)) : GG p l e R s m args below meth c G A nL cells slots Q WS lv pc (.int i :: .ref a :: rest) := fun H locs ls hP hD hS hl => va_zald C.x C.b C.K hP q0 1 ha rfl (inb_in hin) hd (by rw [hj, hv]; exact k H locs ls hP hD hS hl)
theorem g_lald (C : CX p s m args meth c G A cc nL own Ts) {a : Nat} (q0 : Nat) {n j : Nat} {f : Nat → Int64} {v : Int64} (ha : WS[q0]? = some (a, aJ G n f)) {i : Int32} (hin : inb i n = true) (hj : i.toNatClampNeg = j) (hv : f j = v) (hd : decode cc pc = .ok (.laload, 1))
    (k : GG p l e R s m args below meth c G A nL cells slots Q WS lv (pc + 1) (.long v :: rest)) : GG p l e R s m args below meth c G A nL cells slots Q WS lv pc (.int i :: .ref a :: rest) := fun H locs ls hP hD hS hl => va_lald C.x C.b C.K hP q0 2 ha rfl (inb_in hin) hd (by rw [hj, hv]; exact k H locs ls hP hD hS hl)
theorem g_iast (C : CX p s m args meth c G A cc nL own Ts) {a : Nat} {WS' : va_W} (q0 : Nat) {n j : Nat} {f : Nat → Int32} (ha : WS[q0]? = some (a, aI G n f)) {i : Int32} {x : Int32} (hin : inb i n = true) (hj : i.toNatClampNeg = j) (hd : decode cc pc = .ok (.iastore, 1)) (hw : WS.set q0 (a, aI G n (upd f j x)) = WS')
    (kk : GG p l e R s m args below meth c G A nL cells slots Q WS' lv (pc + 1) rest) : GG p l e R s m args below meth c G A nL cells slots Q WS lv pc (.int x :: .int i :: .ref a :: rest) := fun H locs ls hP hD hS hl => va_iast C.x C.b C.K hP hD hS q0 0 ha rfl (inb_in hin) hd (fun H1 locs1 hP1 hD1 hS1 => kk H1 locs1 ls (by rw [hj, hw] at hP1; exact hP1) (by rw [hj, hw] at hD1; exact hD1) hS1 hl)
theorem g_zast (C : CX p s m args meth c G A cc nL own Ts) {a : Nat} {WS' : va_W} (q0 : Nat) {n j : Nat} {f : Nat → Int32} (ha : WS[q0]? = some (a, aZ G n f)) {i : Int32} {x : Int32} (hin : inb i n = true) (hj : i.toNatClampNeg = j) (hb : isb x = true) (hd : decode cc pc = .ok (.bastore, 1)) (hw : WS.set q0 (a, aZ G n (upd f j x)) = WS')
    (kk : GG p l e R s m args below meth c G A nL cells slots Q WS' lv (pc + 1) rest) : GG p l e R s m args below meth c G A nL cells slots Q WS lv pc (.int x :: .int i :: .ref a :: rest) := fun H locs ls hP hD hS hl => va_zast C.x C.b C.K hP hD hS q0 1 ha rfl (inb_in hin) hd (fun H1 locs1 hP1 hD1 hS1 => kk H1 locs1 ls (by rw [isb_v hb, hj, hw] at hP1; exact hP1) (by rw [isb_v hb, hj, hw] at hD1; exact hD1) hS1 hl)
theorem g_last (C : CX p s m args meth c G A cc nL own Ts) {a : Nat} {WS' : va_W} (q0 : Nat) {n j : Nat} {f : Nat → Int64} (ha : WS[q0]? = some (a, aJ G n f)) {i : Int32} {x : Int64} (hin : inb i n = true) (hj : i.toNatClampNeg = j) (hd : decode cc pc = .ok (.lastore, 1)) (hw : WS.set q0 (a, aJ G n (vp_updL f j x)) = WS')
    (kk : GG p l e R s m args below meth c G A nL cells slots Q WS' lv (pc + 1) rest) : GG p l e R s m args below meth c G A nL cells slots Q WS lv pc (.long x :: .int i :: .ref a :: rest) := fun H locs ls hP hD hS hl => va_last C.x C.b C.K hP hD hS q0 2 ha rfl (inb_in hin) hd (fun H1 locs1 hP1 hD1 hS1 => kk H1 locs1 ls (by rw [hj, hw] at hP1; exact hP1) (by rw [hj, hw] at hD1; exact hD1) hS1 hl)
theorem g_aldq (C : CX p s m args meth c G A cc nL own Ts) {a : Nat} (q0 : Nat) {n j b : Nat} {f : Nat → Option Nat} (ha : WS[q0]? = some (a, aP G n f)) {i : Int32} (hin : inb i n = true) (hj : i.toNatClampNeg = j) (hv : f j = some b) (hd : decode cc pc = .ok (.aaload, 1))
    (k : GG p l e R s m args below meth c G A nL cells slots Q WS lv (pc + 1) (.ref b :: rest)) : GG p l e R s m args below meth c G A nL cells slots Q WS lv pc (.int i :: .ref a :: rest) := fun H locs ls hP hD hS hl => va_aldq C.x C.b C.K hP q0 3 (C := "SecretSteps$Program") ha rfl (inb_in hin) hd (by rw [hj, hv]; exact k H locs ls hP hD hS hl)
theorem g_mmax (C : CX p s m args meth c G A cc nL own Ts) {x y : Int32} {idx : Nat} (h1 : Cond.methodLink own idx Lib.Math.max.name ∈ Ts) (h2 : Cond.static Lib.Math.max.name ∈ Ts) (h3 : Cond.initialized "java/lang/Math" ∈ Ts) (h4 : Cond.code Lib.Math.max.name Lib.Math.max.code 2 (some .int) ∈ Ts) (hfr : 1 ≤ R.frames) (hlo : (rest.map fun v => v.category).sum + 13 ≤ R.locals) (hc : cells ≤ R.cells) (hs : slots ≤ R.slots) (hd : decode cc pc = .ok (.invokestatic idx, 3))
    (k : GG p l e R s m args below meth c G A nL cells slots Q WS lv (pc + 3) (.int (if x < y then y else x) :: rest)) : GG p l e R s m args below meth c G A nL cells slots Q WS lv pc (.int y :: .int x :: rest) := fun H locs ls hP hD hS hl => va_mmax C.x C.b (C.ml.trans hl.1.symm) C.o (C.t _ h1) (C.t _ h2) (C.t _ h3) (C.t _ h4) hfr hlo hc hs hd (k H locs ls hP hD hS hl)
theorem g_mmin (C : CX p s m args meth c G A cc nL own Ts) {x y : Int32} {idx : Nat} (h1 : Cond.methodLink own idx Lib.Math.min.name ∈ Ts) (h2 : Cond.static Lib.Math.min.name ∈ Ts) (h3 : Cond.initialized "java/lang/Math" ∈ Ts) (h4 : Cond.code Lib.Math.min.name Lib.Math.min.code 2 (some .int) ∈ Ts) (hfr : 1 ≤ R.frames) (hlo : (rest.map fun v => v.category).sum + 13 ≤ R.locals) (hc : cells ≤ R.cells) (hs : slots ≤ R.slots) (hd : decode cc pc = .ok (.invokestatic idx, 3))
    (k : GG p l e R s m args below meth c G A nL cells slots Q WS lv (pc + 3) (.int (if y < x then y else x) :: rest)) : GG p l e R s m args below meth c G A nL cells slots Q WS lv pc (.int y :: .int x :: rest) := fun H locs ls hP hD hS hl => va_mmin C.x C.b (C.ml.trans hl.1.symm) C.o (C.t _ h1) (C.t _ h2) (C.t _ h3) (C.t _ h4) hfr hlo hc hs hd (k H locs ls hP hD hS hl)
theorem g_copyi (C : CX p s m args meth c G A cc nL own Ts) {a a0 : Nat} {WS' : va_W} {idx : Nat} (h1 : Cond.methodLink own idx arraycopyName ∈ Ts) (h2 : Cond.native arraycopyName ∈ Ts) (h3 : Cond.static arraycopyName ∈ Ts) (h4 : Cond.initialized "java/lang/System" ∈ Ts) (q0 q1 : Nat) {n0 n1 jn js jd : Nat} {f g : Nat → Int32} (ha0 : WS[q0]? = some (a0, aI G n0 f)) (ha1 : WS[q1]? = some (a, aI G n1 g)) {sp dp n : Int32} (k1 : ¬ sp < 0) (k2 : ¬ dp < 0) (k3 : ¬ n < 0) (hjs : sp.toNatClampNeg = js) (hjd : dp.toNatClampNeg = jd) (hjn : n.toNatClampNeg = jn) (k4 : js + jn ≤ n0) (k5 : jd + jn ≤ n1) (hfr : 1 ≤ R.frames) (hlo : (rest.map fun v => v.category).sum + (nativeFrameWords "java/lang/System" "arraycopy" 5 + 11) ≤ R.locals) (hd : decode cc pc = .ok (.invokestatic idx, 3)) (hw : WS.set q1 (a, aI G n1 (va_cpy f g js jd jn)) = WS')
    (kk : GG p l e R s m args below meth c G A nL cells slots Q WS' lv (pc + 3) rest) : GG p l e R s m args below meth c G A nL cells slots Q WS lv pc (.int n :: .int dp :: .ref a :: .int sp :: .ref a0 :: rest) := by
  subst hjs; subst hjd; subst hjn
  exact fun H locs ls hP hD hS hl => va_copyi C.x C.b (C.ml.trans hl.1.symm) C.o (C.t _ h1) (C.t _ h2) (C.t _ h3) (C.t _ h4) C.K hP hD hS q0 q1 0 0 ha0 ha1 rfl rfl rfl k1 k2 k3 k4 k5 (fun _ _ => rfl) hfr hlo hd (fun H1 locs1 hP1 hD1 hS1 => kk H1 locs1 ls (hw ▸ hP1) (hw ▸ hD1) hS1 hl)
theorem fm_of_map {α β : Type} {f : α → Option β} : ∀ {is : List α} {w : List β}, is.map f = w.map some → is.filterMap f = w
  | [], [], _ => rfl
  | [], _ :: _, h => by cases h
  | _ :: _, [], h => by cases h
  | i :: is, b :: w, h => by
    have h1 : f i = some b := (List.cons.inj h).1
    have h2 : is.map f = w.map some := (List.cons.inj h).2
    rw [List.filterMap_cons, h1, fm_of_map h2]
theorem g_lv {lv' : List (Nat × Value)} (ks : List Nat) (h : lv_pick lv ks = lv') (k : GG p l e R s m args below meth c G A nL cells slots Q WS lv' pc rest) : GG p l e R s m args below meth c G A nL cells slots Q WS lv pc rest := fun H locs ls hP hD hS hl => k H locs ls hP hD hS (lv_sub hl ks h)
theorem g_callVi (C : CX p s m args meth c G A cc nL own Ts) {y : MethodName} {ws ws' : List Cond} {rm : Room} {bytes : ByteArray} {maxL idx n : Nat} {ret : Option FieldType} {As st : List Value} {wc wr w1 WS' : va_W} {Cn : String} {b ci : Nat} {q : vw_C} {fs : List Value} {r : Int32} (hM : MI l y ws rm G (.ref b :: As) wc r w1) (hG : GoodIn Ts (wsV own idx Cn y ws)) (hd2 : y.cls = Cn ∧ y.cls ≠ "java/lang/invoke/MethodHandle" ∧ y.cls ≠ "java/lang/invoke/VarHandle" ∧ (parseMethodDescriptor y.desc).map (fun d => d.parameters.length) = some n) (he : wc[0]? = some (b, .inr (ci, fs))) (hc : vwCl[ci]? = some q) (hq : q.1 = Cn) (hw : ws = Cond.code y bytes maxL ret :: ws') (hrc : rm.cells = 0) (hrs : rm.slots = 0) (hR : rm.frames + 1 ≤ R.frames ∧ 8 + (maxL + 11) + rm.locals ≤ R.locals) (hlen : As.length = n) (isC isR isP : List Nat) (hC : isC.map (fun i => WS[i]?) = wc.map some) (hnC : va_nd isC = true) (hRr : isR.map (fun i => WS[i]?) = wr.map some) (hnR : va_nd isR = true) (hdis : ∀ i ∈ isR, i ∉ isC) (hPm : isP.map (fun i => (wr ++ w1)[i]?) = WS'.map some) (hnP : va_nd isP = true) (hrest : (rest.map fun v => v.category).sum ≤ 8) (hcs : cells ≤ R.cells ∧ slots ≤ R.slots) (hst : st = As.reverse ++ .ref b :: rest) (hd : decode cc pc = .ok (.invokevirtual idx, 3))
    (k : GG p l e R s m args below meth c G A nL cells slots Q WS' lv (pc + 3) (.int r :: rest)) : GG p l e R s m args below meth c G A nL cells slots Q WS lv pc st := by
  intro H locs ls hP hD hS hl
  have hPc := hP.sub isC (fm_of_map hC)
  have hDc := hD.sub isC hnC hC
  have hFc := va_free hD hS C.Af isC hC
  refine va_calli (va_runV (C := Cn) (As := As) (rest := rest) C.1 (hM H.size) (cwV n C.t hG hw hrc hrs hd2 hR) ⟨mPre_blind, hq ▸ va_recv C.K hPc hc he, fun U hU hW => ⟨rfl, by rw [hU], by rw [hU]; exact hPc, C.2.1.warm hW, hDc.weaken (fun _ _ _ _ => trivial)⟩⟩ rfl hlen hl.1 hst (lv_room hrest) hd ⟨hcs.1, hcs.2⟩) hS (fun q _ h => hFc q h) hFc (fun r2 u t H1 locs1 ht hvm hpost hB hz1 hk1 hS1 => ?_)
  subst hpost
  obtain ⟨hP1, hD1⟩ := hB
  rw [ht] at hP1
  obtain ⟨hP2, hD2⟩ := va_join (wr := wr) hP hD isC isR hC hRr hnR hdis hk1 hFc hP1 hD1
  exact k H1 locs1 ls (hP2.sub isP (fm_of_map hPm)) (hD2.sub isP hnP hPm) hS1 hl
theorem g_callVl (C : CX p s m args meth c G A cc nL own Ts) {y : MethodName} {ws ws' : List Cond} {rm : Room} {bytes : ByteArray} {maxL idx n : Nat} {ret : Option FieldType} {As st : List Value} {wc wr w1 WS' : va_W} {Cn : String} {b ci : Nat} {q : vw_C} {fs : List Value} {r : Int64} (hM : ML l y ws rm G (.ref b :: As) wc r w1) (hG : GoodIn Ts (wsV own idx Cn y ws)) (hd2 : y.cls = Cn ∧ y.cls ≠ "java/lang/invoke/MethodHandle" ∧ y.cls ≠ "java/lang/invoke/VarHandle" ∧ (parseMethodDescriptor y.desc).map (fun d => d.parameters.length) = some n) (he : wc[0]? = some (b, .inr (ci, fs))) (hc : vwCl[ci]? = some q) (hq : q.1 = Cn) (hw : ws = Cond.code y bytes maxL ret :: ws') (hrc : rm.cells = 0) (hrs : rm.slots = 0) (hR : rm.frames + 1 ≤ R.frames ∧ 8 + (maxL + 11) + rm.locals ≤ R.locals) (hlen : As.length = n) (isC isR isP : List Nat) (hC : isC.map (fun i => WS[i]?) = wc.map some) (hnC : va_nd isC = true) (hRr : isR.map (fun i => WS[i]?) = wr.map some) (hnR : va_nd isR = true) (hdis : ∀ i ∈ isR, i ∉ isC) (hPm : isP.map (fun i => (wr ++ w1)[i]?) = WS'.map some) (hnP : va_nd isP = true) (hrest : (rest.map fun v => v.category).sum ≤ 8) (hcs : cells ≤ R.cells ∧ slots ≤ R.slots) (hst : st = As.reverse ++ .ref b :: rest) (hd : decode cc pc = .ok (.invokevirtual idx, 3))
    (k : GG p l e R s m args below meth c G A nL cells slots Q WS' lv (pc + 3) (.long r :: rest)) : GG p l e R s m args below meth c G A nL cells slots Q WS lv pc st := by
  intro H locs ls hP hD hS hl
  have hPc := hP.sub isC (fm_of_map hC)
  have hDc := hD.sub isC hnC hC
  have hFc := va_free hD hS C.Af isC hC
  refine va_calll (va_runV (C := Cn) (As := As) (rest := rest) C.1 (hM H.size) (cwV n C.t hG hw hrc hrs hd2 hR) ⟨mPre_blind, hq ▸ va_recv C.K hPc hc he, fun U hU hW => ⟨rfl, by rw [hU], by rw [hU]; exact hPc, C.2.1.warm hW, hDc.weaken (fun _ _ _ _ => trivial)⟩⟩ rfl hlen hl.1 hst (lv_room hrest) hd ⟨hcs.1, hcs.2⟩) hS (fun q _ h => hFc q h) hFc (fun r2 u t H1 locs1 ht hvm hpost hB hz1 hk1 hS1 => ?_)
  subst hpost
  obtain ⟨hP1, hD1⟩ := hB
  rw [ht] at hP1
  obtain ⟨hP2, hD2⟩ := va_join (wr := wr) hP hD isC isR hC hRr hnR hdis hk1 hFc hP1 hD1
  exact k H1 locs1 ls (hP2.sub isP (fm_of_map hPm)) (hD2.sub isP hnP hPm) hS1 hl
theorem g_callVv (C : CX p s m args meth c G A cc nL own Ts) {y : MethodName} {ws ws' : List Cond} {rm : Room} {bytes : ByteArray} {maxL idx n : Nat} {ret : Option FieldType} {As st : List Value} {wc wr w1 WS' : va_W} {Cn : String} {b ci : Nat} {q : vw_C} {fs : List Value} (hM : MV l y ws rm G (.ref b :: As) wc w1) (hG : GoodIn Ts (wsV own idx Cn y ws)) (hd2 : y.cls = Cn ∧ y.cls ≠ "java/lang/invoke/MethodHandle" ∧ y.cls ≠ "java/lang/invoke/VarHandle" ∧ (parseMethodDescriptor y.desc).map (fun d => d.parameters.length) = some n) (he : wc[0]? = some (b, .inr (ci, fs))) (hc : vwCl[ci]? = some q) (hq : q.1 = Cn) (hw : ws = Cond.code y bytes maxL ret :: ws') (hrc : rm.cells = 0) (hrs : rm.slots = 0) (hR : rm.frames + 1 ≤ R.frames ∧ 8 + (maxL + 11) + rm.locals ≤ R.locals) (hlen : As.length = n) (isC isR isP : List Nat) (hC : isC.map (fun i => WS[i]?) = wc.map some) (hnC : va_nd isC = true) (hRr : isR.map (fun i => WS[i]?) = wr.map some) (hnR : va_nd isR = true) (hdis : ∀ i ∈ isR, i ∉ isC) (hPm : isP.map (fun i => (wr ++ w1)[i]?) = WS'.map some) (hnP : va_nd isP = true) (hrest : (rest.map fun v => v.category).sum ≤ 8) (hcs : cells ≤ R.cells ∧ slots ≤ R.slots) (hst : st = As.reverse ++ .ref b :: rest) (hd : decode cc pc = .ok (.invokevirtual idx, 3))
    (k : GG p l e R s m args below meth c G A nL cells slots Q WS' lv (pc + 3) rest) : GG p l e R s m args below meth c G A nL cells slots Q WS lv pc st := by
  intro H locs ls hP hD hS hl
  have hPc := hP.sub isC (fm_of_map hC)
  have hDc := hD.sub isC hnC hC
  have hFc := va_free hD hS C.Af isC hC
  refine va_callv (va_runV (C := Cn) (As := As) (rest := rest) C.1 (hM H.size) (cwV n C.t hG hw hrc hrs hd2 hR) ⟨mPre_blind, hq ▸ va_recv C.K hPc hc he, fun U hU hW => ⟨rfl, by rw [hU], by rw [hU]; exact hPc, C.2.1.warm hW, hDc.weaken (fun _ _ _ _ => trivial)⟩⟩ rfl hlen hl.1 hst (lv_room hrest) hd ⟨hcs.1, hcs.2⟩) hS (fun q _ h => hFc q h) hFc (fun u t H1 locs1 ht hvm hpost hB hz1 hk1 hS1 => ?_)
  obtain ⟨hP1, hD1⟩ := hB
  rw [ht] at hP1
  obtain ⟨hP2, hD2⟩ := va_join (wr := wr) hP hD isC isR hC hRr hnR hdis hk1 hFc hP1 hD1
  exact k H1 locs1 ls (hP2.sub isP (fm_of_map hPm)) (hD2.sub isP hnP hPm) hS1 hl
theorem g_callVr (C : CX p s m args meth c G A cc nL own Ts) {y : MethodName} {ws ws' : List Cond} {rm : Room} {bytes : ByteArray} {maxL idx n : Nat} {ret : Option FieldType} {As st : List Value} {wc wr w1 WS' : va_W} {Cn : String} {b ci : Nat} {q : vw_C} {fs : List Value} {r : Nat} (hM : MR l y ws rm G (.ref b :: As) wc r w1) (hG : GoodIn Ts (wsV own idx Cn y ws)) (hd2 : y.cls = Cn ∧ y.cls ≠ "java/lang/invoke/MethodHandle" ∧ y.cls ≠ "java/lang/invoke/VarHandle" ∧ (parseMethodDescriptor y.desc).map (fun d => d.parameters.length) = some n) (he : wc[0]? = some (b, .inr (ci, fs))) (hc : vwCl[ci]? = some q) (hq : q.1 = Cn) (hw : ws = Cond.code y bytes maxL ret :: ws') (hrc : rm.cells = 0) (hrs : rm.slots = 0) (hR : rm.frames + 1 ≤ R.frames ∧ 8 + (maxL + 11) + rm.locals ≤ R.locals) (hlen : As.length = n) (isC isR isP : List Nat) (hC : isC.map (fun i => WS[i]?) = wc.map some) (hnC : va_nd isC = true) (hRr : isR.map (fun i => WS[i]?) = wr.map some) (hnR : va_nd isR = true) (hdis : ∀ i ∈ isR, i ∉ isC) (hPm : isP.map (fun i => (wr ++ w1)[i]?) = WS'.map some) (hnP : va_nd isP = true) (hrest : (rest.map fun v => v.category).sum ≤ 8) (hcs : cells ≤ R.cells ∧ slots ≤ R.slots) (hst : st = As.reverse ++ .ref b :: rest) (hd : decode cc pc = .ok (.invokevirtual idx, 3))
    (k : GG p l e R s m args below meth c G A nL cells slots Q WS' lv (pc + 3) (.ref r :: rest)) : GG p l e R s m args below meth c G A nL cells slots Q WS lv pc st := by
  intro H locs ls hP hD hS hl
  have hPc := hP.sub isC (fm_of_map hC)
  have hDc := hD.sub isC hnC hC
  have hFc := va_free hD hS C.Af isC hC
  refine va_callr (va_runV (C := Cn) (As := As) (rest := rest) C.1 (hM H.size) (cwV n C.t hG hw hrc hrs hd2 hR) ⟨mPre_blind, hq ▸ va_recv C.K hPc hc he, fun U hU hW => ⟨rfl, by rw [hU], by rw [hU]; exact hPc, C.2.1.warm hW, hDc.weaken (fun _ _ _ _ => trivial)⟩⟩ rfl hlen hl.1 hst (lv_room hrest) hd ⟨hcs.1, hcs.2⟩) hS (fun q _ h => hFc q h) hFc (fun u r2 t H1 locs1 ht hvm hpost hB hz1 hk1 hS1 => ?_)
  obtain ⟨rfl, hP1, hD1⟩ := hB
  rw [ht] at hP1
  obtain ⟨hP2, hD2⟩ := va_join (wr := wr) hP hD isC isR hC hRr hnR hdis hk1 hFc hP1 hD1
  exact k H1 locs1 ls (hP2.sub isP (fm_of_map hPm)) (hD2.sub isP hnP hPm) hS1 hl
theorem g_callSi (C : CX p s m args meth c G A cc nL own Ts) {y : MethodName} {ws ws' : List Cond} {rm : Room} {bytes : ByteArray} {maxL idx n : Nat} {ret : Option FieldType} {As st : List Value} {wc wr w1 WS' : va_W} {r : Int32} (hM : MI l y ws rm G As wc r w1) (hG : GoodIn Ts (va_wsS own idx y ws)) (hd2 : y.cls ≠ "java/lang/invoke/MethodHandle" ∧ y.cls ≠ "java/lang/invoke/VarHandle" ∧ (parseMethodDescriptor y.desc).map (fun d => d.parameters.length) = some n) (hw : ws = Cond.code y bytes maxL ret :: ws') (hrc : rm.cells = 0) (hrs : rm.slots = 0) (hR : rm.frames + 1 ≤ R.frames ∧ 8 + (maxL + 11) + rm.locals ≤ R.locals) (hlen : As.length = n) (isC isR isP : List Nat) (hC : isC.map (fun i => WS[i]?) = wc.map some) (hnC : va_nd isC = true) (hRr : isR.map (fun i => WS[i]?) = wr.map some) (hnR : va_nd isR = true) (hdis : ∀ i ∈ isR, i ∉ isC) (hPm : isP.map (fun i => (wr ++ w1)[i]?) = WS'.map some) (hnP : va_nd isP = true) (hrest : (rest.map fun v => v.category).sum ≤ 8) (hcs : cells ≤ R.cells ∧ slots ≤ R.slots) (hst : st = As.reverse ++ rest) (hd : decode cc pc = .ok (.invokestatic idx, 3))
    (k : GG p l e R s m args below meth c G A nL cells slots Q WS' lv (pc + 3) (.int r :: rest)) : GG p l e R s m args below meth c G A nL cells slots Q WS lv pc st := by
  intro H locs ls hP hD hS hl
  have hPc := hP.sub isC (fm_of_map hC)
  have hDc := hD.sub isC hnC hC
  have hFc := va_free hD hS C.Af isC hC
  refine va_calli (va_runS (As := As) (rest := rest) C.1 (hM H.size) (va_cwS n C.t hG hw hrc hrs hd2 hR) ⟨mPre_blind, fun U hU hW => ⟨rfl, by rw [hU], by rw [hU]; exact hPc, C.2.1.warm hW, hDc.weaken (fun _ _ _ _ => trivial)⟩⟩ rfl hlen hl.1 hst (lv_room hrest) hd ⟨hcs.1, hcs.2⟩) hS (fun q _ h => hFc q h) hFc (fun r2 u t H1 locs1 ht hvm hpost hB hz1 hk1 hS1 => ?_)
  subst hpost
  obtain ⟨hP1, hD1⟩ := hB
  rw [ht] at hP1
  obtain ⟨hP2, hD2⟩ := va_join (wr := wr) hP hD isC isR hC hRr hnR hdis hk1 hFc hP1 hD1
  exact k H1 locs1 ls (hP2.sub isP (fm_of_map hPm)) (hD2.sub isP hnP hPm) hS1 hl
theorem g_callSl (C : CX p s m args meth c G A cc nL own Ts) {y : MethodName} {ws ws' : List Cond} {rm : Room} {bytes : ByteArray} {maxL idx n : Nat} {ret : Option FieldType} {As st : List Value} {wc wr w1 WS' : va_W} {r : Int64} (hM : ML l y ws rm G As wc r w1) (hG : GoodIn Ts (va_wsS own idx y ws)) (hd2 : y.cls ≠ "java/lang/invoke/MethodHandle" ∧ y.cls ≠ "java/lang/invoke/VarHandle" ∧ (parseMethodDescriptor y.desc).map (fun d => d.parameters.length) = some n) (hw : ws = Cond.code y bytes maxL ret :: ws') (hrc : rm.cells = 0) (hrs : rm.slots = 0) (hR : rm.frames + 1 ≤ R.frames ∧ 8 + (maxL + 11) + rm.locals ≤ R.locals) (hlen : As.length = n) (isC isR isP : List Nat) (hC : isC.map (fun i => WS[i]?) = wc.map some) (hnC : va_nd isC = true) (hRr : isR.map (fun i => WS[i]?) = wr.map some) (hnR : va_nd isR = true) (hdis : ∀ i ∈ isR, i ∉ isC) (hPm : isP.map (fun i => (wr ++ w1)[i]?) = WS'.map some) (hnP : va_nd isP = true) (hrest : (rest.map fun v => v.category).sum ≤ 8) (hcs : cells ≤ R.cells ∧ slots ≤ R.slots) (hst : st = As.reverse ++ rest) (hd : decode cc pc = .ok (.invokestatic idx, 3))
    (k : GG p l e R s m args below meth c G A nL cells slots Q WS' lv (pc + 3) (.long r :: rest)) : GG p l e R s m args below meth c G A nL cells slots Q WS lv pc st := by
  intro H locs ls hP hD hS hl
  have hPc := hP.sub isC (fm_of_map hC)
  have hDc := hD.sub isC hnC hC
  have hFc := va_free hD hS C.Af isC hC
  refine va_calll (va_runS (As := As) (rest := rest) C.1 (hM H.size) (va_cwS n C.t hG hw hrc hrs hd2 hR) ⟨mPre_blind, fun U hU hW => ⟨rfl, by rw [hU], by rw [hU]; exact hPc, C.2.1.warm hW, hDc.weaken (fun _ _ _ _ => trivial)⟩⟩ rfl hlen hl.1 hst (lv_room hrest) hd ⟨hcs.1, hcs.2⟩) hS (fun q _ h => hFc q h) hFc (fun r2 u t H1 locs1 ht hvm hpost hB hz1 hk1 hS1 => ?_)
  subst hpost
  obtain ⟨hP1, hD1⟩ := hB
  rw [ht] at hP1
  obtain ⟨hP2, hD2⟩ := va_join (wr := wr) hP hD isC isR hC hRr hnR hdis hk1 hFc hP1 hD1
  exact k H1 locs1 ls (hP2.sub isP (fm_of_map hPm)) (hD2.sub isP hnP hPm) hS1 hl
theorem g_callSv (C : CX p s m args meth c G A cc nL own Ts) {y : MethodName} {ws ws' : List Cond} {rm : Room} {bytes : ByteArray} {maxL idx n : Nat} {ret : Option FieldType} {As st : List Value} {wc wr w1 WS' : va_W} (hM : MV l y ws rm G As wc w1) (hG : GoodIn Ts (va_wsS own idx y ws)) (hd2 : y.cls ≠ "java/lang/invoke/MethodHandle" ∧ y.cls ≠ "java/lang/invoke/VarHandle" ∧ (parseMethodDescriptor y.desc).map (fun d => d.parameters.length) = some n) (hw : ws = Cond.code y bytes maxL ret :: ws') (hrc : rm.cells = 0) (hrs : rm.slots = 0) (hR : rm.frames + 1 ≤ R.frames ∧ 8 + (maxL + 11) + rm.locals ≤ R.locals) (hlen : As.length = n) (isC isR isP : List Nat) (hC : isC.map (fun i => WS[i]?) = wc.map some) (hnC : va_nd isC = true) (hRr : isR.map (fun i => WS[i]?) = wr.map some) (hnR : va_nd isR = true) (hdis : ∀ i ∈ isR, i ∉ isC) (hPm : isP.map (fun i => (wr ++ w1)[i]?) = WS'.map some) (hnP : va_nd isP = true) (hrest : (rest.map fun v => v.category).sum ≤ 8) (hcs : cells ≤ R.cells ∧ slots ≤ R.slots) (hst : st = As.reverse ++ rest) (hd : decode cc pc = .ok (.invokestatic idx, 3))
    (k : GG p l e R s m args below meth c G A nL cells slots Q WS' lv (pc + 3) rest) : GG p l e R s m args below meth c G A nL cells slots Q WS lv pc st := by
  intro H locs ls hP hD hS hl
  have hPc := hP.sub isC (fm_of_map hC)
  have hDc := hD.sub isC hnC hC
  have hFc := va_free hD hS C.Af isC hC
  refine va_callv (va_runS (As := As) (rest := rest) C.1 (hM H.size) (va_cwS n C.t hG hw hrc hrs hd2 hR) ⟨mPre_blind, fun U hU hW => ⟨rfl, by rw [hU], by rw [hU]; exact hPc, C.2.1.warm hW, hDc.weaken (fun _ _ _ _ => trivial)⟩⟩ rfl hlen hl.1 hst (lv_room hrest) hd ⟨hcs.1, hcs.2⟩) hS (fun q _ h => hFc q h) hFc (fun u t H1 locs1 ht hvm hpost hB hz1 hk1 hS1 => ?_)
  obtain ⟨hP1, hD1⟩ := hB
  rw [ht] at hP1
  obtain ⟨hP2, hD2⟩ := va_join (wr := wr) hP hD isC isR hC hRr hnR hdis hk1 hFc hP1 hD1
  exact k H1 locs1 ls (hP2.sub isP (fm_of_map hPm)) (hD2.sub isP hnP hPm) hS1 hl
theorem g_callSr (C : CX p s m args meth c G A cc nL own Ts) {y : MethodName} {ws ws' : List Cond} {rm : Room} {bytes : ByteArray} {maxL idx n : Nat} {ret : Option FieldType} {As st : List Value} {wc wr w1 WS' : va_W} {r : Nat} (hM : MR l y ws rm G As wc r w1) (hG : GoodIn Ts (va_wsS own idx y ws)) (hd2 : y.cls ≠ "java/lang/invoke/MethodHandle" ∧ y.cls ≠ "java/lang/invoke/VarHandle" ∧ (parseMethodDescriptor y.desc).map (fun d => d.parameters.length) = some n) (hw : ws = Cond.code y bytes maxL ret :: ws') (hrc : rm.cells = 0) (hrs : rm.slots = 0) (hR : rm.frames + 1 ≤ R.frames ∧ 8 + (maxL + 11) + rm.locals ≤ R.locals) (hlen : As.length = n) (isC isR isP : List Nat) (hC : isC.map (fun i => WS[i]?) = wc.map some) (hnC : va_nd isC = true) (hRr : isR.map (fun i => WS[i]?) = wr.map some) (hnR : va_nd isR = true) (hdis : ∀ i ∈ isR, i ∉ isC) (hPm : isP.map (fun i => (wr ++ w1)[i]?) = WS'.map some) (hnP : va_nd isP = true) (hrest : (rest.map fun v => v.category).sum ≤ 8) (hcs : cells ≤ R.cells ∧ slots ≤ R.slots) (hst : st = As.reverse ++ rest) (hd : decode cc pc = .ok (.invokestatic idx, 3))
    (k : GG p l e R s m args below meth c G A nL cells slots Q WS' lv (pc + 3) (.ref r :: rest)) : GG p l e R s m args below meth c G A nL cells slots Q WS lv pc st := by
  intro H locs ls hP hD hS hl
  have hPc := hP.sub isC (fm_of_map hC)
  have hDc := hD.sub isC hnC hC
  have hFc := va_free hD hS C.Af isC hC
  refine va_callr (va_runS (As := As) (rest := rest) C.1 (hM H.size) (va_cwS n C.t hG hw hrc hrs hd2 hR) ⟨mPre_blind, fun U hU hW => ⟨rfl, by rw [hU], by rw [hU]; exact hPc, C.2.1.warm hW, hDc.weaken (fun _ _ _ _ => trivial)⟩⟩ rfl hlen hl.1 hst (lv_room hrest) hd ⟨hcs.1, hcs.2⟩) hS (fun q _ h => hFc q h) hFc (fun u r2 t H1 locs1 ht hvm hpost hB hz1 hk1 hS1 => ?_)
  obtain ⟨rfl, hP1, hD1⟩ := hB
  rw [ht] at hP1
  obtain ⟨hP2, hD2⟩ := va_join (wr := wr) hP hD isC isR hC hRr hnR hdis hk1 hFc hP1 hD1
  exact k H1 locs1 ls (hP2.sub isP (fm_of_map hPm)) (hD2.sub isP hnP hPm) hS1 hl
theorem g_callSNi (C : CX p s m args meth c G A cc nL own Ts) {y : MethodName} {ws ws' : List Cond} {rm : Room} {bytes : ByteArray} {maxL idx n : Nat} {ret : Option FieldType} {As st : List Value} {wc wr w1 WS' : va_W} {host : String} {r : Int32} (hM : MI l y ws rm G As wc r w1) (hG : GoodIn Ts ws) (hnl : Cond.methodLinkNest own idx y host ∈ gNest) (hini : Cond.initialized y.cls ∈ Ts) (hstt : Cond.static y ∈ Ts) (hd2 : y.cls ≠ "java/lang/invoke/MethodHandle" ∧ y.cls ≠ "java/lang/invoke/VarHandle" ∧ (parseMethodDescriptor y.desc).map (fun d => d.parameters.length) = some n) (hw : ws = Cond.code y bytes maxL ret :: ws') (hrc : rm.cells = 0) (hrs : rm.slots = 0) (hR : rm.frames + 1 ≤ R.frames ∧ 8 + (maxL + 11) + rm.locals ≤ R.locals) (hlen : As.length = n) (isC isR isP : List Nat) (hC : isC.map (fun i => WS[i]?) = wc.map some) (hnC : va_nd isC = true) (hRr : isR.map (fun i => WS[i]?) = wr.map some) (hnR : va_nd isR = true) (hdis : ∀ i ∈ isR, i ∉ isC) (hPm : isP.map (fun i => (wr ++ w1)[i]?) = WS'.map some) (hnP : va_nd isP = true) (hrest : (rest.map fun v => v.category).sum ≤ 8) (hcs : cells ≤ R.cells ∧ slots ≤ R.slots) (hst : st = As.reverse ++ rest) (hd : decode cc pc = .ok (.invokestatic idx, 3))
    (k : GG p l e R s m args below meth c G A nL cells slots Q WS' lv (pc + 3) (.int r :: rest)) : GG p l e R s m args below meth c G A nL cells slots Q WS lv pc st := by
  intro H locs ls hP hD hS hl
  have hPc := hP.sub isC (fm_of_map hC)
  have hDc := hD.sub isC hnC hC
  have hFc := va_free hD hS C.Af isC hC
  refine va_calli (va_runSN (As := As) (rest := rest) C.1 (hM H.size) ⟨va_cnB n C.t hG hw hrc hrs (C.Nw hnl) (C.t _ hini) hd2 hR, C.t _ hstt, trivial⟩ ⟨mPre_blind, fun U hU hW => ⟨rfl, by rw [hU], by rw [hU]; exact hPc, C.2.1.warm hW, hDc.weaken (fun _ _ _ _ => trivial)⟩⟩ rfl hlen hl.1 hst (lv_room hrest) hd ⟨hcs.1, hcs.2⟩) hS (fun q _ h => hFc q h) hFc (fun r2 u t H1 locs1 ht hvm hpost hB hz1 hk1 hS1 => ?_)
  subst hpost
  obtain ⟨hP1, hD1⟩ := hB
  rw [ht] at hP1
  obtain ⟨hP2, hD2⟩ := va_join (wr := wr) hP hD isC isR hC hRr hnR hdis hk1 hFc hP1 hD1
  exact k H1 locs1 ls (hP2.sub isP (fm_of_map hPm)) (hD2.sub isP hnP hPm) hS1 hl
theorem g_callSNl (C : CX p s m args meth c G A cc nL own Ts) {y : MethodName} {ws ws' : List Cond} {rm : Room} {bytes : ByteArray} {maxL idx n : Nat} {ret : Option FieldType} {As st : List Value} {wc wr w1 WS' : va_W} {host : String} {r : Int64} (hM : ML l y ws rm G As wc r w1) (hG : GoodIn Ts ws) (hnl : Cond.methodLinkNest own idx y host ∈ gNest) (hini : Cond.initialized y.cls ∈ Ts) (hstt : Cond.static y ∈ Ts) (hd2 : y.cls ≠ "java/lang/invoke/MethodHandle" ∧ y.cls ≠ "java/lang/invoke/VarHandle" ∧ (parseMethodDescriptor y.desc).map (fun d => d.parameters.length) = some n) (hw : ws = Cond.code y bytes maxL ret :: ws') (hrc : rm.cells = 0) (hrs : rm.slots = 0) (hR : rm.frames + 1 ≤ R.frames ∧ 8 + (maxL + 11) + rm.locals ≤ R.locals) (hlen : As.length = n) (isC isR isP : List Nat) (hC : isC.map (fun i => WS[i]?) = wc.map some) (hnC : va_nd isC = true) (hRr : isR.map (fun i => WS[i]?) = wr.map some) (hnR : va_nd isR = true) (hdis : ∀ i ∈ isR, i ∉ isC) (hPm : isP.map (fun i => (wr ++ w1)[i]?) = WS'.map some) (hnP : va_nd isP = true) (hrest : (rest.map fun v => v.category).sum ≤ 8) (hcs : cells ≤ R.cells ∧ slots ≤ R.slots) (hst : st = As.reverse ++ rest) (hd : decode cc pc = .ok (.invokestatic idx, 3))
    (k : GG p l e R s m args below meth c G A nL cells slots Q WS' lv (pc + 3) (.long r :: rest)) : GG p l e R s m args below meth c G A nL cells slots Q WS lv pc st := by
  intro H locs ls hP hD hS hl
  have hPc := hP.sub isC (fm_of_map hC)
  have hDc := hD.sub isC hnC hC
  have hFc := va_free hD hS C.Af isC hC
  refine va_calll (va_runSN (As := As) (rest := rest) C.1 (hM H.size) ⟨va_cnB n C.t hG hw hrc hrs (C.Nw hnl) (C.t _ hini) hd2 hR, C.t _ hstt, trivial⟩ ⟨mPre_blind, fun U hU hW => ⟨rfl, by rw [hU], by rw [hU]; exact hPc, C.2.1.warm hW, hDc.weaken (fun _ _ _ _ => trivial)⟩⟩ rfl hlen hl.1 hst (lv_room hrest) hd ⟨hcs.1, hcs.2⟩) hS (fun q _ h => hFc q h) hFc (fun r2 u t H1 locs1 ht hvm hpost hB hz1 hk1 hS1 => ?_)
  subst hpost
  obtain ⟨hP1, hD1⟩ := hB
  rw [ht] at hP1
  obtain ⟨hP2, hD2⟩ := va_join (wr := wr) hP hD isC isR hC hRr hnR hdis hk1 hFc hP1 hD1
  exact k H1 locs1 ls (hP2.sub isP (fm_of_map hPm)) (hD2.sub isP hnP hPm) hS1 hl
theorem g_callSNv (C : CX p s m args meth c G A cc nL own Ts) {y : MethodName} {ws ws' : List Cond} {rm : Room} {bytes : ByteArray} {maxL idx n : Nat} {ret : Option FieldType} {As st : List Value} {wc wr w1 WS' : va_W} {host : String} (hM : MV l y ws rm G As wc w1) (hG : GoodIn Ts ws) (hnl : Cond.methodLinkNest own idx y host ∈ gNest) (hini : Cond.initialized y.cls ∈ Ts) (hstt : Cond.static y ∈ Ts) (hd2 : y.cls ≠ "java/lang/invoke/MethodHandle" ∧ y.cls ≠ "java/lang/invoke/VarHandle" ∧ (parseMethodDescriptor y.desc).map (fun d => d.parameters.length) = some n) (hw : ws = Cond.code y bytes maxL ret :: ws') (hrc : rm.cells = 0) (hrs : rm.slots = 0) (hR : rm.frames + 1 ≤ R.frames ∧ 8 + (maxL + 11) + rm.locals ≤ R.locals) (hlen : As.length = n) (isC isR isP : List Nat) (hC : isC.map (fun i => WS[i]?) = wc.map some) (hnC : va_nd isC = true) (hRr : isR.map (fun i => WS[i]?) = wr.map some) (hnR : va_nd isR = true) (hdis : ∀ i ∈ isR, i ∉ isC) (hPm : isP.map (fun i => (wr ++ w1)[i]?) = WS'.map some) (hnP : va_nd isP = true) (hrest : (rest.map fun v => v.category).sum ≤ 8) (hcs : cells ≤ R.cells ∧ slots ≤ R.slots) (hst : st = As.reverse ++ rest) (hd : decode cc pc = .ok (.invokestatic idx, 3))
    (k : GG p l e R s m args below meth c G A nL cells slots Q WS' lv (pc + 3) rest) : GG p l e R s m args below meth c G A nL cells slots Q WS lv pc st := by
  intro H locs ls hP hD hS hl
  have hPc := hP.sub isC (fm_of_map hC)
  have hDc := hD.sub isC hnC hC
  have hFc := va_free hD hS C.Af isC hC
  refine va_callv (va_runSN (As := As) (rest := rest) C.1 (hM H.size) ⟨va_cnB n C.t hG hw hrc hrs (C.Nw hnl) (C.t _ hini) hd2 hR, C.t _ hstt, trivial⟩ ⟨mPre_blind, fun U hU hW => ⟨rfl, by rw [hU], by rw [hU]; exact hPc, C.2.1.warm hW, hDc.weaken (fun _ _ _ _ => trivial)⟩⟩ rfl hlen hl.1 hst (lv_room hrest) hd ⟨hcs.1, hcs.2⟩) hS (fun q _ h => hFc q h) hFc (fun u t H1 locs1 ht hvm hpost hB hz1 hk1 hS1 => ?_)
  obtain ⟨hP1, hD1⟩ := hB
  rw [ht] at hP1
  obtain ⟨hP2, hD2⟩ := va_join (wr := wr) hP hD isC isR hC hRr hnR hdis hk1 hFc hP1 hD1
  exact k H1 locs1 ls (hP2.sub isP (fm_of_map hPm)) (hD2.sub isP hnP hPm) hS1 hl
theorem g_callSNr (C : CX p s m args meth c G A cc nL own Ts) {y : MethodName} {ws ws' : List Cond} {rm : Room} {bytes : ByteArray} {maxL idx n : Nat} {ret : Option FieldType} {As st : List Value} {wc wr w1 WS' : va_W} {host : String} {r : Nat} (hM : MR l y ws rm G As wc r w1) (hG : GoodIn Ts ws) (hnl : Cond.methodLinkNest own idx y host ∈ gNest) (hini : Cond.initialized y.cls ∈ Ts) (hstt : Cond.static y ∈ Ts) (hd2 : y.cls ≠ "java/lang/invoke/MethodHandle" ∧ y.cls ≠ "java/lang/invoke/VarHandle" ∧ (parseMethodDescriptor y.desc).map (fun d => d.parameters.length) = some n) (hw : ws = Cond.code y bytes maxL ret :: ws') (hrc : rm.cells = 0) (hrs : rm.slots = 0) (hR : rm.frames + 1 ≤ R.frames ∧ 8 + (maxL + 11) + rm.locals ≤ R.locals) (hlen : As.length = n) (isC isR isP : List Nat) (hC : isC.map (fun i => WS[i]?) = wc.map some) (hnC : va_nd isC = true) (hRr : isR.map (fun i => WS[i]?) = wr.map some) (hnR : va_nd isR = true) (hdis : ∀ i ∈ isR, i ∉ isC) (hPm : isP.map (fun i => (wr ++ w1)[i]?) = WS'.map some) (hnP : va_nd isP = true) (hrest : (rest.map fun v => v.category).sum ≤ 8) (hcs : cells ≤ R.cells ∧ slots ≤ R.slots) (hst : st = As.reverse ++ rest) (hd : decode cc pc = .ok (.invokestatic idx, 3))
    (k : GG p l e R s m args below meth c G A nL cells slots Q WS' lv (pc + 3) (.ref r :: rest)) : GG p l e R s m args below meth c G A nL cells slots Q WS lv pc st := by
  intro H locs ls hP hD hS hl
  have hPc := hP.sub isC (fm_of_map hC)
  have hDc := hD.sub isC hnC hC
  have hFc := va_free hD hS C.Af isC hC
  refine va_callr (va_runSN (As := As) (rest := rest) C.1 (hM H.size) ⟨va_cnB n C.t hG hw hrc hrs (C.Nw hnl) (C.t _ hini) hd2 hR, C.t _ hstt, trivial⟩ ⟨mPre_blind, fun U hU hW => ⟨rfl, by rw [hU], by rw [hU]; exact hPc, C.2.1.warm hW, hDc.weaken (fun _ _ _ _ => trivial)⟩⟩ rfl hlen hl.1 hst (lv_room hrest) hd ⟨hcs.1, hcs.2⟩) hS (fun q _ h => hFc q h) hFc (fun u r2 t H1 locs1 ht hvm hpost hB hz1 hk1 hS1 => ?_)
  obtain ⟨rfl, hP1, hD1⟩ := hB
  rw [ht] at hP1
  obtain ⟨hP2, hD2⟩ := va_join (wr := wr) hP hD isC isR hC hRr hnR hdis hk1 hFc hP1 hD1
  exact k H1 locs1 ls (hP2.sub isP (fm_of_map hPm)) (hD2.sub isP hnP hPm) hS1 hl
end GGrows
theorem MI_of {l : Launch} {y : MethodName} {ws ws' : List Cond} {rm : Room} {G : gG} {av : List Value} {WS WS' : va_W} (r : Int32) {cc : ByteArray} {nL : Nat} {lv : List (Nat × Value)} (hy : plainName y.cls = true) (hw : ws = Cond.code y cc nL (some .int) :: ws') (hav : (lg_sl av).length ≤ nL) (hlv : lv_args 0 av = lv)
    (body : ∀ (p : Program) (e : Env) (s : State) (m : MethodId) (args : Array Value) (below : List Frame) (meth : Method) (c : Code) (A : Nat → Prop) (Q : State → Prop), CX p s m args meth c G A cc nL y.cls ws → (∀ (lv : List (Nat × Value)) (pc : Nat), decode cc pc = .ok (.ireturn, 1) → GG p l e rm s m args below meth c G A nL 0 0 Q WS' lv pc [.int r]) → GG p l e rm s m args below meth c G A nL 0 0 Q WS lv 0 []) : MI l y ws rm G av WS r WS' := by
  intro sz
  refine Met.ofW (cc := cc) (maxL := nL) (ret := (some .int)) hy hw ?_
  intro p e s m args below meth c s₁ B hml hv
  obtain ⟨rfl, hsz, hP, hK, hD0⟩ := hv
  subst hsz
  have hD := hD0.self (sz := s.heap.size)
  have hl := lv_entry av (n := nL) hav
  rw [hlv] at hl
  rw [lg_entry_eq]
  refine body p e s m _ below meth c (va_A WS s.heap.size) _ ⟨⟨B.exec, B.bytes, hml, findClass_of_methodNamed B.named, atoms_spec (ws := ws) B.pre⟩, hK, fun q h => Or.inr h, B.notSynchronized⟩ ?_ s.heap [] _ hP hD va_S.rf hl
  intro lv9 pc9 hd9 H9 locs9 ls9 hP9 hD9 hS9 hl9
  have hr := B.returns
  have hlocks := B.notSynchronized
  exact W.iret B.exec B.bytes hr (fun t ht hW => ⟨⟨r, (), rfl, rfl, by rw [ht]; exact hP9, hD9⟩, hS9.F ht⟩) hS9.2.2 hd9
theorem MZ_of {l : Launch} {y : MethodName} {ws ws' : List Cond} {rm : Room} {G : gG} {av : List Value} {WS WS' : va_W} (r : Int32) {cc : ByteArray} {nL : Nat} {lv : List (Nat × Value)} (hy : plainName y.cls = true) (hw : ws = Cond.code y cc nL (some .boolean) :: ws') (hav : (lg_sl av).length ≤ nL) (hlv : lv_args 0 av = lv)
    (body : ∀ (p : Program) (e : Env) (s : State) (m : MethodId) (args : Array Value) (below : List Frame) (meth : Method) (c : Code) (A : Nat → Prop) (Q : State → Prop), CX p s m args meth c G A cc nL y.cls ws → (∀ (lv : List (Nat × Value)) (pc : Nat), decode cc pc = .ok (.ireturn, 1) → isb r = true → GG p l e rm s m args below meth c G A nL 0 0 Q WS' lv pc [.int r]) → GG p l e rm s m args below meth c G A nL 0 0 Q WS lv 0 []) : MI l y ws rm G av WS r WS' := by
  intro sz
  refine Met.ofW (cc := cc) (maxL := nL) (ret := (some .boolean)) hy hw ?_
  intro p e s m args below meth c s₁ B hml hv
  obtain ⟨rfl, hsz, hP, hK, hD0⟩ := hv
  subst hsz
  have hD := hD0.self (sz := s.heap.size)
  have hl := lv_entry av (n := nL) hav
  rw [hlv] at hl
  rw [lg_entry_eq]
  refine body p e s m _ below meth c (va_A WS s.heap.size) _ ⟨⟨B.exec, B.bytes, hml, findClass_of_methodNamed B.named, atoms_spec (ws := ws) B.pre⟩, hK, fun q h => Or.inr h, B.notSynchronized⟩ ?_ s.heap [] _ hP hD va_S.rf hl
  intro lv9 pc9 hd9 hb9 H9 locs9 ls9 hP9 hD9 hS9 hl9
  have hr := B.returns
  have hlocks := B.notSynchronized
  exact W.zret B.exec B.bytes hr (isb_n hb9) (fun t ht hW => ⟨⟨r, (), rfl, rfl, by rw [ht]; exact hP9, hD9⟩, hS9.F ht⟩) hS9.2.2 hd9
theorem ML_of {l : Launch} {y : MethodName} {ws ws' : List Cond} {rm : Room} {G : gG} {av : List Value} {WS WS' : va_W} (r : Int64) {cc : ByteArray} {nL : Nat} {lv : List (Nat × Value)} (hy : plainName y.cls = true) (hw : ws = Cond.code y cc nL (some .long) :: ws') (hav : (lg_sl av).length ≤ nL) (hlv : lv_args 0 av = lv)
    (body : ∀ (p : Program) (e : Env) (s : State) (m : MethodId) (args : Array Value) (below : List Frame) (meth : Method) (c : Code) (A : Nat → Prop) (Q : State → Prop), CX p s m args meth c G A cc nL y.cls ws → (∀ (lv : List (Nat × Value)) (pc : Nat), decode cc pc = .ok (.lreturn, 1) → GG p l e rm s m args below meth c G A nL 0 0 Q WS' lv pc [.long r]) → GG p l e rm s m args below meth c G A nL 0 0 Q WS lv 0 []) : ML l y ws rm G av WS r WS' := by
  intro sz
  refine Met.ofW (cc := cc) (maxL := nL) (ret := (some .long)) hy hw ?_
  intro p e s m args below meth c s₁ B hml hv
  obtain ⟨rfl, hsz, hP, hK, hD0⟩ := hv
  subst hsz
  have hD := hD0.self (sz := s.heap.size)
  have hl := lv_entry av (n := nL) hav
  rw [hlv] at hl
  rw [lg_entry_eq]
  refine body p e s m _ below meth c (va_A WS s.heap.size) _ ⟨⟨B.exec, B.bytes, hml, findClass_of_methodNamed B.named, atoms_spec (ws := ws) B.pre⟩, hK, fun q h => Or.inr h, B.notSynchronized⟩ ?_ s.heap [] _ hP hD va_S.rf hl
  intro lv9 pc9 hd9 H9 locs9 ls9 hP9 hD9 hS9 hl9
  have hr := B.returns
  have hlocks := B.notSynchronized
  exact W.lret B.exec B.bytes hr (fun t ht hW => ⟨⟨r, (), rfl, rfl, by rw [ht]; exact hP9, hD9⟩, hS9.F ht⟩) hS9.2.2 hd9
theorem MV_of {l : Launch} {y : MethodName} {ws ws' : List Cond} {rm : Room} {G : gG} {av : List Value} {WS WS' : va_W} {cc : ByteArray} {nL : Nat} {lv : List (Nat × Value)} (hy : plainName y.cls = true) (hw : ws = Cond.code y cc nL none :: ws') (hav : (lg_sl av).length ≤ nL) (hlv : lv_args 0 av = lv)
    (body : ∀ (p : Program) (e : Env) (s : State) (m : MethodId) (args : Array Value) (below : List Frame) (meth : Method) (c : Code) (A : Nat → Prop) (Q : State → Prop), CX p s m args meth c G A cc nL y.cls ws → (∀ (lv : List (Nat × Value)) (pc : Nat), decode cc pc = .ok (.return_, 1) → GG p l e rm s m args below meth c G A nL 0 0 Q WS' lv pc []) → GG p l e rm s m args below meth c G A nL 0 0 Q WS lv 0 []) : MV l y ws rm G av WS  WS' := by
  intro sz
  refine Met.ofW (cc := cc) (maxL := nL) (ret := none) hy hw ?_
  intro p e s m args below meth c s₁ B hml hv
  obtain ⟨rfl, hsz, hP, hK, hD0⟩ := hv
  subst hsz
  have hD := hD0.self (sz := s.heap.size)
  have hl := lv_entry av (n := nL) hav
  rw [hlv] at hl
  rw [lg_entry_eq]
  refine body p e s m _ below meth c (va_A WS s.heap.size) _ ⟨⟨B.exec, B.bytes, hml, findClass_of_methodNamed B.named, atoms_spec (ws := ws) B.pre⟩, hK, fun q h => Or.inr h, B.notSynchronized⟩ ?_ s.heap [] _ hP hD va_S.rf hl
  intro lv9 pc9 hd9 H9 locs9 ls9 hP9 hD9 hS9 hl9
  have hr := B.returns
  have hlocks := B.notSynchronized
  exact W.vret B.exec B.bytes hr (fun t ht hW => ⟨⟨(), rfl, trivial, by rw [ht]; exact hP9, hD9⟩, hS9.F ht⟩) hS9.2.2 hd9
theorem MR_of {l : Launch} {y : MethodName} {ws ws' : List Cond} {rm : Room} {G : gG} {av : List Value} {WS WS' : va_W} {rn : String} (r : Nat) {cc : ByteArray} {nL : Nat} {lv : List (Nat × Value)} (hy : plainName y.cls = true) (hw : ws = Cond.code y cc nL (some (.object rn)) :: ws') (hav : (lg_sl av).length ≤ nL) (hlv : lv_args 0 av = lv)
    (body : ∀ (p : Program) (e : Env) (s : State) (m : MethodId) (args : Array Value) (below : List Frame) (meth : Method) (c : Code) (A : Nat → Prop) (Q : State → Prop), CX p s m args meth c G A cc nL y.cls ws → (∀ (lv : List (Nat × Value)) (pc : Nat), decode cc pc = .ok (.areturn, 1) → GG p l e rm s m args below meth c G A nL 0 0 Q WS' lv pc [.ref r]) → GG p l e rm s m args below meth c G A nL 0 0 Q WS lv 0 []) : MR l y ws rm G av WS r WS' := by
  intro sz
  refine Met.ofW (cc := cc) (maxL := nL) (ret := (some (.object rn))) hy hw ?_
  intro p e s m args below meth c s₁ B hml hv
  obtain ⟨rfl, hsz, hP, hK, hD0⟩ := hv
  subst hsz
  have hD := hD0.self (sz := s.heap.size)
  have hl := lv_entry av (n := nL) hav
  rw [hlv] at hl
  rw [lg_entry_eq]
  refine body p e s m _ below meth c (va_A WS s.heap.size) _ ⟨⟨B.exec, B.bytes, hml, findClass_of_methodNamed B.named, atoms_spec (ws := ws) B.pre⟩, hK, fun q h => Or.inr h, B.notSynchronized⟩ ?_ s.heap [] _ hP hD va_S.rf hl
  intro lv9 pc9 hd9 H9 locs9 ls9 hP9 hD9 hS9 hl9
  have hr := B.returns
  have hlocks := B.notSynchronized
  exact W.aret B.exec B.bytes hr (Or.inl ⟨rn, rfl⟩) (Or.inr ⟨r, rfl⟩) (fun t ht hW => ⟨⟨(), r, rfl, trivial, rfl, by rw [ht]; exact hP9, hD9⟩, hS9.F ht⟩) hS9.2.2 hd9
