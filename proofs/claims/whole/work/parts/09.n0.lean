/-! rows for constructors: what is new -/
def mPreN (G : gG) (WS : va_W) (sz : Nat) (U : State) : Prop := mPre G WS sz U ∧ va_AO "SecretSteps$Program" U
theorem mPreN_blind {G : gG} {WS : va_W} {sz : Nat} {av : List Value} : FrameBlind (va_Pc av (mPreN G WS sz)) := fun a U g mk q => ⟨q.1, ⟨q.2.1.1, q.2.1.2.1, gK.same (u := U) (U := U.calling g mk a) rfl q.2.1.2.2.1, q.2.1.2.2.2⟩, va_AO.moved (u := U) (U := U.calling g mk a) (Vm.Alike.refl U.vm) q.2.2⟩
def MN (l : Launch) (y : MethodName) (ws : List Cond) (rm : Room) (G : gG) (av : List Value) (WS : va_W) (mc ms : Nat) (W' : (Nat → Nat) → va_W) : Prop :=
  ∀ sz, Met l y ws rm (va_Pc av (mPreN G WS sz)) (va_Qv (fun (_ : Nat → Nat) => True) (fun a t => mPost G (W' a) (va_A WS sz) t) (va_A WS sz)) mc ms (va_A WS sz)
section GGnew
variable {p : Program} {l : Launch} {e : Env} {R : Room} {s : State} {m : MethodId} {args : Array Value} {below : List Frame} {meth : Method} {c : Code} {G : gG} {A : Nat → Prop} {cc : ByteArray} {nL cells slots : Nat} {own : String} {Ts : List Cond} {Q : State → Prop} {WS : va_W} {lv : List (Nat × Value)} {pc : Nat} {rest : List Value}
theorem g_wide {cells' slots' : Nat} (h1 : cells ≤ cells') (h2 : slots ≤ slots') (k : GG p l e R s m args below meth c G A nL cells' slots' Q WS lv pc rest) : GG p l e R s m args below meth c G A nL cells slots Q WS lv pc rest := fun H locs ls hP hD hS hl => W.widen h1 h2 (k H locs ls hP hD hS hl)
theorem g_new (C : CX p s m args meth c G A cc nL own Ts) {C0 : String} {T : u_T} {N ci idx : Nat} (hin : ∀ w ∈ u_ws C0 T N, w ∈ Ts) (ty : Nat → FieldType) (hty : ∀ k, k < N → parseFieldDescriptor (T k).2.2.1 = some (ty k)) (hcl : Cond.classLink own idx C0 ∈ Ts) (hinst : Cond.instantiable C0 N ∈ Ts) (hini : Cond.initialized C0 ∈ Ts) (hc : vwCl[ci]? = some (C0, T, N)) {fs : List Value} (hfs : ∀ j, j < N → defaultValue (ty j) = vp_V fs j) (hcells : cells + 1 ≤ R.cells) (hslots : slots + N ≤ R.slots) (hd : decode cc pc = .ok (.new idx, 3)) {cells' slots' : Nat} (hc' : cells + 1 = cells') (hs' : slots + N = slots')
    (k : ∀ q : Nat, GG p l e R s m args below meth c G A nL cells' slots' Q (WS ++ [(q, oB ci fs)]) lv (pc + 3) (.ref q :: rest)) : GG p l e R s m args below meth c G A nL cells slots Q WS lv pc rest := by
  subst hc'; subst hs'
  exact fun H locs ls hP hD hS hl => va_new C.x C.b C.t hin ty hty C.o (C.t _ hcl) (C.t _ hinst) (C.t _ hini) C.K hP hD hS C.Af hc hfs hcells hslots hd (fun q H1 hP1 hD1 hS1 => k q H1 locs ls hP1 hD1 hS1 hl)
theorem cA_eq (C : CX p s m args meth c G A cc nL own Ts) {cA : ClassId} {j : Nat} {ty : FieldType} (hj : (gTy G)[j]? = some (G.2 j, ty)) (hK : va_K G.1 vwCl (gTy G ++ [(cA, ty)]) s) (hf : ∀ x, va_RA s x ty → s.vm.findClass ("[" ++ ty.toString) = some x) : cA = G.2 j := by
  have h1 := hf _ (hK.2 4 _ rfl).2
  have h2 := hf _ (C.K.2 j _ hj).2
  exact Option.some.inj (h1.symm.trans h2)
theorem g_newi (C : CX p s m args meth c G A cc nL own Ts) (ha : Cond.arrayClass .int ∈ Ts) {n : Int32} (N' : Nat) (hn : ¬ n < 0) (hN : n.toNatClampNeg = N') (hbytes : N' * componentBytes .int ≤ 536870912) (hcells : cells + 1 ≤ R.cells) (hslots : slots + N' ≤ R.slots) (hd : decode cc pc = .ok (.newarray .int, 2)) {cells' slots' : Nat} (hc' : cells + 1 = cells') (hs' : slots + N' = slots')
    (k : ∀ q : Nat, GG p l e R s m args below meth c G A nL cells' slots' Q (WS ++ [(q, aI G N' (fun _ => 0))]) lv (pc + 2) (.ref q :: rest)) : GG p l e R s m args below meth c G A nL cells slots Q WS lv pc (.int n :: rest) := by
  subst hc'; subst hs'
  exact fun H locs ls hP hD hS hl => va_newa (atype := .int) (a0 := (N', .inl (fun _ => 0))) C.x C.b (C.t _ ha) rfl C.K hP hD hS C.Af (fun _ => rfl) hn hN hbytes hcells hslots hd (fun q cA H1 hK1 hP1 hD1 hS1 => by
    have e := cA_eq C (j := 0) (ty := .int) rfl hK1 (fun _ h => h)
    subst e
    exact k q H1 locs ls hP1 hD1 hS1 hl)
theorem g_newz (C : CX p s m args meth c G A cc nL own Ts) (ha : Cond.arrayClass .boolean ∈ Ts) {n : Int32} (N' : Nat) (hn : ¬ n < 0) (hN : n.toNatClampNeg = N') (hbytes : N' * componentBytes .boolean ≤ 536870912) (hcells : cells + 1 ≤ R.cells) (hslots : slots + N' ≤ R.slots) (hd : decode cc pc = .ok (.newarray .boolean, 2)) {cells' slots' : Nat} (hc' : cells + 1 = cells') (hs' : slots + N' = slots')
    (k : ∀ q : Nat, GG p l e R s m args below meth c G A nL cells' slots' Q (WS ++ [(q, aZ G N' (fun _ => 0))]) lv (pc + 2) (.ref q :: rest)) : GG p l e R s m args below meth c G A nL cells slots Q WS lv pc (.int n :: rest) := by
  subst hc'; subst hs'
  exact fun H locs ls hP hD hS hl => va_newa (atype := .boolean) (a0 := (N', .inl (fun _ => 0))) C.x C.b (C.t _ ha) rfl C.K hP hD hS C.Af (fun _ => rfl) hn hN hbytes hcells hslots hd (fun q cA H1 hK1 hP1 hD1 hS1 => by
    have e := cA_eq C (j := 1) (ty := .boolean) rfl hK1 (fun _ h => h)
    subst e
    exact k q H1 locs ls hP1 hD1 hS1 hl)
theorem g_newl (C : CX p s m args meth c G A cc nL own Ts) (ha : Cond.arrayClass .long ∈ Ts) {n : Int32} (N' : Nat) (hn : ¬ n < 0) (hN : n.toNatClampNeg = N') (hbytes : N' * componentBytes .long ≤ 536870912) (hcells : cells + 1 ≤ R.cells) (hslots : slots + N' ≤ R.slots) (hd : decode cc pc = .ok (.newarray .long, 2)) {cells' slots' : Nat} (hc' : cells + 1 = cells') (hs' : slots + N' = slots')
    (k : ∀ q : Nat, GG p l e R s m args below meth c G A nL cells' slots' Q (WS ++ [(q, aJ G N' (fun _ => 0))]) lv (pc + 2) (.ref q :: rest)) : GG p l e R s m args below meth c G A nL cells slots Q WS lv pc (.int n :: rest) := by
  subst hc'; subst hs'
  exact fun H locs ls hP hD hS hl => va_newa (atype := .long) (a0 := (N', .inr (.inl (fun _ => 0)))) C.x C.b (C.t _ ha) rfl C.K hP hD hS C.Af (fun _ => rfl) hn hN hbytes hcells hslots hd (fun q cA H1 hK1 hP1 hD1 hS1 => by
    have e := cA_eq C (j := 2) (ty := .long) rfl hK1 (fun _ h => h)
    subst e
    exact k q H1 locs ls hP1 hD1 hS1 hl)
theorem g_newq (C : CX p s m args meth c G A cc nL own Ts) (hao : va_AO "SecretSteps$Program" s) {idx : Nat} (hcl : Cond.classLink own idx "SecretSteps$Program" ∈ Ts) {n : Int32} (N' : Nat) (hn : ¬ n < 0) (hN : n.toNatClampNeg = N') (hbytes : N' * 4 ≤ 536870912) (hcells : cells + 1 ≤ R.cells) (hslots : slots + N' ≤ R.slots) (hd : decode cc pc = .ok (.anewarray idx, 3)) {cells' slots' : Nat} (hc' : cells + 1 = cells') (hs' : slots + N' = slots')
    (k : ∀ q : Nat, GG p l e R s m args below meth c G A nL cells' slots' Q (WS ++ [(q, aP G N' (fun _ => none))]) lv (pc + 3) (.ref q :: rest)) : GG p l e R s m args below meth c G A nL cells slots Q WS lv pc (.int n :: rest) := by
  subst hc'; subst hs'
  exact fun H locs ls hP hD hS hl => va_newq C.x C.b C.o (C.t _ hcl) hao C.K hP hD hS C.Af hn hN hbytes hcells hslots hd (fun q cA H1 hK1 hP1 hD1 hS1 => by
    have e := cA_eq C (j := 3) (ty := .object "SecretSteps$Program") rfl hK1 (fun _ h => by obtain ⟨_, _, _, _, _, h5⟩ := h; exact h5)
    subst e
    exact k q H1 locs ls hP1 hD1 hS1 hl)
theorem g_astq (C : CX p s m args meth c G A cc nL own Ts) {a v : Nat} {WS' : va_W} (q0 qk : Nat) {n j : Nat} {f : Nat → Option Nat} {vs : List Value} (ha : WS[q0]? = some (a, aP G n f)) (hv : WS[qk]? = some (v, oB 2 vs)) {i : Int32} (hin : inb i n = true) (hj : i.toNatClampNeg = j) (hd : decode cc pc = .ok (.aastore, 1)) (hw : WS.set q0 (a, aP G n (va_up f j (some v))) = WS')
    (kk : GG p l e R s m args below meth c G A nL cells slots Q WS' lv (pc + 1) rest) : GG p l e R s m args below meth c G A nL cells slots Q WS lv pc (.ref v :: .int i :: .ref a :: rest) := by
  subst hj; subst hw
  exact fun H locs ls hP hD hS hl => va_astq C.x C.b C.K hP hD hS q0 3 qk 2 (r := (RX2, TX2, 5)) ha rfl hv rfl (inb_in hin) hd (fun H1 locs1 hP1 hD1 hS1 => kk H1 locs1 ls hP1 hD1 hS1 hl)
theorem g_putF (C : CX p s m args meth c G A cc nL own Ts) (hin2 : meth.name = "<init>") {C0 : String} {T : u_T} {N ci idx : Nat} {a : Nat} {WS' : va_W} (hin : ∀ w ∈ u_ws C0 T N, w ∈ Ts) (ty0 : Nat → FieldType) (hty : ∀ k, k < N → parseFieldDescriptor (T k).2.2.1 = some (ty0 k)) (hnm : ∀ a, a < N → ∀ b, b < N → a ≠ b → (T a).2.1 ≠ (T b).2.1) (q0 : Nat) {fs : List Value} (he : WS[q0]? = some (a, .inr (ci, fs))) (hc : vwCl[ci]? = some (C0, T, N)) (k : Nat) (hk : k < N) (hlink : Cond.fieldLink own idx (T k).1 (T k).2.1 (T k).2.2.1 ∈ Ts) (hfin : (T k).2.2.2 = true) (hdecl : (T k).1 = own) {ty : FieldType} {v : Value} (hd2 : parseFieldDescriptor (T k).2.2.1 = some ty) (hn : narrow ty v = v) (hfit : fits ty v = true) (hl2 : k < fs.length) (hd : decode cc pc = .ok (.putfield idx, 3)) (hw : WS.set q0 (a, .inr (ci, fs.set k v)) = WS')
    (kk : GG p l e R s m args below meth c G A nL cells slots Q WS' lv (pc + 3) rest) : GG p l e R s m args below meth c G A nL cells slots Q WS lv pc (v :: .ref a :: rest) := fun H locs ls hP hD hS hl => va_putF C.x C.b C.t hin ty0 hty hnm C.o C.K hP hD hS q0 he hc k hk (C.t _ hlink) (fun _ h => h) hfin hin2 hdecl hd2 hn hfit hl2 hd (fun H1 locs1 hP1 hD1 hS1 => kk H1 locs1 ls (hw ▸ hP1) (hw ▸ hD1) hS1 hl)
theorem g_oinit (C : CX p s m args meth c G A cc nL own Ts) {idx a : Nat} (h1 : Cond.methodLink own idx Lib.objectInit ∈ Ts) (h2 : Cond.instanceMethod Lib.objectInit ∈ Ts) (h3 : Cond.code Lib.objectInit ⟨#[0xb1]⟩ 1 none ∈ Ts) (hfr : 1 ≤ R.frames) (hlo : (rest.map fun v => v.category).sum + 12 ≤ R.locals) (hd : decode cc pc = .ok (.invokespecial idx, 3))
    (k : GG p l e R s m args below meth c G A nL cells slots Q WS lv (pc + 3) rest) : GG p l e R s m args below meth c G A nL cells slots Q WS lv pc (.ref a :: rest) := fun H locs ls hP hD hS hl => W.objInit C.x C.b C.o (C.t _ h1) (C.t _ h2) (C.t _ h3) rfl (hl.1.trans C.ml.symm) rfl hd hfr (by show 2 * 0 + _ + 12 ≤ _; omega) (W.eq (g2 := F0 m (pc + 3) ls rest) rfl (k H locs ls hP hD hS hl))
theorem g_callI (C : CX p s m args meth c G A cc nL own Ts) (hao : va_AO "SecretSteps$Program" s) {y : MethodName} {ws ws' : List Cond} {rm : Room} {bytes : ByteArray} {maxL idx mc ms : Nat} {wc wr : va_W} {w1 WS' : (Nat → Nat) → va_W} {b : Nat} (hM : MN l y ws rm G [.ref b] wc mc ms w1) (hG : GoodIn Ts ws) (hini : Cond.initialized y.cls ∈ Ts) (hlk : Cond.methodLink own idx y ∈ Ts) (hins : Cond.instanceMethod y ∈ Ts) (hy1 : y.name = "<init>") (hd2 : y.cls ≠ "java/lang/invoke/MethodHandle" ∧ y.cls ≠ "java/lang/invoke/VarHandle" ∧ (parseMethodDescriptor y.desc).map (fun d => d.parameters.length) = some 0) (hw : ws = Cond.code y bytes maxL none :: ws') (hrc : rm.cells = mc) (hrs : rm.slots = ms) (hR : rm.frames + 1 ≤ R.frames ∧ 8 + (maxL + 11) + rm.locals ≤ R.locals) (isC isR isP : List Nat) (hC : isC.map (fun i => WS[i]?) = wc.map some) (hnC : va_nd isC = true) (hRr : isR.map (fun i => WS[i]?) = wr.map some) (hnR : va_nd isR = true) (hdis : ∀ i ∈ isR, i ∉ isC) (hPm : ∀ a, isP.map (fun i => (wr ++ w1 a)[i]?) = (WS' a).map some) (hnP : va_nd isP = true) (hrest : (rest.map fun v => v.category).sum ≤ 8) (hcs : cells + mc ≤ R.cells ∧ slots + ms ≤ R.slots) (hd : decode cc pc = .ok (.invokespecial idx, 3)) {cells' slots' : Nat} (hc' : cells + mc = cells') (hs' : slots + ms = slots')
    (k : ∀ a, GG p l e R s m args below meth c G A nL cells' slots' Q (WS' a) lv (pc + 3) rest) : GG p l e R s m args below meth c G A nL cells slots Q WS lv pc (.ref b :: rest) := by
  subst hc'; subst hs'
  intro H locs ls hP hD hS hl
  have hPc := hP.sub isC (fm_of_map hC)
  have hDc := hD.sub isC hnC hC
  have hFc := va_free hD hS C.Af isC hC
  refine va_callv (va_runI (As := []) (rest := rest) C.1 (hM H.size) (cwI 0 C.t hG hw hrc hrs (C.t _ hini) (C.t _ hlk) (C.t _ hins) hy1 hd2 hR) ⟨mPreN_blind, fun U hU hW => ⟨rfl, ⟨by rw [hU], by rw [hU]; exact hPc, C.2.1.warm hW, hDc.weaken (fun _ _ _ _ => trivial)⟩, va_AO.moved hW.alike hao⟩⟩ rfl rfl hl.1 rfl (lv_room hrest) hd hcs) hS (fun q _ h => hFc q h) hFc (fun u t H1 locs1 ht hvm hpost hB hz1 hk1 hS1 => ?_)
  obtain ⟨hP1, hD1⟩ := hB
  rw [ht] at hP1
  obtain ⟨hP2, hD2⟩ := va_join (wr := wr) hP hD isC isR hC hRr hnR hdis hk1 hFc hP1 hD1
  exact k u H1 locs1 ls (hP2.sub isP (fm_of_map (hPm u))) (hD2.sub isP hnP (hPm u)) hS1 hl
theorem g_callIN (C : CX p s m args meth c G A cc nL own Ts) (hao : va_AO "SecretSteps$Program" s) {y : MethodName} {host : String} {ws ws' : List Cond} {rm : Room} {bytes : ByteArray} {maxL idx mc ms : Nat} {wc wr : va_W} {w1 WS' : (Nat → Nat) → va_W} {b : Nat} (hM : MN l y ws rm G [.ref b] wc mc ms w1) (hG : GoodIn Ts ws) (hini : Cond.initialized y.cls ∈ Ts) (hlk : Cond.methodLinkNest own idx y host ∈ gNest) (hins : Cond.instanceMethod y ∈ Ts) (hy1 : y.name = "<init>") (hd2 : y.cls ≠ "java/lang/invoke/MethodHandle" ∧ y.cls ≠ "java/lang/invoke/VarHandle" ∧ (parseMethodDescriptor y.desc).map (fun d => d.parameters.length) = some 0) (hw : ws = Cond.code y bytes maxL none :: ws') (hrc : rm.cells = mc) (hrs : rm.slots = ms) (hR : rm.frames + 1 ≤ R.frames ∧ 8 + (maxL + 11) + rm.locals ≤ R.locals) (isC isR isP : List Nat) (hC : isC.map (fun i => WS[i]?) = wc.map some) (hnC : va_nd isC = true) (hRr : isR.map (fun i => WS[i]?) = wr.map some) (hnR : va_nd isR = true) (hdis : ∀ i ∈ isR, i ∉ isC) (hPm : ∀ a, isP.map (fun i => (wr ++ w1 a)[i]?) = (WS' a).map some) (hnP : va_nd isP = true) (hrest : (rest.map fun v => v.category).sum ≤ 8) (hcs : cells + mc ≤ R.cells ∧ slots + ms ≤ R.slots) (hd : decode cc pc = .ok (.invokespecial idx, 3)) {cells' slots' : Nat} (hc' : cells + mc = cells') (hs' : slots + ms = slots')
    (k : ∀ a, GG p l e R s m args below meth c G A nL cells' slots' Q (WS' a) lv (pc + 3) rest) : GG p l e R s m args below meth c G A nL cells slots Q WS lv pc (.ref b :: rest) := by
  subst hc'; subst hs'
  intro H locs ls hP hD hS hl
  have hPc := hP.sub isC (fm_of_map hC)
  have hDc := hD.sub isC hnC hC
  have hFc := va_free hD hS C.Af isC hC
  refine va_callv (va_runIN (As := []) (rest := rest) C.1 (hM H.size) ⟨va_cnB 0 C.t hG hw hrc hrs (C.Nw hlk) (C.t _ hini) hd2 hR, hy1, C.t _ hins⟩ ⟨mPreN_blind, fun U hU hW => ⟨rfl, ⟨by rw [hU], by rw [hU]; exact hPc, C.2.1.warm hW, hDc.weaken (fun _ _ _ _ => trivial)⟩, va_AO.moved hW.alike hao⟩⟩ rfl rfl hl.1 rfl (lv_room hrest) hd hcs) hS (fun q _ h => hFc q h) hFc (fun u t H1 locs1 ht hvm hpost hB hz1 hk1 hS1 => ?_)
  obtain ⟨hP1, hD1⟩ := hB
  rw [ht] at hP1
  obtain ⟨hP2, hD2⟩ := va_join (wr := wr) hP hD isC isR hC hRr hnR hdis hk1 hFc hP1 hD1
  exact k u H1 locs1 ls (hP2.sub isP (fm_of_map (hPm u))) (hD2.sub isP hnP (hPm u)) hS1 hl
end GGnew
theorem MN_of {l : Launch} {y : MethodName} {ws ws' : List Cond} {rm : Room} {G : gG} {av : List Value} {WS : va_W} {mc ms : Nat} {W' : (Nat → Nat) → va_W} {cc : ByteArray} {nL : Nat} {lv : List (Nat × Value)} (hy : plainName y.cls = true) (hyn : y.name = "<init>") (hw : ws = Cond.code y cc nL none :: ws') (hav : (lg_sl av).length ≤ nL) (hlv : lv_args 0 av = lv)
    (body : ∀ (p : Program) (e : Env) (s : State) (m : MethodId) (args : Array Value) (below : List Frame) (meth : Method) (c : Code) (A : Nat → Prop) (Q : State → Prop), CX p s m args meth c G A cc nL y.cls ws → meth.name = "<init>" → va_AO "SecretSteps$Program" s → (∀ (a : Nat → Nat) (lv : List (Nat × Value)) (pc : Nat), decode cc pc = .ok (.return_, 1) → GG p l e rm s m args below meth c G A nL mc ms Q (W' a) lv pc []) → GG p l e rm s m args below meth c G A nL 0 0 Q WS lv 0 []) : MN l y ws rm G av WS mc ms W' := by
  intro sz
  refine Met.ofW (cc := cc) (maxL := nL) (ret := none) hy hw ?_
  intro p e s m args below meth c s₁ B hml hv
  obtain ⟨rfl, ⟨hsz, hP, hK, hD0⟩, hao⟩ := hv
  subst hsz
  have hD := hD0.self (sz := s.heap.size)
  have hl := lv_entry av (n := nL) hav
  rw [hlv] at hl
  rw [lg_entry_eq]
  refine body p e s m _ below meth c (va_A WS s.heap.size) _ ⟨⟨B.exec, B.bytes, hml, findClass_of_methodNamed B.named, atoms_spec (ws := ws) B.pre⟩, hK, fun q h => Or.inr h, B.notSynchronized⟩ ((name_of_methodNamed B.named B.method).1.trans hyn) hao ?_ s.heap [] _ hP hD va_S.rf hl
  intro a9 lv9 pc9 hd9 H9 locs9 ls9 hP9 hD9 hS9 hl9
  have hr := B.returns
  have hlocks := B.notSynchronized
  exact W.vret B.exec B.bytes hr (fun t ht hW => ⟨⟨a9, rfl, trivial, by rw [ht]; exact hP9, hD9⟩, hS9.F ht⟩) hS9.2.2 hd9
