/-! a program's four cells as one row of 104 numbers; worlds that hold the same -/
def cEq (e e' : va_E) : Prop := ∀ (D : va_G) (H : Heap) (a : Nat), va_at D vwCl (a, e) H → va_at D vwCl (a, e') H
def wl (WS WS' : va_W) : Prop := WS.map (fun q => q.1) = WS'.map (fun q => q.1) ∧ ∀ (k : Nat) (q q' : Nat × va_E), WS[k]? = some q → WS'[k]? = some q' → cEq q.2 q'.2
theorem cEq_rf {e : va_E} : cEq e e := fun _ _ _ h => h
theorem cEq_of {e e' : va_E} (h : e = e') : cEq e e' := h ▸ cEq_rf
theorem cEq_i {cA : ClassId} {n : Nat} {f g : Nat → Int32} (h : ∀ j, j < n → f j = g j) : cEq (.inl (cA, n, .inl f)) (.inl (cA, n, .inl g)) := by
  intro D H a hh
  have e : vp_cell cA (n, .inl f) = vp_cell cA (n, .inl g) := by
    rw [vp_cell_i, vp_cell_i]
    unfold arrV
    congr 2
    funext j
    show Value.int (f j.val) = Value.int (g j.val)
    rw [h j.val j.isLt]
  show H[a]? = some (vp_cell cA (n, .inl g))
  rw [← e]
  exact hh
theorem wl_nil : wl [] [] := ⟨rfl, fun k q q' h => by simp at h⟩
theorem wl_cons {a : Nat} {e e' : va_E} {r r' : va_W} (h : cEq e e') (t : wl r r') : wl ((a, e) :: r) ((a, e') :: r') := by
  refine ⟨by rw [List.map_cons, List.map_cons, t.1], fun k q q' h1 h2 => ?_⟩
  cases k with
  | zero => cases h1; cases h2; exact h
  | succ k => exact t.2 k q q' (by simpa using h1) (by simpa using h2)
theorem wl_rf : ∀ {w : va_W}, wl w w
  | [] => wl_nil
  | (_, _) :: _ => wl_cons cEq_rf wl_rf
theorem wl_app : ∀ {w w' r r' : va_W}, wl w w' → wl r r' → wl (w ++ r) (w' ++ r')
  | [], [], _, _, _, h => h
  | [], _ :: _, _, _, h, _ => by have := h.1; simp at this
  | _ :: _, [], _, _, h, _ => by have := h.1; simp at this
  | (a, e) :: w, (b, e') :: w', r, r', h, h2 => by
    have ha : a = b := by have := h.1; simp at this; exact this.1
    subst ha
    refine wl_cons (h.2 0 (a, e) (a, e') rfl rfl) (wl_app ⟨by have := h.1; simp at this; simpa using this, fun k q q' h3 h4 => h.2 (k + 1) q q' (by simpa using h3) (by simpa using h4)⟩ h2)
theorem wl_at (k0 : Nat) {WS WS' fo fo' : va_W} (h : wl fo fo') (e1 : WS = WS.take k0 ++ (fo ++ WS.drop (k0 + 4))) (e2 : WS' = WS.take k0 ++ (fo' ++ WS.drop (k0 + 4))) : wl WS WS' := by
  rw [e1, e2]
  exact wl_app wl_rf (wl_app h wl_rf)
theorem wl.P {G : gG} {WS WS' : va_W} {H : Heap} (h : wl WS WS') (hP : va_P G.1 vwCl WS H) : va_P G.1 vwCl WS' H := by
  intro k q' hk
  have h1 : (WS'.map (fun q => q.1))[k]? = some q'.1 := by rw [List.getElem?_map, hk]; rfl
  rw [← h.1, List.getElem?_map] at h1
  cases hq : WS[k]? with
  | none => rw [hq] at h1; cases h1
  | some q =>
    rw [hq] at h1
    have e : q.1 = q'.1 := Option.some.inj h1
    have := h.2 k q q' hq hk G.1 H q.1 (hP k q hq)
    rw [e] at this
    exact this
theorem wl.D {A : Nat → Prop} {WS WS' : va_W} (h : wl WS WS') (hD : va_D A WS) : va_D A WS' := by
  have key : ∀ (k : Nat) (q' : Nat × va_E), WS'[k]? = some q' → ∃ q, WS[k]? = some q ∧ q.1 = q'.1 := by
    intro k q' hk
    have h1 : (WS'.map (fun q => q.1))[k]? = some q'.1 := by rw [List.getElem?_map, hk]; rfl
    rw [← h.1, List.getElem?_map] at h1
    cases hq : WS[k]? with
    | none => rw [hq] at h1; cases h1
    | some q => rw [hq] at h1; exact ⟨q, rfl, Option.some.inj h1⟩
  refine ⟨fun i j x y hi hj e => ?_, fun k q hk => ?_⟩
  · obtain ⟨x0, a1, a2⟩ := key i x hi
    obtain ⟨y0, b1, b2⟩ := key j y hj
    exact hD.1 i j x0 y0 a1 b1 (a2.trans (e.trans b2.symm))
  · obtain ⟨q0, a1, a2⟩ := key k q hk
    rw [← a2]
    exact hD.2 k q0 a1
theorem g_conv {p : Program} {l : Launch} {e : Env} {R : Room} {s : State} {m : MethodId} {args : Array Value} {below : List Frame} {meth : Method} {c : Code} {G : gG} {A : Nat → Prop} {nL cells slots : Nat} {Q : State → Prop} {WS WS' : va_W} {lv : List (Nat × Value)} {pc : Nat} {st : List Value} (h : wl WS WS')
    (k : GG p l e R s m args below meth c G A nL cells slots Q WS' lv pc st) : GG p l e R s m args below meth c G A nL cells slots Q WS lv pc st := fun H locs ls hP hD hS hl => k H locs ls (h.P hP) (h.D hD) hS hl
theorem inb_lt {i : Int32} {n : Nat} (h : inb i n = true) : i.toNatClampNeg < n := Nat.not_le.mp fun q => (inb_in h) (Or.inr q)
theorem isb0 : isb 0 = true := by decide +kernel
theorem isb1 : isb 1 = true := by decide +kernel
abbrev prw (G : gG) (a al ac as : Nat) (N : Nat → Int32) : va_W := [(a, oB 2 [.ref al, .ref ac, .ref as, .int (N 0), .int (N 1)]), (al, aI G 80 (fun j => N (24 + j))), (ac, aI G 16 (fun j => N (8 + j))), (as, aI G 6 (fun j => N (2 + j)))]
theorem pu_ne {N : Nat → Int32} {k j : Nat} {x : Int32} (h : j ≠ k) : upd N k x j = N j := if_neg h
theorem pu_eq {N : Nat → Int32} {k : Nat} {x : Int32} : upd N k x k = x := if_pos rfl
theorem pv_f0 {G : gG} {a al ac as : Nat} {N : Nat → Int32} {x : Int32} : wl [(a, oB 2 [.ref al, .ref ac, .ref as, .int x, .int (N 1)]), (al, aI G 80 (fun j => N (24 + j))), (ac, aI G 16 (fun j => N (8 + j))), (as, aI G 6 (fun j => N (2 + j)))] (prw G a al ac as (upd N 0 x)) := by
  refine wl_cons (cEq_of ?_) (wl_cons (cEq_i fun j _ => ?_) (wl_cons (cEq_i fun j _ => ?_) (wl_cons (cEq_i fun j _ => ?_) wl_nil)))
  · rw [pu_eq, pu_ne (by decide)]
  · rw [pu_ne (by omega)]
  · rw [pu_ne (by omega)]
  · rw [pu_ne (by omega)]
theorem pv_f1 {G : gG} {a al ac as : Nat} {N : Nat → Int32} {x : Int32} : wl [(a, oB 2 [.ref al, .ref ac, .ref as, .int (N 0), .int x]), (al, aI G 80 (fun j => N (24 + j))), (ac, aI G 16 (fun j => N (8 + j))), (as, aI G 6 (fun j => N (2 + j)))] (prw G a al ac as (upd N 1 x)) := by
  refine wl_cons (cEq_of ?_) (wl_cons (cEq_i fun j _ => ?_) (wl_cons (cEq_i fun j _ => ?_) (wl_cons (cEq_i fun j _ => ?_) wl_nil)))
  · rw [pu_eq, pu_ne (by decide)]
  · rw [pu_ne (by omega)]
  · rw [pu_ne (by omega)]
  · rw [pu_ne (by omega)]
theorem pu_view {N : Nat → Int32} {o k j : Nat} {x : Int32} : upd (fun j => N (o + j)) k x j = upd N (o + k) x (o + j) := by
  unfold upd
  by_cases h : j = k
  · rw [if_pos h, if_pos (by omega)]
  · rw [if_neg h, if_neg (by omega)]
theorem pv_a24 {G : gG} {a al ac as : Nat} {N : Nat → Int32} {k : Nat} {x : Int32} (h : k < 80) : wl [(a, oB 2 [.ref al, .ref ac, .ref as, .int (N 0), .int (N 1)]), (al, aI G 80 (upd (fun j => N (24 + j)) k x)), (ac, aI G 16 (fun j => N (8 + j))), (as, aI G 6 (fun j => N (2 + j)))] (prw G a al ac as (upd N (24 + k) x)) := by
  refine wl_cons (cEq_of ?_) (wl_cons (cEq_i fun j _ => ?_) (wl_cons (cEq_i fun j _ => ?_) (wl_cons (cEq_i fun j _ => ?_) wl_nil)))
  · rw [pu_ne (by omega), pu_ne (by omega)]
  · exact pu_view
  · rw [pu_ne (by omega)]
  · rw [pu_ne (by omega)]
theorem pv_a8 {G : gG} {a al ac as : Nat} {N : Nat → Int32} {k : Nat} {x : Int32} (h : k < 16) : wl [(a, oB 2 [.ref al, .ref ac, .ref as, .int (N 0), .int (N 1)]), (al, aI G 80 (fun j => N (24 + j))), (ac, aI G 16 (upd (fun j => N (8 + j)) k x)), (as, aI G 6 (fun j => N (2 + j)))] (prw G a al ac as (upd N (8 + k) x)) := by
  refine wl_cons (cEq_of ?_) (wl_cons (cEq_i fun j _ => ?_) (wl_cons (cEq_i fun j _ => ?_) (wl_cons (cEq_i fun j _ => ?_) wl_nil)))
  · rw [pu_ne (by omega), pu_ne (by omega)]
  · rw [pu_ne (by omega)]
  · exact pu_view
  · rw [pu_ne (by omega)]
theorem pv_a2 {G : gG} {a al ac as : Nat} {N : Nat → Int32} {k : Nat} {x : Int32} (h : k < 6) : wl [(a, oB 2 [.ref al, .ref ac, .ref as, .int (N 0), .int (N 1)]), (al, aI G 80 (fun j => N (24 + j))), (ac, aI G 16 (fun j => N (8 + j))), (as, aI G 6 (upd (fun j => N (2 + j)) k x))] (prw G a al ac as (upd N (2 + k) x)) := by
  refine wl_cons (cEq_of ?_) (wl_cons (cEq_i fun j _ => ?_) (wl_cons (cEq_i fun j _ => ?_) (wl_cons (cEq_i fun j _ => ?_) wl_nil)))
  · rw [pu_ne (by omega), pu_ne (by omega)]
  · rw [pu_ne (by omega)]
  · rw [pu_ne (by omega)]
  · exact pu_view
theorem hn3_52 : Cond.fieldLinkNest RX3 52 "SecretSteps$Program" "lines" "[I" "SecretSteps" ∈ gNest := by decide +kernel
theorem hn3_55 : Cond.fieldLinkNest RX3 55 "SecretSteps$Program" "cells" "[I" "SecretSteps" ∈ gNest := by decide +kernel
theorem hn0_83 : Cond.fieldLinkNest RX0 83 "SecretSteps$Program" "cells" "[I" "SecretSteps" ∈ gNest := by decide +kernel
theorem hn3_49 : Cond.fieldLinkNest RX3 49 "SecretSteps$Program" "starts" "[I" "SecretSteps" ∈ gNest := by decide +kernel
theorem hn3_26 : Cond.fieldLinkNest RX3 26 "SecretSteps$Program" "count" "I" "SecretSteps" ∈ gNest := by decide +kernel
theorem hn0_39 : Cond.fieldLinkNest RX0 39 "SecretSteps$Program" "count" "I" "SecretSteps" ∈ gNest := by decide +kernel
theorem hn6_118 : Cond.fieldLinkNest RX6 118 "SecretSteps$Program" "count" "I" "SecretSteps" ∈ gNest := by decide +kernel
theorem hn0_25 : Cond.fieldLinkNest RX0 25 "SecretSteps$Program" "secretBits" "I" "SecretSteps" ∈ gNest := by decide +kernel
theorem hn3_46 : Cond.fieldLinkNest RX3 46 "SecretSteps$Program" "secretBits" "I" "SecretSteps" ∈ gNest := by decide +kernel
theorem hn6_172 : Cond.fieldLinkNest RX6 172 "SecretSteps$History" "size" "I" "SecretSteps" ∈ gNest := by decide +kernel
theorem hn6_214 : Cond.fieldLinkNest RX6 214 "SecretSteps$Text" "length" "I" "SecretSteps" ∈ gNest := by decide +kernel
theorem hn6_162 : Cond.fieldLinkNest RX6 162 "SecretSteps$Text" "orders" "I" "SecretSteps" ∈ gNest := by decide +kernel
theorem hn4_51 : Cond.fieldLinkNest RX4 51 "SecretSteps$Run" "sights" "[I" "SecretSteps" ∈ gNest := by decide +kernel
theorem hn4_48 : Cond.fieldLinkNest RX4 48 "SecretSteps$Run" "seenCount" "I" "SecretSteps" ∈ gNest := by decide +kernel
theorem hn6_115 : Cond.fieldLinkNest RX6 115 "SecretSteps$Survey" "unlike" "I" "SecretSteps" ∈ gNest := by decide +kernel
theorem hn6_111 : Cond.fieldLinkNest RX6 111 "SecretSteps$Survey" "other" "I" "SecretSteps" ∈ gNest := by decide +kernel
theorem hn6_28 : Cond.methodLinkNest RX6 28 yX5_init "SecretSteps" ∈ gNest := by decide +kernel
theorem hn6_35 : Cond.methodLinkNest RX6 35 yX3_init "SecretSteps" ∈ gNest := by decide +kernel
theorem hn6_45 : Cond.methodLinkNest RX6 45 yX0_init "SecretSteps" ∈ gNest := by decide +kernel
theorem hn6_52 : Cond.methodLinkNest RX6 52 yX4_init "SecretSteps" ∈ gNest := by decide +kernel
theorem hn2_38 : Cond.methodLinkNest RX2 38 yX6_within "SecretSteps" ∈ gNest := by decide +kernel
theorem hn3_58 : Cond.methodLinkNest RX3 58 yX6_combined "SecretSteps" ∈ gNest := by decide +kernel
theorem hn3_62 : Cond.methodLinkNest RX3 62 yX6_within "SecretSteps" ∈ gNest := by decide +kernel
theorem hn0_92 : Cond.methodLinkNest RX0 92 yX6_combined "SecretSteps" ∈ gNest := by decide +kernel
