/-! pure rows: a run -/
def yE (k : Nat) : Nat := if k = 0 then 16 else if k = 7 then 21 else 6
def zE (k : Nat) : Nat := if k = 8 then 6 else 1
theorem nI_is {a : Nat} (n : Nat) {b : Int32} (hb : b = nI n) (ha : a < 2 ^ 31) (hn : n < 2 ^ 31) : nI a = b ↔ a = n := by rw [hb]; exact nI_eq ha hn
theorem okl_ex {k x y z : Int32} (h : okl k x y z = true) : ∃ k' x' y' z' : Nat, k = nI k' ∧ x = nI x' ∧ y = nI y' ∧ z = nI z' ∧ k' < 9 ∧ x' < 6 ∧ y' < yE k' ∧ z' < zE k' := by
  unfold okl at h
  simp only [Bool.and_eq_true] at h
  obtain ⟨h1, h2, h3, h4⟩ := h
  obtain ⟨k', a1, rfl⟩ := inb_ex h1 (by decide)
  obtain ⟨x', a2, rfl⟩ := inb_ex h2 (by decide)
  have ey : yEnd (nI k') = yE k' := by
    unfold yEnd yE
    simp only [nI_is 0 (b := (0 : Int32)) rfl (show k' < 2 ^ 31 by omega) (by decide), nI_is 7 (b := (7 : Int32)) rfl (show k' < 2 ^ 31 by omega) (by decide)]
  have ez : zEnd (nI k') = zE k' := by
    unfold zEnd zE
    simp only [nI_is 8 (b := (8 : Int32)) rfl (show k' < 2 ^ 31 by omega) (by decide)]
  rw [ey] at h3
  rw [ez] at h4
  have by_ : yE k' ≤ 21 := by unfold yE; split; · decide
                              split <;> decide
  have bz_ : zE k' ≤ 6 := by unfold zE; split <;> decide
  obtain ⟨y', a3, rfl⟩ := inb_ex h3 (by omega)
  obtain ⟨z', a4, rfl⟩ := inb_ex h4 (by omega)
  exact ⟨k', x', y', z', rfl, rfl, rfl, rfl, a1, a2, a3, a4⟩
/-- a program as it must be: c lines, the secret ones s -/
def wf (N : Nat → Int32) (c s : Nat) : Prop := N 0 = nI c ∧ c ≤ 20 ∧ N 1 = nI s ∧ s < 64 ∧ pop6 s ≤ 2 ∧ (∀ j, j < 6 → inb (N (2 + j)) 16 = true) ∧ (∀ j, j < 16 → inb (N (8 + j)) 16 = true) ∧ (∀ i, i < c → okl (N (24 + 4 * i)) (N (24 + 4 * i + 1)) (N (24 + 4 * i + 2)) (N (24 + 4 * i + 3)) = true) ∧ ∀ j, 104 ≤ j → N j = 0
def ln (N : Nat → Int32) (i q : Nat) : Nat := (N (24 + 4 * i + q)).toNatClampNeg
def tb (N : Nat → Int32) (a : Nat) : Nat := (N (8 + a)).toNatClampNeg
def cmb (k a b : Nat) : Nat := if k = 2 then (a + b) % 16 else if k = 3 then a &&& b else if k = 4 then a ^^^ b else if b = 0 then 15 else a / b
theorem wf_line {N : Nat → Int32} {c s i : Nat} (h : wf N c s) (hi : i < c) : N (24 + 4 * i) = nI (ln N i 0) ∧ N (24 + 4 * i + 1) = nI (ln N i 1) ∧ N (24 + 4 * i + 2) = nI (ln N i 2) ∧ N (24 + 4 * i + 3) = nI (ln N i 3) ∧ ln N i 0 < 9 ∧ ln N i 1 < 6 ∧ ln N i 2 < yE (ln N i 0) ∧ ln N i 3 < zE (ln N i 0) := by
  obtain ⟨k, x, y, z, h1, h2, h3, h4, b1, b2, b3, b4⟩ := okl_ex (h.2.2.2.2.2.2.2.1 i hi)
  have by_ : yE k ≤ 21 := by unfold yE; split; · decide
                             split <;> decide
  have bz_ : zE k ≤ 6 := by unfold zE; split <;> decide
  have e1 : ln N i 0 = k := by unfold ln; rw [show 24 + 4 * i + 0 = 24 + 4 * i from rfl, h1, nI_clamp (by omega)]
  have e2 : ln N i 1 = x := by unfold ln; rw [h2, nI_clamp (by omega)]
  have e3 : ln N i 2 = y := by unfold ln; rw [h3, nI_clamp (by omega)]
  have e4 : ln N i 3 = z := by unfold ln; rw [h4, nI_clamp (by omega)]
  rw [e1, e2, e3, e4]
  exact ⟨h1, h2, h3, h4, b1, b2, b3, b4⟩
theorem wf_tb {N : Nat → Int32} {c s a : Nat} (h : wf N c s) (ha : a < 16) : N (8 + a) = nI (tb N a) ∧ tb N a < 16 := by
  obtain ⟨v, hv, e⟩ := inb_ex (h.2.2.2.2.2.2.1 a ha) (by decide)
  have : tb N a = v := by unfold tb; rw [e, nI_clamp (by omega)]
  rw [this]
  exact ⟨e, hv⟩
def VR (A : Nat → Int32) (V : Nat → Nat) : Prop := ∀ j, j < 6 → A j = nI (V j) ∧ V j < 16
theorem VR_up {A : Nat → Int32} {V : Nat → Nat} {x v : Nat} (h : VR A V) (hv : v < 16) : VR (upd A x (nI v)) (va_up V x v) := by
  intro j hj
  unfold upd va_up
  by_cases e : j = x
  · rw [if_pos e, if_pos e]; exact ⟨rfl, hv⟩
  · rw [if_neg e, if_neg e]; exact h j hj
theorem cmb_lt : ∀ k, k < 9 → ∀ a, a < 16 → ∀ b, b < 16 → cmb k a b < 16 := by decide +kernel
theorem cmb6q : ∀ a, a < 16 → ∀ b, b < 16 → f6_combined (nI 2) (nI a) (nI b) = some (nI (cmb 2 a b)) ∧ f6_combined (nI 3) (nI a) (nI b) = some (nI (cmb 3 a b)) ∧ f6_combined (nI 4) (nI a) (nI b) = some (nI (cmb 4 a b)) ∧ f6_combined (nI 6) (nI a) (nI b) = some (nI (cmb 6 a b)) := by decide +kernel
theorem cmb6 (k : Nat) (hk : k < 7) (a : Nat) (ha : a < 16) (b : Nat) (hb : b < 16) (h2 : 2 ≤ k) (h5 : k ≠ 5) : f6_combined (nI k) (nI a) (nI b) = some (nI (cmb k a b)) := by
  obtain ⟨q2, q3, q4, q6⟩ := cmb6q a ha b hb
  rcases (show k = 2 ∨ k = 3 ∨ k = 4 ∨ k = 6 by omega) with rfl | rfl | rfl | rfl
  · exact q2
  · exact q3
  · exact q4
  · exact q6
theorem cmb7 (now : Nat → Int32) {k a b : Nat} (hk : k = 2 ∨ k = 3 ∨ k = 4 ∨ k = 6) (ha : a < 16) (hb : b < 16) : f7_comesOut now (nI k) (nI a) (nI b) = some (nI (cmb k a b)) := by
  rw [← cmb6 k (by omega) a ha b hb (by omega) (by omega)]
  unfold f7_comesOut f6_combined
  rcases hk with rfl | rfl | rfl | rfl
  · rw [if_pos (by decide +kernel), if_pos (by decide +kernel)]
  · rw [if_neg (by decide +kernel), if_pos (by decide +kernel), if_neg (by decide +kernel), if_pos (by decide +kernel)]
  · rw [if_neg (by decide +kernel), if_neg (by decide +kernel), if_pos (by decide +kernel), if_neg (by decide +kernel), if_neg (by decide +kernel), if_pos (by decide +kernel)]
  · rw [if_neg (by decide +kernel), if_neg (by decide +kernel), if_neg (by decide +kernel), if_neg (by decide +kernel), if_pos (by decide +kernel), if_neg (by decide +kernel), if_neg (by decide +kernel), if_neg (by decide +kernel)]
    unfold f7_divided
    by_cases h : nI b = 0
    · rw [if_pos h]; rfl
    · rw [if_neg h]
      cases h2 : (ck (!decide (nI b = 0)) (some (nI a / nI b))) <;> rfl
def sstep (N : Nat → Int32) (V : Nat → Nat) (i : Nat) : Nat × (Nat → Nat) × List Nat :=
  if ln N i 0 = 0 then (i + 1, va_up V (ln N i 1) (ln N i 2), [])
  else if ln N i 0 = 1 then (i + 1, va_up V (ln N i 1) (V (ln N i 2)), [])
  else if ln N i 0 = 5 then (i + 1, va_up V (ln N i 1) (tb N (V (ln N i 2))), [100 + V (ln N i 2)])
  else if ln N i 0 = 6 then (i + 1, va_up V (ln N i 1) (cmb 6 (V (ln N i 1)) (V (ln N i 2))), [200 + 16 * V (ln N i 1) + V (ln N i 2)])
  else if ln N i 0 = 7 then (if V (ln N i 1) = 0 then i + 1 else ln N i 2, V, [500 + 2 * i + (if V (ln N i 1) = 0 then 0 else 1)])
  else if ln N i 0 = 8 then (i + 1, va_up V (ln N i 1) (if V (ln N i 1) = 0 then V (ln N i 3) else V (ln N i 2)), [])
  else (i + 1, va_up V (ln N i 1) (cmb (ln N i 0) (V (ln N i 1)) (V (ln N i 2))), [])
def putL : (Nat → Int32) → Nat → List Nat → (Nat → Int32)
  | sg, _, [] => sg
  | sg, m, a :: r => putL (upd sg m (nI a)) (m + 1) r
theorem putL_app : ∀ (L1 L2 : List Nat) (sg : Nat → Int32) (m : Nat), putL sg m (L1 ++ L2) = putL (putL sg m L1) (m + L1.length) L2
  | [], L2, sg, m => rfl
  | a :: r, L2, sg, m => by
    rw [List.cons_append]
    show putL (upd sg m (nI a)) (m + 1) (r ++ L2) = putL (putL (upd sg m (nI a)) (m + 1) r) _ L2
    rw [putL_app r L2, List.length_cons, show m + 1 + r.length = m + (r.length + 1) by omega]
theorem putL_out : ∀ (L : List Nat) (sg : Nat → Int32) (m j : Nat), j < m ∨ m + L.length ≤ j → putL sg m L j = sg j
  | [], sg, m, j, _ => rfl
  | a :: r, sg, m, j, h => by
    rw [List.length_cons] at h
    show putL (upd sg m (nI a)) (m + 1) r j = _
    rw [putL_out r _ _ _ (by omega), pu_ne (by omega)]
theorem putL_in : ∀ (L : List Nat) (sg : Nat → Int32) (m t : Nat), t < L.length → putL sg m L (m + t) = nI (L.getD t 0)
  | [], sg, m, t, h => absurd h (Nat.not_lt_zero t)
  | a :: r, sg, m, 0, h => by
    show putL (upd sg m (nI a)) (m + 1) r (m + 0) = _
    rw [putL_out r _ _ _ (by omega)]
    exact pu_eq
  | a :: r, sg, m, t + 1, h => by
    show putL (upd sg m (nI a)) (m + 1) r (m + (t + 1)) = _
    rw [show m + (t + 1) = (m + 1) + t by omega, putL_in r _ _ _ (by simpa using h)]
    rfl
theorem see3 (sg : Nat → Int32) {m : Nat} (v : Int32) (hm : m < 61) : f3_see sg (nI m) v = some (upd sg m v, nI (m + 1)) := by
  unfold f3_see
  rw [if_neg (show ¬ (61 : Int32) ≤ nI m from (nI_ge hm (by decide) : ¬ nI 61 ≤ nI m)), inb_nI hm (by decide), nI_clamp (by omega), show nI m + (1 : Int32) = nI (m + 1) from nI_add m 1]
  rfl
theorem sees7 (sg : Nat → Int32) {m r : Nat} (v : Int32) (hm : 61 * r + m < 15616) : f7_sees sg (nI m) (nI r) v = some (upd sg (61 * r + m) v, nI (m + 1)) := by
  unfold f7_sees
  rw [show (61 : Int32) * nI r = nI (61 * r) from pk_mul 61 r, show nI (61 * r) + nI m = nI (61 * r + m) from nI_add _ _, inb_nI hm (by decide), nI_clamp (by omega), show nI m + (1 : Int32) = nI (m + 1) from nI_add m 1]
  rfl
theorem part7 (N : Nat → Int32) {i q : Nat} (hi : i < 20) (hq : q < 4) : f7_partOf N (nI i) (nI q) = some (N (24 + 4 * i + q)) := by
  unfold f7_partOf
  rw [show (4 : Int32) * nI i = nI (4 * i) from pk_mul 4 i, show (24 : Int32) + nI (4 * i) = nI (24 + 4 * i) from nI_add 24 _, nI_add, inb_nI (by omega) (by decide), nI_clamp (by omega)]
  rfl
theorem do3 {N : Nat → Int32} {c s i m : Nat} {A sg : Nat → Int32} {V : Nat → Nat} (hw : wf N c s) (hi : i < c) (hV : VR A V) (hm : m < 61) : ∃ A', f3_doLine N A sg (nI m) (nI i) = some (nI (sstep N V i).1, A', putL sg m (sstep N V i).2.2, nI (m + (sstep N V i).2.2.length)) ∧ VR A' (sstep N V i).2.1 := by
  obtain ⟨l0, l1, l2, l3, b0, b1, b2, b3⟩ := wf_line hw hi
  have hc := hw.2.1
  generalize hk : ln N i 0 = k at *
  generalize hx : ln N i 1 = x at *
  generalize hy : ln N i 2 = y at *
  generalize hz : ln N i 3 = z at *
  have l1' : N (24 + (4 * i + 1)) = nI x := l1
  have l2' : N (24 + (4 * i + 2)) = nI y := l2
  have l3' : N (24 + (4 * i + 3)) = nI z := l3
  have e0 : nI i * (4 : Int32) = nI (4 * i) := by rw [nI4, pk_mul, Nat.mul_comm]
  have e1 : nI (4 * i) + (1 : Int32) = nI (4 * i + 1) := nI_add _ 1
  have e2 : nI (4 * i) + (2 : Int32) = nI (4 * i + 2) := nI_add _ 2
  have e3 : nI (4 * i) + (3 : Int32) = nI (4 * i + 3) := nI_add _ 3
  have ei : nI i + (1 : Int32) = nI (i + 1) := nI_add i 1
  have hbx : inb (nI x) 6 = true := inb_nI b1 (by decide)
  have cx : (nI x).toNatClampNeg = x := nI_clamp (by omega)
  have Ax := hV x b1
  unfold f3_doLine
  rw [e0, e1, e2, inb_nI (show 4 * i < 80 by omega) (by decide), inb_nI (show 4 * i + 1 < 80 by omega) (by decide), inb_nI (show 4 * i + 2 < 80 by omega) (by decide), nI_clamp (show 4 * i < 2 ^ 31 by omega), nI_clamp (show 4 * i + 1 < 2 ^ 31 by omega), nI_clamp (show 4 * i + 2 < 2 ^ 31 by omega), l0, l1', l2']
  simp only [ck_t]
  unfold f3_doLine_32 sstep
  simp only [hk, hx, hy, hz]
  have hyv : k ≠ 0 → k ≠ 7 → inb (nI y) 6 = true ∧ (nI y).toNatClampNeg = y ∧ A y = nI (V y) ∧ V y < 16 := by
    intro h0 h7
    unfold yE at b2
    rw [if_neg h0, if_neg h7] at b2
    exact ⟨inb_nI b2 (by decide), nI_clamp (by omega), (hV y b2).1, (hV y b2).2⟩
  have two : k = 2 ∨ k = 3 ∨ k = 4 → (ck (inb (nI x) 6) <| ck (inb (nI y) 6) <| (f6_combined (nI k) (A (nI x).toNatClampNeg) (A (nI y).toNatClampNeg)).bind <| fun q => ck (inb (nI x) 6) <| f3_doLine_317 N (upd A (nI x).toNatClampNeg q) sg (nI m) (nI i) (nI (4 * i)) (nI k) (nI x) (nI y)) = some (nI (i + 1), upd A x (nI (cmb k (V x) (V y))), sg, nI m) ∧ VR (upd A x (nI (cmb k (V x) (V y)))) (va_up V x (cmb k (V x) (V y))) := by
    intro h
    obtain ⟨y1, y2, y3, y4⟩ := hyv (by omega) (by omega)
    rw [hbx, y1, cx, y2, Ax.1, y3, cmb6 k (by omega) (V x) Ax.2 (V y) y4 (by omega) (by omega), Option.bind_some]
    simp only [ck_t]
    unfold f3_doLine_317
    rw [ei]
    exact ⟨rfl, VR_up hV (cmb_lt k b0 _ Ax.2 _ y4)⟩
  rcases (show k = 0 ∨ k = 1 ∨ k = 2 ∨ k = 3 ∨ k = 4 ∨ k = 5 ∨ k = 6 ∨ k = 7 ∨ k = 8 by omega) with rfl | rfl | rfl | rfl | rfl | rfl | rfl | rfl | rfl
  · rw [if_pos (by decide +kernel), if_pos rfl, hbx, ck_t, cx]
    unfold f3_doLine_317
    rw [ei]
    exact ⟨_, rfl, VR_up hV b2⟩
  · obtain ⟨y1, y2, y3, y4⟩ := hyv (by decide) (by decide)
    rw [if_neg (by decide +kernel), if_pos (by decide +kernel), if_neg (by decide), if_pos rfl, hbx, y1, ck_t, ck_t, cx, y2, y3]
    unfold f3_doLine_317
    rw [ei]
    exact ⟨_, rfl, VR_up hV y4⟩
  · rw [if_neg (by decide +kernel), if_neg (by decide +kernel), if_pos (by decide +kernel), if_neg (by decide), if_neg (by decide), if_neg (by decide), if_neg (by decide), if_neg (by decide), if_neg (by decide)]
    exact ⟨_, two (by decide)⟩
  · rw [if_neg (by decide +kernel), if_neg (by decide +kernel), if_neg (by decide +kernel), if_pos (by decide +kernel), if_neg (by decide), if_neg (by decide), if_neg (by decide), if_neg (by decide), if_neg (by decide), if_neg (by decide)]
    exact ⟨_, two (by decide)⟩
  · rw [if_neg (by decide +kernel), if_neg (by decide +kernel), if_neg (by decide +kernel), if_neg (by decide +kernel), if_pos (by decide +kernel), if_neg (by decide), if_neg (by decide), if_neg (by decide), if_neg (by decide), if_neg (by decide), if_neg (by decide)]
    exact ⟨_, two (by decide)⟩
  · obtain ⟨y1, y2, y3, y4⟩ := hyv (by decide) (by decide)
    obtain ⟨t1, t2⟩ := wf_tb hw y4
    rw [if_neg (by decide +kernel), if_neg (by decide +kernel), if_neg (by decide +kernel), if_neg (by decide +kernel), if_neg (by decide +kernel), if_pos (by decide +kernel), if_neg (by decide), if_neg (by decide), if_pos rfl, y1, hbx, y2, y3, cx, show (100 : Int32) + nI (V y) = nI (100 + V y) from nI_add 100 _, see3 _ _ hm, Option.bind_some, inb_nI y4 (by decide), nI_clamp (show V y < 2 ^ 31 by omega), t1]
    simp only [ck_t]
    unfold f3_doLine_317
    rw [ei]
    exact ⟨_, rfl, VR_up hV t2⟩
  · obtain ⟨y1, y2, y3, y4⟩ := hyv (by decide) (by decide)
    rw [if_neg (by decide +kernel), if_neg (by decide +kernel), if_neg (by decide +kernel), if_neg (by decide +kernel), if_neg (by decide +kernel), if_neg (by decide +kernel), if_pos (by decide +kernel), if_neg (by decide), if_neg (by decide), if_neg (by decide), if_pos rfl, y1, hbx, y2, y3, cx, Ax.1, show (16 : Int32) * nI (V x) = nI (16 * V x) from pk_mul 16 _, show (200 : Int32) + nI (16 * V x) = nI (200 + 16 * V x) from nI_add 200 _, nI_add, see3 _ _ hm, Option.bind_some, show f6_combined (6 : Int32) (nI (V x)) (nI (V y)) = some (nI (cmb 6 (V x) (V y))) from cmb6 6 (by decide) (V x) Ax.2 (V y) y4 (by decide) (by decide), Option.bind_some]
    simp only [ck_t]
    unfold f3_doLine_317
    rw [ei]
    exact ⟨_, rfl, VR_up hV (cmb_lt 6 b0 _ Ax.2 _ y4)⟩
  · rw [if_neg (by decide +kernel), if_neg (by decide +kernel), if_neg (by decide +kernel), if_neg (by decide +kernel), if_neg (by decide +kernel), if_neg (by decide +kernel), if_neg (by decide +kernel), if_pos (by decide +kernel), if_neg (show ¬ (7 : Nat) = 0 by decide), if_neg (show ¬ (7 : Nat) = 1 by decide), if_neg (show ¬ (7 : Nat) = 5 by decide), if_neg (show ¬ (7 : Nat) = 6 by decide), if_pos (show (7 : Nat) = 7 from rfl), hbx, ck_t, cx, Ax.1]
    unfold f3_doLine_227
    rw [show (2 : Int32) * nI i = nI (2 * i) from pk_mul 2 i, show (500 : Int32) + nI (2 * i) = nI (500 + 2 * i) from nI_add 500 _, show nI (500 + 2 * i) + (0 : Int32) = nI (500 + 2 * i + 0) from nI_add _ 0, show nI (500 + 2 * i) + (1 : Int32) = nI (500 + 2 * i + 1) from nI_add _ 1, see3 _ _ hm, see3 _ _ hm, Option.bind_some, Option.bind_some, hbx, cx, Ax.1]
    simp only [ck_t]
    by_cases hv : V x = 0
    · rw [if_pos hv, if_pos hv, if_pos (show nI (V x) = 0 by rw [hv]; rfl), if_pos (show nI (V x) = 0 by rw [hv]; rfl), ei]
      exact ⟨_, rfl, hV⟩
    · have hne : ¬ nI (V x) = 0 := nI_ne0 (by omega) (by omega)
      rw [if_neg hv, if_neg hv, if_neg hne, if_neg hne]
      exact ⟨_, rfl, hV⟩
  · obtain ⟨y1, y2, y3, y4⟩ := hyv (by decide) (by decide)
    have hz6 : z < 6 := b3
    rw [if_neg (by decide +kernel), if_neg (by decide +kernel), if_neg (by decide +kernel), if_neg (by decide +kernel), if_neg (by decide +kernel), if_neg (by decide +kernel), if_neg (by decide +kernel), if_neg (by decide +kernel), if_pos (by decide +kernel), if_neg (show ¬ (8 : Nat) = 0 by decide), if_neg (show ¬ (8 : Nat) = 1 by decide), if_neg (show ¬ (8 : Nat) = 5 by decide), if_neg (show ¬ (8 : Nat) = 6 by decide), if_neg (show ¬ (8 : Nat) = 7 by decide), if_pos (show (8 : Nat) = 8 from rfl), hbx, ck_t, cx, Ax.1, e3, inb_nI (show 4 * i + 3 < 80 by omega) (by decide), nI_clamp (show 4 * i + 3 < 2 ^ 31 by omega), l3', inb_nI hz6 (by decide), nI_clamp (show z < 2 ^ 31 by omega), (hV z hz6).1, y1, y2, y3]
    simp only [ck_t]
    unfold f3_doLine_317
    rw [ei]
    by_cases hv : V x = 0
    · rw [if_pos hv, if_pos (show nI (V x) = 0 by rw [hv]; rfl)]
      exact ⟨_, rfl, VR_up hV (hV z hz6).2⟩
    · rw [if_neg hv, if_neg (nI_ne0 (by omega) (by omega))]
      exact ⟨_, rfl, VR_up hV y4⟩
