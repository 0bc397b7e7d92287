/-! pure rows: numbers; programs -/
theorem i_lt {a b : Int32} : a < b ↔ a.toInt < b.toInt := Int32.lt_iff_toInt_lt
theorem i_le {a b : Int32} : a ≤ b ↔ a.toInt ≤ b.toInt := Int32.le_iff_toInt_le
theorem i_eq {a b : Int32} : a = b ↔ a.toInt = b.toInt := Int32.toInt_inj.symm
theorem inb_iff {i : Int32} {n : Nat} : inb i n = true ↔ 0 ≤ i.toInt ∧ i.toInt < n := by
  rw [← vp_in_iff]
  exact ⟨inb_in, fun h => decide_eq_true (p := ¬ (i < 0 ∨ n ≤ i.toNatClampNeg)) h⟩
theorem inb_nI {j n : Nat} (h : j < n) (hn : n < 2 ^ 31) : inb (nI j) n = true := inb_iff.mpr (vp_in_iff.mp (vp_in_nI h hn))
theorem inb_ex {v : Int32} {n : Nat} (h : inb v n = true) (hn : n < 2 ^ 31) : ∃ j, j < n ∧ v = nI j := vp_in_of (inb_in h) hn
theorem inb_f {v : Int32} {n : Nat} (h : inb v n = false) : v.toInt < 0 ∨ (n : Int) ≤ v.toInt := by
  have h2 : ¬ (0 ≤ v.toInt ∧ v.toInt < n) := fun q => by rw [inb_iff.mpr q] at h; cases h
  omega
def b01 (b : Bool) : Int32 := bif b then 1 else 0
theorem b01_isb (b : Bool) : isb (b01 b) = true := by cases b <;> decide +kernel
theorem ck_t {α : Type} {k : Option α} : ck true k = k := rfl
theorem b01_f0 : b01 false = 0 := rfl
theorem b01_t1 : b01 true = 1 := rfl
theorem one_ne : ¬ (1 : Int32) = 0 := by decide +kernel
theorem w6 (v : Int32) {e : Int32} (n : Nat) (he : e.toInt = n) : f6_within v e = some (b01 (inb v n)) := by
  unfold f6_within
  have z : (0 : Int32).toInt = 0 := by decide +kernel
  cases h : inb v n with
  | true =>
    obtain ⟨h1, h2⟩ := inb_iff.mp h
    rw [if_neg (by rw [i_lt]; omega), if_neg (by rw [i_le]; omega)]
    rfl
  | false =>
    rcases inb_f h with h1 | h1
    · rw [if_pos (by rw [i_lt]; omega)]
      rfl
    · by_cases h2 : v < 0
      · rw [if_pos h2]; rfl
      · rw [if_neg h2, if_pos (by rw [i_le]; omega)]; rfl
theorem w7 (v : Int32) {e : Int32} (n : Nat) (he : e.toInt + 1 = n) : f7_within v (0 : Int32) e = some (b01 (inb v n)) := by
  unfold f7_within
  have z : (0 : Int32).toInt = 0 := by decide +kernel
  cases h : inb v n with
  | true =>
    obtain ⟨h1, h2⟩ := inb_iff.mp h
    rw [if_neg (by rw [i_lt]; omega), if_neg (by rw [i_lt]; omega)]
    rfl
  | false =>
    rcases inb_f h with h1 | h1
    · rw [if_pos (by rw [i_lt]; omega)]
      rfl
    · by_cases h2 : v < 0
      · rw [if_pos h2]; rfl
      · rw [if_neg h2, if_pos (by rw [i_lt]; omega)]; rfl
theorem p_isVar (v : Int32) : f7_isVariable v = some (b01 (inb v 6)) := by
  unfold f7_isVariable
  rw [w7 v 6 (by decide +kernel), Option.bind_some, b01_isb]; rfl
theorem p_isNum (v : Int32) : f7_isNumber v = some (b01 (inb v 16)) := by
  unfold f7_isNumber
  rw [w7 v 16 (by decide +kernel), Option.bind_some, b01_isb]; rfl
theorem b01_0 {b : Bool} : b01 b = 0 ↔ b = false := by cases b <;> decide +kernel
def yEnd (k : Int32) : Nat := if k = 0 then 16 else if k = 7 then 21 else 6
def zEnd (k : Int32) : Nat := if k = 8 then 6 else 1
def okl (k x y z : Int32) : Bool := inb k 9 && (inb x 6 && (inb y (yEnd k) && inb z (zEnd k)))
theorem p_endOfY (k : Int32) : ∃ e : Int32, f2_endOfY k = some e ∧ e.toInt = yEnd k := by
  unfold f2_endOfY yEnd
  by_cases h : k = 0
  · rw [if_pos h, if_pos h]; exact ⟨16, rfl, by decide +kernel⟩
  · rw [if_neg h, if_neg h]
    by_cases h7 : k = 7
    · rw [if_pos h7, if_pos h7]; exact ⟨21, rfl, by decide +kernel⟩
    · rw [if_neg h7, if_neg h7]; exact ⟨6, rfl, by decide +kernel⟩
theorem p_fits (k x y z : Int32) : f2_fits k x y z = some (b01 (okl k x y z)) := by
  unfold f2_fits okl
  rw [w6 k 9 (by decide +kernel), Option.bind_some]
  cases h1 : inb k 9 with
  | false => rfl
  | true =>
    rw [b01_t1, if_neg one_ne, w6 x 6 (by decide +kernel), Option.bind_some]
    cases h2 : inb x 6 with
    | false => rfl
    | true =>
      obtain ⟨e, he, hv⟩ := p_endOfY k
      rw [b01_t1, if_neg one_ne, he, Option.bind_some, w6 y (yEnd k) hv, Option.bind_some]
      cases h3 : inb y (yEnd k) with
      | false => rfl
      | true =>
        rw [b01_t1, if_neg one_ne]
        unfold zEnd
        by_cases h8 : k = 8
        · rw [if_pos h8, if_pos h8, w6 z 6 (by decide +kernel), Option.bind_some]
          cases h4 : inb z 6 <;> rfl
        · rw [if_neg h8, if_neg h8, w6 z 1 (by decide +kernel), Option.bind_some]
          cases h4 : inb z 1 <;> rfl
theorem p_isY (k y : Int32) : f7_isY k y = some (b01 (inb y (yEnd k))) := by
  unfold f7_isY yEnd
  by_cases h : k = 0
  · rw [if_pos h, if_pos h, p_isNum, Option.bind_some, b01_isb]; rfl
  · rw [if_neg h, if_neg h]
    by_cases h7 : k = 7
    · rw [if_pos h7, if_pos h7, w7 y 21 (by decide +kernel), Option.bind_some, b01_isb]; rfl
    · rw [if_neg h7, if_neg h7, p_isVar, Option.bind_some, b01_isb]; rfl
theorem inb_1 {z : Int32} : inb z 1 = true ↔ z = 0 := by
  rw [inb_iff, i_eq]
  have e : (0 : Int32).toInt = 0 := by decide +kernel
  omega
/-- a line behind the others -/
def adl (N : Nat → Int32) (c : Nat) (k x y z : Int32) : Nat → Int32 := upd (upd (upd (upd (upd N (24 + 4 * c) k) (24 + 4 * c + 1) x) (24 + 4 * c + 2) y) (24 + 4 * c + 3) z) 0 (nI (c + 1))
def spAdd (N : Nat → Int32) (c : Nat) (k x y z : Int32) : Int32 × (Nat → Int32) := if okl k x y z = true then if c < 20 then (nI c, adl N c k x y z) else (-4, N) else (-2, N)
theorem nI4 : (4 : Int32) = nI 4 := rfl
theorem upd_zero {N : Nat → Int32} {i : Nat} {x : Int32} (h : i ≠ 0) : upd N i x 0 = N 0 := if_neg (fun q => h q.symm)
theorem p_add2 {N : Nat → Int32} {c : Nat} (h0 : N 0 = nI c) (hc : c ≤ 20) (k x y z : Int32) : f2_addLine N k x y z = some (spAdd N c k x y z) := by
  unfold f2_addLine spAdd
  rw [p_fits, Option.bind_some]
  cases h1 : okl k x y z with
  | false => rfl
  | true =>
    rw [b01_t1, if_neg one_ne, h0, if_pos rfl]
    by_cases h2 : c < 20
    · rw [if_pos (show nI c < (20 : Int32) from (nI_lt h2 (by decide) : nI c < nI 20)), if_pos h2]
      unfold f2_addLine_34
      have e0 : nI c * (4 : Int32) = nI (4 * c) := by rw [nI4, pk_mul, Nat.mul_comm]
      have e1 : nI (4 * c) + 1 = nI (4 * c + 1) := nI_add _ 1
      have e2 : nI (4 * c) + 2 = nI (4 * c + 2) := nI_add _ 2
      have e3 : nI (4 * c) + 3 = nI (4 * c + 3) := nI_add _ 3
      rw [e0, e1, e2, e3, inb_nI (by omega) (by omega), inb_nI (by omega) (by omega), inb_nI (by omega) (by omega), inb_nI (by omega) (by omega), nI_clamp (by omega), nI_clamp (by omega), nI_clamp (by omega), nI_clamp (by omega)]
      simp only [ck_t]
      rw [pu_eq, upd_zero (by omega), upd_zero (by omega), upd_zero (by omega), upd_zero (by omega), h0]
      have e5 : nI c + 1 - 1 = nI c := by rw [show nI c + 1 = nI (c + 1) from nI_add c 1, nI_pred]
      rw [e5, show nI c + (1 : Int32) = nI (c + 1) from nI_add c 1]
      rfl
    · rw [if_neg (show ¬ nI c < (20 : Int32) from (nI_nlt (by omega) (by omega) : ¬ nI c < nI 20)), if_neg h2]
theorem p_a29 (N : Nat → Int32) (k x y z : Int32) : f7_addsLine_29 N k x y z = some (-2, N) := by
  unfold f7_addsLine_29 f7_addsLine_32
  rw [if_pos rfl]
theorem p_a62 {N : Nat → Int32} {c : Nat} (h0 : N 0 = nI c) (hc : c ≤ 20) (k x y z w : Int32) : f7_addsLine_62 N k x y z w = some (if c < 20 then (nI c, adl N c k x y z) else (-4, N)) := by
  unfold f7_addsLine_62
  rw [h0]
  by_cases h2 : c < 20
  · rw [if_neg (show ¬ nI c = (20 : Int32) from fun q => absurd ((nI_eq (b := 20) (by omega) (by decide)).mp q) (by omega)), if_pos h2]
    have e0 : (24 : Int32) + (4 : Int32) * nI c = nI (24 + 4 * c) := by
      rw [show (4 : Int32) * nI c = nI (4 * c) from pk_mul 4 c]
      exact nI_add 24 _
    have e1 : nI (24 + 4 * c) + 1 = nI (24 + 4 * c + 1) := nI_add _ 1
    have e2 : nI (24 + 4 * c) + 2 = nI (24 + 4 * c + 2) := nI_add _ 2
    have e3 : nI (24 + 4 * c) + 3 = nI (24 + 4 * c + 3) := nI_add _ 3
    rw [e0, e1, e2, e3, inb_nI (by omega) (by omega), inb_nI (by omega) (by omega), inb_nI (by omega) (by omega), inb_nI (by omega) (by omega), nI_clamp (by omega), nI_clamp (by omega), nI_clamp (by omega), nI_clamp (by omega)]
    simp only [ck_t]
    rw [pu_eq, upd_zero (by omega), upd_zero (by omega), upd_zero (by omega), upd_zero (by omega), h0]
    have e5 : nI c + 1 - 1 = nI c := by rw [show nI c + 1 = nI (c + 1) from nI_add c 1, nI_pred]
    rw [e5, show nI c + (1 : Int32) = nI (c + 1) from nI_add c 1]
    rfl
  · rw [if_pos (show nI c = (20 : Int32) from by rw [show c = 20 by omega]; rfl), if_neg h2]
theorem p_add7 {N : Nat → Int32} {c : Nat} (h0 : N 0 = nI c) (hc : c ≤ 20) (k x y z : Int32) : f7_addsLine N k x y z = some (spAdd N c k x y z) := by
  unfold f7_addsLine spAdd okl
  rw [w7 k 9 (by decide +kernel), Option.bind_some]
  cases h1 : inb k 9 with
  | false => rw [b01_f0, if_pos rfl, p_a29]; rfl
  | true =>
    rw [b01_t1, if_neg one_ne, p_isVar, Option.bind_some]
    cases h2 : inb x 6 with
    | false => rw [b01_f0, if_pos rfl, p_a29]; rfl
    | true =>
      rw [b01_t1, if_neg one_ne, p_isY, Option.bind_some]
      cases h3 : inb y (yEnd k) with
      | false => rw [b01_f0, if_pos rfl, p_a29]; rfl
      | true =>
        rw [b01_t1, if_neg one_ne]
        unfold f7_addsLine_32 zEnd
        rw [if_neg one_ne]
        by_cases h8 : k = 8
        · rw [if_pos h8, if_pos h8, p_isVar, Option.bind_some]
          cases h4 : inb z 6 with
          | false => rfl
          | true => rw [b01_t1, if_neg one_ne, p_a62 h0 hc]; rfl
        · rw [if_neg h8, if_neg h8]
          by_cases hz : z = 0
          · rw [if_pos hz, p_a62 h0 hc, inb_1.mpr hz]; rfl
          · rw [if_neg hz]
            cases h4 : inb z 1 with
            | false => rfl
            | true => exact absurd (inb_1.mp h4) hz
/-- lines from p on moved by one -/
def drp (N : Nat → Int32) (i c p : Nat) : Nat → Int32 := fun j => if j = 0 then nI c else if 24 + 4 * i ≤ j ∧ j < 24 + p then N (j + 4) else N j
theorem drp_0 {N : Nat → Int32} {i c : Nat} : drp N i c (4 * i) = upd N 0 (nI c) := by
  funext j
  unfold drp upd
  by_cases h : j = 0
  · rw [if_pos h, if_pos h]
  · rw [if_neg h, if_neg h, if_neg (by omega)]
theorem drp_s {N : Nat → Int32} {i c p : Nat} (h : 4 * i ≤ p) : upd (drp N i c p) (24 + p) (drp N i c p (24 + p + 4)) = drp N i c (p + 1) := by
  funext j
  by_cases hj : j = 24 + p
  · subst hj
    rw [pu_eq]
    unfold drp
    rw [if_neg (by omega), if_neg (by omega), if_neg (by omega), if_pos (by omega)]
  · rw [pu_ne hj]
    unfold drp
    by_cases h0 : j = 0
    · rw [if_pos h0, if_pos h0]
    · rw [if_neg h0, if_neg h0]
      by_cases h1 : 24 + 4 * i ≤ j ∧ j < 24 + p
      · rw [if_pos h1, if_pos (by omega)]
      · rw [if_neg h1, if_neg (by omega)]
theorem p_drop2l {N : Nat → Int32} {i c : Nat} (hc : c < 20) (v : Int32) : ∀ (d n p : Nat), p + d = 4 * c → 4 * i ≤ p → d < n → f2_dropLine_28 n (drp N i c p, v, nI p) = some (nI c, drp N i c (4 * c)) := by
  intro d
  induction d with
  | zero =>
    intro n p hp hi hn
    obtain ⟨n, rfl⟩ : ∃ m, n = m + 1 := ⟨n - 1, by omega⟩
    show f2_dropLine_28b _ (drp N i c p) v (nI p) = _
    unfold f2_dropLine_28b
    have e0 : drp N i c p 0 = nI c := if_pos rfl
    rw [e0, show nI c * (4 : Int32) = nI (c * 4) from pk_mul c 4, if_pos (nI_le (by omega) (by omega))]
    rw [show p = 4 * c by omega]
  | succ d ih =>
    intro n p hp hi hn
    obtain ⟨n, rfl⟩ : ∃ m, n = m + 1 := ⟨n - 1, by omega⟩
    show f2_dropLine_28b (f2_dropLine_28 n) (drp N i c p) v (nI p) = _
    unfold f2_dropLine_28b
    have e0 : drp N i c p 0 = nI c := if_pos rfl
    rw [e0, show nI c * (4 : Int32) = nI (c * 4) from pk_mul c 4, if_neg (nI_ge (by omega) (by omega)), show nI p + (4 : Int32) = nI (p + 4) from nI_add p 4, show nI p + (1 : Int32) = nI (p + 1) from nI_add p 1, inb_nI (by omega) (by omega), inb_nI (by omega) (by omega), nI_clamp (by omega), nI_clamp (by omega), ck_t, ck_t, show 24 + (p + 4) = 24 + p + 4 by omega, drp_s hi]
    exact ih n (p + 1) (by omega) (by omega) (by omega)
theorem p_drop7l {N : Nat → Int32} {i c : Nat} (hc : c < 20) (v : Int32) : ∀ (d n p : Nat), p + d = 4 * c → 4 * i ≤ p → d < n → f7_dropsLine_28 n (drp N i c p, v, nI (24 + p)) = some (nI c, drp N i c (4 * c)) := by
  intro d
  induction d with
  | zero =>
    intro n p hp hi hn
    obtain ⟨n, rfl⟩ : ∃ m, n = m + 1 := ⟨n - 1, by omega⟩
    show f7_dropsLine_28b _ (drp N i c p) v (nI (24 + p)) = _
    unfold f7_dropsLine_28b
    have e0 : drp N i c p 0 = nI c := if_pos rfl
    rw [e0, show (4 : Int32) * nI c = nI (4 * c) from pk_mul 4 c, show (24 : Int32) + nI (4 * c) = nI (24 + 4 * c) from nI_add 24 _, if_pos (nI_le (by omega) (by omega))]
    unfold f7_dropsLine_63
    rw [e0, show p = 4 * c by omega]
  | succ d ih =>
    intro n p hp hi hn
    obtain ⟨n, rfl⟩ : ∃ m, n = m + 1 := ⟨n - 1, by omega⟩
    show f7_dropsLine_28b (f7_dropsLine_28 n) (drp N i c p) v (nI (24 + p)) = _
    unfold f7_dropsLine_28b
    have e0 : drp N i c p 0 = nI c := if_pos rfl
    rw [e0, show (4 : Int32) * nI c = nI (4 * c) from pk_mul 4 c, show (24 : Int32) + nI (4 * c) = nI (24 + 4 * c) from nI_add 24 _, if_neg (nI_ge (by omega) (by omega)), show nI (24 + p) + (4 : Int32) = nI (24 + p + 4) from nI_add _ 4, show nI (24 + p) + (1 : Int32) = nI (24 + (p + 1)) from nI_add _ 1, inb_nI (by omega) (by omega), inb_nI (by omega) (by omega), nI_clamp (by omega), nI_clamp (by omega), ck_t, ck_t, drp_s hi]
    exact ih n (p + 1) (by omega) (by omega) (by omega)
def spDrop (N : Nat → Int32) (c : Nat) (v : Int32) : Int32 × (Nat → Int32) := if inb v c = true then (nI (c - 1), drp N v.toNatClampNeg (c - 1) (4 * (c - 1))) else (-2, N)
theorem p_drop2 {N : Nat → Int32} {c : Nat} (h0 : N 0 = nI c) (hc : c ≤ 20) (v : Int32) : f2_dropLine N v = some (spDrop N c v) := by
  unfold f2_dropLine spDrop
  rw [h0, w6 v c (nI_toInt (by omega)), Option.bind_some]
  cases h : inb v c with
  | false => rfl
  | true =>
    obtain ⟨i, hi, rfl⟩ := inb_ex h (by omega)
    obtain ⟨c, rfl⟩ : ∃ m, c = m + 1 := ⟨c - 1, by omega⟩
    rw [b01_t1, if_neg one_ne, if_pos rfl, nI_clamp (by omega), show nI (c + 1) - (1 : Int32) = nI c from nI_pred c, show nI i * (4 : Int32) = nI (4 * i) from by rw [nI4, pk_mul, Nat.mul_comm], ← drp_0 (N := N) (i := i) (c := c)]
    exact p_drop2l (by omega) (nI i) (4 * c - 4 * i) 1000 (4 * i) (by omega) (by omega) (by omega)
theorem p_isLine {N : Nat → Int32} {c : Nat} (h0 : N 0 = nI c) (hc : c ≤ 20) (v : Int32) : f7_isLine N v = some (b01 (inb v c)) := by
  unfold f7_isLine
  rw [h0, w7 v c ?_, Option.bind_some, b01_isb]
  · rfl
  · rcases Nat.eq_zero_or_pos c with rfl | hp
    · decide +kernel
    · obtain ⟨c, rfl⟩ : ∃ m, c = m + 1 := ⟨c - 1, by omega⟩
      rw [show nI (c + 1) - (1 : Int32) = nI c from nI_pred c, nI_toInt (by omega)]
      omega
theorem p_drop7 {N : Nat → Int32} {c : Nat} (h0 : N 0 = nI c) (hc : c ≤ 20) (v : Int32) : f7_dropsLine N v = some (spDrop N c v) := by
  unfold f7_dropsLine spDrop
  rw [p_isLine h0 hc, Option.bind_some]
  cases h : inb v c with
  | false => rfl
  | true =>
    obtain ⟨i, hi, rfl⟩ := inb_ex h (by omega)
    obtain ⟨c, rfl⟩ : ∃ m, c = m + 1 := ⟨c - 1, by omega⟩
    rw [b01_t1, if_neg one_ne, if_pos rfl, nI_clamp (by omega), h0, show nI (c + 1) - (1 : Int32) = nI c from nI_pred c, show (4 : Int32) * nI i = nI (4 * i) from pk_mul 4 i, show (24 : Int32) + nI (4 * i) = nI (24 + 4 * i) from nI_add 24 _, ← drp_0 (N := N) (i := i) (c := c)]
    exact p_drop7l (by omega) (nI i) (4 * c - 4 * i) 1000 (4 * i) (by omega) (by omega) (by omega)
def spTab (N : Nat → Int32) (i v : Int32) : Int32 × (Nat → Int32) := if (inb i 16 && inb v 16) = true then (N (8 + i.toNatClampNeg), upd N (8 + i.toNatClampNeg) v) else (-2, N)
def spSta (N : Nat → Int32) (i v : Int32) : Int32 × (Nat → Int32) := if (inb i 6 && inb v 16) = true then (N (2 + i.toNatClampNeg), upd N (2 + i.toNatClampNeg) v) else (-2, N)
theorem p_tab2 (N : Nat → Int32) (i v : Int32) : f2_putCell N i v = some (spTab N i v) := by
  unfold f2_putCell spTab
  rw [w6 i 16 (by decide +kernel), Option.bind_some]
  cases h1 : inb i 16 with
  | false => rfl
  | true =>
    rw [b01_t1, if_neg one_ne, w6 v 16 (by decide +kernel), Option.bind_some]
    cases h2 : inb v 16 <;> rfl
theorem p_sta2 (N : Nat → Int32) (i v : Int32) : f2_putStart N i v = some (spSta N i v) := by
  unfold f2_putStart spSta
  rw [w6 i 6 (by decide +kernel), Option.bind_some]
  cases h1 : inb i 6 with
  | false => rfl
  | true =>
    rw [b01_t1, if_neg one_ne, w6 v 16 (by decide +kernel), Option.bind_some]
    cases h2 : inb v 16 <;> rfl
theorem p_tab7 (N : Nat → Int32) (i v : Int32) : f7_setsTable N i v = some (spTab N i v) := by
  unfold f7_setsTable spTab
  rw [p_isNum, Option.bind_some]
  cases h1 : inb i 16 with
  | false => rfl
  | true =>
    rw [b01_t1, if_neg one_ne, p_isNum, Option.bind_some]
    cases h2 : inb v 16 with
    | false => rfl
    | true =>
      obtain ⟨j, hj, rfl⟩ := inb_ex h1 (by omega)
      rw [b01_t1, if_neg one_ne]
      unfold f7_becomes
      rw [show (8 : Int32) + nI j = nI (8 + j) from nI_add 8 j, inb_nI (by omega) (by omega), nI_clamp (by omega), nI_clamp (by omega)]
      rfl
theorem p_sta7 (N : Nat → Int32) (i v : Int32) : f7_setsStart N i v = some (spSta N i v) := by
  unfold f7_setsStart spSta
  rw [p_isVar, Option.bind_some]
  cases h1 : inb i 6 with
  | false => rfl
  | true =>
    rw [b01_t1, if_neg one_ne, p_isNum, Option.bind_some]
    cases h2 : inb v 16 with
    | false => rfl
    | true =>
      obtain ⟨j, hj, rfl⟩ := inb_ex h1 (by omega)
      rw [b01_t1, if_neg one_ne]
      unfold f7_becomes
      rw [show (2 : Int32) + nI j = nI (2 + j) from nI_add 2 j, inb_nI (by omega) (by omega), nI_clamp (by omega), nI_clamp (by omega)]
      rfl
/-- how many of six bits -/
def pop6 (s : Nat) : Nat := s % 2 + s / 2 % 2 + s / 4 % 2 + s / 8 % 2 + s / 16 % 2 + s / 32 % 2
def oth (s x : Nat) : Nat := s - s / 2 ^ x % 2 * 2 ^ x
theorem p_bits : ∀ s, s < 64 → f6_bitCount_0f7a4 (nI s) = some (nI (pop6 s)) ∧ f7_ones (nI s) = some (nI (pop6 s)) := by decide +kernel
theorem p_oth : ∀ s, s < 64 → ∀ x, x < 6 → (nI s) &&& ((sl32 (1 : Int32) (nI x)) ^^^ (-1 : Int32)) = nI (oth s x) ∧ oth s x < 64 ∧ pop6 (oth s x) ≤ pop6 s ∧ (sr32 (nI s) (nI x)) &&& (1 : Int32) = nI (s / 2 ^ x % 2) := by decide +kernel
theorem p_set : ∀ s, s < 64 → ∀ x, x < 6 → ∀ b, b < 2 → (nI (oth s x)) ||| (sl32 (nI b) (nI x)) = nI (oth s x + b * 2 ^ x) ∧ oth s x + b * 2 ^ x < 64 ∧ pop6 (oth s x + b * 2 ^ x) = pop6 (oth s x) + b := by decide +kernel
def spSec (N : Nat → Int32) (s : Nat) (x b : Int32) : Int32 × (Nat → Int32) := if (inb x 6 && inb b 2) = true then if b = 1 ∧ pop6 (oth s x.toNatClampNeg) = 2 then (-4, N) else (nI (s / 2 ^ x.toNatClampNeg % 2), upd N 1 (nI (oth s x.toNatClampNeg + b.toNatClampNeg * 2 ^ x.toNatClampNeg))) else (-2, N)
theorem p_sec2 {N : Nat → Int32} {s : Nat} (h1 : N 1 = nI s) (hs : s < 64) (hp : pop6 s ≤ 2) (x b : Int32) : f2_putSecret N x b = some (spSec N s x b) := by
  unfold f2_putSecret spSec
  rw [w6 x 6 (by decide +kernel), Option.bind_some]
  cases hx : inb x 6 with
  | false => rfl
  | true =>
    rw [b01_t1, if_neg one_ne, w6 b 2 (by decide +kernel), Option.bind_some]
    cases hb : inb b 2 with
    | false => rfl
    | true =>
      obtain ⟨x, hx6, rfl⟩ := inb_ex hx (by omega)
      obtain ⟨b, hb2, rfl⟩ := inb_ex hb (by omega)
      obtain ⟨a1, a2, a3, a4⟩ := p_oth s hs x hx6
      obtain ⟨c1, c2, c3⟩ := p_set s hs x hx6 b hb2
      rw [b01_t1, if_neg one_ne, h1, a1]
      unfold f2_putSecret_31 f2_putSecret_47
      rw [h1, a4, c1, if_pos (show (true && true) = true from rfl), nI_clamp (by omega), nI_clamp (by omega)]
      by_cases e1 : nI b = 1
      · rw [if_pos e1, (p_bits _ a2).1, Option.bind_some]
        by_cases e2 : pop6 (oth s x) = 2
        · rw [if_neg (by rw [e2]; decide +kernel), if_pos ⟨e1, e2⟩]
        · rw [if_pos (show nI (pop6 (oth s x)) < (2 : Int32) from (nI_lt (by omega) (by decide) : _ < nI 2)), if_neg (fun q => e2 q.2)]
      · rw [if_neg e1, if_neg (fun q => e1 q.1)]
theorem p_sec7 {N : Nat → Int32} {s : Nat} (h1 : N 1 = nI s) (hs : s < 64) (hp : pop6 s ≤ 2) (x b : Int32) : f7_setsSecret N x b = some (spSec N s x b) := by
  unfold f7_setsSecret spSec
  rw [p_isVar, Option.bind_some]
  cases hx : inb x 6 with
  | false => rfl
  | true =>
    rw [b01_t1, if_neg one_ne, w7 b 2 (by decide +kernel), Option.bind_some]
    cases hb : inb b 2 with
    | false => rfl
    | true =>
      obtain ⟨x, hx6, rfl⟩ := inb_ex hx (by omega)
      obtain ⟨b, hb2, rfl⟩ := inb_ex hb (by omega)
      obtain ⟨a1, a2, a3, a4⟩ := p_oth s hs x hx6
      obtain ⟨c1, c2, c3⟩ := p_set s hs x hx6 b hb2
      rw [b01_t1, if_neg one_ne, h1, a1]
      unfold f7_setsSecret_32 f7_setsSecret_48
      rw [h1, a4, c1, if_pos (show (true && true) = true from rfl), nI_clamp (by omega), nI_clamp (by omega)]
      by_cases e1 : nI b = 1
      · rw [if_pos e1, (p_bits _ a2).2, Option.bind_some]
        by_cases e2 : pop6 (oth s x) = 2
        · rw [if_pos (show nI (pop6 (oth s x)) = (2 : Int32) from by rw [e2]; rfl), if_pos ⟨e1, e2⟩]
        · rw [if_neg (show ¬ nI (pop6 (oth s x)) = (2 : Int32) from fun q => e2 ((nI_eq (b := 2) (by omega) (by decide)).mp q)), if_neg (fun q => e2 q.2)]
      · rw [if_neg e1, if_neg (fun q => e1 q.1)]
