/-! what every call keeps -/
theorem nI_nn {a : Nat} (h : a < 2 ^ 31) : ¬ nI a < 0 := by rw [i_lt, nI_toInt h]; show ¬ (a : Int) < (0 : Int32).toInt; rw [show (0 : Int32).toInt = 0 from by decide +kernel]; omega
theorem nI_0le {a : Nat} (h : a < 2 ^ 31) : 0 ≤ nI a := by rw [i_le, nI_toInt h]; show (0 : Int32).toInt ≤ (a : Int); rw [show (0 : Int32).toInt = 0 from by decide +kernel]; omega
theorem inb_nn {v : Int32} {n : Nat} (h : inb v n = true) (hn : n < 2 ^ 31) : ¬ v < 0 := by
  obtain ⟨j, hj, e⟩ := inb_ex h hn
  rw [e]; exact nI_nn (by omega)
def okR (N : Nat → Int32) (p : Int32 × (Nat → Int32)) : Prop := (p.1 < 0 → (p.1 = -2 ∨ p.1 = -4) ∧ p.2 = N) ∧ ∃ c b, wf p.2 c b
theorem okR_n {N N' : Nat → Int32} {v : Int32} (h : ¬ v < 0) (c b : Nat) (hw : wf N' c b) : okR N (v, N') := ⟨fun q => absurd q h, c, b, hw⟩
theorem okR_2 {N : Nat → Int32} {c b : Nat} (hw : wf N c b) : okR N (-2, N) := ⟨fun _ => ⟨Or.inl rfl, rfl⟩, c, b, hw⟩
theorem okR_4 {N : Nat → Int32} {c b : Nat} (hw : wf N c b) : okR N (-4, N) := ⟨fun _ => ⟨Or.inr rfl, rfl⟩, c, b, hw⟩
theorem adl_o {N : Nat → Int32} {c : Nat} {k x y z : Int32} {j : Nat} (h0 : j ≠ 0) (h : j < 24 + 4 * c ∨ 24 + 4 * c + 4 ≤ j) : adl N c k x y z j = N j := by
  unfold adl
  rw [upd_ne h0, upd_ne (by omega), upd_ne (by omega), upd_ne (by omega), upd_ne (by omega)]
theorem wf_add {N : Nat → Int32} {c b : Nat} (hw : wf N c b) (k x y z : Int32) : okR N (spAdd N c k x y z) := by
  unfold spAdd
  by_cases h : okl k x y z = true
  · rw [if_pos h]
    by_cases hc : c < 20
    · rw [if_pos hc]
      refine okR_n (nI_nn (by omega)) (c + 1) b ?_
      obtain ⟨w1, w2, w3, w4, w5, w6, w7, w8, w9⟩ := hw
      refine ⟨upd_at, by omega, by rw [adl_o (by omega) (by omega)]; exact w3, w4, w5, fun j hj => by rw [adl_o (by omega) (by omega)]; exact w6 j hj, fun j hj => by rw [adl_o (by omega) (by omega)]; exact w7 j hj, ?_, fun j hj => by rw [adl_o (by omega) (by omega)]; exact w9 j hj⟩
      intro i hi
      by_cases hic : i = c
      · subst hic
        unfold adl
        rw [upd_ne (by omega), upd_ne (by omega), upd_ne (by omega), upd_ne (by omega), upd_at, upd_ne (by omega), upd_ne (by omega), upd_ne (by omega), upd_at, upd_ne (by omega), upd_ne (by omega), upd_at, upd_ne (by omega), upd_at]
        exact h
      · rw [adl_o (by omega) (by omega), adl_o (by omega) (by omega), adl_o (by omega) (by omega), adl_o (by omega) (by omega)]
        exact w8 i (by omega)
    · rw [if_neg hc]; exact okR_4 hw
  · rw [if_neg h]; exact okR_2 hw
theorem wf_drop {N : Nat → Int32} {c b : Nat} (hw : wf N c b) (v : Int32) : okR N (spDrop N c v) := by
  unfold spDrop
  have hc := hw.2.1
  by_cases h : inb v c = true
  · obtain ⟨i, hi, e⟩ := inb_ex h (by omega)
    subst e
    rw [if_pos h, nI_clamp (show i < 2 ^ 31 by omega)]
    refine okR_n (nI_nn (by omega)) (c - 1) b ?_
    obtain ⟨w1, w2, w3, w4, w5, w6, w7, w8, w9⟩ := hw
    have hlo : ∀ j, j ≠ 0 → (j < 24 + 4 * i ∨ 24 + 4 * (c - 1) ≤ j) → drp N i (c - 1) (4 * (c - 1)) j = N j := by
      intro j h0 hj
      unfold drp
      rw [if_neg h0, if_neg (by omega)]
    have hhi : ∀ j, 24 + 4 * i ≤ j → j < 24 + 4 * (c - 1) → drp N i (c - 1) (4 * (c - 1)) j = N (j + 4) := by
      intro j h0 hj
      unfold drp
      rw [if_neg (by omega), if_pos (by omega)]
    refine ⟨if_pos rfl, by omega, by rw [hlo _ (by omega) (by omega)]; exact w3, w4, w5, fun j hj => by rw [hlo _ (by omega) (by omega)]; exact w6 j hj, fun j hj => by rw [hlo _ (by omega) (by omega)]; exact w7 j hj, ?_, fun j hj => by rw [hlo _ (by omega) (by omega)]; exact w9 j hj⟩
    intro i' hi'
    by_cases hii : i' < i
    · rw [hlo _ (by omega) (by omega), hlo _ (by omega) (by omega), hlo _ (by omega) (by omega), hlo _ (by omega) (by omega)]
      exact w8 i' (by omega)
    · rw [hhi _ (by omega) (by omega), hhi _ (by omega) (by omega), hhi _ (by omega) (by omega), hhi _ (by omega) (by omega)]
      have := w8 (i' + 1) (by omega)
      rw [show 24 + 4 * (i' + 1) = 24 + 4 * i' + 4 by omega] at this
      rw [show 24 + 4 * i' + 1 + 4 = 24 + 4 * i' + 4 + 1 by omega, show 24 + 4 * i' + 2 + 4 = 24 + 4 * i' + 4 + 2 by omega, show 24 + 4 * i' + 3 + 4 = 24 + 4 * i' + 4 + 3 by omega]
      exact this
  · rw [if_neg h]; exact okR_2 hw
theorem wf_tab {N : Nat → Int32} {c b : Nat} (hw : wf N c b) (i v : Int32) : okR N (spTab N i v) := by
  unfold spTab
  by_cases h : (inb i 16 && inb v 16) = true
  · obtain ⟨h1, h2⟩ := Bool.and_eq_true_iff.mp h
    obtain ⟨k, hk, e⟩ := inb_ex h1 (by decide)
    subst e
    rw [if_pos h, nI_clamp (show k < 2 ^ 31 by omega)]
    refine okR_n (inb_nn (hw.2.2.2.2.2.2.1 k hk) (by decide)) c b ?_
    obtain ⟨w1, w2, w3, w4, w5, w6, w7, w8, w9⟩ := hw
    refine ⟨by rw [upd_ne (by omega)]; exact w1, w2, by rw [upd_ne (by omega)]; exact w3, w4, w5, fun j hj => by rw [upd_ne (by omega)]; exact w6 j hj, fun j hj => ?_, fun i hi => by rw [upd_ne (by omega), upd_ne (by omega), upd_ne (by omega), upd_ne (by omega)]; exact w8 i hi, fun j hj => by rw [upd_ne (by omega)]; exact w9 j hj⟩
    by_cases hjk : j = k
    · rw [hjk, upd_at]; exact h2
    · rw [upd_ne (by omega)]; exact w7 j hj
  · rw [if_neg h]; exact okR_2 hw
theorem wf_sta {N : Nat → Int32} {c b : Nat} (hw : wf N c b) (i v : Int32) : okR N (spSta N i v) := by
  unfold spSta
  by_cases h : (inb i 6 && inb v 16) = true
  · obtain ⟨h1, h2⟩ := Bool.and_eq_true_iff.mp h
    obtain ⟨k, hk, e⟩ := inb_ex h1 (by decide)
    subst e
    rw [if_pos h, nI_clamp (show k < 2 ^ 31 by omega)]
    refine okR_n (inb_nn (hw.2.2.2.2.2.1 k hk) (by decide)) c b ?_
    obtain ⟨w1, w2, w3, w4, w5, w6, w7, w8, w9⟩ := hw
    refine ⟨by rw [upd_ne (by omega)]; exact w1, w2, by rw [upd_ne (by omega)]; exact w3, w4, w5, fun j hj => ?_, fun j hj => by rw [upd_ne (by omega)]; exact w7 j hj, fun i hi => by rw [upd_ne (by omega), upd_ne (by omega), upd_ne (by omega), upd_ne (by omega)]; exact w8 i hi, fun j hj => by rw [upd_ne (by omega)]; exact w9 j hj⟩
    by_cases hjk : j = k
    · rw [hjk, upd_at]; exact h2
    · rw [upd_ne (by omega)]; exact w6 j hj
  · rw [if_neg h]; exact okR_2 hw
theorem wf_sec {N : Nat → Int32} {c s : Nat} (hw : wf N c s) (x b : Int32) : okR N (spSec N s x b) := by
  unfold spSec
  by_cases h : (inb x 6 && inb b 2) = true
  · obtain ⟨h1, h2⟩ := Bool.and_eq_true_iff.mp h
    obtain ⟨k, hk, e⟩ := inb_ex h1 (by decide)
    obtain ⟨d, hd, e2⟩ := inb_ex h2 (by decide)
    subst e
    subst e2
    rw [if_pos h, nI_clamp (show k < 2 ^ 31 by omega), nI_clamp (show d < 2 ^ 31 by omega)]
    by_cases hb : nI d = 1 ∧ pop6 (oth s k) = 2
    · rw [if_pos hb]; exact okR_4 hw
    · rw [if_neg hb]
      obtain ⟨w1, w2, w3, w4, w5, w6, w7, w8, w9⟩ := hw
      obtain ⟨_, p1, p2, _⟩ := p_oth s w4 k hk
      obtain ⟨_, p3, p4⟩ := p_set s w4 k hk d hd
      have hp : pop6 (oth s k) + d ≤ 2 := by
        by_cases hd1 : d = 1
        · have : ¬ pop6 (oth s k) = 2 := fun q => hb ⟨by rw [hd1]; rfl, q⟩
          omega
        · omega
      refine okR_n (nI_nn (by omega)) c (oth s k + d * 2 ^ k) ?_
      exact ⟨by rw [upd_ne (by omega)]; exact w1, w2, upd_at, p3, by rw [p4]; exact hp, fun j hj => by rw [upd_ne (by omega)]; exact w6 j hj, fun j hj => by rw [upd_ne (by omega)]; exact w7 j hj, fun i hi => by rw [upd_ne (by omega), upd_ne (by omega), upd_ne (by omega), upd_ne (by omega)]; exact w8 i hi, fun j hj => by rw [upd_ne (by omega)]; exact w9 j hj⟩
  · rw [if_neg h]; exact okR_2 hw
/-! the relation -/
def rF (N : Nat → Int32) (ff : Int32) (cm ta kn : Nat → Int32) : Prop := ff = 0 ∨ ff = 1 ∧ ∀ c b, wf N c b → FRel c cm ta kn (flw N c b)
def rV (N : Nat → Int32) (sf un ot' : Int32) : Prop := sf = 0 ∨ sf = 1 ∧ ∀ c b, wf N c b → un = nI (unq (rnL N c b) (sE b)).length ∧ ot' = oN (ot (rnL N c b) (sE b))
def rH (od sz : Int32) (h0 h1 h2 h3 h4 past : Nat → Int32) (st : Int32) : Prop := ∃ o z, od = nI o ∧ sz = nI z ∧ st = nI z ∧ RG o z (h5 h0 h1 h2 h3 h4) past
def rC (bc nc fc : Int32) (rf : Nat → Int32) : Prop := bc = rf 0 ∧ nc = rf 1 ∧ fc = rf 2
def rT (tb : Nat → Int32) (tl : Int32) (tx : Nat → Int32) (ln : Int32) : Prop := tx = tb ∧ ∃ n, n ≤ 120 ∧ tl = nI n ∧ ln = nI n
def RR (S : CS) (M : MS) : Prop := (∃ c b, wf S.program_N c b) ∧ M.now = S.program_N ∧ rH S.history_oldest S.history_size S.history0_N S.history1_N S.history2_N S.history3_N S.history4_N M.past M.states ∧ rC S.badCalls S.noCalls S.fullCalls M.refusals ∧ rT S.text_bytes S.text_length M.text M.length ∧ M.isOther = 0 ∧ rF S.program_N S.flowFresh S.flow_come S.flow_taints S.flow_knowns ∧ rV S.program_N S.surveyFresh S.survey_unlike S.survey_other
theorem wf_u {N : Nat → Int32} {c b c' b' : Nat} (h : wf N c b) (h' : wf N c' b') : c = c' ∧ b = b' := by
  have h1 := h.1.symm.trans h'.1
  have h2 := h.2.2.1.symm.trans h'.2.2.1
  have := h.2.1; have := h'.2.1; have := h.2.2.2.1; have := h'.2.2.2.1
  exact ⟨(nI_eq (by omega) (by omega)).mp h1, (nI_eq (by omega) (by omega)).mp h2⟩
/-! refusals -/
theorem cnt2 {bc nc fc : Int32} {rf : Nat → Int32} (h : rC bc nc fc rf) : f6_counted bc nc fc (-2) = some (-2, bc + 1, nc, fc) ∧ f7_bad rf = some (-2, upd rf 0 (rf 0 + 1)) ∧ rC (bc + 1) nc fc (upd rf 0 (rf 0 + 1)) := by
  refine ⟨rfl, rfl, by rw [upd_at, h.1], ?_, ?_⟩
  · rw [upd_ne (by decide)]; exact h.2.1
  · rw [upd_ne (by decide)]; exact h.2.2
theorem cnt3 {bc nc fc : Int32} {rf : Nat → Int32} (h : rC bc nc fc rf) : f6_counted bc nc fc (-3) = some (-3, bc, nc + 1, fc) ∧ f7_no rf = some (-3, upd rf 1 (rf 1 + 1)) ∧ rC bc (nc + 1) fc (upd rf 1 (rf 1 + 1)) := by
  refine ⟨rfl, rfl, ?_, by rw [upd_at, h.2.1], ?_⟩
  · rw [upd_ne (by decide)]; exact h.1
  · rw [upd_ne (by decide)]; exact h.2.2
theorem cnt4 {bc nc fc : Int32} {rf : Nat → Int32} (h : rC bc nc fc rf) : f6_counted bc nc fc (-4) = some (-4, bc, nc, fc + 1) ∧ f7_full rf = some (-4, upd rf 2 (rf 2 + 1)) ∧ rC bc nc (fc + 1) (upd rf 2 (rf 2 + 1)) := by
  refine ⟨rfl, rfl, ?_, ?_, by rw [upd_at, h.2.2]⟩
  · rw [upd_ne (by decide)]; exact h.1
  · rw [upd_ne (by decide)]; exact h.2.1
