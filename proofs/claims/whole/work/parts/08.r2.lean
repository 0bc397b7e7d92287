/-! calls that change the program -/
theorem RR_i {S : CS} {M : MS} (h1 : ∃ c b, wf S.program_N c b) (h2 : M.now = S.program_N) (h3 : rH S.history_oldest S.history_size S.history0_N S.history1_N S.history2_N S.history3_N S.history4_N M.past M.states) (h4 : rC S.badCalls S.noCalls S.fullCalls M.refusals) (h5 : rT S.text_bytes S.text_length M.text M.length) (h6 : M.isOther = 0) (h7 : rF S.program_N S.flowFresh S.flow_come S.flow_taints S.flow_knowns) (h8 : rV S.program_N S.surveyFresh S.survey_unlike S.survey_other) : RR S M := ⟨h1, h2, h3, h4, h5, h6, h7, h8⟩
theorem i_0le {v : Int32} (h : ¬ v < 0) : 0 ≤ v := by rw [i_le]; rw [i_lt] at h; omega
theorem i_n0le {v : Int32} (h : v < 0) : ¬ 0 ≤ v := by rw [i_le]; rw [i_lt] at h; omega
theorem adopt6 {N N' : Nat → Int32} {o z : Nat} {h0 h1 h2 h3 h4 P A : Nat → Int32} {c b : Nat} (hw : wf N c b) (hG : RG o z (h5 h0 h1 h2 h3 h4) P) (hA : ∀ j, j < 104 → A j = N j) (ff sf : Int32) : ∃ (od' sz' : Int32) (a b c d e : Nat → Int32) (P' : Nat → Int32) (st' : Int32), f6_adoptSketch N' ff sf N (nI o) (nI z) h0 h1 h2 h3 h4 = some (0, 0, N', od', sz', a, b, c, d, e) ∧ f7_leaves A P (nI z) = some (P', st') ∧ rH od' sz' a b c d e P' st' := by
  obtain ⟨a, b2, c2, d, e, hk, hh⟩ := keep1 N h0 h1 h2 h3 h4 hG.1 hG.2.1
  refine ⟨_, _, a, b2, c2, d, e, lvP A P z, _, ?_, leave7 A P hG.2.1, _, _, rfl, rfl, rfl, RG_keep hG hw hA hh⟩
  unfold f6_adoptSketch
  rw [hk]
  rfl
theorem settle {S : CS} {M : MS} (hR : RR S M) {p : Int32 × (Nat → Int32)} (hp : okR S.program_N p) (A : Nat → Int32) : ∃ (v ff sf bc nc fc od sz : Int32) (a b c d e : Nat → Int32) (P : Nat → Int32) (st : Int32) (rf : Nat → Int32), f6_settled p.2 S.flowFresh S.surveyFresh S.badCalls S.noCalls S.fullCalls S.program_N S.history_oldest S.history_size S.history0_N S.history1_N S.history2_N S.history3_N S.history4_N p.1 = some (v, ff, sf, bc, nc, fc, p.2, od, sz, a, b, c, d, e) ∧ f7_answers (cpN M.now A 104) M.past M.states M.refusals p.1 = some (v, P, st, rf) ∧ rH od sz a b c d e P st ∧ rC bc nc fc rf ∧ rF p.2 ff S.flow_come S.flow_taints S.flow_knowns ∧ rV p.2 sf S.survey_unlike S.survey_other := by
  obtain ⟨⟨c, b, hw⟩, hn, ⟨o, z, ho, hz, hst, hG⟩, hC, hT, hO, hF, hV⟩ := hR
  unfold f6_settled f7_answers
  by_cases hv : p.1 < 0
  · obtain ⟨h24, he⟩ := hp.1 hv
    rw [if_neg (i_n0le hv), if_pos hv, he]
    rcases h24 with h2 | h2
    · obtain ⟨q1, q2, q3⟩ := cnt2 hC
      rw [h2, if_neg (by decide +kernel), q1, q2]
      exact ⟨_, _, _, _, _, _, _, _, _, _, _, _, _, _, _, _, rfl, rfl, ⟨o, z, ho, hz, hst, hG⟩, q3, hF, hV⟩
    · obtain ⟨q1, q2, q3⟩ := cnt4 hC
      rw [h2, if_pos rfl, q1, q2]
      exact ⟨_, _, _, _, _, _, _, _, _, _, _, _, _, _, _, _, rfl, rfl, ⟨o, z, ho, hz, hst, hG⟩, q3, hF, hV⟩
  · rw [if_pos (i_0le hv), if_neg hv, ho, hz, hst]
    obtain ⟨od', sz', a, b2, c2, d, e, P', st', k1, k2, k3⟩ := adopt6 (N' := p.2) (A := cpN M.now A 104) hw hG (fun j hj => by rw [← hn]; exact if_pos hj) S.flowFresh S.surveyFresh
    rw [k1, k2]
    exact ⟨_, _, _, _, _, _, _, _, _, _, _, _, _, _, _, _, rfl, rfl, k3, hC, Or.inl rfl, Or.inl rfl⟩
theorem call_line {S : CS} {M : MS} (h : RR S M) (v0 v1 v2 v3 : Int32) : ∃ r6 r7, F6_line S v0 v1 v2 v3 = some r6 ∧ F7_line M v0 v1 v2 v3 = some r7 ∧ a6_line r6 = a7_line r7 ∧ RR (s6_line S r6) (s7_line M r7) := by
  have h' := h
  obtain ⟨⟨c, b, hw⟩, hn, hH, hC, hT, hO, hF, hV⟩ := h'
  have hp := wf_add hw v0 v1 v2 v3
  obtain ⟨v, ff, sf, bc, nc, fc, od, sz, a, b2, c2, d, e, P, st, rf, k1, k2, k3, k4, k5, k6⟩ := settle h hp M.aside
  unfold F6_line F7_line f6_line f7_line
  rw [show f6_sketched S.program_N S.sketch_N = some S.program_N from rfl, Option.bind_some, p_add2 hw.1 hw.2.1, Option.bind_some, k1, Option.bind_some, layA7, Option.bind_some, show f7_addsLine M.now v0 v1 v2 v3 = some (spAdd S.program_N c v0 v1 v2 v3) from by rw [hn]; exact p_add7 hw.1 hw.2.1 .., Option.bind_some, k2]
  exact ⟨_, _, rfl, rfl, rfl, RR_i hp.2 rfl k3 k4 hT hO k5 k6⟩
theorem call_drops {S : CS} {M : MS} (h : RR S M) (v0 : Int32) : ∃ r6 r7, F6_drops S v0 = some r6 ∧ F7_drops M v0 = some r7 ∧ a6_drops r6 = a7_drops r7 ∧ RR (s6_drops S r6) (s7_drops M r7) := by
  have h' := h
  obtain ⟨⟨c, b, hw⟩, hn, hH, hC, hT, hO, hF, hV⟩ := h'
  have hp := wf_drop hw v0
  obtain ⟨v, ff, sf, bc, nc, fc, od, sz, a, b2, c2, d, e, P, st, rf, k1, k2, k3, k4, k5, k6⟩ := settle h hp M.aside
  unfold F6_drops F7_drops f6_drops f7_drops
  rw [show f6_sketched S.program_N S.sketch_N = some S.program_N from rfl, Option.bind_some, p_drop2 hw.1 hw.2.1, Option.bind_some, k1, Option.bind_some, layA7, Option.bind_some, show f7_dropsLine M.now v0 = some (spDrop S.program_N c v0) from by rw [hn]; exact p_drop7 hw.1 hw.2.1 .., Option.bind_some, k2]
  exact ⟨_, _, rfl, rfl, rfl, RR_i hp.2 rfl k3 k4 hT hO k5 k6⟩
theorem call_table {S : CS} {M : MS} (h : RR S M) (v0 v1 : Int32) : ∃ r6 r7, F6_table S v0 v1 = some r6 ∧ F7_table M v0 v1 = some r7 ∧ a6_table r6 = a7_table r7 ∧ RR (s6_table S r6) (s7_table M r7) := by
  have h' := h
  obtain ⟨⟨c, b, hw⟩, hn, hH, hC, hT, hO, hF, hV⟩ := h'
  have hp := wf_tab hw v0 v1
  obtain ⟨v, ff, sf, bc, nc, fc, od, sz, a, b2, c2, d, e, P, st, rf, k1, k2, k3, k4, k5, k6⟩ := settle h hp M.aside
  unfold F6_table F7_table f6_table f7_table
  rw [show f6_sketched S.program_N S.sketch_N = some S.program_N from rfl, Option.bind_some, p_tab2, Option.bind_some, k1, Option.bind_some, layA7, Option.bind_some, show f7_setsTable M.now v0 v1 = some (spTab S.program_N v0 v1) from by rw [hn]; exact p_tab7 .., Option.bind_some, k2]
  exact ⟨_, _, rfl, rfl, rfl, RR_i hp.2 rfl k3 k4 hT hO k5 k6⟩
theorem call_start {S : CS} {M : MS} (h : RR S M) (v0 v1 : Int32) : ∃ r6 r7, F6_start S v0 v1 = some r6 ∧ F7_start M v0 v1 = some r7 ∧ a6_start r6 = a7_start r7 ∧ RR (s6_start S r6) (s7_start M r7) := by
  have h' := h
  obtain ⟨⟨c, b, hw⟩, hn, hH, hC, hT, hO, hF, hV⟩ := h'
  have hp := wf_sta hw v0 v1
  obtain ⟨v, ff, sf, bc, nc, fc, od, sz, a, b2, c2, d, e, P, st, rf, k1, k2, k3, k4, k5, k6⟩ := settle h hp M.aside
  unfold F6_start F7_start f6_start f7_start
  rw [show f6_sketched S.program_N S.sketch_N = some S.program_N from rfl, Option.bind_some, p_sta2, Option.bind_some, k1, Option.bind_some, layA7, Option.bind_some, show f7_setsStart M.now v0 v1 = some (spSta S.program_N v0 v1) from by rw [hn]; exact p_sta7 .., Option.bind_some, k2]
  exact ⟨_, _, rfl, rfl, rfl, RR_i hp.2 rfl k3 k4 hT hO k5 k6⟩
theorem call_secret {S : CS} {M : MS} (h : RR S M) (v0 v1 : Int32) : ∃ r6 r7, F6_secret S v0 v1 = some r6 ∧ F7_secret M v0 v1 = some r7 ∧ a6_secret r6 = a7_secret r7 ∧ RR (s6_secret S r6) (s7_secret M r7) := by
  have h' := h
  obtain ⟨⟨c, b, hw⟩, hn, hH, hC, hT, hO, hF, hV⟩ := h'
  have hp := wf_sec hw v0 v1
  obtain ⟨v, ff, sf, bc, nc, fc, od, sz, a, b2, c2, d, e, P, st, rf, k1, k2, k3, k4, k5, k6⟩ := settle h hp M.aside
  unfold F6_secret F7_secret f6_secret f7_secret
  rw [show f6_sketched S.program_N S.sketch_N = some S.program_N from rfl, Option.bind_some, p_sec2 hw.2.2.1 hw.2.2.2.1 hw.2.2.2.2.1, Option.bind_some, k1, Option.bind_some, layA7, Option.bind_some, show f7_setsSecret M.now v0 v1 = some (spSec S.program_N b v0 v1) from by rw [hn]; exact p_sec7 hw.2.2.1 hw.2.2.2.1 hw.2.2.2.2.1 .., Option.bind_some, k2]
  exact ⟨_, _, rfl, rfl, rfl, RR_i hp.2 rfl k3 k4 hT hO k5 k6⟩
theorem call_back {S : CS} {M : MS} (h : RR S M) : ∃ r6 r7, F6_back S = some r6 ∧ F7_back M = some r7 ∧ a6_back r6 = a7_back r7 ∧ RR (s6_back S r6) (s7_back M r7) := by
  obtain ⟨⟨c, b, hw⟩, hn, ⟨o, z, ho, hz, hst, hG⟩, hC, hT, hO, hF, hV⟩ := h
  unfold F6_back F7_back f6_back
  cases z with
  | zero =>
    unfold f7_back
    obtain ⟨q1, q2, q3⟩ := cnt3 hC
    rw [if_pos (show S.history_size = 0 from hz), if_pos (show M.states = 0 from hst), q1, q2]
    exact ⟨_, _, rfl, rfl, rfl, RR_i ⟨c, b, hw⟩ hn ⟨o, 0, ho, hz, hst, hG⟩ q3 hT hO hF hV⟩
  | succ z =>
    have hz5 := hG.2.1
    obtain ⟨k1, k2, k3⟩ := RG_back hG (hn ▸ hw)
    rw [hst, hz, ho, if_neg (fun q => by have := (nI_is 0 (b := (0 : Int32)) rfl (by omega) (by decide)).mp q; omega), rest1 S.program_N _ _ _ _ _ hG.1 (by omega), Option.bind_some, show f6_forget S.flowFresh S.surveyFresh = some (0, 0) from rfl, Option.bind_some, back7 M.past M.now (by omega) M.refusals, k3]
    exact ⟨_, _, rfl, rfl, rfl, RR_i k2 rfl ⟨o, z, ho, rfl, rfl, k1⟩ hC hT hO (Or.inl rfl) (Or.inl rfl)⟩
/-! calls on the text -/
theorem call_clear {S : CS} {M : MS} (h : RR S M) : ∃ r6 r7, F6_clear S = some r6 ∧ F7_clear M = some r7 ∧ a6_clear r6 = a7_clear r7 ∧ RR (s6_clear S r6) (s7_clear M r7) := by
  obtain ⟨hw, hn, hH, hC, ⟨hT, n, hn1, hn2, hn3⟩, hO, hF, hV⟩ := h
  refine ⟨(S.text_length, 0), (M.length, 0), rfl, rfl, hn2.trans hn3.symm, RR_i hw hn hH hC ⟨hT, 0, by decide, rfl, rfl⟩ hO hF hV⟩
theorem call_type {S : CS} {M : MS} (h : RR S M) (v0 : Int32) : ∃ r6 r7, F6_type S v0 = some r6 ∧ F7_type M v0 = some r7 ∧ a6_type r6 = a7_type r7 ∧ RR (s6_type S r6) (s7_type M r7) := by
  obtain ⟨hw, hn, hH, hC, ⟨hT, n, hn1, hn2, hn3⟩, hO, hF, hV⟩ := h
  have hT0 : rT S.text_bytes S.text_length M.text M.length := ⟨hT, n, hn1, hn2, hn3⟩
  unfold F6_type F7_type f6_type f7_type
  rw [w6 v0 128 (by decide +kernel), w7 v0 128 (by decide +kernel), Option.bind_some, Option.bind_some]
  cases hb : inb v0 128 with
  | false =>
    obtain ⟨q1, q2, q3⟩ := cnt2 hC
    rw [b01_f0, if_pos rfl, if_pos rfl, q1, q2]
    exact ⟨_, _, rfl, rfl, rfl, RR_i hw hn hH q3 hT0 hO hF hV⟩
  | true =>
    rw [b01_t1, if_neg one_ne, if_neg one_ne]
    unfold f5_append
    rw [hn2, hn3]
    by_cases hn5 : n < 120
    · have e : nI n + (1 : Int32) = nI (n + 1) := nI_add ..
      rw [if_pos (show nI n < (120 : Int32) from (nI_ltI (b := 120) (by omega) (by decide)).mpr hn5), if_neg (show ¬ nI n = (120 : Int32) from fun q => by have := (nI_is 120 (b := (120 : Int32)) rfl (by omega) (by decide)).mp q; omega), inb_nI hn5 (by decide), nI_clamp (show n < 2 ^ 31 by omega), ck_t, ck_t, e, Option.bind_some]
      dsimp only
      rw [if_pos (nI_0le (by omega))]
      exact ⟨_, _, rfl, rfl, rfl, RR_i hw hn hH hC ⟨congrArg (fun t => upd t n v0) hT, n + 1, by omega, rfl, rfl⟩ hO hF hV⟩
    · obtain ⟨q1, q2, q3⟩ := cnt4 hC
      rw [if_neg (show ¬ nI n < (120 : Int32) from fun q => by have := (nI_ltI (b := 120) (by omega) (by decide)).mp q; omega), if_pos (show nI n = (120 : Int32) by rw [show n = 120 by omega]; rfl), Option.bind_some]
      dsimp only
      rw [if_neg (by decide +kernel), q1, q2]
      exact ⟨_, _, rfl, rfl, rfl, RR_i hw hn hH q3 ⟨hT, n, by omega, rfl, rfl⟩ hO hF hV⟩
