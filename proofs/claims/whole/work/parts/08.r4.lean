/-! calls that tell -/
theorem of_in {v : Int32} {n : Nat} (h : inb v n = true) (hn : n < 2 ^ 31) : ∃ j, j < n ∧ v = nI j := inb_ex h hn
theorem VR_eq {A B : Nat → Int32} {V : Nat → Nat} (hA : VR A V) (hB : VR B V) {j : Nat} (h : j < 6) : A j = B j := (hA j h).1.trans (hB j h).1.symm
theorem outc {A B : Nat → Int32} {V : Nat → Nat} (hA : VR A V) (hB : VR B V) (m st : Int32) (ct : Bool) {k : Nat} (hk : k < 9) : ∃ v, f3_outcome A m st (b01 ct) (nI k) = some v ∧ f7_tellRun B m st (b01 ct) (nI k) = some v := by
  unfold f3_outcome f7_tellRun
  have hc : k = 0 ∨ k = 1 ∨ k = 2 ∨ k ≥ 3 := by omega
  rcases hc with rfl | rfl | rfl | h3
  · exact ⟨_, rfl, rfl⟩
  · cases ct <;> exact ⟨_, rfl, rfl⟩
  · exact ⟨_, rfl, rfl⟩
  · obtain ⟨j, rfl⟩ : ∃ j, k = j + 3 := ⟨k - 3, by omega⟩
    have e : nI (j + 3) - (3 : Int32) = nI j := by
      rw [← show nI j + (3 : Int32) = nI (j + 3) from nI_add .., Int32.add_sub_cancel]
    rw [if_neg (fun q => by have := (nI_is 0 (b := (0 : Int32)) rfl (by omega) (by decide)).mp q; omega), if_neg (fun q => by have := (nI_is 1 (b := (1 : Int32)) rfl (by omega) (by decide)).mp q; omega), if_neg (fun q => by have := (nI_is 2 (b := (2 : Int32)) rfl (by omega) (by decide)).mp q; omega), e, inb_nI (show j < 6 by omega) (by decide), nI_clamp (show j < 2 ^ 31 by omega), ck_t]
    exact ⟨_, rfl, by rw [if_neg (fun q => by have := (nI_is 0 (b := (0 : Int32)) rfl (by omega) (by decide)).mp q; omega), if_neg (fun q => by have := (nI_is 1 (b := (1 : Int32)) rfl (by omega) (by decide)).mp q; omega), if_neg (fun q => by have := (nI_is 2 (b := (2 : Int32)) rfl (by omega) (by decide)).mp q; omega), ck_t, VR_eq hA hB (show j < 6 by omega)]⟩
theorem call_run {S : CS} {M : MS} (h : RR S M) (v0 v1 : Int32) : ∃ r6 r7, F6_run S v0 v1 = some r6 ∧ F7_run M v0 v1 = some r7 ∧ a6_run r6 = a7_run r7 ∧ RR (s6_run S r6) (s7_run M r7) := by
  obtain ⟨⟨c, b, hw⟩, hn, hH, hC, hT, hO, hF, hV⟩ := h
  obtain ⟨q1, q2, q3⟩ := cnt2 hC
  have hE := sE_b hw.2.2.2.2.1
  unfold F6_run F7_run f6_run f7_run f6_run_20
  rw [hn, has2 hw, isS7 hw, Option.bind_some, Option.bind_some]
  cases hb : inb v0 (sE b) with
  | false =>
    rw [b01_f0, if_pos rfl, if_pos rfl, q1, q2]
    exact ⟨_, _, rfl, rfl, rfl, RR_i ⟨c, b, hw⟩ hn hH q3 hT hO hF hV⟩
  | true =>
    obtain ⟨s, hs, e⟩ := inb_ex hb (by omega)
    subst e
    rw [b01_t1, if_neg one_ne, if_neg one_ne, w6 v1 9 (by decide +kernel), w7 v1 9 (by decide +kernel), Option.bind_some, Option.bind_some]
    cases hb1 : inb v1 9 with
    | false =>
      rw [b01_f0, if_pos rfl, if_pos rfl, q1, q2]
      exact ⟨_, _, rfl, rfl, rfl, RR_i ⟨c, b, hw⟩ hn hH q3 hT hO hF hV⟩
    | true =>
      obtain ⟨k, hk, e⟩ := inb_ex hb1 (by omega)
      subst e
      obtain ⟨A1, r1, r2, r3, r4, r5⟩ := run3 hw (show s < 2 ^ 31 by omega) S.first_values S.first_sights S.first_seenCount S.first_steps S.first_cut
      obtain ⟨A2, t1, t2⟩ := run7 hw (show s < 2 ^ 31 by omega) (show 0 < 256 by decide) M.vars M.sights M.many M.steps M.isCut
      rw [b01_t1, if_neg one_ne, if_neg one_ne, r1, show f7_goes S.program_N M.vars M.sights M.many M.steps M.isCut (0 : Int32) (nI s) = _ from t1, Option.bind_some, Option.bind_some]
      dsimp only
      obtain ⟨v, u1, u2⟩ := outc r2 t2 (nI (rnL S.program_N c b s).length) (nI (rnS S.program_N c b s)) (rnC S.program_N c b s) hk
      rw [u1, u2]
      exact ⟨_, _, rfl, rfl, rfl, RR_i ⟨c, b, hw⟩ hn hH hC hT hO hF hV⟩
theorem call_sight {S : CS} {M : MS} (h : RR S M) (v0 v1 : Int32) : ∃ r6 r7, F6_sight S v0 v1 = some r6 ∧ F7_sight M v0 v1 = some r7 ∧ a6_sight r6 = a7_sight r7 ∧ RR (s6_sight S r6) (s7_sight M r7) := by
  obtain ⟨⟨c, b, hw⟩, hn, hH, hC, hT, hO, hF, hV⟩ := h
  obtain ⟨q1, q2, q3⟩ := cnt2 hC
  have hE := sE_b hw.2.2.2.2.1
  unfold F6_sight F7_sight f6_sight f7_sight f6_sight_15
  rw [hn, has2 hw, isS7 hw, Option.bind_some, Option.bind_some]
  cases hb : inb v0 (sE b) with
  | false =>
    rw [b01_f0, if_pos rfl, if_pos rfl, q1, q2]
    exact ⟨_, _, rfl, rfl, rfl, RR_i ⟨c, b, hw⟩ hn hH q3 hT hO hF hV⟩
  | true =>
    obtain ⟨s, hs, e⟩ := inb_ex hb (by omega)
    subst e
    rw [b01_t1, if_neg one_ne, if_neg one_ne]
    by_cases hv : 0 ≤ v1
    · obtain ⟨A1, r1, r2, r3, r4, r5⟩ := run3 hw (show s < 2 ^ 31 by omega) S.first_values S.first_sights S.first_seenCount S.first_steps S.first_cut
      obtain ⟨A2, t1, t2⟩ := run7 hw (show s < 2 ^ 31 by omega) (show 0 < 256 by decide) M.vars M.sights M.many M.steps M.isCut
      rw [if_pos hv, if_pos hv, r1, show f7_goes S.program_N M.vars M.sights M.many M.steps M.isCut (0 : Int32) (nI s) = _ from t1, Option.bind_some, Option.bind_some]
      dsimp only
      have hin : ∀ t, t < (rnL S.program_N c b s).length → putL S.first_sights 0 (rnL S.program_N c b s) t = nI ((rnL S.program_N c b s).getD t 0) := fun t ht => by
        have := putL_in (rnL S.program_N c b s) S.first_sights 0 t ht
        rw [Nat.zero_add] at this
        exact this
      rw [seen3 r3 hin v1, Option.bind_some]
      cases hi : inb v1 (rnL S.program_N c b s).length with
      | true =>
        obtain ⟨k, hk, e⟩ := inb_ex hi (by omega)
        subst e
        have hrow := row_in (sg := M.sights) (L := rnL S.program_N c b s) (r := 0) k (by omega)
        rw [if_pos rfl, if_neg (show ¬ nI (rnL S.program_N c b s).length ≤ nI k from fun q => by have := (nI_leI (by omega) (by omega)).mp q; omega), inb_nI (show k < 15616 by omega) (by decide), nI_clamp (show k < 2 ^ 31 by omega), ck_t]
        refine ⟨_, _, rfl, rfl, ?_, RR_i ⟨c, b, hw⟩ hn hH hC hT hO hF hV⟩
        show nI ((rnL S.program_N c b s).getD k 0) = padL (putL M.sights (61 * 0) (rnL S.program_N c b s)) 0 (rnL S.program_N c b s).length k
        rw [show k = 61 * 0 + k by omega, hrow]
        unfold rwL
        rw [show 61 * 0 + k = k by omega, if_pos hk]
      | false =>
        have hle : nI (rnL S.program_N c b s).length ≤ v1 := by
          rw [i_le, nI_toInt (by omega)]
          rcases inb_f hi with h1 | h1
          · rw [i_le] at hv
            have : (0 : Int32).toInt = 0 := by decide +kernel
            omega
          · exact h1
        rw [if_neg (by decide), if_pos hle]
        exact ⟨_, _, rfl, rfl, rfl, RR_i ⟨c, b, hw⟩ hn hH hC hT hO hF hV⟩
    · rw [if_neg hv, if_neg hv, q1, q2]
      exact ⟨_, _, rfl, rfl, rfl, RR_i ⟨c, b, hw⟩ hn hH q3 hT hO hF hV⟩
theorem call_parts {S : CS} {M : MS} (h : RR S M) (v0 v1 : Int32) : ∃ r6 r7, F6_parts S v0 v1 = some r6 ∧ F7_parts M v0 v1 = some r7 ∧ a6_parts r6 = a7_parts r7 ∧ RR (s6_parts S r6) (s7_parts M r7) := by
  obtain ⟨⟨c, b, hw⟩, hn, hH, hC, hT, hO, hF, hV⟩ := h
  obtain ⟨q1, q2, q3⟩ := cnt2 hC
  have hE := sE_b hw.2.2.2.2.1
  unfold F6_parts F7_parts f6_parts f7_parts f6_parts_22
  rw [hn, has2 hw, isS7 hw, Option.bind_some, Option.bind_some]
  cases hb : inb v0 (sE b) with
  | false =>
    rw [b01_f0, if_pos rfl, if_pos rfl, q1, q2]
    exact ⟨_, _, rfl, rfl, rfl, RR_i ⟨c, b, hw⟩ hn hH q3 hT hO hF hV⟩
  | true =>
    obtain ⟨s, hs, e⟩ := inb_ex hb (by omega)
    subst e
    rw [b01_t1, if_neg one_ne, if_neg one_ne, has2 hw, isS7 hw, Option.bind_some, Option.bind_some]
    cases hb1 : inb v1 (sE b) with
    | false =>
      rw [b01_f0, if_pos rfl, if_pos rfl, q1, q2]
      exact ⟨_, _, rfl, rfl, rfl, RR_i ⟨c, b, hw⟩ hn hH q3 hT hO hF hV⟩
    | true =>
      obtain ⟨t, ht, e⟩ := inb_ex hb1 (by omega)
      subst e
      obtain ⟨A1, r1, r2, r3, r4, r5⟩ := run3 hw (show s < 2 ^ 31 by omega) S.first_values S.first_sights S.first_seenCount S.first_steps S.first_cut
      obtain ⟨A2, g1, g2, g3, g4, g5⟩ := run3 hw (show t < 2 ^ 31 by omega) S.second_values S.second_sights S.second_seenCount S.second_steps S.second_cut
      obtain ⟨A3, t1, t2⟩ := run7 hw (show s < 2 ^ 31 by omega) (show 0 < 256 by decide) M.vars M.sights M.many M.steps M.isCut
      have hin : ∀ (sg : Nat → Int32) (s : Nat), ∀ t, t < (rnL S.program_N c b s).length → putL sg 0 (rnL S.program_N c b s) t = nI ((rnL S.program_N c b s).getD t 0) := fun sg s t ht => by
        have := putL_in (rnL S.program_N c b s) sg 0 t ht
        rw [Nat.zero_add] at this
        exact this
      rw [b01_t1, if_neg one_ne, if_neg one_ne, r1, Option.bind_some, g1, Option.bind_some, par3 r3 g3 (hin _ s) (hin _ t), show f7_goes S.program_N M.vars M.sights M.many M.steps M.isCut (0 : Int32) (nI s) = _ from t1, Option.bind_some, Option.bind_some]
      dsimp only
      obtain ⟨A4, t3, t4⟩ := run7 hw (show t < 2 ^ 31 by omega) (show 1 < 256 by decide) A3 (padL (putL M.sights (61 * 0) (rnL S.program_N c b s)) 0 (rnL S.program_N c b s).length) (nI (rnL S.program_N c b s).length) (nI (rnS S.program_N c b s)) (b01 (rnC S.program_N c b s))
      rw [show f7_goes S.program_N A3 (padL (putL M.sights (61 * 0) (rnL S.program_N c b s)) 0 (rnL S.program_N c b s).length) (nI (rnL S.program_N c b s).length) (nI (rnS S.program_N c b s)) (b01 (rnC S.program_N c b s)) (1 : Int32) (nI t) = _ from t3, Option.bind_some]
      dsimp only
      rw [show f7_partsAt (padL (putL (padL (putL M.sights (61 * 0) (rnL S.program_N c b s)) 0 (rnL S.program_N c b s).length) (61 * 1) (rnL S.program_N c b t)) 1 (rnL S.program_N c b t).length) (0 : Int32) (1 : Int32) = _ from par7 (by decide) (by decide) (row_out g3 (by decide) row_in) row_in]
      exact ⟨_, _, rfl, rfl, rfl, RR_i ⟨c, b, hw⟩ hn hH hC hT hO hF hV⟩
theorem surv {S : CS} {c b : Nat} (hw : wf S.program_N c b) (hV : rV S.program_N S.surveyFresh S.survey_unlike S.survey_other) (A sg : Nat → Int32) (sc sp cu : Int32) : ∃ (A' sg' : Nat → Int32) (sc' sp' cu' : Int32) (pk' : Nat → Int64), f6_surveyNow S.program_N S.surveyFresh A sg sc sp cu S.survey_packed S.survey_unlike S.survey_other = some (1, A', sg', sc', sp', cu', pk', nI (unq (rnL S.program_N c b) (sE b)).length, oN (ot (rnL S.program_N c b) (sE b))) := by
  unfold f6_surveyNow
  rcases hV with h | ⟨h, h2⟩
  · obtain ⟨pk', A', sg', sc', sp', cu', k⟩ := take4 hw S.survey_packed S.survey_unlike S.survey_other A sg sc sp cu
    rw [if_pos h, k]
    exact ⟨_, _, _, _, _, _, rfl⟩
  · obtain ⟨e1, e2⟩ := h2 c b hw
    rw [if_neg (by rw [h]; exact one_ne), h, e1, e2]
    exact ⟨_, _, _, _, _, _, rfl⟩
theorem rV_i {N : Nat → Int32} {c b : Nat} (hw : wf N c b) : rV N 1 (nI (unq (rnL N c b) (sE b)).length) (oN (ot (rnL N c b) (sE b))) := Or.inr ⟨rfl, fun c' b' hw' => by obtain ⟨rfl, rfl⟩ := wf_u hw hw'; exact ⟨rfl, rfl⟩⟩
theorem call_leak {S : CS} {M : MS} (h : RR S M) : ∃ r6 r7, F6_leak S = some r6 ∧ F7_leak M = some r7 ∧ a6_leak r6 = a7_leak r7 ∧ RR (s6_leak S r6) (s7_leak M r7) := by
  obtain ⟨⟨c, b, hw⟩, hn, hH, hC, hT, hO, hF, hV⟩ := h
  obtain ⟨A', sg', sc', sp', cu', pk', k⟩ := surv hw hV S.first_values S.first_sights S.first_seenCount S.first_steps S.first_cut
  obtain ⟨A2, sg2, mn2, sp2, cu2, k2⟩ := leak7 hw M.vars M.sights M.many M.steps M.isCut
  unfold F6_leak F7_leak f6_leak f7_leak
  rw [hn, k, k2]
  exact ⟨_, _, rfl, rfl, congrArg oN (ot_lk _ (sE_b hw.2.2.2.2.1).1), RR_i ⟨c, b, hw⟩ hn hH hC hT hO hF (rV_i hw)⟩
theorem call_rows {S : CS} {M : MS} (h : RR S M) : ∃ r6 r7, F6_rows S = some r6 ∧ F7_rows M = some r7 ∧ a6_rows r6 = a7_rows r7 ∧ RR (s6_rows S r6) (s7_rows M r7) := by
  obtain ⟨⟨c, b, hw⟩, hn, hH, hC, hT, hO, hF, hV⟩ := h
  obtain ⟨A', sg', sc', sp', cu', pk', k⟩ := surv hw hV S.first_values S.first_sights S.first_seenCount S.first_steps S.first_cut
  obtain ⟨A2, sg2, mn2, sp2, cu2, k2⟩ := rows7 hw M.vars M.sights M.many M.steps M.isCut
  unfold F6_rows F7_rows f6_rows f7_rows
  rw [hn, k, k2]
  exact ⟨_, _, rfl, rfl, rfl, RR_i ⟨c, b, hw⟩ hn hH hC hT hO hF (rV_i hw)⟩
theorem flown {S : CS} {c b : Nat} (hw : wf S.program_N c b) (hF : rF S.program_N S.flowFresh S.flow_come S.flow_taints S.flow_knowns) : ∃ (cm ta kn oK : Nat → Int32) (oT ch : Int32), f6_flowNow S.program_N S.flowFresh S.flow_come S.flow_taints S.flow_knowns S.flow_outKnowns S.flow_outTaints S.flow_changed = some (1, cm, ta, kn, oK, oT, ch) ∧ FRel c cm ta kn (flw S.program_N c b) := by
  unfold f6_flowNow
  rcases hF with h | ⟨h, h2⟩
  · obtain ⟨cm', ta', kn', oK', oT', k, hk⟩ := fnd0 hw S.flow_come S.flow_taints S.flow_knowns S.flow_outKnowns S.flow_outTaints S.flow_changed
    rw [if_pos h, k]
    exact ⟨_, _, _, _, _, _, rfl, hk⟩
  · rw [if_neg (by rw [h]; exact one_ne), h]
    exact ⟨_, _, _, _, _, _, rfl, h2 c b hw⟩
theorem rF_i {N : Nat → Int32} {c b : Nat} {cm ta kn : Nat → Int32} (hw : wf N c b) (h : FRel c cm ta kn (flw N c b)) : rF N 1 cm ta kn := Or.inr ⟨rfl, fun c' b' hw' => by obtain ⟨rfl, rfl⟩ := wf_u hw hw'; exact h⟩
theorem lay70 {N : Nat → Int32} {c b : Nat} (hw : wf N c b) (cm ta kn kw : Nat → Int32) (tn : Int32) {ot : Int32} (ho : ot = 0) : ∃ cm' ta' kn' kw' tn', f7_laysLines N cm ta kn tn kw ot = some (cm', ta', kn', tn', kw', 0) ∧ FRel c cm' ta' kn' (flw N c b) := by
  rw [ho]; exact lay7 hw cm ta kn kw tn false
theorem call_reached {S : CS} {M : MS} (h : RR S M) (v0 : Int32) : ∃ r6 r7, F6_reached S v0 = some r6 ∧ F7_reached M v0 = some r7 ∧ a6_reached r6 = a7_reached r7 ∧ RR (s6_reached S r6) (s7_reached M r7) := by
  obtain ⟨⟨c, b, hw⟩, hn, hH, hC, hT, hO, hF, hV⟩ := h
  obtain ⟨q1, q2, q3⟩ := cnt2 hC
  have hc := hw.2.1
  unfold F6_reached F7_reached f6_reached f7_reached f7_isEndToo
  rw [hn, hw.1, show nI c + (1 : Int32) = nI (c + 1) from nI_add .., w6 v0 (c + 1) (nI_toInt (by omega)), w7 v0 (c + 1) (by rw [nI_toInt (by omega)]; rfl), Option.bind_some, Option.bind_some, b01_isb, ck_t, Option.bind_some]
  cases hb : inb v0 (c + 1) with
  | false =>
    rw [b01_f0, if_pos rfl, if_pos rfl, q1, q2]
    exact ⟨_, _, rfl, rfl, rfl, RR_i ⟨c, b, hw⟩ hn hH q3 hT hO hF hV⟩
  | true =>
    obtain ⟨i, hi, e⟩ := inb_ex hb (by omega)
    subst e
    obtain ⟨cm, ta, kn, oK, oT, ch, k1, k2⟩ := flown hw hF
    obtain ⟨cm', ta', kn', kw', tn', k3, k4⟩ := lay70 hw M.isThere M.taints M.known M.knows M.taint hO
    have e1 := pl_isb k2 (show i ≤ c by omega)
    rw [b01_t1, if_neg one_ne, if_neg one_ne, k1, k3, Option.bind_some, Option.bind_some]
    unfold f0_comesTo
    dsimp only
    rw [inb_nI (show i < 21 by omega) (by decide), nI_clamp (show i < 2 ^ 31 by omega), e1, b01_isb, ck_t, ck_t, ck_t, Option.bind_some]
    cases hS : flw S.program_N c b i with
    | none =>
      rw [if_pos ((pl_none k4 (by omega)).mpr hS)]
      exact ⟨_, _, rfl, rfl, rfl, RR_i ⟨c, b, hw⟩ hn hH hC hT rfl (rF_i hw k2) hV⟩
    | some z =>
      rw [if_neg (show ¬ cm' i = 0 from fun q => by have := (pl_none k4 (by omega)).mp q; rw [hS] at this; cases this), Option.isSome_some, b01_t1, if_neg one_ne]
      exact ⟨_, _, rfl, rfl, rfl, RR_i ⟨c, b, hw⟩ hn hH hC hT rfl (rF_i hw k2) hV⟩
theorem call_accepted {S : CS} {M : MS} (h : RR S M) : ∃ r6 r7, F6_accepted S = some r6 ∧ F7_accepted M = some r7 ∧ a6_accepted r6 = a7_accepted r7 ∧ RR (s6_accepted S r6) (s7_accepted M r7) := by
  obtain ⟨⟨c, b, hw⟩, hn, hH, hC, hT, hO, hF, hV⟩ := h
  obtain ⟨cm, ta, kn, oK, oT, ch, k1, k2⟩ := flown hw hF
  obtain ⟨cm', ta', kn', kw', tn', k3⟩ := acc7 hw M.isThere M.taints M.known M.knows M.taint
  unfold F6_accepted F7_accepted f6_accepted f7_accepted
  rw [hn, hO, k1, k3, Option.bind_some, Option.bind_some]
  dsimp only
  rw [acc0 hw k2]
  exact ⟨_, _, rfl, rfl, rfl, RR_i ⟨c, b, hw⟩ hn hH hC hT rfl (rF_i hw k2) hV⟩
theorem call_alarm {S : CS} {M : MS} (h : RR S M) (v0 : Int32) : ∃ r6 r7, F6_alarm S v0 = some r6 ∧ F7_alarm M v0 = some r7 ∧ a6_alarm r6 = a7_alarm r7 ∧ RR (s6_alarm S r6) (s7_alarm M r7) := by
  obtain ⟨⟨c, b, hw⟩, hn, hH, hC, hT, hO, hF, hV⟩ := h
  obtain ⟨q1, q2, q3⟩ := cnt2 hC
  have hc := hw.2.1
  unfold F6_alarm F7_alarm f6_alarm f7_alarm
  by_cases hv : 0 ≤ v0
  · obtain ⟨m, hm, e⟩ : ∃ m : Nat, m < 2 ^ 31 ∧ v0 = nI m := by
      refine ⟨v0.toInt.toNat, ?_, ?_⟩
      · have := Int32.toInt_lt v0
        omega
      · rw [i_eq]
        rw [i_le] at hv
        have h0 : (0 : Int32).toInt = 0 := by decide +kernel
        have := Int32.toInt_lt v0
        rw [nI_toInt (by omega)]
        omega
    subst e
    obtain ⟨cm, ta, kn, oK, oT, ch, k1, k2⟩ := flown hw hF
    obtain ⟨cm', ta', kn', kw', tn', k3, k4⟩ := lay70 hw M.isThere M.taints M.known M.knows M.taint hO
    unfold f7_alarmNow
    rw [if_pos hv, if_pos hv, hn, k1, k3, Option.bind_some, Option.bind_some]
    dsimp only
    have g1 : f0_alarmAt cm ta S.program_N (nI m) = some (oN (nth S.program_N (flw S.program_N c b) c 0 m)) := alm0 hw k2 (nI m) c 1000 0 m (by omega) (by omega) hm
    have g2 : f7_alarmNow_8 S.program_N 1000 (cm', ta', kn', tn', kw', 0, nI m, 0, 0) = some (oN (nth S.program_N (flw S.program_N c b) c 0 m), cm', ta', kn', tn', kw', 0) := by
      have := alm7 hw k4 tn' 0 kw' hm c 1000 0 m (by omega) (by omega) (Nat.le_refl _)
      rw [Nat.sub_self] at this
      exact this
    rw [g1, g2]
    exact ⟨_, _, rfl, rfl, rfl, RR_i ⟨c, b, hw⟩ hn hH hC hT rfl (rF_i hw k2) hV⟩
  · rw [if_neg hv, if_neg hv, q1, q2]
    exact ⟨_, _, rfl, rfl, rfl, RR_i ⟨c, b, hw⟩ hn hH q3 hT hO hF hV⟩
theorem call_ahead {S : CS} {M : MS} (h : RR S M) (v0 v1 v2 : Int32) : ∃ r6 r7, F6_ahead S v0 v1 v2 = some r6 ∧ F7_ahead M v0 v1 v2 = some r7 ∧ a6_ahead r6 = a7_ahead r7 ∧ RR (s6_ahead S r6) (s7_ahead M r7) := by
  obtain ⟨⟨c, b, hw⟩, hn, hH, hC, hT, hO, hF, hV⟩ := h
  obtain ⟨q1, q2, q3⟩ := cnt2 hC
  obtain ⟨n1, n2, n3⟩ := cnt3 hC
  have hc := hw.2.1
  unfold F6_ahead F7_ahead f6_ahead f7_ahead f7_isEndToo f6_ahead_33
  rw [hn, hw.1, show nI c + (1 : Int32) = nI (c + 1) from nI_add .., w6 v0 (c + 1) (nI_toInt (by omega)), w7 v0 (c + 1) (by rw [nI_toInt (by omega)]; rfl), Option.bind_some, Option.bind_some, b01_isb, ck_t, Option.bind_some]
  cases hb : inb v0 (c + 1) with
  | false =>
    rw [b01_f0, if_pos rfl, if_pos rfl, q1, q2]
    exact ⟨_, _, rfl, rfl, rfl, RR_i ⟨c, b, hw⟩ hn hH q3 hT hO hF hV⟩
  | true =>
    obtain ⟨i, hi, e⟩ := inb_ex hb (by omega)
    subst e
    rw [b01_t1, if_neg one_ne, if_neg one_ne, w6 v1 6 (by decide +kernel), p_isVar, Option.bind_some, Option.bind_some]
    cases hb1 : inb v1 6 with
    | false =>
      rw [b01_f0, if_pos rfl, if_pos rfl, q1, q2]
      exact ⟨_, _, rfl, rfl, rfl, RR_i ⟨c, b, hw⟩ hn hH q3 hT hO hF hV⟩
    | true =>
      obtain ⟨x, hx, e⟩ := inb_ex hb1 (by omega)
      subst e
      rw [b01_t1, if_neg one_ne, if_neg one_ne, w6 v2 2 (by decide +kernel), w7 v2 2 (by decide +kernel), Option.bind_some, Option.bind_some]
      cases hb2 : inb v2 2 with
      | false =>
        rw [b01_f0, if_pos rfl, if_pos rfl, q1, q2]
        exact ⟨_, _, rfl, rfl, rfl, RR_i ⟨c, b, hw⟩ hn hH q3 hT hO hF hV⟩
      | true =>
        obtain ⟨cm, ta, kn, oK, oT, ch, k1, k2⟩ := flown hw hF
        obtain ⟨cm', ta', kn', kw', tn', k3, k4⟩ := lay70 hw M.isThere M.taints M.known M.knows M.taint hO
        have e1 := pl_isb k2 (show i ≤ c by omega)
        rw [b01_t1, if_neg one_ne, if_neg one_ne, k1, k3, Option.bind_some, Option.bind_some]
        unfold f0_comesTo
        dsimp only
        rw [inb_nI (show i < 21 by omega) (by decide), nI_clamp (show i < 2 ^ 31 by omega), e1, b01_isb, ck_t, ck_t, ck_t, Option.bind_some]
        cases hS : flw S.program_N c b i with
        | none =>
          rw [if_pos ((pl_none k4 (by omega)).mpr hS), Option.isSome_none, b01_f0, if_pos rfl, n1, n2]
          exact ⟨_, _, rfl, rfl, rfl, RR_i ⟨c, b, hw⟩ hn hH n3 hT rfl (rF_i hw k2) hV⟩
        | some TK =>
          obtain ⟨T, K⟩ := TK
          have g0 := k4 i (by omega)
          rw [hS] at g0
          rw [if_neg (show ¬ cm' i = 0 from fun q => by have := (pl_none k4 (by omega)).mp q; rw [hS] at this; cases this), Option.isSome_some, b01_t1, if_neg one_ne, tof k2 hc (by omega) hS hx, kof k2 hc (by omega) hS hx]
          by_cases h20 : v2 = 0
          · rw [if_pos h20, if_pos h20, g0.2.1, (p_oth T g0.2.2.1 x hx).2.2.2, nI_bit, ck_t]
            exact ⟨_, _, rfl, rfl, rfl, RR_i ⟨c, b, hw⟩ hn hH hC hT rfl (rF_i hw k2) hV⟩
          · rw [if_neg h20, if_neg h20, show (6 : Int32) * nI i = nI (6 * i) from pk_mul 6 i, nI_add, inb_nI (show 6 * i + x < 126 by omega) (by decide), nI_clamp (show 6 * i + x < 2 ^ 31 by omega), (g0.2.2.2 x hx).1, ck_t]
            exact ⟨_, _, rfl, rfl, rfl, RR_i ⟨c, b, hw⟩ hn hH hC hT rfl (rF_i hw k2) hV⟩
theorem call_of {S : CS} {M : MS} (h : RR S M) (v0 v1 : Int32) : ∃ r6 r7, F6_of S v0 v1 = some r6 ∧ F7_of M v0 v1 = some r7 ∧ a6_of r6 = a7_of r7 ∧ RR (s6_of S r6) (s7_of M r7) := by
  obtain ⟨⟨c, b, hw⟩, hn, hH, hC, hT, hO, hF, hV⟩ := h
  obtain ⟨q1, q2, q3⟩ := cnt2 hC
  have hc := hw.2.1
  unfold F6_of F7_of f6_of f7_of f6_of_22
  rw [hn, p_isLine hw.1 hc, hw.1, w6 v0 c (nI_toInt (by omega)), Option.bind_some, Option.bind_some]
  cases hb : inb v0 c with
  | false =>
    rw [b01_f0, if_pos rfl, if_pos rfl, q1, q2]
    exact ⟨_, _, rfl, rfl, rfl, RR_i ⟨c, b, hw⟩ hn hH q3 hT hO hF hV⟩
  | true =>
    obtain ⟨i, hi, e⟩ := inb_ex hb (by omega)
    subst e
    rw [b01_t1, if_neg one_ne, if_neg one_ne, w6 v1 4 (by decide +kernel), w7 v1 4 (by decide +kernel), Option.bind_some, Option.bind_some]
    cases hb1 : inb v1 4 with
    | false =>
      rw [b01_f0, if_pos rfl, if_pos rfl, q1, q2]
      exact ⟨_, _, rfl, rfl, rfl, RR_i ⟨c, b, hw⟩ hn hH q3 hT hO hF hV⟩
    | true =>
      obtain ⟨q, hq, e⟩ := inb_ex hb1 (by omega)
      subst e
      rw [b01_t1, if_neg one_ne, if_neg one_ne, part2 _ (by omega) hq, part7 _ (by omega) hq]
      exact ⟨_, _, rfl, rfl, rfl, RR_i ⟨c, b, hw⟩ hn hH hC hT hO hF hV⟩
theorem fact2 (N : Nat → Int32) {k : Nat} (hk : k < 24) : f2_fact N (nI k) = some (N k) := by
  unfold f2_fact
  have hc : k = 0 ∨ k = 1 ∨ k ≥ 2 := by omega
  rcases hc with rfl | rfl | h2
  · rfl
  · rfl
  · obtain ⟨j, rfl⟩ : ∃ j, k = j + 2 := ⟨k - 2, by omega⟩
    have e : nI (j + 2) - (2 : Int32) = nI j := by
      rw [← show nI j + (2 : Int32) = nI (j + 2) from nI_add .., Int32.add_sub_cancel]
    rw [if_neg (fun q => by have := (nI_is 0 (b := (0 : Int32)) rfl (by omega) (by decide)).mp q; omega), if_neg (fun q => by have := (nI_is 1 (b := (1 : Int32)) rfl (by omega) (by decide)).mp q; omega), e]
    by_cases h6 : 6 ≤ j
    · obtain ⟨i, rfl⟩ : ∃ i, j = i + 6 := ⟨j - 6, by omega⟩
      have e2 : nI (i + 6) - (6 : Int32) = nI i := by
        rw [← show nI i + (6 : Int32) = nI (i + 6) from nI_add .., Int32.add_sub_cancel]
      rw [if_pos (show (6 : Int32) ≤ nI (i + 6) from (nI_leI (a := 6) (by decide) (by omega)).mpr h6), e2, inb_nI (show i < 16 by omega) (by decide), nI_clamp (show i < 2 ^ 31 by omega), ck_t, show 8 + i = i + 6 + 2 by omega]
    · rw [if_neg (show ¬ (6 : Int32) ≤ nI j from fun q => h6 ((nI_leI (a := 6) (by decide) (by omega)).mp q)), inb_nI (show j < 6 by omega) (by decide), nI_clamp (show j < 2 ^ 31 by omega), ck_t, Nat.add_comm]
theorem call_told {S : CS} {M : MS} (h : RR S M) (v0 : Int32) : ∃ r6 r7, F6_told S v0 = some r6 ∧ F7_told M v0 = some r7 ∧ a6_told r6 = a7_told r7 ∧ RR (s6_told S r6) (s7_told M r7) := by
  obtain ⟨⟨c, b, hw⟩, hn, hH, hC, hT, hO, hF, hV⟩ := h
  obtain ⟨q1, q2, q3⟩ := cnt2 hC
  unfold F6_told F7_told f6_told f7_told
  rw [hn, w6 v0 24 (by decide +kernel), w7 v0 24 (by decide +kernel), Option.bind_some, Option.bind_some]
  cases hb : inb v0 24 with
  | false =>
    rw [b01_f0, if_pos rfl, if_pos rfl, q1, q2]
    exact ⟨_, _, rfl, rfl, rfl, RR_i ⟨c, b, hw⟩ hn hH q3 hT hO hF hV⟩
  | true =>
    obtain ⟨i, hi, e⟩ := inb_ex hb (by omega)
    subst e
    rw [b01_t1, if_neg one_ne, if_neg one_ne, fact2 _ hi, inb_nI (show i < 104 by omega) (by decide), nI_clamp (show i < 2 ^ 31 by omega), ck_t]
    exact ⟨_, _, rfl, rfl, rfl, RR_i ⟨c, b, hw⟩ hn hH hC hT hO hF hV⟩
theorem tall {bc nc fc : Int32} {rf : Nat → Int32} (hC : rC bc nc fc rf) (sz ln : Int32) {k : Nat} (hk : k < 5) : ∃ v, f6_tally bc nc fc sz ln (nI k) = some v ∧ f7_refusedOf sz rf ln (nI k) = some v := by
  obtain ⟨h1, h2, h3⟩ := hC
  have hc : k = 0 ∨ k = 1 ∨ k = 2 ∨ k = 3 ∨ k = 4 := by omega
  rcases hc with rfl | rfl | rfl | rfl | rfl
  · exact ⟨_, rfl, congrArg some h1.symm⟩
  · exact ⟨_, rfl, congrArg some h2.symm⟩
  · exact ⟨_, rfl, congrArg some h3.symm⟩
  · exact ⟨_, rfl, rfl⟩
  · exact ⟨_, rfl, rfl⟩
theorem call_refused {S : CS} {M : MS} (h : RR S M) (v0 : Int32) : ∃ r6 r7, F6_refused S v0 = some r6 ∧ F7_refused M v0 = some r7 ∧ a6_refused r6 = a7_refused r7 ∧ RR (s6_refused S r6) (s7_refused M r7) := by
  obtain ⟨hw, hn, ⟨o, z, ho, hz, hst, hG⟩, hC, ⟨hT, n, hn1, hn2, hn3⟩, hO, hF, hV⟩ := h
  obtain ⟨q1, q2, q3⟩ := cnt2 hC
  have hH : rH S.history_oldest S.history_size S.history0_N S.history1_N S.history2_N S.history3_N S.history4_N M.past M.states := ⟨o, z, ho, hz, hst, hG⟩
  have hT0 : rT S.text_bytes S.text_length M.text M.length := ⟨hT, n, hn1, hn2, hn3⟩
  unfold F6_refused F7_refused f6_refused f7_refused
  rw [w6 v0 5 (by decide +kernel), w7 v0 5 (by decide +kernel), Option.bind_some, Option.bind_some]
  cases hb : inb v0 5 with
  | false =>
    rw [b01_f0, if_pos rfl, if_pos rfl, q1, q2]
    exact ⟨_, _, rfl, rfl, rfl, RR_i hw hn hH q3 hT0 hO hF hV⟩
  | true =>
    obtain ⟨i, hi, e⟩ := inb_ex hb (by omega)
    subst e
    obtain ⟨v, u1, u2⟩ := tall hC S.history_size S.text_length hi
    rw [b01_t1, if_neg one_ne, if_neg one_ne, u1, show f7_refusedOf M.states M.refusals M.length (nI i) = some v from by rw [hst, ← hz, hn3, ← hn2]; exact u2]
    exact ⟨_, _, rfl, rfl, rfl, RR_i hw hn hH hC hT0 hO hF hV⟩
