/-! the text's orders -/
theorem ord_both {N : Nat → Int32} {c b : Nat} (hw : wf N c b) {L A LT NU : Nat → Int32} {k : Nat} (hk : k < 40) (h1 : L k = LT k) (h2 : nof (LT k) ≠ 0) (h3 : ∀ q, q < nof (LT k) → A (4 * k + q) = NU (4 * k + q)) : ∃ p, f5_giveOrder L A N (nI k) = some p ∧ f7_doesOrder LT NU N (nI k) = some p ∧ okR N p := by
  have e0 : nI k * (4 : Int32) = nI (4 * k) := by rw [nI4, pk_mul, Nat.mul_comm]
  have e1 : (4 : Int32) * nI k = nI (4 * k) := pk_mul 4 k
  have e2 : nI (4 * k) + (1 : Int32) = nI (4 * k + 1) := nI_add ..
  have e3 : nI (4 * k) + (2 : Int32) = nI (4 * k + 2) := nI_add ..
  have e4 : nI (4 * k) + (3 : Int32) = nI (4 * k + 3) := nI_add ..
  unfold f5_giveOrder f7_doesOrder f5_giveOrder_22 f7_doesOrder_20
  rw [e0, e1, e2, e3, e4, inb_nI (show 4 * k < 160 by omega) (by decide), inb_nI (show 4 * k < 164 by omega) (by decide), inb_nI (show 4 * k + 1 < 160 by omega) (by decide), inb_nI (show 4 * k + 1 < 164 by omega) (by decide), inb_nI (show 4 * k + 2 < 160 by omega) (by decide), inb_nI (show 4 * k + 2 < 164 by omega) (by decide), inb_nI (show 4 * k + 3 < 160 by omega) (by decide), inb_nI (show 4 * k + 3 < 164 by omega) (by decide), inb_nI (show k < 40 by omega) (by decide), inb_nI (show k < 41 by omega) (by decide), nI_clamp (show k < 2 ^ 31 by omega), nI_clamp (show 4 * k < 2 ^ 31 by omega), nI_clamp (show 4 * k + 1 < 2 ^ 31 by omega), nI_clamp (show 4 * k + 2 < 2 ^ 31 by omega), nI_clamp (show 4 * k + 3 < 2 ^ 31 by omega), h1]
  repeat rw [ck_t]
  have q0 : 1 ≤ nof (LT k) → A (4 * k) = NU (4 * k) := fun h => h3 0 (by omega)
  by_cases hd : LT k = (100 : Int32)
  · have n1 : nof (LT k) = 1 := by unfold nof; rw [if_pos hd]
    rw [if_pos hd, if_pos hd, q0 (by omega), p_drop2 hw.1 hw.2.1, p_drop7 hw.1 hw.2.1]
    exact ⟨_, rfl, rfl, wf_drop hw _⟩
  · by_cases hl : LT k = (108 : Int32)
    · have n1 : nof (LT k) = 4 := by unfold nof; rw [if_neg hd, if_pos hl]
      rw [if_neg hd, if_neg hd, if_pos hl, if_pos hl, q0 (by omega), h3 1 (by omega), h3 2 (by omega), h3 3 (by omega), p_add2 hw.1 hw.2.1, p_add7 hw.1 hw.2.1]
      exact ⟨_, rfl, rfl, wf_add hw _ _ _ _⟩
    · by_cases ht : LT k = (116 : Int32)
      · have hp : ¬ LT k = (112 : Int32) := by rw [ht]; decide +kernel
        have n1 : nof (LT k) = 2 := by unfold nof; rw [if_neg hd, if_neg hl, if_neg hp, if_pos ht]
        rw [if_neg hd, if_neg hd, if_neg hl, if_neg hl, if_pos ht, if_pos ht, q0 (by omega), h3 1 (by omega), p_tab2, p_tab7]
        exact ⟨_, rfl, rfl, wf_tab hw _ _⟩
      · by_cases hv : LT k = (118 : Int32)
        · have hp : ¬ LT k = (112 : Int32) := by rw [hv]; decide +kernel
          have n1 : nof (LT k) = 2 := by unfold nof; rw [if_neg hd, if_neg hl, if_neg hp, if_neg ht, if_pos hv]
          rw [if_neg hd, if_neg hd, if_neg hl, if_neg hl, if_neg ht, if_neg ht, if_pos hv, if_pos hv, q0 (by omega), h3 1 (by omega), p_sta2, p_sta7]
          exact ⟨_, rfl, rfl, wf_sta hw _ _⟩
        · have hp : LT k = (112 : Int32) := by
            refine Classical.byContradiction fun hp => h2 ?_
            unfold nof
            rw [if_neg hd, if_neg hl, if_neg hp, if_neg ht, if_neg hv]
          have n1 : nof (LT k) = 2 := by unfold nof; rw [if_neg hd, if_neg hl, if_pos hp]
          rw [if_neg hd, if_neg hd, if_neg hl, if_neg hl, if_neg ht, if_neg ht, if_neg hv, if_neg hv, q0 (by omega), h3 1 (by omega), p_sec2 hw.2.2.1 hw.2.2.2.1 hw.2.2.2.2.1, p_sec7 hw.2.2.1 hw.2.2.2.1 hw.2.2.2.2.1]
          exact ⟨_, rfl, rfl, wf_sec hw _ _⟩
theorem does_lp (T : Nat → Int32) (ln : Int32) {N : Nat → Int32} {c b : Nat} (hw : wf N c b) {A0 : Nat → Int32} {o z : Nat} {h0 h1 h2 h3 h4 P : Nat → Int32} (hG : RG o z (h5 h0 h1 h2 h3 h4) P) {L A LT NU : Nat → Int32} {no : Nat} (hno : no ≤ 40) (hOA : OA L A LT NU no) (ff sf x1 a7 f7 op nu fi : Int32) : ∀ (d n m k : Nat) (Nk : Nat → Int32) (ck bk : Nat), wf Nk ck bk → k + d = no → d < n → d < m → ∃ (v ff' sf' od sz : Int32) (N' N'' a b c d e P' A' : Nat → Int32) (st : Int32), f6_does_31 T ln n (ff, sf, N, Nk, nI o, nI z, h0, h1, h2, h3, h4, L, A, nI no, op, nu, fi, x1, nI k) = some (v, ff', sf', N', N'', od, sz, a, b, c, d, e, L, A, nI no, op, nu, fi) ∧ f7_does_21 T ln m (Nk, cpN N A0 104, P, nI z, a7, f7, nI no, LT, NU, nI k) = some (v, N', A', P', st, a7, f7, nI no, LT, NU) ∧ (∃ c b, wf N' c b) ∧ rH od sz a b c d e P' st ∧ (ff' = ff ∧ sf' = sf ∧ N' = N ∨ ff' = 0 ∧ sf' = 0) := by
  intro d
  induction d with
  | zero =>
    intro n m k Nk ck' bk' hwk hk hn hm
    obtain ⟨n', rfl⟩ : ∃ m, n = m + 1 := ⟨n - 1, by omega⟩
    obtain ⟨m', rfl⟩ : ∃ n, m = n + 1 := ⟨m - 1, by omega⟩
    obtain ⟨od', sz', a, b2, c2, d, e, P', st', k1, k2, k3⟩ := adopt6 (N' := Nk) (A := cpN N A0 104) hw hG (fun j hj => if_pos hj) ff sf
    unfold f6_does_31 f7_does_21
    rw [itf, itf]
    unfold f6_does_31b f7_does_21b f6_does_69 f7_does_75
    dsimp only
    have hle : nI no ≤ nI k := (nI_leI (by omega) (by omega)).mpr (by omega)
    rw [if_pos hle, if_pos hle, k1, k2]
    exact ⟨_, _, _, _, _, _, _, _, _, _, _, _, _, _, _, rfl, rfl, ⟨ck', bk', hwk⟩, k3, Or.inr ⟨rfl, rfl⟩⟩
  | succ d ih =>
    intro n m k Nk ck' bk' hwk hk hn hm
    obtain ⟨n', rfl⟩ : ∃ m, n = m + 1 := ⟨n - 1, by omega⟩
    obtain ⟨m', rfl⟩ : ∃ n, m = n + 1 := ⟨m - 1, by omega⟩
    obtain ⟨g1, g2, g3⟩ := hOA k (by omega)
    obtain ⟨p, p1, p2, p3⟩ := ord_both hwk (by omega) g1 g2 g3
    have hle : ¬ nI no ≤ nI k := fun q => by have := (nI_leI (by omega) (by omega)).mp q; omega
    have e : nI k + (1 : Int32) = nI (k + 1) := nI_add ..
    have r6 : f6_does_31 T ln (n' + 1) (ff, sf, N, Nk, nI o, nI z, h0, h1, h2, h3, h4, L, A, nI no, op, nu, fi, x1, nI k) = (if 0 ≤ p.1 then f6_does_31 T ln n' (ff, sf, N, p.2, nI o, nI z, h0, h1, h2, h3, h4, L, A, nI no, op, nu, fi, x1, nI (k + 1)) else some (-1000 - nI k, ff, sf, N, p.2, nI o, nI z, h0, h1, h2, h3, h4, L, A, nI no, op, nu, fi)) := by
      unfold f6_does_31
      rw [itf]
      unfold f6_does_31b f6_does_57
      dsimp only
      rw [if_neg hle, p1, Option.bind_some, e]
    have r7 : f7_does_21 T ln (m' + 1) (Nk, cpN N A0 104, P, nI z, a7, f7, nI no, LT, NU, nI k) = (if 0 ≤ p.1 then f7_does_21 T ln m' (p.2, cpN N A0 104, P, nI z, a7, f7, nI no, LT, NU, nI (k + 1)) else f7_does_39 T ln 1000 (p.2, cpN N A0 104, P, nI z, a7, f7, nI no, LT, NU, nI k, 0)) := by
      unfold f7_does_21
      rw [itf]
      unfold f7_does_21b
      dsimp only
      rw [if_neg hle, p2, Option.bind_some, e]
    rw [r6, r7]
    by_cases hv : p.1 < 0
    · obtain ⟨cq, bq, hwq⟩ := p3.2
      have e9 : cpN (cpN N A0 104) p.2 104 = N := by
        funext j
        unfold cpN
        by_cases hj : j < 104
        · rw [if_pos hj, if_pos hj]
        · rw [if_neg hj, wf_0 hwq (by omega), wf_0 hw (by omega)]
      have e39 := does39 T ln (A := cpN N A0 104) (P := P) (st := nI z) (a := a7) (f := f7) (o := nI no) (LT := LT) (NU := NU) (N := p.2) (x := nI k) 104 1000 0 rfl (by decide)
      rw [cpN_0, e9] at e39
      rw [if_neg (i_n0le hv), if_neg (i_n0le hv), show (0 : Int32) = nI 0 from rfl, e39]
      exact ⟨_, _, _, _, _, _, _, _, _, _, _, _, _, _, _, rfl, rfl, ⟨c, b, hw⟩, ⟨o, z, rfl, rfl, rfl, hG⟩, Or.inl ⟨rfl, rfl, rfl⟩⟩
    · obtain ⟨cq, bq, hwq⟩ := p3.2
      rw [if_pos (i_0le hv), if_pos (i_0le hv)]
      exact ih n' m' (k + 1) p.2 cq bq hwq (by omega) (by omega) (by omega)
theorem call_does {S : CS} {M : MS} (h : RR S M) : ∃ r6 r7, F6_does S = some r6 ∧ F7_does M = some r7 ∧ a6_does r6 = a7_does r7 ∧ RR (s6_does S r6) (s7_does M r7) := by
  obtain ⟨⟨c, b, hw⟩, hn, ⟨o, z, ho, hz, hst, hG⟩, hC, ⟨hT, n, hn1, hn2, hn3⟩, hO, hF, hV⟩ := h
  have hT0 : rT S.text_bytes S.text_length M.text M.length := ⟨hT, n, hn1, hn2, hn3⟩
  obtain ⟨ok, j, no, LT, NU, k1, k2, k3, r, L, A, w, k4, k5, k6⟩ := read_both (T := S.text_bytes) hn1 S.text_letters S.text_arguments M.letters M.numbers S.text_orders S.text_open_ S.text_numbers S.text_figures M.at_ M.isFaulty M.orders
  unfold F6_does F7_does f6_does f7_does
  rw [hT, hn3, hn2, k1, k4, Option.bind_some, Option.bind_some]
  dsimp only
  cases ok with
  | false =>
    rw [k5 rfl, b01_f0, if_pos rfl, if_neg (fun q => by have := i_eq.mp q; rw [nI_toInt (by omega)] at this; have : (j : Int) = -1 := this; omega)]
    exact ⟨_, _, rfl, rfl, rfl, RR_i ⟨c, b, hw⟩ hn ⟨o, z, ho, hz, hst, hG⟩ hC ⟨hT, n, hn1, hn2, hn3⟩ hO hF hV⟩
  | true =>
    obtain ⟨g1, g2, g3⟩ := k6 rfl
    rw [g1, b01_t1, if_neg one_ne, if_pos rfl, show f2_copyFrom S.program_N S.sketch_N = some S.program_N from rfl, Option.bind_some, hn, layA7, Option.bind_some, ho, hz, hst, g2]
    obtain ⟨v, ff, sf, od, sz, N', N'', a, b2, c2, d, e, P', A', st, q1, q2, q3, q4, q5⟩ := does_lp S.text_bytes (nI n) hw (A0 := M.aside) hG k3 g3 S.flowFresh S.surveyFresh (-1) (nI j) (b01 (!true)) w.2.1 w.2.2.1 w.2.2.2 no 1000 1000 0 S.program_N c b hw (by omega) (by omega) (by omega)
    rw [show (0 : Int32) = nI 0 from rfl, q1, q2]
    refine ⟨_, _, rfl, rfl, rfl, RR_i q3 rfl q4 hC hT0 hO ?_ ?_⟩
    · rcases q5 with ⟨e1, e2, e3⟩ | ⟨e1, e2⟩
      · show rF N' ff S.flow_come S.flow_taints S.flow_knowns
        rw [e1, e3]; exact hF
      · exact Or.inl e1
    · rcases q5 with ⟨e1, e2, e3⟩ | ⟨e1, e2⟩
      · show rV N' sf S.survey_unlike S.survey_other
        rw [e2, e3]; exact hV
      · exact Or.inl e2
