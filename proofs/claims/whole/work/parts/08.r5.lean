/-! the digest -/
def mxF (f : Nat → Int32) : Nat → Nat → Int64 → Int64
  | 0, _, h => h
  | d + 1, i, h => mxF f d (i + 1) (31 * h + (f i).toInt64)
theorem dg6a {bc nc fc : Int32} {N : Nat → Int32} {sz tl : Int32} (ff : Int32) (sf : Int32) (fv : Nat → Int32) (fs : Nat → Int32) (fn : Int32) (fp : Int32) (fu : Int32) (cm : Nat → Int32) (ta : Nat → Int32) (kn : Nat → Int32) (oK : Nat → Int32) (oT : Int32) (ch : Int32) (pk : Nat → Int64) (un : Int32) (oo : Int32) {t : Nat → Int32} (ht : ∀ k, k < 5 → f6_tally bc nc fc sz tl (nI k) = some (t k)) : ∀ (d n k : Nat) (h : Int64), k + d = 5 → d < n → f6_digest_6 bc nc fc N sz tl n (ff, sf, fv, fs, fn, fp, fu, cm, ta, kn, oK, oT, ch, pk, un, oo, h, nI k) = f6_digest_30 bc nc fc N sz tl ff sf fv fs fn fp fu cm ta kn oK oT ch pk un oo (mxF t d k h) (nI 5) := by
  intro d
  induction d with
  | zero =>
    intro n k h hk hn
    obtain ⟨m, rfl⟩ : ∃ m, n = m + 1 := ⟨n - 1, by omega⟩
    unfold f6_digest_6
    rw [itf]
    unfold f6_digest_6b
    dsimp only
    rw [if_pos (show (5 : Int32) ≤ nI k from (nI_leI (a := 5) (by decide) (by omega)).mpr (by omega)), show k = 5 by omega]
    rfl
  | succ d ih =>
    intro n k h hk hn
    obtain ⟨m, rfl⟩ : ∃ m, n = m + 1 := ⟨n - 1, by omega⟩
    have e : nI k + (1 : Int32) = nI (k + 1) := nI_add ..
    unfold f6_digest_6
    rw [itf]
    unfold f6_digest_6b
    dsimp only
    rw [if_neg (show ¬ (5 : Int32) ≤ nI k from fun q => by have := (nI_leI (a := 5) (by decide) (by omega)).mp q; omega), ht k (by omega), Option.bind_some, e]
    exact ih m (k + 1) _ (by omega) (by omega)
theorem dg6c {bc nc fc : Int32} {N : Nat → Int32} {sz tl : Int32} (ff : Int32) (sf : Int32) (fv : Nat → Int32) (fs : Nat → Int32) (fn : Int32) (fp : Int32) (fu : Int32) (cm : Nat → Int32) (ta : Nat → Int32) (kn : Nat → Int32) (oK : Nat → Int32) (oT : Int32) (ch : Int32) (pk : Nat → Int64) (un : Int32) (oo : Int32) {t : Nat → Int32} (ht : ∀ k, k < 9 → f3_outcome fv fn fp fu (nI k) = some (t k)) : ∀ (d n k : Nat) (h : Int64), k + d = 9 → d < n → f6_digest_120 bc nc fc N sz tl n (ff, sf, fv, fs, fn, fp, fu, cm, ta, kn, oK, oT, ch, pk, un, oo, h, nI k) = some (mxF t d k h, ff, sf, fv, fs, fn, fp, fu, cm, ta, kn, oK, oT, ch, pk, un, oo) := by
  intro d
  induction d with
  | zero =>
    intro n k h hk hn
    obtain ⟨m, rfl⟩ : ∃ m, n = m + 1 := ⟨n - 1, by omega⟩
    unfold f6_digest_120
    rw [itf]
    unfold f6_digest_120b
    dsimp only
    rw [if_pos (show (9 : Int32) ≤ nI k from (nI_leI (a := 9) (by decide) (by omega)).mpr (by omega))]
    rfl
  | succ d ih =>
    intro n k h hk hn
    obtain ⟨m, rfl⟩ : ∃ m, n = m + 1 := ⟨n - 1, by omega⟩
    have e : nI k + (1 : Int32) = nI (k + 1) := nI_add ..
    unfold f6_digest_120
    rw [itf]
    unfold f6_digest_120b
    dsimp only
    rw [if_neg (show ¬ (9 : Int32) ≤ nI k from fun q => by have := (nI_leI (a := 9) (by decide) (by omega)).mp q; omega), ht k (by omega), Option.bind_some, e]
    exact ih m (k + 1) _ (by omega) (by omega)
theorem dg2b (N : Nat → Int32) {c : Nat} (h0 : N 0 = nI c) (hc : c ≤ 20) : ∀ (d n k : Nat) (h : Int64), k + d = 4 * c → d < n → f2_mixInto_29 N n (h, nI k) = some (mxF (fun j => N (24 + j)) d k h) := by
  intro d
  induction d with
  | zero =>
    intro n k h hk hn
    obtain ⟨m, rfl⟩ : ∃ m, n = m + 1 := ⟨n - 1, by omega⟩
    unfold f2_mixInto_29
    rw [itf]
    unfold f2_mixInto_29b
    dsimp only
    have e4 : N 0 * (4 : Int32) = nI (4 * c) := by rw [h0, nI4, pk_mul, Nat.mul_comm]
    rw [if_pos (show N 0 * (4 : Int32) ≤ nI k by rw [e4]; exact (nI_leI (by omega) (by omega)).mpr (by omega))]
    rfl
  | succ d ih =>
    intro n k h hk hn
    obtain ⟨m, rfl⟩ : ∃ m, n = m + 1 := ⟨n - 1, by omega⟩
    have e : nI k + (1 : Int32) = nI (k + 1) := nI_add ..
    unfold f2_mixInto_29
    rw [itf]
    unfold f2_mixInto_29b
    dsimp only
    have e4 : N 0 * (4 : Int32) = nI (4 * c) := by rw [h0, nI4, pk_mul, Nat.mul_comm]
    rw [if_neg (show ¬ N 0 * (4 : Int32) ≤ nI k by rw [e4]; exact fun q => by have := (nI_leI (by omega) (by omega)).mp q; omega), inb_nI (show k < 80 by omega) (by decide), nI_clamp (show k < 2 ^ 31 by omega), ck_t, e]
    exact ih m (k + 1) _ (by omega) (by omega)
theorem dg2a (N : Nat → Int32) {c : Nat} (h0 : N 0 = nI c) (hc : c ≤ 20) : ∀ (d n k : Nat) (h : Int64), k + d = 24 → d < n → f2_mixInto_2 N n (h, nI k) = some (mxF (fun j => N (24 + j)) (4 * c) 0 (mxF N d k h)) := by
  intro d
  induction d with
  | zero =>
    intro n k h hk hn
    obtain ⟨m, rfl⟩ : ∃ m, n = m + 1 := ⟨n - 1, by omega⟩
    unfold f2_mixInto_2
    rw [itf]
    unfold f2_mixInto_2b
    dsimp only
    rw [if_pos (show (24 : Int32) ≤ nI k from (nI_leI (a := 24) (by decide) (by omega)).mpr (by omega))]
    exact dg2b N h0 hc (4 * c) 1000 0 h (by omega) (by omega)
  | succ d ih =>
    intro n k h hk hn
    obtain ⟨m, rfl⟩ : ∃ m, n = m + 1 := ⟨n - 1, by omega⟩
    have e : nI k + (1 : Int32) = nI (k + 1) := nI_add ..
    unfold f2_mixInto_2
    rw [itf]
    unfold f2_mixInto_2b
    dsimp only
    rw [if_neg (show ¬ (24 : Int32) ≤ nI k from fun q => by have := (nI_leI (a := 24) (by decide) (by omega)).mp q; omega), fact2 N (by omega), Option.bind_some, e]
    exact ih m (k + 1) _ (by omega) (by omega)
theorem dg7a {N : Nat → Int32} {st : Int32} {rf : Nat → Int32} {ln : Int32} (va : Nat → Int32) (si : Nat → Int32) (mn : Int32) (sp : Int32) (cu : Int32) (cm : Nat → Int32) (ta : Nat → Int32) (kn : Nat → Int32) (tn : Int32) (kw : Nat → Int32) (io : Int32) {t : Nat → Int32} (ht : ∀ k, k < 5 → f7_refusedOf st rf ln (nI k) = some (t k)) : ∀ (d n k : Nat) (h : Int64), k + d = 5 → d < n → f7_digest_9 N st rf ln n (va, si, mn, sp, cu, cm, ta, kn, tn, kw, io, h, nI k) = f7_digest_31 N st rf ln 1000 (va, si, mn, sp, cu, cm, ta, kn, tn, kw, io, mxF t d k h, 0) := by
  intro d
  induction d with
  | zero =>
    intro n k h hk hn
    obtain ⟨m, rfl⟩ : ∃ m, n = m + 1 := ⟨n - 1, by omega⟩
    unfold f7_digest_9
    rw [itf]
    unfold f7_digest_9b
    dsimp only
    rw [if_pos (show (5 : Int32) ≤ nI k from (nI_leI (a := 5) (by decide) (by omega)).mpr (by omega))]
    rfl
  | succ d ih =>
    intro n k h hk hn
    obtain ⟨m, rfl⟩ : ∃ m, n = m + 1 := ⟨n - 1, by omega⟩
    have e : nI k + (1 : Int32) = nI (k + 1) := nI_add ..
    unfold f7_digest_9
    rw [itf]
    unfold f7_digest_9b
    dsimp only
    unfold f7_mix
    rw [if_neg (show ¬ (5 : Int32) ≤ nI k from fun q => by have := (nI_leI (a := 5) (by decide) (by omega)).mp q; omega), ht k (by omega), Option.bind_some, Option.bind_some, e]
    exact ih m (k + 1) _ (by omega) (by omega)
theorem dg7b {N : Nat → Int32} {st : Int32} {rf : Nat → Int32} {ln : Int32} (va : Nat → Int32) (si : Nat → Int32) (mn : Int32) (sp : Int32) (cu : Int32) (cm : Nat → Int32) (ta : Nat → Int32) (kn : Nat → Int32) (tn : Int32) (kw : Nat → Int32) (io : Int32) : ∀ (d n k : Nat) (h : Int64), k + d = 24 → d < n → f7_digest_31 N st rf ln n (va, si, mn, sp, cu, cm, ta, kn, tn, kw, io, h, nI k) = f7_digest_55 N st rf ln 1000 (va, si, mn, sp, cu, cm, ta, kn, tn, kw, io, mxF N d k h, 0) := by
  intro d
  induction d with
  | zero =>
    intro n k h hk hn
    obtain ⟨m, rfl⟩ : ∃ m, n = m + 1 := ⟨n - 1, by omega⟩
    unfold f7_digest_31
    rw [itf]
    unfold f7_digest_31b
    dsimp only
    rw [if_pos (show (24 : Int32) ≤ nI k from (nI_leI (a := 24) (by decide) (by omega)).mpr (by omega))]
    rfl
  | succ d ih =>
    intro n k h hk hn
    obtain ⟨m, rfl⟩ : ∃ m, n = m + 1 := ⟨n - 1, by omega⟩
    have e : nI k + (1 : Int32) = nI (k + 1) := nI_add ..
    unfold f7_digest_31
    rw [itf]
    unfold f7_digest_31b
    dsimp only
    unfold f7_mix
    rw [if_neg (show ¬ (24 : Int32) ≤ nI k from fun q => by have := (nI_leI (a := 24) (by decide) (by omega)).mp q; omega), inb_nI (show k < 104 by omega) (by decide), nI_clamp (show k < 2 ^ 31 by omega), ck_t, Option.bind_some, e]
    exact ih m (k + 1) _ (by omega) (by omega)
theorem dg7c {N : Nat → Int32} {st : Int32} {rf : Nat → Int32} {ln : Int32} (va : Nat → Int32) (si : Nat → Int32) (mn : Int32) (sp : Int32) (cu : Int32) (cm : Nat → Int32) (ta : Nat → Int32) (kn : Nat → Int32) (tn : Int32) (kw : Nat → Int32) (io : Int32) {c : Nat} (h0 : N 0 = nI c) (hc : c ≤ 20) : ∀ (d n k : Nat) (h : Int64), k + d = 4 * c → d < n → f7_digest_55 N st rf ln n (va, si, mn, sp, cu, cm, ta, kn, tn, kw, io, h, nI k) = f7_digest_86 N st rf ln va si mn sp cu cm ta kn tn kw io (mxF (fun j => N (24 + j)) d k h) (nI (4 * c)) := by
  intro d
  induction d with
  | zero =>
    intro n k h hk hn
    obtain ⟨m, rfl⟩ : ∃ m, n = m + 1 := ⟨n - 1, by omega⟩
    unfold f7_digest_55
    rw [itf]
    unfold f7_digest_55b
    dsimp only
    have e4 : (4 : Int32) * N 0 = nI (4 * c) := by rw [h0]; exact pk_mul 4 c
    rw [if_pos (show (4 : Int32) * N 0 ≤ nI k by rw [e4]; exact (nI_leI (by omega) (by omega)).mpr (by omega)), show k = 4 * c by omega]
    rfl
  | succ d ih =>
    intro n k h hk hn
    obtain ⟨m, rfl⟩ : ∃ m, n = m + 1 := ⟨n - 1, by omega⟩
    have e : nI k + (1 : Int32) = nI (k + 1) := nI_add ..
    unfold f7_digest_55
    rw [itf]
    unfold f7_digest_55b
    dsimp only
    have e4 : (4 : Int32) * N 0 = nI (4 * c) := by rw [h0]; exact pk_mul 4 c
    unfold f7_mix
    rw [if_neg (show ¬ (4 : Int32) * N 0 ≤ nI k by rw [e4]; exact fun q => by have := (nI_leI (by omega) (by omega)).mp q; omega), show (24 : Int32) + nI k = nI (24 + k) from nI_add 24 k, inb_nI (show 24 + k < 104 by omega) (by decide), nI_clamp (show 24 + k < 2 ^ 31 by omega), ck_t, Option.bind_some, e]
    exact ih m (k + 1) _ (by omega) (by omega)
theorem dg7d {N : Nat → Int32} {st : Int32} {rf : Nat → Int32} {ln : Int32} (va : Nat → Int32) (si : Nat → Int32) (mn : Int32) (sp : Int32) (cu : Int32) (cm : Nat → Int32) (ta : Nat → Int32) (kn : Nat → Int32) (tn : Int32) (kw : Nat → Int32) (io : Int32) {c : Nat} (h0 : N 0 = nI c) (hc : c ≤ 20) {S : FS} (hF : FRel c cm ta kn S) : ∀ (d n i : Nat) (h : Int64), i + d = c + 1 → d < n → f7_digest_92 N st rf ln n (va, si, mn, sp, cu, cm, ta, kn, tn, kw, io, h, nI i) = f7_digest_122 N st rf ln va si mn sp cu cm ta kn tn kw io (mxS S d i h) (nI (c + 1)) := by
  intro d
  induction d with
  | zero =>
    intro n i h hk hn
    obtain ⟨m, rfl⟩ : ∃ m, n = m + 1 := ⟨n - 1, by omega⟩
    unfold f7_digest_92
    rw [itf]
    unfold f7_digest_92b
    dsimp only
    rw [if_pos (show N 0 < nI i by rw [h0]; exact (nI_ltI (by omega) (by omega)).mpr (by omega)), show i = c + 1 by omega]
    rfl
  | succ d ih =>
    intro n i h hk hn
    obtain ⟨m, rfl⟩ : ∃ m, n = m + 1 := ⟨n - 1, by omega⟩
    have e : nI i + (1 : Int32) = nI (i + 1) := nI_add ..
    unfold f7_digest_92
    rw [itf]
    unfold f7_digest_92b
    dsimp only
    rw [if_neg (show ¬ N 0 < nI i by rw [h0]; exact fun q => by have := (nI_ltI (by omega) (by omega)).mp q; omega), inb_nI (show i < 21 by omega) (by decide), nI_clamp (show i < 2 ^ 31 by omega), ck_t, e]
    cases hS : S i with
    | none =>
      rw [if_pos ((pl_none hF (by omega)).mpr hS)]
      have e9 : mxS S (d + 1) i h = mxS S d (i + 1) h := by
        show mxS S d (i + 1) (match S i with | none => h | some (T, K) => mxv T K 6 0 (31 * h + (nI i).toInt64)) = _
        rw [hS]
      rw [e9]
      exact ih m (i + 1) _ (by omega) (by omega)
    | some z =>
      obtain ⟨T, K⟩ := z
      rw [if_neg (show ¬ cm i = 0 from fun q => by have := (pl_none hF (by omega)).mp q; rw [hS] at this; cases this), mixL7 hF hc (by omega) hS, Option.bind_some]
      have e9 : mxS S (d + 1) i h = mxS S d (i + 1) (mxv T K 6 0 (31 * h + (nI i).toInt64)) := by
        show mxS S d (i + 1) (match S i with | none => h | some (T, K) => mxv T K 6 0 (31 * h + (nI i).toInt64)) = _
        rw [hS]
      rw [e9]
      exact ih m (i + 1) _ (by omega) (by omega)
theorem dg7e {N : Nat → Int32} {st : Int32} {rf : Nat → Int32} {ln : Int32} (va : Nat → Int32) (si : Nat → Int32) (mn : Int32) (sp : Int32) (cu : Int32) (cm : Nat → Int32) (ta : Nat → Int32) (kn : Nat → Int32) (tn : Int32) (kw : Nat → Int32) (io : Int32) {t : Nat → Int32} (ht : ∀ k, k < 9 → f7_tellRun va mn sp cu (nI k) = some (t k)) : ∀ (d n k : Nat) (h : Int64), k + d = 9 → d < n → f7_digest_154 N st rf ln n (va, si, mn, sp, cu, cm, ta, kn, tn, kw, io, h, nI k) = some (mxF t d k h, va, si, mn, sp, cu, cm, ta, kn, tn, kw, io, mxF t d k h) := by
  intro d
  induction d with
  | zero =>
    intro n k h hk hn
    obtain ⟨m, rfl⟩ : ∃ m, n = m + 1 := ⟨n - 1, by omega⟩
    unfold f7_digest_154
    rw [itf]
    unfold f7_digest_154b
    dsimp only
    rw [if_pos (show (9 : Int32) ≤ nI k from (nI_leI (a := 9) (by decide) (by omega)).mpr (by omega))]
    rfl
  | succ d ih =>
    intro n k h hk hn
    obtain ⟨m, rfl⟩ : ∃ m, n = m + 1 := ⟨n - 1, by omega⟩
    have e : nI k + (1 : Int32) = nI (k + 1) := nI_add ..
    unfold f7_digest_154
    rw [itf]
    unfold f7_digest_154b
    dsimp only
    unfold f7_mix
    rw [if_neg (show ¬ (9 : Int32) ≤ nI k from fun q => by have := (nI_leI (a := 9) (by decide) (by omega)).mp q; omega), ht k (by omega), Option.bind_some, Option.bind_some, e]
    exact ih m (k + 1) _ (by omega) (by omega)
theorem tallF {bc nc fc : Int32} {rf : Nat → Int32} (hC : rC bc nc fc rf) (sz ln : Int32) : ∃ t : Nat → Int32, ∀ k, k < 5 → f6_tally bc nc fc sz ln (nI k) = some (t k) ∧ f7_refusedOf sz rf ln (nI k) = some (t k) := by
  refine ⟨fun k => (f6_tally bc nc fc sz ln (nI k)).getD 0, fun k hk => ?_⟩
  obtain ⟨v, h1, h2⟩ := tall hC sz ln hk
  dsimp only
  rw [h1, h2]
  exact ⟨rfl, rfl⟩
theorem outF {A B : Nat → Int32} {V : Nat → Nat} (hA : VR A V) (hB : VR B V) (m st : Int32) (ct : Bool) : ∃ t : Nat → Int32, ∀ k, k < 9 → f3_outcome A m st (b01 ct) (nI k) = some (t k) ∧ f7_tellRun B m st (b01 ct) (nI k) = some (t k) := by
  refine ⟨fun k => (f3_outcome A m st (b01 ct) (nI k)).getD 0, fun k hk => ?_⟩
  obtain ⟨v, h1, h2⟩ := outc hA hB m st ct hk
  dsimp only
  rw [h1, h2]
  exact ⟨rfl, rfl⟩
theorem call_digest {S : CS} {M : MS} (h : RR S M) : ∃ r6 r7, F6_digest S = some r6 ∧ F7_digest M = some r7 ∧ a6_digest r6 = a7_digest r7 ∧ RR (s6_digest S r6) (s7_digest M r7) := by
  obtain ⟨⟨c, b, hw⟩, hn, ⟨o, z, ho, hz, hst, hG⟩, hC, ⟨hT, n, hn1, hn2, hn3⟩, hO, hF, hV⟩ := h
  have hH : rH S.history_oldest S.history_size S.history0_N S.history1_N S.history2_N S.history3_N S.history4_N M.past M.states := ⟨o, z, ho, hz, hst, hG⟩
  have hT0 : rT S.text_bytes S.text_length M.text M.length := ⟨hT, n, hn1, hn2, hn3⟩
  have hc := hw.2.1
  obtain ⟨t, ht⟩ := tallF hC S.history_size S.text_length
  obtain ⟨cm, ta, kn, oK, oT, ch, k1, k2⟩ := flown hw hF
  obtain ⟨cm', ta', kn', kw', tn', k3, k4⟩ := lay70 hw M.isThere M.taints M.known M.knows M.taint hO
  obtain ⟨A1, sg1, sc1, sp1, cu1, pk1, k5⟩ := surv hw hV S.first_values S.first_sights S.first_seenCount S.first_steps S.first_cut
  obtain ⟨A2, r1, r2, r3, r4, r5⟩ := run3 hw (show 0 < 2 ^ 31 by decide) A1 sg1 sc1 sp1 cu1
  obtain ⟨cm2, ta2, kn2, kw2, tn2, k6⟩ := acc7 hw cm' ta' kn' kw' tn'
  obtain ⟨A3, sg3, mn3, sp3, cu3, k7⟩ := leak7 hw M.vars M.sights M.many M.steps M.isCut
  obtain ⟨A4, sg4, mn4, sp4, cu4, k8⟩ := rows7 hw A3 sg3 mn3 sp3 cu3
  obtain ⟨A5, g1, g2⟩ := run7 hw (show 0 < 2 ^ 31 by decide) (show 0 < 256 by decide) A4 sg4 mn4 sp4 cu4
  obtain ⟨u, hu⟩ := outF r2 g2 (nI (rnL S.program_N c b 0).length) (nI (rnS S.program_N c b 0)) (rnC S.program_N c b 0)
  have e6 : F6_digest S = some (mxF u 9 0 (31 * (31 * (31 * (mxS (flw S.program_N c b) (c + 1) 0 (mxF (fun j => S.program_N (24 + j)) (4 * c) 0 (mxF S.program_N 24 0 (mxF t 5 0 1857)))) + (b01 (acc S.program_N c (flw S.program_N c b))).toInt64) + (oN (ot (rnL S.program_N c b) (sE b))).toInt64) + (nI (unq (rnL S.program_N c b) (sE b)).length).toInt64), 1, 1, A2, putL sg1 0 (rnL S.program_N c b 0), nI (rnL S.program_N c b 0).length, nI (rnS S.program_N c b 0), b01 (rnC S.program_N c b 0), cm, ta, kn, oK, oT, ch, pk1, nI (unq (rnL S.program_N c b) (sE b)).length, oN (ot (rnL S.program_N c b) (sE b))) := by
    unfold F6_digest f6_digest
    rw [show (0 : Int32) = nI 0 from rfl, dg6a _ _ _ _ _ _ _ _ _ _ _ _ _ _ _ _ (fun k hk => (ht k hk).1) 5 1000 0 1857 rfl (by decide)]
    unfold f6_digest_30 f2_mixInto f0_mixInto
    rw [show (0 : Int32) = nI 0 from rfl, dg2a S.program_N hw.1 hc 24 1000 0 _ rfl (by decide), Option.bind_some, k1, Option.bind_some]
    dsimp only
    rw [hw.1, mix0 k2 hc (c + 1) 1000 0 _ (by omega) (by omega), Option.bind_some, acc0 hw k2, Option.bind_some, k5, Option.bind_some]
    dsimp only
    rw [r1, Option.bind_some]
    dsimp only
    exact dg6c _ _ _ _ _ _ _ _ _ _ _ _ _ _ _ _ (fun k hk => (hu k hk).1) 9 1000 0 _ rfl (by decide)
  have e7 : ∃ H7, H7 = mxF u 9 0 (31 * (31 * (31 * (mxS (flw S.program_N c b) (c + 1) 0 (mxF (fun j => S.program_N (24 + j)) (4 * c) 0 (mxF S.program_N 24 0 (mxF t 5 0 1857)))) + (b01 (acc S.program_N c (flw S.program_N c b))).toInt64) + (oN (lkf (rnL S.program_N c b) (sE b - 1) 1)).toInt64) + (nI (unq (rnL S.program_N c b) (sE b)).length).toInt64) ∧ F7_digest M = some (H7, A5, padL (putL sg4 (61 * 0) (rnL S.program_N c b 0)) 0 (rnL S.program_N c b 0).length, nI (rnL S.program_N c b 0).length, nI (rnS S.program_N c b 0), b01 (rnC S.program_N c b 0), cm2, ta2, kn2, tn2, kw2, 0, H7) := by
    refine ⟨_, rfl, ?_⟩
    unfold F7_digest f7_digest
    rw [hn, show (0 : Int32) = nI 0 from rfl, dg7a _ _ _ _ _ _ _ _ _ _ _ (t := t) (fun k hk => by rw [hst, ← hz, hn3, ← hn2]; exact (ht k hk).2) 5 1000 0 1857 rfl (by decide), show (0 : Int32) = nI 0 from rfl, dg7b _ _ _ _ _ _ _ _ _ _ _ 24 1000 0 _ rfl (by decide), show (0 : Int32) = nI 0 from rfl, dg7c _ _ _ _ _ _ _ _ _ _ _ hw.1 hc (4 * c) 1000 0 _ (by omega) (by omega)]
    unfold f7_digest_86
    rw [k3, Option.bind_some]
    dsimp only
    rw [show (0 : Int32) = nI 0 from rfl, dg7d _ _ _ _ _ _ _ _ _ _ _ hw.1 hc k4 (c + 1) 1000 0 _ (by omega) (by omega)]
    unfold f7_digest_122 f7_mix
    rw [show nI 0 = (0 : Int32) from rfl, k6, Option.bind_some, Option.bind_some, k7, Option.bind_some, Option.bind_some]
    dsimp only
    rw [k8, Option.bind_some, Option.bind_some]
    dsimp only
    rw [show f7_goes S.program_N A4 sg4 mn4 sp4 cu4 (0 : Int32) (0 : Int32) = _ from g1, Option.bind_some]
    dsimp only
    exact dg7e _ _ _ _ _ _ _ _ _ _ _ (fun k hk => (hu k hk).2) 9 1000 0 _ rfl (by decide)
  obtain ⟨H7, eH, e7⟩ := e7
  refine ⟨_, _, e6, e7, ?_, RR_i ⟨c, b, hw⟩ hn hH hC hT0 rfl (rF_i hw k2) (rV_i hw)⟩
  show _ = H7
  rw [eH, ot_lk _ (sE_b hw.2.2.2.2.1).1]
