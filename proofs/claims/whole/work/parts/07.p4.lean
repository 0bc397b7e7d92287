/-! pure rows: secrets; where two runs part -/
def sE (b : Nat) : Nat := 16 ^ pop6 b
theorem sE_b {b : Nat} (hp : pop6 b ≤ 2) : 1 ≤ sE b ∧ sE b ≤ 256 ∧ (sE b = 1 ∨ sE b = 16 ∨ sE b = 256) := by
  unfold sE
  rcases (show pop6 b = 0 ∨ pop6 b = 1 ∨ pop6 b = 2 by omega) with h | h | h <;> rw [h] <;> decide
theorem end2 {N : Nat → Int32} {c b : Nat} (hw : wf N c b) : f2_secretsEnd N = some (nI (sE b)) := by
  unfold f2_secretsEnd
  rw [hw.2.2.1, (p_bits b hw.2.2.2.1).1, Option.bind_some]
  have hp := hw.2.2.2.2.1
  unfold sE
  rcases (show pop6 b = 0 ∨ pop6 b = 1 ∨ pop6 b = 2 by omega) with h | h | h <;> rw [h] <;> decide +kernel
theorem end7 {N : Nat → Int32} {c b : Nat} (hw : wf N c b) : f7_secrets N = some (nI (sE b)) := by
  unfold f7_secrets
  rw [hw.2.2.1, (p_bits b hw.2.2.2.1).2, Option.bind_some]
  have hp := hw.2.2.2.2.1
  unfold sE
  rcases (show pop6 b = 0 ∨ pop6 b = 1 ∨ pop6 b = 2 by omega) with h | h | h <;> rw [h] <;> decide +kernel
theorem has2 {N : Nat → Int32} {c b : Nat} (hw : wf N c b) (v : Int32) : f2_hasSecrets N v = some (b01 (inb v (sE b))) := by
  obtain ⟨h1, h2, -⟩ := sE_b hw.2.2.2.2.1
  unfold f2_hasSecrets
  rw [end2 hw, Option.bind_some, w6 v (sE b) (nI_toInt (by omega)), Option.bind_some, b01_isb]; rfl
theorem isS7 {N : Nat → Int32} {c b : Nat} (hw : wf N c b) (v : Int32) : f7_isSecrets N v = some (b01 (inb v (sE b))) := by
  obtain ⟨h1, h2, -⟩ := sE_b hw.2.2.2.2.1
  unfold f7_isSecrets
  obtain ⟨m, hm⟩ : ∃ m, sE b = m + 1 := ⟨sE b - 1, by omega⟩
  rw [end7 hw, Option.bind_some, hm, show nI (m + 1) - (1 : Int32) = nI m from nI_pred m, w7 v (m + 1) (by rw [nI_toInt (by omega)]; omega), Option.bind_some, b01_isb]; rfl
/-- place t of a row of sights -/
def rwL (L : List Nat) (t : Nat) : Int32 := if t < L.length then nI (L.getD t 0) else -1
def dif (L M : List Nat) : Nat → Nat → Option Nat
  | 0, _ => none
  | d + 1, t => if rwL L t = rwL M t then dif L M d (t + 1) else some t
def oN (o : Option Nat) : Int32 := match o with
  | none => -1
  | some t => nI t
theorem dif_out {L M : List Nat} : ∀ (d t : Nat), L.length ≤ t → M.length ≤ t → dif L M d t = none
  | 0, _, _, _ => rfl
  | d + 1, t, h1, h2 => by
    show (if rwL L t = rwL M t then dif L M d (t + 1) else some t) = none
    have e1 : rwL L t = -1 := by unfold rwL; rw [if_neg (by omega)]
    have e2 : rwL M t = -1 := by unfold rwL; rw [if_neg (by omega)]
    rw [e1, e2, if_pos rfl]
    exact dif_out d (t + 1) (by omega) (by omega)
theorem seen3 {sg : Nat → Int32} {L : List Nat} (hL : L.length ≤ 61) (hs : ∀ t, t < L.length → sg t = nI (L.getD t 0)) (v : Int32) : f3_seen sg (nI L.length) v = some (if inb v L.length = true then nI (L.getD v.toNatClampNeg 0) else -1) := by
  unfold f3_seen
  rw [w6 v L.length (nI_toInt (by omega)), Option.bind_some]
  cases h : inb v L.length with
  | false => rfl
  | true =>
    obtain ⟨t, ht, rfl⟩ := inb_ex h (by omega)
    rw [b01_t1, if_neg one_ne, inb_nI (by omega) (by decide), nI_clamp (by omega), hs t ht, if_pos rfl]
    rfl
theorem seen3t {sg : Nat → Int32} {L : List Nat} (hL : L.length ≤ 61) (hs : ∀ t, t < L.length → sg t = nI (L.getD t 0)) {t : Nat} (ht : t < 2 ^ 31) : f3_seen sg (nI L.length) (nI t) = some (rwL L t) := by
  rw [seen3 hL hs]
  unfold rwL
  by_cases h : t < L.length
  · rw [if_pos (inb_nI h (by omega)), if_pos h, nI_clamp (by omega)]
  · rw [if_neg (fun q => h (by have := (inb_iff.mp q).2; rw [nI_toInt (by omega)] at this; omega)), if_neg h]
theorem parF {sg sh : Nat → Int32} {L M : List Nat} (hL : L.length ≤ 61) (hM : M.length ≤ 61) (hs : ∀ t, t < L.length → sg t = nI (L.getD t 0)) (hh : ∀ t, t < M.length → sh t = nI (M.getD t 0)) {e : Nat} (he : L.length ≤ e) (he2 : M.length ≤ e) (h61 : e ≤ 61) : ∀ (d n t : Nat), t + d = 61 → t ≤ e → d < n → f3_partsFrom_14 sg (nI L.length) sh (nI M.length) n (nI e, nI t) = some (oN (dif L M d t)) := by
  intro d
  induction d with
  | zero =>
    intro n t ht hte hn
    obtain ⟨n, rfl⟩ : ∃ m, n = m + 1 := ⟨n - 1, by omega⟩
    show f3_partsFrom_14b sg (nI L.length) sh (nI M.length) _ (nI e) (nI t) = _
    unfold f3_partsFrom_14b
    rw [if_pos (nI_le (by omega) (by omega))]
    rfl
  | succ d ih =>
    intro n t ht hte hn
    obtain ⟨n, rfl⟩ : ∃ m, n = m + 1 := ⟨n - 1, by omega⟩
    show f3_partsFrom_14b sg (nI L.length) sh (nI M.length) (f3_partsFrom_14 sg (nI L.length) sh (nI M.length) n) (nI e) (nI t) = _
    unfold f3_partsFrom_14b
    by_cases h : t < e
    · rw [if_neg (nI_ge h (by omega)), seen3t hL hs (by omega), Option.bind_some, seen3t hM hh (by omega), Option.bind_some, show nI t + (1 : Int32) = nI (t + 1) from nI_add t 1]
      show _ = some (oN (if rwL L t = rwL M t then dif L M d (t + 1) else some t))
      by_cases h2 : rwL L t = rwL M t
      · rw [if_pos h2, if_pos h2]
        exact ih n (t + 1) (by omega) (by omega) (by omega)
      · rw [if_neg h2, if_neg h2]; rfl
    · rw [if_pos (nI_le (by omega) (by omega)), dif_out (d + 1) t (by omega) (by omega)]
      rfl
theorem par3 {sg sh : Nat → Int32} {L M : List Nat} (hL : L.length ≤ 61) (hM : M.length ≤ 61) (hs : ∀ t, t < L.length → sg t = nI (L.getD t 0)) (hh : ∀ t, t < M.length → sh t = nI (M.getD t 0)) : f3_partsFrom sg (nI L.length) sh (nI M.length) = some (oN (dif L M 61 0)) := by
  unfold f3_partsFrom
  by_cases h : L.length < M.length
  · rw [if_pos (nI_lt h (by omega))]
    exact parF hL hM hs hh (by omega) (Nat.le_refl _) hM 61 1000 0 rfl (by omega) (by decide)
  · rw [if_neg (nI_nlt (by omega) (by omega))]
    exact parF hL hM hs hh (Nat.le_refl _) (by omega) hL 61 1000 0 rfl (by omega) (by decide)
/-- row r of the reference's sights holds L -/
def rowIs (sg : Nat → Int32) (r : Nat) (L : List Nat) : Prop := ∀ t, t < 61 → sg (61 * r + t) = rwL L t
theorem par7l {sg : Nat → Int32} {L M : List Nat} {p q : Nat} (hp : p < 256) (hq : q < 256) (h1 : rowIs sg p L) (h2 : rowIs sg q M) : ∀ (d n t : Nat), t + d = 61 → d < n → f7_partsAt_2 sg n (nI p, nI q, nI t) = some (oN (dif L M d t)) := by
  intro d
  induction d with
  | zero =>
    intro n t ht hn
    obtain ⟨n, rfl⟩ : ∃ m, n = m + 1 := ⟨n - 1, by omega⟩
    show f7_partsAt_2b sg _ (nI p) (nI q) (nI t) = _
    unfold f7_partsAt_2b
    rw [if_pos (show (61 : Int32) ≤ nI t from (nI_le (by omega) (by omega) : nI 61 ≤ nI t))]
    rfl
  | succ d ih =>
    intro n t ht hn
    obtain ⟨n, rfl⟩ : ∃ m, n = m + 1 := ⟨n - 1, by omega⟩
    show f7_partsAt_2b sg (f7_partsAt_2 sg n) (nI p) (nI q) (nI t) = _
    unfold f7_partsAt_2b
    rw [if_neg (show ¬ (61 : Int32) ≤ nI t from (nI_ge (by omega) (by omega) : ¬ nI 61 ≤ nI t)), show (61 : Int32) * nI p = nI (61 * p) from pk_mul 61 p, show (61 : Int32) * nI q = nI (61 * q) from pk_mul 61 q, nI_add, nI_add, inb_nI (by omega) (by decide), inb_nI (by omega) (by decide), nI_clamp (by omega), nI_clamp (by omega), ck_t, ck_t, h1 t (by omega), h2 t (by omega), show nI t + (1 : Int32) = nI (t + 1) from nI_add t 1]
    show _ = some (oN (if rwL L t = rwL M t then dif L M d (t + 1) else some t))
    by_cases h : rwL L t = rwL M t
    · rw [if_pos h, if_pos h]
      exact ih n (t + 1) (by omega) (by omega)
    · rw [if_neg h, if_neg h]; rfl
theorem par7 {sg : Nat → Int32} {L M : List Nat} {p q : Nat} (hp : p < 256) (hq : q < 256) (h1 : rowIs sg p L) (h2 : rowIs sg q M) : f7_partsAt sg (nI p) (nI q) = some (oN (dif L M 61 0)) := par7l hp hq h1 h2 61 1000 0 rfl (by decide)
theorem row_in {sg : Nat → Int32} {L : List Nat} {r : Nat} : rowIs (padL (putL sg (61 * r) L) r L.length) r L := by
  intro t ht
  unfold padL rwL
  by_cases h : t < L.length
  · rw [if_neg (by omega), if_pos h, putL_in _ _ _ _ h]
  · rw [if_pos (by omega), if_neg h]
theorem row_out {sg : Nat → Int32} {L M : List Nat} {r q : Nat} (hL : L.length ≤ 61) (h : q ≠ r) (hr : rowIs sg q M) : rowIs (padL (putL sg (61 * r) L) r L.length) q M := by
  intro t ht
  unfold padL
  rw [if_neg (by omega), putL_out _ _ _ _ (by omega)]
  exact hr t ht
/-- what a list of sights must be -/
def okL (L : List Nat) : Prop := L.length ≤ 61 ∧ ∀ a ∈ L, 1 ≤ a ∧ a < 1024
theorem okL_at {L : List Nat} (h : okL L) {t : Nat} (ht : t < L.length) : 1 ≤ L.getD t 0 ∧ L.getD t 0 < 1024 := by
  have e : L.getD t 0 = L[t] := by rw [List.getD_eq_getElem?_getD, List.getElem?_eq_getElem ht]; rfl
  rw [e]
  exact h.2 _ (List.getElem_mem ht)
theorem okL_rn {N : Nat → Int32} {c b s : Nat} (hw : wf N c b) (hs : s < 2 ^ 31) : okL (rnL N c b s) := by
  obtain ⟨-, -, -, h1, -, h2⟩ := run3 hw hs (fun _ => 0) (fun _ => 0) 0 0 0
  exact ⟨h1, h2⟩
theorem rw_ne {L : List Nat} (h : okL L) {t : Nat} (ht : t < L.length) : rwL L t ≠ -1 := by
  unfold rwL
  rw [if_pos ht]
  obtain ⟨h1, h2⟩ := okL_at h ht
  intro q
  have q2 := congrArg Int32.toInt q
  rw [nI_toInt (by omega), show (-1 : Int32).toInt = -1 by decide +kernel] at q2
  omega
theorem dif_none {L M : List Nat} : ∀ (d t : Nat), dif L M d t = none ↔ ∀ j, t ≤ j → j < t + d → rwL L j = rwL M j
  | 0, t => ⟨fun _ j h1 h2 => by omega, fun _ => rfl⟩
  | d + 1, t => by
    show (if rwL L t = rwL M t then dif L M d (t + 1) else some t) = none ↔ _
    by_cases h : rwL L t = rwL M t
    · rw [if_pos h, dif_none d (t + 1)]
      constructor
      · intro h2 j h3 h4
        by_cases e : j = t
        · rw [e]; exact h
        · exact h2 j (by omega) (by omega)
      · intro h2 j h3 h4
        exact h2 j (by omega) (by omega)
    · rw [if_neg h]
      exact ⟨fun q => (by cases q), fun q => absurd (q t (Nat.le_refl t) (by omega)) h⟩
theorem rw_eq {L M : List Nat} (hL : okL L) (hM : okL M) (h : ∀ j, j < 61 → rwL L j = rwL M j) : L = M := by
  have hl : L.length = M.length := by
    rcases Nat.lt_trichotomy L.length M.length with q | q | q
    · have h1 := h L.length (by have := hM.1; omega)
      have h2 : rwL L L.length = -1 := by unfold rwL; rw [if_neg (by omega)]
      exact absurd (h1.symm.trans h2) (rw_ne hM q)
    · exact q
    · have h1 := h M.length (by have := hL.1; omega)
      have h2 : rwL M M.length = -1 := by unfold rwL; rw [if_neg (by omega)]
      exact absurd (h1.trans h2) (rw_ne hL q)
  refine List.ext_getElem hl (fun t h1 h2 => ?_)
  have h3 := h t (by have := hL.1; omega)
  unfold rwL at h3
  rw [if_pos h1, if_pos h2] at h3
  have a1 := okL_at hL h1
  have a2 := okL_at hM h2
  have h4 := (nI_eq (by omega) (by omega)).mp h3
  rw [List.getD_eq_getElem?_getD, List.getD_eq_getElem?_getD, List.getElem?_eq_getElem h1, List.getElem?_eq_getElem h2] at h4
  exact h4
theorem dif_eq {L M : List Nat} (hL : okL L) (hM : okL M) : dif L M 61 0 = none ↔ L = M := by
  rw [dif_none]
  constructor
  · exact fun h => rw_eq hL hM (fun j hj => h j (Nat.zero_le j) (by omega))
  · intro h j _ _
    rw [h]
theorem oN_m1 {o : Option Nat} (h : ∀ t, o = some t → t < 2 ^ 31) : oN o = -1 ↔ o = none := by
  cases o with
  | none => exact ⟨fun _ => rfl, fun _ => rfl⟩
  | some t =>
    refine ⟨fun q => ?_, fun q => by cases q⟩
    have q2 := congrArg Int32.toInt (show nI t = -1 from q)
    rw [nI_toInt (h t rfl), show (-1 : Int32).toInt = -1 by decide +kernel] at q2
    omega
theorem dif_lt {L M : List Nat} : ∀ (d t q : Nat), dif L M d t = some q → q < t + d
  | 0, t, q, h => by cases h
  | d + 1, t, q, h => by
    have h : (if rwL L t = rwL M t then dif L M d (t + 1) else some t) = some q := h
    by_cases e : rwL L t = rwL M t
    · rw [if_pos e] at h
      have := dif_lt d (t + 1) q h
      omega
    · rw [if_neg e] at h
      cases h
      omega
theorem oN_dif {L M : List Nat} (hL : okL L) (hM : okL M) : oN (dif L M 61 0) = -1 ↔ L = M := by
  rw [oN_m1 (fun t h => by have := dif_lt 61 0 t h; omega), dif_eq hL hM]
