/-! pure rows: alarms, and what is told of lines -/
def al (N : Nat → Int32) (S : FS) (i : Nat) : Bool := match S i with
  | none => false
  | some (T, _) => if ln N i 0 = 5 then bt T (ln N i 2) else if ln N i 0 = 6 then bt T (ln N i 1) || bt T (ln N i 2) else if ln N i 0 = 7 then bt T (ln N i 1) else false
theorem tof {c : Nat} {cm ta kn : Nat → Int32} {S : FS} {i x T : Nat} {K : Nat → Int32} (hF : FRel c cm ta kn S) (hc : c ≤ 20) (hi : i ≤ c) (hS : S i = some (T, K)) (hx : x < 6) : f0_taintOf ta (nI i) (nI x) = some (b01 (bt T x)) := by
  have h := hF i hi
  rw [hS] at h
  unfold f0_taintOf
  rw [inb_nI (show i < 21 by omega) (by decide), nI_clamp (show i < 2 ^ 31 by omega), h.2.1, (p_oth T h.2.2.1 x hx).2.2.2, nI_bit]
  rfl
theorem kof {c : Nat} {cm ta kn : Nat → Int32} {S : FS} {i x T : Nat} {K : Nat → Int32} (hF : FRel c cm ta kn S) (hc : c ≤ 20) (hi : i ≤ c) (hS : S i = some (T, K)) (hx : x < 6) : f0_knownOf kn (nI i) (nI x) = some (K x) := by
  have h := hF i hi
  rw [hS] at h
  unfold f0_knownOf
  rw [show nI i * (6 : Int32) = nI (6 * i) from by rw [show (6 : Int32) = nI 6 from rfl, pk_mul, Nat.mul_comm], nI_add, inb_nI (show 6 * i + x < 126 by omega) (by decide), nI_clamp (show 6 * i + x < 2 ^ 31 by omega), (h.2.2.2 x hx).1]
  rfl
theorem b01_1 {b : Bool} : b01 b = 1 ↔ b = true := by cases b <;> decide +kernel
theorem b01_if {b : Bool} : (if b01 b = (1 : Int32) then some (1 : Int32) else some 0) = some (b01 b) := by cases b <;> rfl
theorem gal0 {N : Nat → Int32} {c s i : Nat} (hw : wf N c s) (hi : i < c) {cm ta kn : Nat → Int32} {S : FS} (hF : FRel c cm ta kn S) : f0_givesAlarm cm ta N (nI i) = some (b01 (al N S i)) := by
  have hc := hw.2.1
  obtain ⟨l0, l1, l2, l3, hk, hx, hy, hz⟩ := wf_line hw hi
  unfold f0_givesAlarm
  rw [inb_nI (show i < 21 by omega) (by decide), nI_clamp (show i < 2 ^ 31 by omega), ck_t]
  cases hS : S i with
  | none =>
    rw [if_pos ((pl_none hF (by omega)).mpr hS)]
    unfold al
    rw [hS]
    rfl
  | some z =>
    obtain ⟨T, K⟩ := z
    rw [if_neg (fun q => by have := (pl_none hF (by omega)).mp q; rw [hS] at this; cases this), show f2_partOf N (nI i) (1 : Int32) = some (nI (ln N i 1)) from (part2 N (q := 1) (by omega) (by decide)).trans (congrArg some l1), Option.bind_some, tof hF hc (by omega) hS hx, Option.bind_some]
    unfold f0_givesAlarm_23 al
    rw [hS, show f2_partOf N (nI i) (0 : Int32) = some (nI (ln N i 0)) from (part2 N (q := 0) (by omega) (by decide)).trans (congrArg some l0), Option.bind_some, show f2_partOf N (nI i) (2 : Int32) = some (nI (ln N i 2)) from (part2 N (q := 2) (by omega) (by decide)).trans (congrArg some l2), Option.bind_some]
    dsimp only
    unfold yE at hy
    by_cases h5 : ln N i 0 = 5
    · rw [if_pos h5, if_pos (show nI (ln N i 0) = (5 : Int32) by rw [h5]; rfl)]
      rw [if_neg (by omega), if_neg (by omega)] at hy
      rw [tof hF hc (by omega) hS hy, Option.bind_some, b01_if]
    · rw [if_neg h5, if_neg (fun q => h5 ((nI_is 5 (b := (5 : Int32)) rfl (by omega) (by decide)).mp q))]
      by_cases h6 : ln N i 0 = 6
      · rw [if_pos h6, if_pos (show nI (ln N i 0) = (6 : Int32) by rw [h6]; rfl)]
        rw [if_neg (by omega), if_neg (by omega)] at hy
        rw [tof hF hc (by omega) hS hy, Option.bind_some, b01_if]
        cases bt T (ln N i 1) <;> rfl
      · rw [if_neg h6, if_neg (fun q => h6 ((nI_is 6 (b := (6 : Int32)) rfl (by omega) (by decide)).mp q))]
        by_cases h7 : ln N i 0 = 7
        · rw [if_pos h7, if_pos (show nI (ln N i 0) = (7 : Int32) by rw [h7]; rfl), b01_if]
        · rw [if_neg h7, if_neg (fun q => h7 ((nI_is 7 (b := (7 : Int32)) rfl (by omega) (by decide)).mp q))]
          rfl
theorem has_any (v x : Int32) : f7_has v x = some 0 ∨ f7_has v x = some 1 := by
  unfold f7_has
  split
  · exact Or.inr rfl
  · exact Or.inl rfl
theorem al79 {N cm ta : Nat → Int32} {i : Nat} (hi : i ≤ 20) (x2 : Int32) (a b : Bool) {u : Bool} (hu : cm i = b01 u) : f7_isAlarm_79 N cm ta (nI i) x2 (b01 a) (b01 b) = some (b01 (u && (a || b))) := by
  unfold f7_isAlarm_79
  rw [inb_nI (show i < 21 by omega) (by decide), nI_clamp (show i < 2 ^ 31 by omega), ck_t, hu]
  cases u <;> cases a <;> cases b <;> decide +kernel
theorem isal7 {N : Nat → Int32} {c s i : Nat} (hw : wf N c s) (hi : i < c) {cm ta kn : Nat → Int32} {S : FS} (hF : FRel c cm ta kn S) : f7_isAlarm N cm ta (nI i) = some (b01 (al N S i)) := by
  have hc := hw.2.1
  obtain ⟨l0, l1, l2, l3, hk, hx, hy, hz⟩ := wf_line hw hi
  have q0 : f7_partOf N (nI i) (0 : Int32) = some (nI (ln N i 0)) := (part7 N (q := 0) (by omega) (by decide)).trans (congrArg some l0)
  have q1 : f7_partOf N (nI i) (1 : Int32) = some (nI (ln N i 1)) := (part7 N (q := 1) (by omega) (by decide)).trans (congrArg some l1)
  have q2 : f7_partOf N (nI i) (2 : Int32) = some (nI (ln N i 2)) := (part7 N (q := 2) (by omega) (by decide)).trans (congrArg some l2)
  have hu := pl_isb hF (show i ≤ c by omega)
  -- the two sides of the or
  obtain ⟨hX, eX⟩ : ∃ b : Bool, f7_has (ta i) (nI (ln N i 1)) = some (b01 b) := by
    rcases has_any (ta i) (nI (ln N i 1)) with h | h
    · exact ⟨false, h⟩
    · exact ⟨true, h⟩
  obtain ⟨hY, eY⟩ : ∃ b : Bool, f7_has (ta i) (nI (ln N i 2)) = some (b01 b) := by
    rcases has_any (ta i) (nI (ln N i 2)) with h | h
    · exact ⟨false, h⟩
    · exact ⟨true, h⟩
  have k5 : nI (ln N i 0) = (5 : Int32) ↔ ln N i 0 = 5 := nI_is 5 rfl (by omega) (by decide)
  have k6 : nI (ln N i 0) = (6 : Int32) ↔ ln N i 0 = 6 := nI_is 6 rfl (by omega) (by decide)
  have k7 : nI (ln N i 0) = (7 : Int32) ↔ ln N i 0 = 7 := nI_is 7 rfl (by omega) (by decide)
  have g43 : ∀ a : Bool, f7_isAlarm_43 N cm ta (nI i) (nI (ln N i 0)) (b01 a) = some (b01 ((S i).isSome && (a || (if ln N i 0 = 5 ∨ ln N i 0 = 6 then hY else false)))) := by
    intro a
    have g54 : f7_isAlarm_54 N cm ta (nI i) (nI (ln N i 0)) (b01 a) = some (b01 ((S i).isSome && (a || hY))) := by
      unfold f7_isAlarm_54 f7_isAlarm_76 f7_isAlarm_77
      rw [inb_nI (show i < 21 by omega) (by decide), nI_clamp (show i < 2 ^ 31 by omega), ck_t, q2, Option.bind_some, eY, Option.bind_some]
      cases hY with
      | false => rw [b01_f0, if_pos rfl, show (0 : Int32) = b01 false from rfl, al79 (by omega) _ a false hu]
      | true => rw [b01_t1, if_neg one_ne, show (1 : Int32) = b01 true from rfl, al79 (by omega) _ a true hu]
    unfold f7_isAlarm_43
    rw [g54]
    by_cases h5 : ln N i 0 = 5
    · rw [if_pos (k5.mpr h5), if_pos (Or.inl h5)]
    · rw [if_neg (fun q => h5 (k5.mp q))]
      by_cases h6 : ln N i 0 = 6
      · rw [if_pos (k6.mpr h6), if_pos (Or.inr h6)]
      · rw [if_neg (fun q => h6 (k6.mp q)), if_neg (fun q => q.elim h5 h6)]
        unfold f7_isAlarm_76 f7_isAlarm_77
        rw [show (0 : Int32) = b01 false from rfl, al79 (by omega) _ a false hu]
  unfold f7_isAlarm
  rw [q0, Option.bind_some]
  unfold f7_isAlarm_7 f7_isAlarm_41 f7_isAlarm_42
  rw [inb_nI (show i < 21 by omega) (by decide), nI_clamp (show i < 2 ^ 31 by omega), ck_t, q1, Option.bind_some, eX, Option.bind_some, show f7_isAlarm_43 N cm ta (nI i) (nI (ln N i 0)) (0 : Int32) = _ from g43 false, show f7_isAlarm_43 N cm ta (nI i) (nI (ln N i 0)) (1 : Int32) = _ from g43 true]
  have fin : (if b01 hX = 0 then some (b01 ((S i).isSome && (false || (if ln N i 0 = 5 ∨ ln N i 0 = 6 then hY else false)))) else if nI (ln N i 0) = 6 then some (b01 ((S i).isSome && (true || (if ln N i 0 = 5 ∨ ln N i 0 = 6 then hY else false)))) else if nI (ln N i 0) = 7 then some (b01 ((S i).isSome && (true || (if ln N i 0 = 5 ∨ ln N i 0 = 6 then hY else false)))) else some (b01 ((S i).isSome && (false || (if ln N i 0 = 5 ∨ ln N i 0 = 6 then hY else false))))) = some (b01 ((S i).isSome && ((hX && decide (ln N i 0 = 6 ∨ ln N i 0 = 7)) || (if ln N i 0 = 5 ∨ ln N i 0 = 6 then hY else false)))) := by
    cases hX with
    | false => rw [if_pos (show b01 false = 0 from rfl)]; rfl
    | true =>
      rw [if_neg (show ¬ b01 true = 0 from one_ne)]
      by_cases h6 : ln N i 0 = 6
      · rw [if_pos (k6.mpr h6), decide_eq_true (Or.inl h6 : ln N i 0 = 6 ∨ ln N i 0 = 7)]; rfl
      · rw [if_neg (fun q => h6 (k6.mp q))]
        by_cases h7 : ln N i 0 = 7
        · rw [if_pos (k7.mpr h7), decide_eq_true (Or.inr h7 : ln N i 0 = 6 ∨ ln N i 0 = 7)]; rfl
        · rw [if_neg (fun q => h7 (k7.mp q)), decide_eq_false (fun q : ln N i 0 = 6 ∨ ln N i 0 = 7 => q.elim h6 h7)]; rfl
  rw [fin]
  congr 2
  unfold al
  cases hS : S i with
  | none => rfl
  | some z =>
    obtain ⟨T, K⟩ := z
    have h := hF i (by omega)
    rw [hS] at h
    have e1 : hX = bt T (ln N i 1) := by
      rw [h.2.1, tnt7 h.2.2.1 hx] at eX
      have := Option.some.inj eX
      cases hX <;> cases hb : bt T (ln N i 1) <;> rw [hb] at this <;> first | rfl | (exact absurd this (by decide +kernel))
    dsimp only
    rw [e1]
    unfold yE at hy
    have e2 : ln N i 0 ≠ 0 → ln N i 0 ≠ 7 → hY = bt T (ln N i 2) := by
      intro a0 a7
      rw [if_neg a0, if_neg a7] at hy
      rw [h.2.1, tnt7 h.2.2.1 hy] at eY
      have := Option.some.inj eY
      cases hY <;> cases hb : bt T (ln N i 2) <;> rw [hb] at this <;> first | rfl | (exact absurd this (by decide +kernel))
    by_cases h5 : ln N i 0 = 5
    · rw [if_pos (Or.inl h5), if_pos h5, decide_eq_false (fun q : ln N i 0 = 6 ∨ ln N i 0 = 7 => by omega), e2 (by omega) (by omega)]
      cases bt T (ln N i 1) <;> cases bt T (ln N i 2) <;> rfl
    · rw [if_neg h5]
      by_cases h6 : ln N i 0 = 6
      · rw [if_pos (Or.inr h6), if_pos h6, decide_eq_true (Or.inl h6 : ln N i 0 = 6 ∨ ln N i 0 = 7), e2 (by omega) (by omega)]
        cases bt T (ln N i 1) <;> cases bt T (ln N i 2) <;> rfl
      · rw [if_neg (fun q => q.elim h5 h6), if_neg h6]
        by_cases h7 : ln N i 0 = 7
        · rw [if_pos h7, decide_eq_true (Or.inr h7 : ln N i 0 = 6 ∨ ln N i 0 = 7)]
          cases bt T (ln N i 1) <;> rfl
        · rw [if_neg h7, decide_eq_false (fun q : ln N i 0 = 6 ∨ ln N i 0 = 7 => q.elim h6 h7)]
          cases bt T (ln N i 1) <;> rfl
def nth (N : Nat → Int32) (S : FS) : Nat → Nat → Nat → Option Nat
  | 0, _, _ => none
  | d + 1, i, m => if al N S i = true then (if m = 0 then some i else nth N S d (i + 1) (m - 1)) else nth N S d (i + 1) m
theorem alm0 {N : Nat → Int32} {c s : Nat} (hw : wf N c s) {cm ta kn : Nat → Int32} {S : FS} (hF : FRel c cm ta kn S) (v : Int32) : ∀ (d n i m : Nat), i + d = c → d < n → m < 2 ^ 31 → f0_alarmAt_5 cm ta N n (v, nI m, nI i) = some (oN (nth N S d i m)) := by
  have hc := hw.2.1
  intro d
  induction d with
  | zero =>
    intro n i m hi hn hm
    obtain ⟨n, rfl⟩ : ∃ k, n = k + 1 := ⟨n - 1, by omega⟩
    show f0_alarmAt_5b cm ta N _ v (nI m) (nI i) = _
    unfold f0_alarmAt_5b
    rw [hw.1, if_pos (nI_le (by omega) (by omega))]
    rfl
  | succ d ih =>
    intro n i m hi hn hm
    obtain ⟨n, rfl⟩ : ∃ k, n = k + 1 := ⟨n - 1, by omega⟩
    show f0_alarmAt_5b cm ta N (f0_alarmAt_5 cm ta N n) v (nI m) (nI i) = some (oN (if al N S i = true then (if m = 0 then some i else nth N S d (i + 1) (m - 1)) else nth N S d (i + 1) m))
    unfold f0_alarmAt_5b
    rw [hw.1, if_neg (nI_ge (show i < c by omega) (by omega)), gal0 hw (by omega) hF, Option.bind_some, show nI i + (1 : Int32) = nI (i + 1) from nI_add i 1]
    cases al N S i with
    | false => rw [b01_f0, if_pos rfl, if_neg (by decide)]; exact ih n (i + 1) m (by omega) (by omega) hm
    | true =>
      rw [b01_t1, if_neg one_ne, if_pos rfl]
      by_cases h : m = 0
      · rw [if_pos (show nI m = 0 by rw [h]; rfl), if_pos h]; rfl
      · rw [if_neg (nI_ne0 (by omega) hm), if_neg h]
        obtain ⟨m, rfl⟩ : ∃ k, m = k + 1 := ⟨m - 1, by omega⟩
        rw [pk_m1 m]
        exact ih n (i + 1) m (by omega) (by omega) (by omega)
theorem alm7 {N : Nat → Int32} {c s : Nat} (hw : wf N c s) {cm ta kn : Nat → Int32} {S : FS} (hF : FRel c cm ta kn S) (tn ot : Int32) (kw : Nat → Int32) {v : Nat} (hv : v < 2 ^ 31) : ∀ (d n i m : Nat), i + d = c → d < n → m ≤ v → f7_alarmNow_8 N n (cm, ta, kn, tn, kw, ot, nI v, nI (v - m), nI i) = some (oN (nth N S d i m), cm, ta, kn, tn, kw, ot) := by
  have hc := hw.2.1
  intro d
  induction d with
  | zero =>
    intro n i m hi hn hm
    obtain ⟨n, rfl⟩ : ∃ k, n = k + 1 := ⟨n - 1, by omega⟩
    show f7_alarmNow_8b N _ cm ta kn tn kw ot (nI v) (nI (v - m)) (nI i) = _
    unfold f7_alarmNow_8b
    rw [hw.1, if_pos (nI_le (by omega) (by omega))]
    rfl
  | succ d ih =>
    intro n i m hi hn hm
    obtain ⟨n, rfl⟩ : ∃ k, n = k + 1 := ⟨n - 1, by omega⟩
    show f7_alarmNow_8b N (f7_alarmNow_8 N n) cm ta kn tn kw ot (nI v) (nI (v - m)) (nI i) = some (oN (if al N S i = true then (if m = 0 then some i else nth N S d (i + 1) (m - 1)) else nth N S d (i + 1) m), cm, ta, kn, tn, kw, ot)
    unfold f7_alarmNow_8b
    rw [hw.1, if_neg (nI_ge (show i < c by omega) (by omega)), isal7 hw (by omega) hF, Option.bind_some, show nI i + (1 : Int32) = nI (i + 1) from nI_add i 1]
    cases al N S i with
    | false => rw [b01_f0, if_pos rfl, if_neg (by decide)]; exact ih n (i + 1) m (by omega) (by omega) hm
    | true =>
      rw [b01_t1, if_neg one_ne, if_pos rfl]
      by_cases h : m = 0
      · rw [if_pos (show nI (v - m) = nI v by rw [h, Nat.sub_zero]), if_pos h]; rfl
      · rw [if_neg (fun q => by have := (nI_eq (by omega) hv).mp q; omega), if_neg h, show nI (v - m) + (1 : Int32) = nI (v - m + 1) from nI_add _ 1, show v - m + 1 = v - (m - 1) by omega]
        exact ih n (i + 1) (m - 1) (by omega) (by omega) (by omega)
theorem nth_lt {N : Nat → Int32} {S : FS} : ∀ (d i m q : Nat), nth N S d i m = some q → q < i + d
  | 0, _, _, _, h => by cases h
  | d + 1, i, m, q, h => by
    have h : (if al N S i = true then (if m = 0 then some i else nth N S d (i + 1) (m - 1)) else nth N S d (i + 1) m) = some q := h
    split at h
    · split at h
      · cases h; omega
      · have := nth_lt d (i + 1) (m - 1) q h; omega
    · have := nth_lt d (i + 1) m q h; omega
/-- accepted -/
def acc (N : Nat → Int32) (c : Nat) (S : FS) : Bool := (nth N S c 0 0).isNone
theorem oN_none {o : Option Nat} (h : ∀ t, o = some t → t < 2 ^ 31) : (if oN o = (-1 : Int32) then (1 : Int32) else 0) = b01 o.isNone := by
  cases o with
  | none => rfl
  | some t =>
    rw [if_neg (fun q => by have := (oN_m1 h).mp q; cases this)]
    rfl
theorem acc0 {N : Nat → Int32} {c s : Nat} (hw : wf N c s) {cm ta kn : Nat → Int32} {S : FS} (hF : FRel c cm ta kn S) : f0_accepts cm ta N = some (b01 (acc N c S)) := by
  have hc := hw.2.1
  unfold f0_accepts f0_alarmAt acc
  rw [show f0_alarmAt_5 cm ta N 1000 ((0 : Int32), (0 : Int32), (0 : Int32)) = _ from alm0 hw hF 0 c 1000 0 0 (Nat.zero_add c) (by omega) (by decide), Option.bind_some]
  have h := oN_none (o := nth N S c 0 0) (fun t h => by have := nth_lt c 0 0 t h; omega)
  split
  · rename_i e
    rw [if_pos e] at h
    rw [← h]
  · rename_i e
    rw [if_neg e] at h
    rw [← h]
theorem acc7 {N : Nat → Int32} {c b : Nat} (hw : wf N c b) (cm ta kn kw : Nat → Int32) (tn : Int32) : ∃ cm' ta' kn' kw' tn', f7_acceptedNow N cm ta kn tn kw 0 = some (b01 (acc N c (flw N c b)), cm', ta', kn', tn', kw', 0) := by
  have hc := hw.2.1
  obtain ⟨cm', ta', kn', kw', tn', g1, g2⟩ := lay7 hw cm ta kn kw tn false
  refine ⟨cm', ta', kn', kw', tn', ?_⟩
  unfold f7_acceptedNow f7_alarmNow acc
  rw [show f7_laysLines N cm ta kn tn kw (0 : Int32) = _ from g1, Option.bind_some]
  dsimp only
  rw [show f7_alarmNow_8 N 1000 (cm', ta', kn', tn', kw', (0 : Int32), (0 : Int32), (0 : Int32), (0 : Int32)) = _ from alm7 hw g2 tn' 0 kw' (v := 0) (by decide) c 1000 0 0 (Nat.zero_add c) (by omega) (Nat.le_refl 0), Option.bind_some]
  dsimp only
  have h := oN_none (o := nth N (flw N c b) c 0 0) (fun t h => by have := nth_lt c 0 0 t h; omega)
  split
  · rename_i e
    rw [if_pos e] at h
    rw [← h]
  · rename_i e
    rw [if_neg e] at h
    rw [← h]
/-- mixing what is told of a line -/
def mxv (T : Nat) (K : Nat → Int32) : Nat → Nat → Int64 → Int64
  | 0, _, h => h
  | d + 1, x, h => mxv T K d (x + 1) (31 * (31 * h + (b01 (bt T x)).toInt64) + (K x).toInt64)
def mxS (S : FS) : Nat → Nat → Int64 → Int64
  | 0, _, h => h
  | d + 1, i, h => mxS S d (i + 1) (match S i with
    | none => h
    | some (T, K) => mxv T K 6 0 (31 * h + (nI i).toInt64))
theorem mxi0 {c : Nat} {cm ta kn : Nat → Int32} {S : FS} {i T : Nat} {K : Nat → Int32} (hF : FRel c cm ta kn S) (hc : c ≤ 20) (hi : i ≤ c) (hS : S i = some (T, K)) (k3 : Int64 × Int32 × Int32 → Option Int64) (x3 : Int32) : ∀ (d n x : Nat) (h : Int64), x + d = 6 → d < n → f0_mixInto_32 cm ta kn k3 n (h, x3, nI i, nI x) = k3 (mxv T K d x h, x3, nI (i + 1)) := by
  intro d
  induction d with
  | zero =>
    intro n x h hx hn
    obtain ⟨n, rfl⟩ : ∃ k, n = k + 1 := ⟨n - 1, by omega⟩
    show f0_mixInto_32b cm ta kn k3 _ h x3 (nI i) (nI x) = _
    unfold f0_mixInto_32b
    rw [if_pos (show (6 : Int32) ≤ nI x from (nI_le (by omega) (by omega) : nI 6 ≤ nI x)), show nI i + (1 : Int32) = nI (i + 1) from nI_add i 1]
    rfl
  | succ d ih =>
    intro n x h hx hn
    obtain ⟨n, rfl⟩ : ∃ k, n = k + 1 := ⟨n - 1, by omega⟩
    show f0_mixInto_32b cm ta kn k3 (f0_mixInto_32 cm ta kn k3 n) h x3 (nI i) (nI x) = _
    unfold f0_mixInto_32b
    rw [if_neg (show ¬ (6 : Int32) ≤ nI x from (nI_ge (by omega) (by omega) : ¬ nI 6 ≤ nI x)), tof hF hc hi hS (by omega), Option.bind_some, kof hF hc hi hS (by omega), Option.bind_some, show nI x + (1 : Int32) = nI (x + 1) from nI_add x 1]
    exact ih n (x + 1) _ (by omega) (by omega)
theorem mix0 {c : Nat} {cm ta kn : Nat → Int32} {S : FS} (hF : FRel c cm ta kn S) (hc : c ≤ 20) : ∀ (d n i : Nat) (h : Int64), i + d = c + 1 → d < n → f0_mixInto_3 cm ta kn n (h, nI c, nI i) = some (mxS S d i h) := by
  intro d
  induction d with
  | zero =>
    intro n i h hi hn
    obtain ⟨n, rfl⟩ : ∃ k, n = k + 1 := ⟨n - 1, by omega⟩
    show f0_mixInto_3b cm ta kn _ h (nI c) (nI i) = _
    unfold f0_mixInto_3b
    rw [if_pos (nI_lt (by omega) (by omega))]
    rfl
  | succ d ih =>
    intro n i h hi hn
    obtain ⟨n, rfl⟩ : ∃ k, n = k + 1 := ⟨n - 1, by omega⟩
    show f0_mixInto_3b cm ta kn (f0_mixInto_3 cm ta kn n) h (nI c) (nI i) = some (mxS S d (i + 1) (match S i with
      | none => h
      | some (T, K) => mxv T K 6 0 (31 * h + (nI i).toInt64)))
    unfold f0_mixInto_3b
    rw [if_neg (nI_nlt (by omega) (by omega)), inb_nI (show i < 21 by omega) (by decide), nI_clamp (show i < 2 ^ 31 by omega), ck_t, show nI i + (1 : Int32) = nI (i + 1) from nI_add i 1]
    cases hS : S i with
    | none =>
      rw [if_pos ((pl_none hF (by omega)).mpr hS)]
      exact ih n (i + 1) h (by omega) (by omega)
    | some z =>
      obtain ⟨T, K⟩ := z
      rw [if_neg (fun q => by have := (pl_none hF (by omega)).mp q; rw [hS] at this; cases this)]
      rw [show f0_mixInto_32 cm ta kn (f0_mixInto_3 cm ta kn n) 1000 (31 * h + (nI i).toInt64, nI c, nI i, (0 : Int32)) = _ from mxi0 hF hc (by omega) hS (f0_mixInto_3 cm ta kn n) (nI c) 6 1000 0 (31 * h + (nI i).toInt64) rfl (by decide)]
      exact ih n (i + 1) _ (by omega) (by omega)
theorem mxl7 {c : Nat} {cm ta kn : Nat → Int32} {S : FS} {i T : Nat} {K : Nat → Int32} (hF : FRel c cm ta kn S) (hc : c ≤ 20) (hi : i ≤ c) (hS : S i = some (T, K)) : ∀ (d n x : Nat) (h : Int64), x + d = 6 → d < n → f7_mixLine_7 ta kn n (h, nI i, nI x) = some (mxv T K d x h) := by
  have hh := hF i hi
  rw [hS] at hh
  intro d
  induction d with
  | zero =>
    intro n x h hx hn
    obtain ⟨n, rfl⟩ : ∃ k, n = k + 1 := ⟨n - 1, by omega⟩
    show f7_mixLine_7b ta kn _ h (nI i) (nI x) = _
    unfold f7_mixLine_7b
    rw [if_pos (show (6 : Int32) ≤ nI x from (nI_le (by omega) (by omega) : nI 6 ≤ nI x))]
    rfl
  | succ d ih =>
    intro n x h hx hn
    obtain ⟨n, rfl⟩ : ∃ k, n = k + 1 := ⟨n - 1, by omega⟩
    show f7_mixLine_7b ta kn (f7_mixLine_7 ta kn n) h (nI i) (nI x) = _
    unfold f7_mixLine_7b f7_mix
    rw [if_neg (show ¬ (6 : Int32) ≤ nI x from (nI_ge (by omega) (by omega) : ¬ nI 6 ≤ nI x)), inb_nI (show i < 21 by omega) (by decide), nI_clamp (show i < 2 ^ 31 by omega), ck_t, Option.bind_some, show (6 : Int32) * nI i = nI (6 * i) from pk_mul 6 i, nI_add, inb_nI (show 6 * i + x < 126 by omega) (by decide), nI_clamp (show 6 * i + x < 2 ^ 31 by omega), ck_t, Option.bind_some, hh.2.1, (p_oth T hh.2.2.1 x (by omega)).2.2.2, nI_bit, (hh.2.2.2 x (by omega)).1, show nI x + (1 : Int32) = nI (x + 1) from nI_add x 1]
    exact ih n (x + 1) _ (by omega) (by omega)
theorem mixL7 {c : Nat} {cm ta kn : Nat → Int32} {S : FS} {i T : Nat} {K : Nat → Int32} (hF : FRel c cm ta kn S) (hc : c ≤ 20) (hi : i ≤ c) (hS : S i = some (T, K)) (h : Int64) : f7_mixLine ta kn h (nI i) = some (mxv T K 6 0 (31 * h + (nI i).toInt64)) := by
  unfold f7_mixLine f7_mix
  rw [Option.bind_some]
  exact mxl7 hF hc hi hS 6 1000 0 _ rfl (by decide)
