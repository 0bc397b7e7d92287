/-! pure rows: how what leads to a line comes to what is there -/
abbrev FS : Type := Nat → Option (Nat × (Nat → Int32))
def k1 (K0 K : Nat → Int32) : Nat → Int32 := fun j => if K0 j = K j then K0 j else -1
def kc (K0 K : Nat → Int32) (j : Nat) : Bool := decide (¬ K0 j = -1 ∧ ¬ K0 j = K j)
def anyr (K0 K : Nat → Int32) : Nat → Nat → Bool
  | 0, _ => false
  | d + 1, x => kc K0 K x || anyr K0 K d (x + 1)
def jnV (o : Option (Nat × (Nat → Int32))) (T : Nat) (K : Nat → Int32) : Nat × (Nat → Int32) := match o with
  | none => (T, K)
  | some (T0, K0) => (T0 ||| T, k1 K0 K)
def jnC (o : Option (Nat × (Nat → Int32))) (T : Nat) (K : Nat → Int32) : Bool := match o with
  | none => true
  | some (T0, K0) => decide (¬ (T0 ||| T) = T0) || anyr K0 K 6 0
def jn (r : FS × Bool) (p T : Nat) (K : Nat → Int32) : FS × Bool := ((fun i => if i = p then some (jnV (r.1 p) T K) else r.1 i), r.2 || jnC (r.1 p) T K)
def plR (cm ta kn : Nat → Int32) (i : Nat) (o : Option (Nat × (Nat → Int32))) : Prop := match o with
  | none => cm i = 0
  | some (T, K) => cm i = 1 ∧ ta i = nI T ∧ T < 64 ∧ ∀ j, j < 6 → kn (6 * i + j) = K j ∧ kOK (K j)
def FRel (c : Nat) (cm ta kn : Nat → Int32) (S : FS) : Prop := ∀ i, i ≤ c → plR cm ta kn i (S i)
theorem p_or : ∀ a, a < 64 → ∀ b, b < 64 → nI a ||| nI b = nI (a ||| b) ∧ a ||| b < 64 ∧ pop6 a ≤ pop6 (a ||| b) ∧ (a ||| b = a ∨ pop6 a < pop6 (a ||| b)) ∧ pop6 a ≤ 6 := by decide +kernel
theorem k1_ok {K0 K : Nat → Int32} {j : Nat} (h : kOK (K0 j)) : kOK (k1 K0 K j) := by
  unfold k1
  split
  · exact h
  · exact kOK_m
theorem plR_kept {cm ta kn cm' ta' kn' : Nat → Int32} {i : Nat} {o : Option (Nat × (Nat → Int32))} (h : plR cm ta kn i o) (h1 : cm' i = cm i) (h2 : ta' i = ta i) (h3 : ∀ j, j < 6 → kn' (6 * i + j) = kn (6 * i + j)) : plR cm' ta' kn' i o := by
  cases o with
  | none => exact h1.trans h
  | some q =>
    obtain ⟨T, K⟩ := q
    obtain ⟨a1, a2, a3, a4⟩ := h
    exact ⟨h1.trans a1, h2.trans a2, a3, fun j hj => ⟨(h3 j hj).trans (a4 j hj).1, (a4 j hj).2⟩⟩
theorem jn92 {oK K K0 cm ta : Nat → Int32} {oT v : Int32} {p : Nat} (hp : p ≤ 20) (ho : ∀ j, j < 6 → oK j = K j) : ∀ (d n x : Nat) (kn : Nat → Int32) (ch : Bool), x + d = 6 → d < n → (∀ j, j < x → kn (6 * p + j) = k1 K0 K j) → (∀ j, x ≤ j → j < 6 → kn (6 * p + j) = K0 j) → ∃ kn', f0_join_92 oK oT n (cm, ta, kn, b01 ch, v, nI (6 * p), nI x) = some (cm, ta, kn', b01 (ch || anyr K0 K d x)) ∧ (∀ j, j < 6 → kn' (6 * p + j) = k1 K0 K j) ∧ ∀ q, q < 6 * p ∨ 6 * p + 6 ≤ q → kn' q = kn q := by
  intro d
  induction d with
  | zero =>
    intro n x kn ch hx hn h1 h2
    obtain ⟨n, rfl⟩ : ∃ m, n = m + 1 := ⟨n - 1, by omega⟩
    refine ⟨kn, ?_, fun j hj => h1 j (by omega), fun q _ => rfl⟩
    show f0_join_92b oK oT _ cm ta kn (b01 ch) v (nI (6 * p)) (nI x) = _
    unfold f0_join_92b
    rw [if_pos (show (6 : Int32) ≤ nI x from (nI_le (by omega) (by omega) : nI 6 ≤ nI x))]
    show _ = some (cm, ta, kn, b01 (ch || false))
    rw [Bool.or_false]
  | succ d ih =>
    intro n x kn ch hx hn h1 h2
    obtain ⟨n, rfl⟩ : ∃ m, n = m + 1 := ⟨n - 1, by omega⟩
    show ∃ kn', f0_join_92b oK oT (f0_join_92 oK oT n) cm ta kn (b01 ch) v (nI (6 * p)) (nI x) = some (cm, ta, kn', b01 (ch || (kc K0 K x || anyr K0 K d (x + 1)))) ∧ _
    unfold f0_join_92b
    rw [if_neg (show ¬ (6 : Int32) ≤ nI x from (nI_ge (by omega) (by omega) : ¬ nI 6 ≤ nI x)), nI_add, inb_nI (show 6 * p + x < 126 by omega) (by decide), nI_clamp (show 6 * p + x < 2 ^ 31 by omega), inb_nI (show x < 6 by omega) (by decide), nI_clamp (show x < 2 ^ 31 by omega), h2 x (Nat.le_refl x) (by omega), ho x (by omega), show nI x + (1 : Int32) = nI (x + 1) from nI_add x 1]
    simp only [ck_t]
    have same : kc K0 K x = false → k1 K0 K x = K0 x → ∃ kn', f0_join_92 oK oT n (cm, ta, kn, b01 ch, v, nI (6 * p), nI (x + 1)) = some (cm, ta, kn', b01 (ch || (kc K0 K x || anyr K0 K d (x + 1)))) ∧ (∀ j, j < 6 → kn' (6 * p + j) = k1 K0 K j) ∧ ∀ q, q < 6 * p ∨ 6 * p + 6 ≤ q → kn' q = kn q := by
      intro e1 e2
      rw [e1, Bool.false_or]
      refine ih n (x + 1) kn ch (by omega) (by omega) (fun j hj => ?_) (fun j a b => h2 j (by omega) b)
      by_cases e : j = x
      · rw [e, h2 x (Nat.le_refl x) (by omega), e2]
      · exact h1 j (by omega)
    by_cases a1 : K0 x = -1
    · rw [if_pos a1]
      refine same (decide_eq_false (fun q => q.1 a1)) ?_
      unfold k1
      rw [a1]
      split <;> rfl
    · rw [if_neg a1]
      by_cases a2 : K0 x = K x
      · rw [if_pos a2]
        refine same (decide_eq_false (fun q => q.2 a2)) ?_
        unfold k1
        rw [if_pos a2]
      · rw [if_neg a2]
        have e1 : kc K0 K x = true := decide_eq_true ⟨a1, a2⟩
        obtain ⟨kn', b1, b2, b3⟩ := ih n (x + 1) (upd kn (6 * p + x) (-1)) true (by omega) (by omega) (fun j hj => by
          by_cases e : j = x
          · rw [e, pu_eq]; unfold k1; rw [if_neg a2]
          · rw [pu_ne (by omega)]; exact h1 j (by omega)) (fun j a b => by rw [pu_ne (by omega)]; exact h2 j (by omega) b)
        refine ⟨kn', ?_, b2, fun q hq => by rw [b3 q hq, pu_ne (by omega)]⟩
        rw [e1, Bool.true_or, Bool.or_true]
        exact b1
theorem ngt0 {n : Nat} (h : n < 2 ^ 31) : (!decide (nI n < 0)) = true := by rw [decide_eq_false (nI_pos h)]; rfl
theorem jn0 {c : Nat} {cm ta kn oK K : Nat → Int32} {S : FS} {p T : Nat} {ch : Bool} (hc : c ≤ 20) (hF : FRel c cm ta kn S) (hp : p ≤ c) (hT : T < 64) (ho : ∀ j, j < 6 → oK j = K j ∧ kOK (K j)) : ∃ cm' ta' kn', f0_join oK (nI T) cm ta kn (b01 ch) (nI p) = some (cm', ta', kn', b01 (jn (S, ch) p T K).2) ∧ FRel c cm' ta' kn' (jn (S, ch) p T K).1 := by
  unfold f0_join jn
  have h6 : nI p * (6 : Int32) = nI (6 * p) := by rw [show (6 : Int32) = nI 6 from rfl, pk_mul, Nat.mul_comm]
  rw [inb_nI (show p < 21 by omega) (by decide), nI_clamp (show p < 2 ^ 31 by omega), h6, nI_clamp (show 6 * p < 2 ^ 31 by omega), ngt0 (by omega), decide_eq_true (show 6 * p + 6 ≤ 126 by omega)]
  simp only [ck_t]
  have hpl := hF p hp
  cases hS : S p with
  | none =>
    rw [hS] at hpl
    have hpl : cm p = 0 := hpl
    rw [if_pos hpl]
    refine ⟨_, _, _, by rw [show jnC none T K = true from rfl, Bool.or_true]; rfl, fun i hi => ?_⟩
    dsimp only
    by_cases e : i = p
    · subst e
      rw [if_pos rfl]
      refine ⟨pu_eq, pu_eq, hT, fun j hj => ⟨?_, (ho j hj).2⟩⟩
      rw [pk_cpy_in (by omega) (by omega), show 0 + (6 * i + j - 6 * i) = j by omega]
      exact (ho j hj).1
    · rw [if_neg e]
      exact plR_kept (hF i hi) (pu_ne e) (pu_ne e) (fun j hj => pk_cpy_out (by omega))
  | some q =>
    obtain ⟨T0, K0⟩ := q
    rw [hS] at hpl
    obtain ⟨a1, a2, a3, a4⟩ := hpl
    obtain ⟨o1, o2, o3, o4, -⟩ := p_or T0 a3 T hT
    rw [if_neg (by rw [a1]; decide +kernel), a2, o1]
    have eC : jnC (some (T0, K0)) T K = (decide (¬ (T0 ||| T) = T0) || anyr K0 K 6 0) := rfl
    by_cases e : T0 ||| T = T0
    · rw [if_pos (by rw [e])]
      obtain ⟨kn', b1, b2, b3⟩ := jn92 (cm := cm) (ta := ta) (oT := nI T) (v := nI p) (K0 := K0) (K := K) (show p ≤ 20 by omega) (fun j hj => (ho j hj).1) 6 1000 0 kn ch rfl (by decide) (fun j h => absurd h (Nat.not_lt_zero j)) (fun j _ h => (a4 j h).1)
      refine ⟨cm, ta, kn', ?_, fun i hi => ?_⟩
      · rw [eC, decide_eq_false (fun z => z e), Bool.false_or]
        exact b1
      · dsimp only
        by_cases e2 : i = p
        · subst e2
          rw [if_pos rfl]
          exact ⟨a1, by rw [a2]; show nI T0 = nI (T0 ||| T); rw [e], o2, fun j hj => ⟨b2 j hj, k1_ok (a4 j hj).2⟩⟩
        · rw [if_neg e2]
          exact plR_kept (hF i hi) rfl rfl (fun j hj => b3 _ (by omega))
    · rw [if_neg (fun z => e ((nI_eq (by omega) (by omega)).mp z))]
      obtain ⟨kn', b1, b2, b3⟩ := jn92 (cm := cm) (ta := upd ta p (nI (T0 ||| T))) (oT := nI T) (v := nI p) (K0 := K0) (K := K) (show p ≤ 20 by omega) (fun j hj => (ho j hj).1) 6 1000 0 kn true rfl (by decide) (fun j h => absurd h (Nat.not_lt_zero j)) (fun j _ h => (a4 j h).1)
      refine ⟨cm, upd ta p (nI (T0 ||| T)), kn', ?_, fun i hi => ?_⟩
      · rw [eC, decide_eq_true e, Bool.true_or, Bool.or_true]
        rw [Bool.true_or] at b1
        exact b1
      · dsimp only
        by_cases e2 : i = p
        · subst e2
          rw [if_pos rfl]
          exact ⟨a1, pu_eq, o2, fun j hj => ⟨b2 j hj, k1_ok (a4 j hj).2⟩⟩
        · rw [if_neg e2]
          exact plR_kept (hF i hi) rfl (pu_ne e2) (fun j hj => b3 _ (by omega))
/-- the reference's loop over the variables, where nothing was there -/
theorem cm23n {N oK K cm ta : Nat → Int32} {T v : Int32} {p : Nat} (hp : p ≤ 20) (ho : ∀ j, j < 6 → oK j = K j) (h0 : cm p = 0) : ∀ (d n x : Nat) (kn : Nat → Int32) (ch : Bool), x + d = 6 → d < n → (∀ j, j < x → kn (6 * p + j) = K j) → (0 < x → ch = true) → ∃ kn', f7_comesTo_23 N T oK n (cm, ta, kn, b01 ch, v, nI p, nI x) = f7_comesTo_126 N T oK cm ta kn' (b01 (ch || decide (0 < d))) v (nI p) (nI 6) ∧ (∀ j, j < 6 → kn' (6 * p + j) = K j) ∧ ∀ q, q < 6 * p ∨ 6 * p + 6 ≤ q → kn' q = kn q := by
  intro d
  induction d with
  | zero =>
    intro n x kn ch hx hn h1 hch
    obtain ⟨n, rfl⟩ : ∃ m, n = m + 1 := ⟨n - 1, by omega⟩
    refine ⟨kn, ?_, fun j hj => h1 j (by omega), fun q _ => rfl⟩
    show f7_comesTo_23b N T oK _ cm ta kn (b01 ch) v (nI p) (nI x) = _
    unfold f7_comesTo_23b
    rw [if_pos (show (6 : Int32) ≤ nI x from (nI_le (by omega) (by omega) : nI 6 ≤ nI x)), show x = 6 by omega, decide_eq_false (Nat.lt_irrefl 0), Bool.or_false]
  | succ d ih =>
    intro n x kn ch hx hn h1 hch
    obtain ⟨n, rfl⟩ : ∃ m, n = m + 1 := ⟨n - 1, by omega⟩
    show ∃ kn', f7_comesTo_23b N T oK (f7_comesTo_23 N T oK n) cm ta kn (b01 ch) v (nI p) (nI x) = _ ∧ _
    unfold f7_comesTo_23b
    rw [if_neg (show ¬ (6 : Int32) ≤ nI x from (nI_ge (by omega) (by omega) : ¬ nI 6 ≤ nI x)), inb_nI (show p < 21 by omega) (by decide), nI_clamp (show p < 2 ^ 31 by omega), h0, ck_t, if_pos rfl]
    unfold f7_comesTo_66
    rw [inb_nI (show x < 6 by omega) (by decide), nI_clamp (show x < 2 ^ 31 by omega), ck_t, ho x (by omega)]
    unfold f7_comesTo_72
    have h66 : (6 : Int32) * nI p + nI x = nI (6 * p + x) := by rw [show (6 : Int32) * nI p = nI (6 * p) from pk_mul 6 p, nI_add]
    have h108 : f7_comesTo_108 N T oK (f7_comesTo_23 N T oK n) cm ta kn (b01 ch) v (nI p) (nI x) ((6 : Int32) * nI p + nI x) (K x) (1 : Int32) = f7_comesTo_23 N T oK n (cm, ta, upd kn (6 * p + x) (K x), b01 true, v, nI p, nI (x + 1)) := by
      unfold f7_comesTo_108
      rw [isb1, h66, inb_nI (show 6 * p + x < 126 by omega) (by decide), nI_clamp (show 6 * p + x < 2 ^ 31 by omega), show nI x + (1 : Int32) = nI (x + 1) from nI_add x 1]
      rfl
    rw [inb_nI (show p < 21 by omega) (by decide), nI_clamp (show p < 2 ^ 31 by omega), h0, ck_t, if_pos rfl, h108]
    obtain ⟨kn', b1, b2, b3⟩ := ih n (x + 1) (upd kn (6 * p + x) (K x)) true (by omega) (by omega) (fun j hj => by
      by_cases e : j = x
      · rw [e, pu_eq]
      · rw [pu_ne (by omega)]; exact h1 j (by omega)) (fun _ => rfl)
    refine ⟨kn', ?_, b2, fun q hq => by rw [b3 q hq, pu_ne (by omega)]⟩
    rw [decide_eq_true (Nat.succ_pos d), Bool.or_true]
    rw [Bool.true_or] at b1
    split <;> exact b1
theorem cm23s {N oK K K0 cm ta : Nat → Int32} {T v : Int32} {p : Nat} (hp : p ≤ 20) (ho : ∀ j, j < 6 → oK j = K j) (h0 : cm p = 1) : ∀ (d n x : Nat) (kn : Nat → Int32) (ch : Bool), x + d = 6 → d < n → (∀ j, j < x → kn (6 * p + j) = k1 K0 K j) → (∀ j, x ≤ j → j < 6 → kn (6 * p + j) = K0 j) → ∃ kn', f7_comesTo_23 N T oK n (cm, ta, kn, b01 ch, v, nI p, nI x) = f7_comesTo_126 N T oK cm ta kn' (b01 (ch || anyr K0 K d x)) v (nI p) (nI 6) ∧ (∀ j, j < 6 → kn' (6 * p + j) = k1 K0 K j) ∧ ∀ q, q < 6 * p ∨ 6 * p + 6 ≤ q → kn' q = kn q := by
  intro d
  induction d with
  | zero =>
    intro n x kn ch hx hn h1 h2
    obtain ⟨n, rfl⟩ : ∃ m, n = m + 1 := ⟨n - 1, by omega⟩
    refine ⟨kn, ?_, fun j hj => h1 j (by omega), fun q _ => rfl⟩
    show f7_comesTo_23b N T oK _ cm ta kn (b01 ch) v (nI p) (nI x) = f7_comesTo_126 N T oK cm ta kn (b01 (ch || false)) v (nI p) (nI 6)
    unfold f7_comesTo_23b
    rw [if_pos (show (6 : Int32) ≤ nI x from (nI_le (by omega) (by omega) : nI 6 ≤ nI x)), show x = 6 by omega, Bool.or_false]
  | succ d ih =>
    intro n x kn ch hx hn h1 h2
    obtain ⟨n, rfl⟩ : ∃ m, n = m + 1 := ⟨n - 1, by omega⟩
    show ∃ kn', f7_comesTo_23b N T oK (f7_comesTo_23 N T oK n) cm ta kn (b01 ch) v (nI p) (nI x) = f7_comesTo_126 N T oK cm ta kn' (b01 (ch || (kc K0 K x || anyr K0 K d (x + 1)))) v (nI p) (nI 6) ∧ _
    have h66 : (6 : Int32) * nI p + nI x = nI (6 * p + x) := by rw [show (6 : Int32) * nI p = nI (6 * p) from pk_mul 6 p, nI_add]
    have hkn := h2 x (Nat.le_refl x) (by omega)
    have n1 : ¬ (1 : Int32) = 0 := one_ne
    -- what the step leaves, whichever way
    have h72 : f7_comesTo_72 N T oK (f7_comesTo_23 N T oK n) cm ta kn (b01 ch) v (nI p) (nI x) (nI (6 * p + x)) (k1 K0 K x) = f7_comesTo_23 N T oK n (cm, ta, upd kn (6 * p + x) (k1 K0 K x), b01 (ch || kc K0 K x), v, nI p, nI (x + 1)) := by
      have h108 : ∀ b : Bool, f7_comesTo_108 N T oK (f7_comesTo_23 N T oK n) cm ta kn (b01 ch) v (nI p) (nI x) (nI (6 * p + x)) (k1 K0 K x) (b01 b) = f7_comesTo_23 N T oK n (cm, ta, upd kn (6 * p + x) (k1 K0 K x), b01 b, v, nI p, nI (x + 1)) := by
        intro b
        unfold f7_comesTo_108
        rw [b01_isb, inb_nI (show 6 * p + x < 126 by omega) (by decide), nI_clamp (show 6 * p + x < 2 ^ 31 by omega), show nI x + (1 : Int32) = nI (x + 1) from nI_add x 1]
        rfl
      unfold f7_comesTo_72
      rw [inb_nI (show p < 21 by omega) (by decide), nI_clamp (show p < 2 ^ 31 by omega), h0, ck_t, if_neg n1, inb_nI (show 6 * p + x < 126 by omega) (by decide), nI_clamp (show 6 * p + x < 2 ^ 31 by omega), ck_t, hkn, show (1 : Int32) = b01 true from rfl, h108 true, show f7_comesTo_108 N T oK (f7_comesTo_23 N T oK n) cm ta kn (b01 ch) v (nI p) (nI x) (nI (6 * p + x)) (k1 K0 K x) (0 : Int32) = _ from h108 false]
      cases ch with
      | true => rw [if_neg (show ¬ b01 true = 0 from one_ne), Bool.true_or]
      | false =>
        rw [if_pos (show b01 false = 0 from rfl), Bool.false_or]
        by_cases e : k1 K0 K x = K0 x
        · have ek : kc K0 K x = false := by
            refine decide_eq_false (fun q => ?_)
            unfold k1 at e
            rw [if_neg q.2] at e
            exact q.1 e.symm
          rw [if_pos e, ek]
        · have ek : kc K0 K x = true := by
            refine decide_eq_true ⟨fun q => e ?_, fun q => e ?_⟩
            · unfold k1; rw [q]; split <;> rfl
            · unfold k1; rw [if_pos q]
          rw [if_neg e, ek]
    unfold f7_comesTo_23b f7_comesTo_66
    rw [if_neg (show ¬ (6 : Int32) ≤ nI x from (nI_ge (by omega) (by omega) : ¬ nI 6 ≤ nI x)), inb_nI (show p < 21 by omega) (by decide), nI_clamp (show p < 2 ^ 31 by omega), h0, ck_t, if_neg n1, h66, inb_nI (show 6 * p + x < 126 by omega) (by decide), nI_clamp (show 6 * p + x < 2 ^ 31 by omega), inb_nI (show x < 6 by omega) (by decide), nI_clamp (show x < 2 ^ 31 by omega), hkn, ho x (by omega)]
    simp only [ck_t]
    have go : (if K0 x = K x then f7_comesTo_72 N T oK (f7_comesTo_23 N T oK n) cm ta kn (b01 ch) v (nI p) (nI x) (nI (6 * p + x)) (K x) else f7_comesTo_72 N T oK (f7_comesTo_23 N T oK n) cm ta kn (b01 ch) v (nI p) (nI x) (nI (6 * p + x)) (-1)) = f7_comesTo_23 N T oK n (cm, ta, upd kn (6 * p + x) (k1 K0 K x), b01 (ch || kc K0 K x), v, nI p, nI (x + 1)) := by
      rw [← h72]
      by_cases e : K0 x = K x
      · rw [if_pos e]; unfold k1; rw [if_pos e, e]
      · rw [if_neg e]; unfold k1; rw [if_neg e]
    rw [go]
    obtain ⟨kn', b1, b2, b3⟩ := ih n (x + 1) (upd kn (6 * p + x) (k1 K0 K x)) (ch || kc K0 K x) (by omega) (by omega) (fun j hj => by
      by_cases e : j = x
      · rw [e, pu_eq]
      · rw [pu_ne (by omega)]; exact h1 j (by omega)) (fun j a b => by rw [pu_ne (by omega)]; exact h2 j (by omega) b)
    refine ⟨kn', ?_, b2, fun q hq => by rw [b3 q hq, pu_ne (by omega)]⟩
    rw [b1, Bool.or_assoc]
theorem cm126 {N oK cm ta kn : Nat → Int32} {v : Int32} {p T : Nat} (hp : p ≤ 20) (ch : Bool) (hcm : cm p = 0 ∨ cm p = 1) {T2 : Nat} (hT2 : cm p = 0 → ch = true ∧ T2 = T) (hT3 : cm p = 1 → ∃ T0, T0 < 64 ∧ T < 64 ∧ ta p = nI T0 ∧ T2 = T0 ||| T) : f7_comesTo_126 N (nI T) oK cm ta kn (b01 ch) v (nI p) (nI 6) = some (upd cm p 1, upd ta p (nI T2), kn, b01 (ch || decide (¬ ta p = nI T2))) := by
  unfold f7_comesTo_126
  rw [inb_nI (show p < 21 by omega) (by decide), nI_clamp (show p < 2 ^ 31 by omega), ck_t]
  have h177 : ∀ b : Bool, f7_comesTo_177 N (nI T) oK cm ta kn (b01 ch) v (nI p) (nI T2) (b01 b) = some (upd cm p 1, upd ta p (nI T2), kn, b01 b) := by
    intro b
    unfold f7_comesTo_177
    rw [b01_isb, inb_nI (show p < 21 by omega) (by decide), nI_clamp (show p < 2 ^ 31 by omega)]
    rfl
  have h153 : f7_comesTo_153 N (nI T) oK cm ta kn (b01 ch) v (nI p) (nI 6) (nI T2) = some (upd cm p 1, upd ta p (nI T2), kn, b01 (ch || decide (¬ ta p = nI T2))) := by
    unfold f7_comesTo_153
    rw [inb_nI (show p < 21 by omega) (by decide), nI_clamp (show p < 2 ^ 31 by omega), ck_t, show f7_comesTo_177 N (nI T) oK cm ta kn (b01 ch) v (nI p) (nI T2) (1 : Int32) = _ from h177 true, show f7_comesTo_177 N (nI T) oK cm ta kn (b01 ch) v (nI p) (nI T2) (0 : Int32) = _ from h177 false]
    cases ch with
    | true => rw [if_neg (show ¬ b01 true = 0 from one_ne), Bool.true_or]
    | false =>
      rw [if_pos (show b01 false = 0 from rfl), Bool.false_or]
      by_cases e : nI T2 = ta p
      · rw [if_pos e, decide_eq_false (fun q => q e.symm)]
      · rw [if_neg e, decide_eq_true (p := ¬ ta p = nI T2) (fun q => e q.symm)]
  rcases hcm with h | h
  · obtain ⟨-, e⟩ := hT2 h
    rw [if_pos h, ← e]
    rw [← e] at h153
    exact h153
  · obtain ⟨T0, a1, a2, a3, a4⟩ := hT3 h
    rw [if_neg (by rw [h]; exact one_ne), ck_t, a3, (p_or T0 a1 T a2).1, ← a4]
    rw [a3] at h153
    exact h153
theorem cm7 {N : Nat → Int32} {c s : Nat} (hw : wf N c s) {cm ta kn oK K : Nat → Int32} {S : FS} {q T : Nat} {ch : Bool} (hF : FRel c cm ta kn S) (hq : q ≤ 21) (hT : T < 64) (ho : ∀ j, j < 6 → oK j = K j ∧ kOK (K j)) : ∃ cm' ta' kn', f7_comesTo N (nI T) oK cm ta kn (b01 ch) (nI q) = some (cm', ta', kn', b01 (jn (S, ch) (min q c) T K).2) ∧ FRel c cm' ta' kn' (jn (S, ch) (min q c) T K).1 := by
  have hc := hw.2.1
  have e0 : f7_comesTo N (nI T) oK cm ta kn (b01 ch) (nI q) = f7_comesTo_23 N (nI T) oK 1000 (cm, ta, kn, b01 ch, nI q, nI (min q c), nI 0) := by
    unfold f7_comesTo
    rw [hw.1]
    by_cases h : c ≤ q
    · rw [if_pos (nI_le h (by omega)), Nat.min_eq_right h]; rfl
    · rw [if_neg (nI_ge (by omega) (by omega)), Nat.min_eq_left (by omega)]; rfl
  rw [e0]
  generalize hp' : min q c = p
  have hp : p ≤ c := by omega
  have hpl := hF p hp
  unfold jn
  dsimp only
  cases hS : S p with
  | none =>
    rw [hS] at hpl
    have hpl : cm p = 0 := hpl
    obtain ⟨kn', b1, b2, b3⟩ := cm23n (N := N) (oK := oK) (K := K) (ta := ta) (T := nI T) (v := nI q) (show p ≤ 20 by omega) (fun j hj => (ho j hj).1) hpl 6 1000 0 kn ch rfl (by decide) (fun j h => absurd h (Nat.not_lt_zero j)) (fun h => absurd h (Nat.lt_irrefl 0))
    rw [decide_eq_true (show 0 < 6 by decide), Bool.or_true] at b1
    refine ⟨upd cm p 1, upd ta p (nI T), kn', b1.trans ((cm126 (by omega) true (Or.inl hpl) (T2 := T) (fun _ => ⟨rfl, rfl⟩) (fun h => absurd (hpl.symm.trans h) (by decide +kernel))).trans (by rw [show jnC none T K = true from rfl, Bool.or_true, Bool.true_or])), fun i hi => ?_⟩
    dsimp only
    by_cases e : i = p
    · subst e
      rw [if_pos rfl]
      exact ⟨pu_eq, pu_eq, hT, fun j hj => ⟨b2 j hj, (ho j hj).2⟩⟩
    · rw [if_neg e]
      exact plR_kept (hF i hi) (pu_ne e) (pu_ne e) (fun j hj => b3 _ (by omega))
  | some z =>
    obtain ⟨T0, K0⟩ := z
    rw [hS] at hpl
    obtain ⟨a1, a2, a3, a4⟩ := hpl
    obtain ⟨kn', b1, b2, b3⟩ := cm23s (N := N) (oK := oK) (K := K) (K0 := K0) (ta := ta) (T := nI T) (v := nI q) (show p ≤ 20 by omega) (fun j hj => (ho j hj).1) a1 6 1000 0 kn ch rfl (by decide) (fun j h => absurd h (Nat.not_lt_zero j)) (fun j _ h => (a4 j h).1)
    obtain ⟨o1, o2, o3, o4, -⟩ := p_or T0 a3 T hT
    refine ⟨upd cm p 1, upd ta p (nI (T0 ||| T)), kn', b1.trans ((cm126 (by omega) _ (Or.inr a1) (T2 := T0 ||| T) (fun h => absurd (a1.symm.trans h) (by decide +kernel)) (fun _ => ⟨T0, a3, hT, a2, rfl⟩)).trans ?_), fun i hi => ?_⟩
    · rw [show jnC (some (T0, K0)) T K = (decide (¬ (T0 ||| T) = T0) || anyr K0 K 6 0) from rfl, a2]
      have e9 : decide (¬ nI T0 = nI (T0 ||| T)) = decide (¬ (T0 ||| T) = T0) := by
        by_cases h : T0 ||| T = T0
        · rw [h, decide_eq_false (fun z => z rfl), decide_eq_false (fun z => z rfl)]
        · rw [decide_eq_true h]
          exact decide_eq_true (p := ¬ nI T0 = nI (T0 ||| T)) (fun z => h ((nI_eq (by omega) (by omega)).mp z).symm)
      rw [e9]
      cases ch <;> cases anyr K0 K 6 0 <;> cases decide (¬ (T0 ||| T) = T0) <;> rfl
    · dsimp only
      by_cases e2 : i = p
      · subst e2
        rw [if_pos rfl]
        exact ⟨pu_eq, pu_eq, o2, fun j hj => ⟨b2 j hj, k1_ok (a4 j hj).2⟩⟩
      · rw [if_neg e2]
        exact plR_kept (hF i hi) (pu_ne e2) (pu_ne e2) (fun j hj => b3 _ (by omega))
/-- one line asked -/
def stS (N : Nat → Int32) (c : Nat) (r : FS × Bool) (i : Nat) : FS × Bool := match r.1 i with
  | none => r
  | some (T, K) => if ln N i 0 = 7 then (if K (ln N i 1) = -1 ∨ K (ln N i 1) = 0 then jn (if K (ln N i 1) = 0 then r else jn r (min (ln N i 2) c) T K) (i + 1) T K else (if K (ln N i 1) = 0 then r else jn r (min (ln N i 2) c) T K)) else jn r (i + 1) (setb T (ln N i 1) (trv N T K (ln N i 0) (ln N i 1) (ln N i 2) (ln N i 3)).1) (upd K (ln N i 1) (trv N T K (ln N i 0) (ln N i 1) (ln N i 2) (ln N i 3)).2)
theorem trv_ok {N : Nat → Int32} {c s i : Nat} (hw : wf N c s) (hi : i < c) {K : Nat → Int32} {T : Nat} (h7 : ln N i 0 ≠ 7) (hK : ∀ j, j < 6 → kOK (K j)) : kOK (trv N T K (ln N i 0) (ln N i 1) (ln N i 2) (ln N i 3)).2 := by
  obtain ⟨-, -, -, -, hk, hx, hy, hz⟩ := wf_line hw hi
  generalize ln N i 0 = k at *
  generalize ln N i 1 = x at *
  generalize ln N i 2 = y at *
  generalize ln N i 3 = z at *
  unfold yE at hy
  unfold zE at hz
  unfold trv
  by_cases h0 : k = 0
  · rw [if_pos h0]
    rw [if_pos h0] at hy
    exact kOK_n hy
  · rw [if_neg h0, if_neg h7] at hy
    rw [if_neg h0]
    by_cases h1 : k = 1
    · rw [if_pos h1]; exact hK y hy
    · rw [if_neg h1]
      by_cases h5 : k = 5
      · rw [if_pos h5]
        show kOK (if K y = -1 then -1 else N (8 + (K y).toNatClampNeg))
        by_cases e : K y = -1
        · rw [if_pos e]; exact kOK_m
        · rw [if_neg e]
          obtain ⟨n, hn, en, cn⟩ := kOK_of (hK y hy) e
          rw [cn, (wf_tb hw hn).1]
          exact kOK_n (wf_tb hw hn).2
      · rw [if_neg h5]
        by_cases h8 : k = 8
        · rw [if_pos h8]
          rw [if_pos h8] at hz
          split
          · split
            · exact hK y hy
            · exact kOK_m
          · split
            · exact hK z hz
            · exact hK y hy
        · rw [if_neg h8]
          split
          · exact kOK_n (n := 0) (by decide)
          · show kOK (if K x = -1 ∨ K y = -1 then -1 else nI (cmb k (K x).toNatClampNeg (K y).toNatClampNeg))
            by_cases e : K x = -1 ∨ K y = -1
            · rw [if_pos e]; exact kOK_m
            · rw [if_neg e]
              obtain ⟨a, ha, ea, ca⟩ := kOK_of (hK x hx) (fun q => e (Or.inl q))
              obtain ⟨b, hb, eb, cb⟩ := kOK_of (hK y hy) (fun q => e (Or.inr q))
              rw [ca, cb]
              exact kOK_n (cmb_lt k hk a ha b hb)
theorem upd_ok {K oK : Nat → Int32} {x : Nat} {v : Int32} (hv : kOK v) (h : ∀ j, j < 6 → oK j = K j ∧ kOK (K j)) : ∀ j, j < 6 → upd oK x v j = upd K x v j ∧ kOK (upd K x v j) := by
  intro j hj
  unfold upd
  by_cases e : j = x
  · rw [if_pos e, if_pos e]; exact ⟨rfl, hv⟩
  · rw [if_neg e, if_neg e]; exact h j hj
theorem part2 (N : Nat → Int32) {i q : Nat} (hi : i < 20) (hq : q < 4) : f2_partOf N (nI i) (nI q) = some (N (24 + 4 * i + q)) := by
  unfold f2_partOf
  rw [show nI i * (4 : Int32) = nI (4 * i) from by rw [nI4, pk_mul, Nat.mul_comm], nI_add, inb_nI (show 4 * i + q < 80 by omega) (by decide), nI_clamp (show 4 * i + q < 2 ^ 31 by omega), show 24 + (4 * i + q) = 24 + 4 * i + q by omega]
  rfl
theorem trv_cg {N K K' : Nat → Int32} {T k x y z : Nat} (hx : K' x = K x) (hy : k ≠ 0 → K' y = K y) (hz : k = 8 → K' z = K z) : trv N T K' k x y z = trv N T K k x y z := by
  unfold trv
  by_cases h0 : k = 0
  · rw [if_pos h0, if_pos h0]
  · rw [if_neg h0, if_neg h0, hy h0, hx]
    by_cases h8 : k = 8
    · rw [hz h8]
    · rw [if_neg h8, if_neg h8]
theorem pas0 {N : Nat → Int32} {c s i : Nat} (hw : wf N c s) (hi : i < c) {cm ta kn oK : Nat → Int32} {oT : Int32} {r : FS × Bool} (hF : FRel c cm ta kn r.1) (hS : r.1 i ≠ none) : ∃ cm' ta' kn' oK' oT', f0_pass N cm ta kn oK oT (b01 r.2) (nI i) = some (cm', ta', kn', oK', oT', b01 (stS N c r i).2) ∧ FRel c cm' ta' kn' (stS N c r i).1 := by
  obtain ⟨S, ch⟩ := r
  have hpl := hF i (by omega)
  dsimp only at hpl hS hF
  have hc := hw.2.1
  unfold stS
  dsimp only
  cases hq : S i with
  | none => exact absurd hq hS
  | some z =>
    obtain ⟨T, K⟩ := z
    rw [hq] at hpl
    obtain ⟨a1, a2, a3, a4⟩ := hpl
    obtain ⟨l0, l1, l2, l3, hk, hx, hy, hz⟩ := wf_line hw hi
    have tok := fun h7 => trv_ok (T := T) hw hi h7 (fun j hj => (a4 j hj).2)
    unfold f0_pass
    rw [show nI i * (6 : Int32) = nI (6 * i) from by rw [show (6 : Int32) = nI 6 from rfl, pk_mul, Nat.mul_comm], ngt0 (show 6 * i < 2 ^ 31 by omega), nI_clamp (show 6 * i < 2 ^ 31 by omega), decide_eq_true (show 6 * i + 6 ≤ 126 by omega), inb_nI (show i < 21 by omega) (by decide), nI_clamp (show i < 2 ^ 31 by omega), a2, show f2_partOf N (nI i) (0 : Int32) = some (nI (ln N i 0)) from (part2 N (q := 0) (by omega) (by decide)).trans (congrArg some l0), show f2_partOf N (nI i) (1 : Int32) = some (nI (ln N i 1)) from (part2 N (q := 1) (by omega) (by decide)).trans (congrArg some l1), show f2_partOf N (nI i) (2 : Int32) = some (nI (ln N i 2)) from (part2 N (q := 2) (by omega) (by decide)).trans (congrArg some l2)]
    simp only [ck_t, Option.bind_some]
    have p3 : f2_partOf N (nI i) (3 : Int32) = some (nI (ln N i 3)) := (part2 N (q := 3) (by omega) (by decide)).trans (congrArg some l3)
    have ho : ∀ j, j < 6 → va_cpy kn oK (6 * i) 0 6 j = K j ∧ kOK (K j) := fun j hj => ⟨by rw [pk_cpy_in (Nat.zero_le j) (by omega), Nat.sub_zero]; exact (a4 j hj).1, (a4 j hj).2⟩
    generalize va_cpy kn oK (6 * i) 0 6 = oK2 at ho ⊢
    generalize ln N i 0 = k at *
    generalize ln N i 1 = x at *
    generalize ln N i 2 = y at *
    generalize ln N i 3 = z at *
    have e1 : nI i + (1 : Int32) = nI (i + 1) := nI_add i 1
    unfold f0_pass_51
    by_cases h7 : k = 7
    · have hy21 : y ≤ 20 := by unfold yE at hy; rw [h7] at hy; exact Nat.le_of_lt_succ hy
      have em : (if N 0 < nI y then N 0 else nI y) = nI (min y c) := by
        rw [hw.1]
        by_cases h : c < y
        · rw [if_pos (nI_lt h (by omega)), Nat.min_eq_right (by omega)]
        · rw [if_neg (nI_nlt (by omega) (by omega)), Nat.min_eq_left (by omega)]
      rw [if_pos h7, if_pos (show nI k = (7 : Int32) by rw [h7]; rfl), inb_nI hx (by decide), ck_t, nI_clamp (show x < 2 ^ 31 by omega), (ho x hx).1, e1, em]
      unfold f0_passJump f0_passJump_18
      by_cases k0 : K x = 0
      · have km : ¬ K x = -1 := by rw [k0]; decide +kernel
        rw [if_pos k0, if_neg km, if_pos k0, if_pos (Or.inr k0), if_pos k0]
        obtain ⟨cm', ta', kn', g1, g2⟩ := jn0 (ch := ch) hc hF (show i + 1 ≤ c by omega) a3 ho
        rw [g1]
        exact ⟨cm', ta', kn', oK2, nI T, rfl, g2⟩
      · rw [if_neg k0, if_neg k0]
        obtain ⟨cm', ta', kn', g1, g2⟩ := jn0 (ch := ch) hc hF (show min y c ≤ c by omega) a3 ho
        rw [g1]
        simp only [Option.bind_some]
        by_cases km : K x = -1
        · rw [if_pos km, if_pos (Or.inl km)]
          obtain ⟨cm2, ta2, kn2, g3, g4⟩ := jn0 (S := (jn (S, ch) (min y c) T K).1) (ch := (jn (S, ch) (min y c) T K).2) hc g2 (show i + 1 ≤ c by omega) a3 ho
          rw [g3]
          exact ⟨cm2, ta2, kn2, oK2, nI T, rfl, g4⟩
        · rw [if_neg km, if_neg k0, if_neg (fun q => q.elim km k0)]
          exact ⟨cm', ta', kn', oK2, nI T, rfl, g2⟩
    · have ecg : trv N T oK2 k x y z = trv N T K k x y z := by
        refine trv_cg (ho x hx).1 (fun h0 => ?_) (fun h8 => ?_)
        · unfold yE at hy; rw [if_neg h0, if_neg h7] at hy; exact (ho y hy).1
        · unfold zE at hz; rw [if_pos h8] at hz; exact (ho z hz).1
      rw [if_neg h7, if_neg (fun q => h7 ((nI_is 7 (b := (7 : Int32)) rfl (by omega) (by decide)).mp q)), p3, Option.bind_some, chg0 hw a3 hk h7 hx hy hz (fun j hj => by rw [(ho j hj).1]; exact (ho j hj).2), Option.bind_some, ecg, e1]
      obtain ⟨cm', ta', kn', g1, g2⟩ := jn0 (ch := ch) hc hF (show i + 1 ≤ c by omega) (setb_lt a3 hx (trv N T K k x y z).1) (upd_ok (x := x) (tok h7) ho)
      rw [g1]
      exact ⟨cm', ta', kn', _, _, rfl, g2⟩
