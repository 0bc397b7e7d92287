/-! pure rows: what a line makes of what is tainted and known -/
def bt (T y : Nat) : Bool := decide (T / 2 ^ y % 2 = 1)
def setb (T x : Nat) (t : Bool) : Nat := oth T x + (if t = true then 1 else 0) * 2 ^ x
theorem p_or1 : ∀ s, s < 64 → ∀ x, x < 6 → (nI s) ||| (sl32 (1 : Int32) (nI x)) = nI (oth s x + 1 * 2 ^ x) := by decide +kernel
theorem setb_lt {T x : Nat} (hT : T < 64) (hx : x < 6) (t : Bool) : setb T x t < 64 := by
  unfold setb
  cases t with
  | true => exact (p_set T hT x hx 1 (by decide)).2.1
  | false => exact (p_set T hT x hx 0 (by decide)).2.1
theorem nI_bit {T y : Nat} : nI (T / 2 ^ y % 2) = b01 (bt T y) := by
  unfold bt
  rcases (show T / 2 ^ y % 2 = 0 ∨ T / 2 ^ y % 2 = 1 by omega) with h | h
  · rw [h]; rfl
  · rw [h]; rfl
theorem tnt0 {T y : Nat} (hT : T < 64) (hy : y < 6) : f0_tainted (nI T) (nI y) = some (b01 (bt T y)) := by
  unfold f0_tainted
  rw [(p_oth T hT y hy).2.2.2, nI_bit]
  cases bt T y
  · rw [b01_f0, if_neg (by decide +kernel)]
  · rw [b01_t1, if_pos rfl]
theorem tnt7 {T y : Nat} (hT : T < 64) (hy : y < 6) : f7_has (nI T) (nI y) = some (b01 (bt T y)) := by rw [has7 hT hy, nI_bit]
theorem bec0 {K : Nat → Int32} {T x : Nat} (hT : T < 64) (hx : x < 6) (t : Bool) (v : Int32) : f0_become K (nI T) (nI x) (b01 t) v = some (upd K x v, nI (setb T x t)) := by
  unfold f0_become f0_become_28 setb
  rw [(p_oth T hT x hx).1, inb_nI hx (by decide), nI_clamp (by omega), ck_t, ck_t]
  cases t with
  | false => rw [b01_f0, if_pos rfl, if_neg (by decide), Nat.zero_mul, Nat.add_zero]
  | true =>
    rw [b01_t1, if_neg one_ne, if_pos rfl]
    rw [show sl32 (1 : Int32) (nI x) = sl32 (nI 1) (nI x) from rfl, (p_set T hT x hx 1 (by decide)).1]
theorem bec0f {K : Nat → Int32} {T x : Nat} (hT : T < 64) (hx : x < 6) (v : Int32) : f0_become K (nI T) (nI x) (0 : Int32) v = some (upd K x v, nI (setb T x false)) := bec0 hT hx false v
theorem bec0t {K : Nat → Int32} {T x : Nat} (hT : T < 64) (hx : x < 6) (v : Int32) : f0_become K (nI T) (nI x) (1 : Int32) v = some (upd K x v, nI (setb T x true)) := bec0 hT hx true v
theorem tel7 {K : Nat → Int32} {T x : Nat} (hT : T < 64) (hx : x < 6) (t : Bool) (v : Int32) : f7_tells (nI T) K (nI x) (b01 t) v = some (nI (setb T x t), upd K x v) := by
  unfold f7_tells f7_tells_26 setb
  rw [(p_oth T hT x hx).1, inb_nI hx (by decide), nI_clamp (by omega), ck_t, ck_t, p_or1 T hT x hx]
  cases t with
  | false => rw [b01_f0, if_pos rfl, if_neg (by decide), Nat.zero_mul, Nat.add_zero]
  | true => rw [b01_t1, if_neg one_ne, if_pos rfl]
theorem tel7f {K : Nat → Int32} {T x : Nat} (hT : T < 64) (hx : x < 6) (v : Int32) : f7_tells (nI T) K (nI x) (0 : Int32) v = some (nI (setb T x false), upd K x v) := tel7 hT hx false v
theorem tel7t {K : Nat → Int32} {T x : Nat} (hT : T < 64) (hx : x < 6) (v : Int32) : f7_tells (nI T) K (nI x) (1 : Int32) v = some (nI (setb T x true), upd K x v) := tel7 hT hx true v
/-- what is known as a number or -1 -/
def kOK (v : Int32) : Prop := v = -1 ∨ ∃ n, n < 16 ∧ v = nI n
theorem kOK_m : kOK (-1) := Or.inl rfl
theorem kOK_n {n : Nat} (h : n < 16) : kOK (nI n) := Or.inr ⟨n, h, rfl⟩
theorem kOK_of {v : Int32} (h : kOK v) (hn : ¬ v = -1) : ∃ n, n < 16 ∧ v = nI n ∧ v.toNatClampNeg = n := by
  rcases h with h | ⟨n, h1, h2⟩
  · exact absurd h hn
  · exact ⟨n, h1, h2, by rw [h2, nI_clamp (by omega)]⟩
def trv (N : Nat → Int32) (T : Nat) (K : Nat → Int32) (k x y z : Nat) : Bool × Int32 :=
  if k = 0 then (false, nI y)
  else if k = 1 then (bt T y, K y)
  else if k = 5 then (bt T y, if K y = -1 then -1 else N (8 + (K y).toNatClampNeg))
  else if k = 8 then (if K x = -1 then (if ¬ K y = -1 ∧ K y = K z then (false, K y) else (bt T x || (bt T y || bt T z), -1)) else if K x = 0 then (bt T z, K z) else (bt T y, K y))
  else if (k = 4 ∧ x = y) ∨ (k = 3 ∧ (K x = 0 ∨ K y = 0)) then (false, 0)
  else (bt T x || bt T y, if K x = -1 ∨ K y = -1 then -1 else nI (cmb k (K x).toNatClampNeg (K y).toNatClampNeg))
theorem com68_0 {K : Nat → Int32} {T x y : Nat} (hT : T < 64) (hx : x < 6) (hy : y < 6) (k a b : Int32) : f0_combine_68 K (nI T) k (nI x) (nI y) a b (0 : Int32) = some (upd K x (-1), nI (setb T x (bt T x || bt T y))) := by
  unfold f0_combine_68
  rw [tnt0 hT hx, Option.bind_some]
  cases bt T x
  · rw [b01_f0, if_pos rfl, tnt0 hT hy, Option.bind_some]
    cases bt T y
    · rw [b01_f0, if_pos rfl, if_pos rfl, bec0f hT hx]; rfl
    · rw [b01_t1, if_neg one_ne, if_pos rfl, bec0t hT hx]; rfl
  · rw [b01_t1, if_neg one_ne, if_pos rfl, bec0t hT hx]; rfl
theorem com68_1 {K : Nat → Int32} {T x y : Nat} (hT : T < 64) (hx : x < 6) (hy : y < 6) {k a b v : Int32} (h : f6_combined k a b = some v) : f0_combine_68 K (nI T) k (nI x) (nI y) a b (1 : Int32) = some (upd K x v, nI (setb T x (bt T x || bt T y))) := by
  unfold f0_combine_68
  rw [tnt0 hT hx, Option.bind_some]
  cases bt T x
  · rw [b01_f0, if_pos rfl, tnt0 hT hy, Option.bind_some]
    cases bt T y
    · rw [b01_f0, if_pos rfl, if_neg one_ne, h, Option.bind_some, bec0f hT hx]; rfl
    · rw [b01_t1, if_neg one_ne, if_neg one_ne, h, Option.bind_some, bec0t hT hx]; rfl
  · rw [b01_t1, if_neg one_ne, if_neg one_ne, h, Option.bind_some, bec0t hT hx]; rfl
theorem com16 {K : Nat → Int32} {T k x y : Nat} (hT : T < 64) (hk : k = 2 ∨ k = 3 ∨ k = 4 ∨ k = 6) (hx : x < 6) (hy : y < 6) (ka : kOK (K x)) (kb : kOK (K y)) : f0_combine_16 K (nI T) (nI k) (nI x) (nI y) (K x) (K y) = some (upd K x (if (k = 4 ∧ x = y) ∨ (k = 3 ∧ (K x = 0 ∨ K y = 0)) then 0 else if K x = -1 ∨ K y = -1 then -1 else nI (cmb k (K x).toNatClampNeg (K y).toNatClampNeg)), nI (setb T x (if (k = 4 ∧ x = y) ∨ (k = 3 ∧ (K x = 0 ∨ K y = 0)) then false else bt T x || bt T y))) := by
  have last : (if K x = -1 then f0_combine_65 K (nI T) (nI k) (nI x) (nI y) (K x) (K y) else if K y = -1 then f0_combine_65 K (nI T) (nI k) (nI x) (nI y) (K x) (K y) else f0_combine_66 K (nI T) (nI k) (nI x) (nI y) (K x) (K y) (1 : Int32)) = some (upd K x (if K x = -1 ∨ K y = -1 then -1 else nI (cmb k (K x).toNatClampNeg (K y).toNatClampNeg)), nI (setb T x (bt T x || bt T y))) := by
    unfold f0_combine_65 f0_combine_66
    by_cases h1 : K x = -1
    · rw [if_pos h1, if_pos (Or.inl h1), com68_0 hT hx hy]
    · rw [if_neg h1]
      by_cases h2 : K y = -1
      · rw [if_pos h2, if_pos (Or.inr h2), com68_0 hT hx hy]
      · rw [if_neg h2, if_neg (fun q => q.elim h1 h2)]
        obtain ⟨a, ha, ea, ca⟩ := kOK_of ka h1
        obtain ⟨b, hb, eb, cb⟩ := kOK_of kb h2
        rw [ca, cb]
        refine com68_1 hT hx hy ?_
        rw [ea, eb]
        exact cmb6 k (by omega) a ha b hb (by omega) (by omega)
  have f41 : f0_combine_41 K (nI T) (nI k) (nI x) (nI y) (K x) (K y) = some (upd K x 0, nI (setb T x false)) := by
    unfold f0_combine_41
    rw [bec0f hT hx]; rfl
  unfold f0_combine_16
  rw [f41, last]
  have k4 : nI k = (4 : Int32) ↔ k = 4 := nI_is 4 rfl (by omega) (by decide)
  have k3 : nI k = (3 : Int32) ↔ k = 3 := nI_is 3 rfl (by omega) (by decide)
  have xy : nI x = nI y ↔ x = y := nI_eq (by omega) (by omega)
  by_cases h4 : k = 4
  · rw [if_pos (k4.mpr h4)]
    by_cases hxy : x = y
    · rw [if_pos (xy.mpr hxy), if_pos (Or.inl ⟨h4, hxy⟩), if_pos (Or.inl ⟨h4, hxy⟩)]
    · have nc : ¬ ((k = 4 ∧ x = y) ∨ (k = 3 ∧ (K x = 0 ∨ K y = 0))) := fun q => q.elim (fun r => hxy r.2) (fun r => by omega)
      rw [if_neg (fun q => hxy (xy.mp q)), if_neg (fun q => by have := k3.mp q; omega), if_neg nc, if_neg nc]
  · rw [if_neg (fun q => h4 (k4.mp q))]
    by_cases h3 : k = 3
    · rw [if_pos (k3.mpr h3)]
      by_cases a0 : K x = 0
      · rw [if_pos a0, if_pos (Or.inr ⟨h3, Or.inl a0⟩), if_pos (Or.inr ⟨h3, Or.inl a0⟩)]
      · rw [if_neg a0]
        by_cases b0 : K y = 0
        · rw [if_pos b0, if_pos (Or.inr ⟨h3, Or.inr b0⟩), if_pos (Or.inr ⟨h3, Or.inr b0⟩)]
        · have nc : ¬ ((k = 4 ∧ x = y) ∨ (k = 3 ∧ (K x = 0 ∨ K y = 0))) := fun q => q.elim (fun r => h4 r.1) (fun r => r.2.elim a0 b0)
          rw [if_neg b0, if_neg nc, if_neg nc]
    · have nc : ¬ ((k = 4 ∧ x = y) ∨ (k = 3 ∧ (K x = 0 ∨ K y = 0))) := fun q => q.elim (fun r => h4 r.1) (fun r => h3 r.1)
      rw [if_neg (fun q => h3 (k3.mp q)), if_neg nc, if_neg nc]
theorem pic87 {K : Nat → Int32} {T x y z : Nat} (hT : T < 64) (hx : x < 6) (hy : y < 6) (hz : z < 6) (w : Int32) : f0_pick_87 K (nI T) (nI x) (nI y) (nI z) w = some (upd K x (-1), nI (setb T x (bt T x || (bt T y || bt T z)))) := by
  unfold f0_pick_87
  rw [tnt0 hT hx, Option.bind_some, tnt0 hT hy, Option.bind_some, tnt0 hT hz, Option.bind_some, bec0t hT hx, bec0f hT hx, Option.bind_some, Option.bind_some]
  cases bt T x
  · rw [b01_f0, if_pos rfl]
    cases bt T y
    · rw [b01_f0, if_pos rfl]
      cases bt T z
      · rw [b01_f0, if_pos rfl]; rfl
      · rw [b01_t1, if_neg one_ne]; rfl
    · rw [b01_t1, if_neg one_ne]; rfl
  · rw [b01_t1, if_neg one_ne]; rfl
theorem pic24 {K : Nat → Int32} {T x y : Nat} (hT : T < 64) (hx : x < 6) (hy : y < 6) (a b w : Int32) : f0_pick_24 K (nI T) (nI x) a b w (nI y) = some (upd K x (K y), nI (setb T x (bt T y))) := by
  unfold f0_pick_24
  rw [tnt0 hT hy, Option.bind_some, inb_nI hy (by decide), nI_clamp (by omega), bec0 hT hx]; rfl
theorem pic0 {K : Nat → Int32} {T x y z : Nat} (hT : T < 64) (hx : x < 6) (hy : y < 6) (hz : z < 6) : f0_pick K (nI T) (nI x) (nI y) (nI z) = some (upd K x (if K x = -1 then (if ¬ K y = -1 ∧ K y = K z then K y else -1) else if K x = 0 then K z else K y), nI (setb T x (if K x = -1 then (if ¬ K y = -1 ∧ K y = K z then false else bt T x || (bt T y || bt T z)) else if K x = 0 then bt T z else bt T y))) := by
  unfold f0_pick
  rw [inb_nI hx (by decide), ck_t, nI_clamp (by omega)]
  unfold f0_pick_8
  rw [inb_nI hy (by decide), inb_nI hz (by decide), nI_clamp (show y < 2 ^ 31 by omega), nI_clamp (show z < 2 ^ 31 by omega), pic87 hT hx hy hz, bec0f hT hx, pic24 hT hx hz, pic24 hT hx hy]
  simp only [ck_t]
  by_cases h1 : K x = -1
  · rw [if_pos h1, if_pos h1, if_pos h1]
    by_cases h2 : K y = -1
    · rw [if_pos h2, if_neg (fun q => q.1 h2), if_neg (fun q => q.1 h2)]
    · rw [if_neg h2]
      by_cases h3 : K y = K z
      · rw [if_pos h3, if_pos ⟨h2, h3⟩, if_pos ⟨h2, h3⟩]; rfl
      · rw [if_neg h3, if_neg (fun q => h3 q.2), if_neg (fun q => h3 q.2)]
  · rw [if_neg h1, if_neg h1, if_neg h1]
    by_cases h2 : K x = 0
    · rw [if_pos h2, if_pos h2, if_pos h2]
    · rw [if_neg h2, if_neg h2, if_neg h2]
theorem chg0 {N : Nat → Int32} {c s : Nat} (hw : wf N c s) {K : Nat → Int32} {T k x y z : Nat} (hT : T < 64) (hk : k < 9) (h7 : k ≠ 7) (hx : x < 6) (hy : y < yE k) (hz : z < zE k) (hK : ∀ j, j < 6 → kOK (K j)) : f0_change N K (nI T) (nI k) (nI x) (nI y) (nI z) = some (upd K x (trv N T K k x y z).2, nI (setb T x (trv N T K k x y z).1)) := by
  unfold f0_change trv
  have hy6 : k ≠ 0 → y < 6 := by intro h; unfold yE at hy; rw [if_neg h, if_neg h7] at hy; exact hy
  have two : k = 2 ∨ k = 3 ∨ k = 4 ∨ k = 6 → ((f0_combine K (nI T) (nI k) (nI x) (nI y)).bind fun q => some (q.1, q.2)) = some (upd K x (if (k = 4 ∧ x = y) ∨ (k = 3 ∧ (K x = 0 ∨ K y = 0)) then 0 else if K x = -1 ∨ K y = -1 then -1 else nI (cmb k (K x).toNatClampNeg (K y).toNatClampNeg)), nI (setb T x (if (k = 4 ∧ x = y) ∨ (k = 3 ∧ (K x = 0 ∨ K y = 0)) then false else bt T x || bt T y))) := by
    intro h
    have y6 := hy6 (by omega)
    unfold f0_combine
    rw [inb_nI hx (by decide), inb_nI y6 (by decide), nI_clamp (show x < 2 ^ 31 by omega), nI_clamp (show y < 2 ^ 31 by omega), ck_t, ck_t, com16 hT h hx y6 (hK x hx) (hK y y6)]
    rfl
  have spl : ∀ (P : Prop) [Decidable P] (a b : Bool × Int32), (if P then a else b).2 = (if P then a.2 else b.2) ∧ (if P then a else b).1 = (if P then a.1 else b.1) := by
    intro P _ a b
    by_cases h : P
    · rw [if_pos h, if_pos h, if_pos h]; exact ⟨rfl, rfl⟩
    · rw [if_neg h, if_neg h, if_neg h]; exact ⟨rfl, rfl⟩
  rcases (show k = 0 ∨ k = 1 ∨ k = 2 ∨ k = 3 ∨ k = 4 ∨ k = 5 ∨ k = 6 ∨ k = 8 by omega) with rfl | rfl | rfl | rfl | rfl | rfl | rfl | rfl
  · rw [if_pos (by decide +kernel), if_pos rfl, bec0f hT hx]; rfl
  · have y6 := hy6 (by decide)
    rw [if_neg (by decide +kernel), if_pos (by decide +kernel), if_neg (by decide), if_pos rfl, tnt0 hT y6, Option.bind_some, inb_nI y6 (by decide), nI_clamp (show y < 2 ^ 31 by omega), bec0 hT hx]; rfl
  · rw [if_neg (by decide +kernel), if_neg (by decide +kernel), if_pos (by decide +kernel), if_neg (by decide), if_neg (by decide), if_neg (by decide), if_neg (by decide), two (by decide), (spl _ _ _).1, (spl _ _ _).2]
  · rw [if_neg (by decide +kernel), if_neg (by decide +kernel), if_neg (by decide +kernel), if_pos (by decide +kernel), if_neg (by decide), if_neg (by decide), if_neg (by decide), if_neg (by decide), two (by decide), (spl _ _ _).1, (spl _ _ _).2]
  · rw [if_neg (by decide +kernel), if_neg (by decide +kernel), if_neg (by decide +kernel), if_neg (by decide +kernel), if_pos (by decide +kernel), if_neg (by decide), if_neg (by decide), if_neg (by decide), if_neg (by decide), two (by decide), (spl _ _ _).1, (spl _ _ _).2]
  · have y6 := hy6 (by decide)
    rw [if_neg (by decide +kernel), if_neg (by decide +kernel), if_neg (by decide +kernel), if_neg (by decide +kernel), if_neg (by decide +kernel), if_pos (by decide +kernel), if_neg (show ¬ (5 : Nat) = 0 by decide), if_neg (show ¬ (5 : Nat) = 1 by decide), if_pos (show (5 : Nat) = 5 from rfl), tnt0 hT y6, Option.bind_some, inb_nI y6 (by decide), nI_clamp (show y < 2 ^ 31 by omega)]
    simp only [ck_t]
    by_cases h : K y = -1
    · rw [if_pos h, if_pos h, bec0 hT hx]; rfl
    · obtain ⟨n, hn, en, cn⟩ := kOK_of (hK y y6) h
      rw [if_neg h, if_neg h, en, inb_nI hn (by decide), bec0 hT hx]; rfl
  · rw [if_neg (by decide +kernel), if_neg (by decide +kernel), if_neg (by decide +kernel), if_neg (by decide +kernel), if_neg (by decide +kernel), if_neg (by decide +kernel), if_pos (by decide +kernel), if_neg (by decide), if_neg (by decide), if_neg (by decide), if_neg (by decide), two (by decide), (spl _ _ _).1, (spl _ _ _).2]
  · have y6 := hy6 (by decide)
    rw [if_neg (by decide +kernel), if_neg (by decide +kernel), if_neg (by decide +kernel), if_neg (by decide +kernel), if_neg (by decide +kernel), if_neg (by decide +kernel), if_neg (by decide +kernel), if_neg (by decide +kernel), if_pos (by decide +kernel), if_neg (show ¬ (8 : Nat) = 0 by decide), if_neg (show ¬ (8 : Nat) = 1 by decide), if_neg (show ¬ (8 : Nat) = 5 by decide), if_pos (show (8 : Nat) = 8 from rfl), pic0 hT hx y6 hz, Option.bind_some, (spl _ _ _).1, (spl _ _ _).1, (spl _ _ _).1, (spl _ _ _).2, (spl _ _ _).2, (spl _ _ _).2]
