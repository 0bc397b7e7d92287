/-! pure rows: the same of the reference; how what leads to a line comes to what is there -/
theorem two80_0 {N K : Nat → Int32} {T x y : Nat} (hT : T < 64) (hx : x < 6) (hy : y < 6) (k w : Int32) : f7_tellsTwo_80 N (nI T) K k (nI x) (nI y) w (0 : Int32) = some (nI (setb T x (bt T x || bt T y)), upd K x (-1)) := by
  unfold f7_tellsTwo_80
  rw [tnt7 hT hx, Option.bind_some]
  cases bt T x
  · rw [b01_f0, if_pos rfl, tnt7 hT hy, Option.bind_some]
    cases bt T y
    · rw [b01_f0, if_pos rfl, if_pos rfl, tel7f hT hx]; rfl
    · rw [b01_t1, if_neg one_ne, if_pos rfl, tel7t hT hx]; rfl
  · rw [b01_t1, if_neg one_ne, if_pos rfl, tel7t hT hx]; rfl
theorem two80_1 {N K : Nat → Int32} {T x y : Nat} (hT : T < 64) (hx : x < 6) (hy : y < 6) {k w v : Int32} (h : f7_comesOut N k (K x) (K y) = some v) : f7_tellsTwo_80 N (nI T) K k (nI x) (nI y) w (1 : Int32) = some (nI (setb T x (bt T x || bt T y)), upd K x v) := by
  unfold f7_tellsTwo_80
  rw [tnt7 hT hx, Option.bind_some, inb_nI hx (by decide), inb_nI hy (by decide), nI_clamp (show x < 2 ^ 31 by omega), nI_clamp (show y < 2 ^ 31 by omega), h]
  simp only [ck_t]
  cases bt T x
  · rw [b01_f0, if_pos rfl, tnt7 hT hy, Option.bind_some]
    cases bt T y
    · rw [b01_f0, if_pos rfl, if_neg one_ne, Option.bind_some, tel7f hT hx]; rfl
    · rw [b01_t1, if_neg one_ne, if_neg one_ne, Option.bind_some, tel7t hT hx]; rfl
  · rw [b01_t1, if_neg one_ne, if_neg one_ne, Option.bind_some, tel7t hT hx]; rfl
theorem two40_1 {N K : Nat → Int32} {T x : Nat} (hT : T < 64) (hx : x < 6) (k y : Int32) : f7_tellsTwo_40 N (nI T) K k (nI x) y (1 : Int32) = some (nI (setb T x false), upd K x 0) := by
  unfold f7_tellsTwo_40
  rw [if_neg one_ne, tel7f hT hx]; rfl
theorem two40_0 {N K : Nat → Int32} {T k x y : Nat} (hT : T < 64) (hk : k = 2 ∨ k = 3 ∨ k = 4 ∨ k = 6) (hx : x < 6) (hy : y < 6) (ka : kOK (K x)) (kb : kOK (K y)) : f7_tellsTwo_40 N (nI T) K (nI k) (nI x) (nI y) (0 : Int32) = some (nI (setb T x (bt T x || bt T y)), upd K x (if K x = -1 ∨ K y = -1 then -1 else nI (cmb k (K x).toNatClampNeg (K y).toNatClampNeg))) := by
  unfold f7_tellsTwo_40
  rw [if_pos rfl, inb_nI hx (by decide), inb_nI hy (by decide), nI_clamp (show x < 2 ^ 31 by omega), nI_clamp (show y < 2 ^ 31 by omega), ck_t, ck_t]
  unfold f7_tellsTwo_77 f7_tellsTwo_78
  by_cases h1 : K x = -1
  · rw [if_pos h1, if_pos (Or.inl h1), two80_0 hT hx hy]
  · rw [if_neg h1]
    by_cases h2 : K y = -1
    · rw [if_pos h2, if_pos (Or.inr h2), two80_0 hT hx hy]
    · rw [if_neg h2, if_neg (fun q => q.elim h1 h2)]
      obtain ⟨a, ha, ea, ca⟩ := kOK_of ka h1
      obtain ⟨b, hb, eb, cb⟩ := kOK_of kb h2
      rw [ca, cb]
      refine two80_1 hT hx hy ?_
      rw [ea, eb]
      exact cmb7 N hk ha hb
theorem two7 {N K : Nat → Int32} {T k x y : Nat} (hT : T < 64) (hk : k = 2 ∨ k = 3 ∨ k = 4 ∨ k = 6) (hx : x < 6) (hy : y < 6) (ka : kOK (K x)) (kb : kOK (K y)) : f7_tellsTwo N (nI T) K (nI k) (nI x) (nI y) = some (nI (setb T x (if (k = 4 ∧ x = y) ∨ (k = 3 ∧ (K x = 0 ∨ K y = 0)) then false else bt T x || bt T y)), upd K x (if (k = 4 ∧ x = y) ∨ (k = 3 ∧ (K x = 0 ∨ K y = 0)) then 0 else if K x = -1 ∨ K y = -1 then -1 else nI (cmb k (K x).toNatClampNeg (K y).toNatClampNeg))) := by
  unfold f7_tellsTwo f7_tellsTwo_37
  rw [two40_1 hT hx, two40_0 hT hk hx hy ka kb, inb_nI hx (by decide), inb_nI hy (by decide), nI_clamp (show x < 2 ^ 31 by omega), nI_clamp (show y < 2 ^ 31 by omega), ck_t, ck_t]
  have k4 : nI k = (4 : Int32) ↔ k = 4 := nI_is 4 rfl (by omega) (by decide)
  have k3 : nI k = (3 : Int32) ↔ k = 3 := nI_is 3 rfl (by omega) (by decide)
  have xy : nI x = nI y ↔ x = y := nI_eq (by omega) (by omega)
  by_cases h4 : k = 4
  · rw [if_pos (k4.mpr h4)]
    by_cases hxy : x = y
    · rw [if_pos (xy.mpr hxy), if_pos (Or.inl ⟨h4, hxy⟩), if_pos (Or.inl ⟨h4, hxy⟩)]
    · have nc : ¬ ((k = 4 ∧ x = y) ∨ (k = 3 ∧ (K x = 0 ∨ K y = 0))) := fun q => q.elim (fun r => hxy r.2) (fun r => by omega)
      rw [if_neg (fun q => hxy (xy.mp q)), if_neg (fun q => by have := k3.mp q; omega), if_neg nc, if_neg nc]
  · rw [if_neg (fun q => h4 (k4.mp q))]
    by_cases h3 : k = 3
    · rw [if_pos (k3.mpr h3)]
      by_cases a0 : K x = 0
      · rw [if_pos a0, if_pos (Or.inr ⟨h3, Or.inl a0⟩), if_pos (Or.inr ⟨h3, Or.inl a0⟩)]
      · rw [if_neg a0]
        by_cases b0 : K y = 0
        · rw [if_pos b0, if_pos (Or.inr ⟨h3, Or.inr b0⟩), if_pos (Or.inr ⟨h3, Or.inr b0⟩)]
        · have nc : ¬ ((k = 4 ∧ x = y) ∨ (k = 3 ∧ (K x = 0 ∨ K y = 0))) := fun q => q.elim (fun r => h4 r.1) (fun r => r.2.elim a0 b0)
          rw [if_neg b0, if_neg nc, if_neg nc]
    · have nc : ¬ ((k = 4 ∧ x = y) ∨ (k = 3 ∧ (K x = 0 ∨ K y = 0))) := fun q => q.elim (fun r => h4 r.1) (fun r => h3 r.1)
      rw [if_neg (fun q => h3 (k3.mp q)), if_neg nc, if_neg nc]
theorem pic80_0 {K : Nat → Int32} {T x y z : Nat} (hT : T < 64) (hx : x < 6) (hy : y < 6) (hz : z < 6) : f7_tellsPick_80 (nI T) K (nI x) (nI y) (nI z) (0 : Int32) = some (nI (setb T x (bt T x || (bt T y || bt T z))), upd K x (-1)) := by
  unfold f7_tellsPick_80
  rw [if_pos rfl, tnt7 hT hx, Option.bind_some]
  cases bt T x
  · rw [b01_f0, if_pos rfl, tnt7 hT hy, Option.bind_some]
    cases bt T y
    · rw [b01_f0, if_pos rfl, tnt7 hT hz, Option.bind_some]
      cases bt T z
      · rw [b01_f0, if_pos rfl, if_pos rfl, tel7f hT hx]; rfl
      · rw [b01_t1, if_neg one_ne, if_pos rfl, tel7t hT hx]; rfl
    · rw [b01_t1, if_neg one_ne, if_pos rfl, tel7t hT hx]; rfl
  · rw [b01_t1, if_neg one_ne, if_pos rfl, tel7t hT hx]; rfl
theorem pic80_1 {K : Nat → Int32} {T x y : Nat} (hT : T < 64) (hx : x < 6) (hy : y < 6) (z : Int32) : f7_tellsPick_80 (nI T) K (nI x) (nI y) z (1 : Int32) = some (nI (setb T x false), upd K x (K y)) := by
  unfold f7_tellsPick_80
  rw [if_neg one_ne, if_neg one_ne, inb_nI hy (by decide), ck_t, nI_clamp (show y < 2 ^ 31 by omega), tel7f hT hx]; rfl
theorem pic724 {K : Nat → Int32} {T x y : Nat} (hT : T < 64) (hx : x < 6) (hy : y < 6) (a b : Int32) : f7_tellsPick_24 (nI T) K (nI x) a b (nI y) = some (nI (setb T x (bt T y)), upd K x (K y)) := by
  unfold f7_tellsPick_24
  rw [tnt7 hT hy, Option.bind_some, inb_nI hy (by decide), nI_clamp (show y < 2 ^ 31 by omega), tel7 hT hx]; rfl
theorem pic7 {K : Nat → Int32} {T x y z : Nat} (hT : T < 64) (hx : x < 6) (hy : y < 6) (hz : z < 6) : f7_tellsPick (nI T) K (nI x) (nI y) (nI z) = some (nI (setb T x (if K x = -1 then (if ¬ K y = -1 ∧ K y = K z then false else bt T x || (bt T y || bt T z)) else if K x = 0 then bt T z else bt T y)), upd K x (if K x = -1 then (if ¬ K y = -1 ∧ K y = K z then K y else -1) else if K x = 0 then K z else K y)) := by
  unfold f7_tellsPick f7_tellsPick_77 f7_tellsPick_78
  rw [inb_nI hx (by decide), inb_nI hy (by decide), inb_nI hz (by decide), nI_clamp (show x < 2 ^ 31 by omega), nI_clamp (show y < 2 ^ 31 by omega), nI_clamp (show z < 2 ^ 31 by omega), pic80_0 hT hx hy hz, pic80_1 hT hx hy, pic724 hT hx hz, pic724 hT hx hy]
  simp only [ck_t]
  by_cases h1 : K x = -1
  · rw [if_pos h1, if_pos h1, if_pos h1]
    by_cases h2 : K y = -1
    · rw [if_pos h2, if_neg (fun q => q.1 h2), if_neg (fun q => q.1 h2)]
    · rw [if_neg h2]
      by_cases h3 : K y = K z
      · rw [if_pos h3, if_pos ⟨h2, h3⟩, if_pos ⟨h2, h3⟩]
      · rw [if_neg h3, if_neg (fun q => h3 q.2), if_neg (fun q => h3 q.2)]
  · rw [if_neg h1, if_neg h1, if_neg h1]
    by_cases h2 : K x = 0
    · rw [if_pos h2, if_pos h2, if_pos h2]
    · rw [if_neg h2, if_neg h2, if_neg h2]
theorem tln7 {N : Nat → Int32} {c s i : Nat} (hw : wf N c s) (hi : i < c) {K : Nat → Int32} {T : Nat} (hT : T < 64) (h7 : ln N i 0 ≠ 7) (hK : ∀ j, j < 6 → kOK (K j)) : f7_tellsLine N (nI T) K (nI i) = some (nI (setb T (ln N i 1) (trv N T K (ln N i 0) (ln N i 1) (ln N i 2) (ln N i 3)).1), upd K (ln N i 1) (trv N T K (ln N i 0) (ln N i 1) (ln N i 2) (ln N i 3)).2) := by
  obtain ⟨l0, l1, l2, l3, hk, hx, hy, hz⟩ := wf_line hw hi
  have hc := hw.2.1
  generalize ln N i 0 = k at *
  generalize ln N i 1 = x at *
  generalize ln N i 2 = y at *
  generalize ln N i 3 = z at *
  unfold f7_tellsLine
  rw [show f7_partOf N (nI i) (0 : Int32) = some (nI k) from (part7 N (q := 0) (by omega) (by decide)).trans (congrArg some l0), show f7_partOf N (nI i) (1 : Int32) = some (nI x) from (part7 N (q := 1) (by omega) (by decide)).trans (congrArg some l1), show f7_partOf N (nI i) (2 : Int32) = some (nI y) from (part7 N (q := 2) (by omega) (by decide)).trans (congrArg some l2), Option.bind_some, Option.bind_some, Option.bind_some]
  have p3 : f7_partOf N (nI i) (3 : Int32) = some (nI z) := (part7 N (q := 3) (by omega) (by decide)).trans (congrArg some l3)
  unfold f7_tellsLine_22 trv
  have hy6 : k ≠ 0 → y < 6 := by intro h; unfold yE at hy; rw [if_neg h, if_neg h7] at hy; exact hy
  have spl : ∀ (P : Prop) [Decidable P] (a b : Bool × Int32), (if P then a else b).2 = (if P then a.2 else b.2) ∧ (if P then a else b).1 = (if P then a.1 else b.1) := by
    intro P _ a b
    by_cases h : P
    · rw [if_pos h, if_pos h, if_pos h]; exact ⟨rfl, rfl⟩
    · rw [if_neg h, if_neg h, if_neg h]; exact ⟨rfl, rfl⟩
  rcases (show k = 0 ∨ k = 1 ∨ k = 5 ∨ k = 8 ∨ (k = 2 ∨ k = 3 ∨ k = 4 ∨ k = 6) by omega) with rfl | rfl | rfl | rfl | h
  · rw [if_pos (by decide +kernel), if_pos rfl, tel7f hT hx]; rfl
  · have y6 := hy6 (by decide)
    rw [if_neg (by decide +kernel), if_pos (by decide +kernel), if_neg (by decide), if_pos rfl, tnt7 hT y6, Option.bind_some, inb_nI y6 (by decide), nI_clamp (show y < 2 ^ 31 by omega), tel7 hT hx]; rfl
  · have y6 := hy6 (by decide)
    rw [if_neg (by decide +kernel), if_neg (by decide +kernel), if_pos (by decide +kernel), if_neg (show ¬ (5 : Nat) = 0 by decide), if_neg (show ¬ (5 : Nat) = 1 by decide), if_pos (show (5 : Nat) = 5 from rfl), tnt7 hT y6, Option.bind_some, inb_nI y6 (by decide), nI_clamp (show y < 2 ^ 31 by omega)]
    simp only [ck_t]
    by_cases h : K y = -1
    · rw [if_pos h, if_pos h, tel7 hT hx]; rfl
    · obtain ⟨n, hn, en, cn⟩ := kOK_of (hK y y6) h
      rw [if_neg h, if_neg h, en, show (8 : Int32) + nI n = nI (8 + n) from nI_add 8 n, inb_nI (show 8 + n < 104 by omega) (by decide), nI_clamp (show 8 + n < 2 ^ 31 by omega), nI_clamp (show n < 2 ^ 31 by omega), tel7 hT hx]; rfl
  · have y6 := hy6 (by decide)
    rw [if_neg (by decide +kernel), if_neg (by decide +kernel), if_neg (by decide +kernel), if_pos (by decide +kernel), if_neg (show ¬ (8 : Nat) = 0 by decide), if_neg (show ¬ (8 : Nat) = 1 by decide), if_neg (show ¬ (8 : Nat) = 5 by decide), if_pos (show (8 : Nat) = 8 from rfl), p3, Option.bind_some, pic7 hT hx y6 hz, Option.bind_some, (spl _ _ _).1, (spl _ _ _).1, (spl _ _ _).1, (spl _ _ _).2, (spl _ _ _).2, (spl _ _ _).2]
  · have y6 := hy6 (by omega)
    have n0 : ¬ nI k = 0 := fun q => by have := (nI_is 0 (b := (0 : Int32)) rfl (show k < 2 ^ 31 by omega) (by decide)).mp q; omega
    have n1 : ¬ nI k = 1 := fun q => by have := (nI_is 1 (b := (1 : Int32)) rfl (show k < 2 ^ 31 by omega) (by decide)).mp q; omega
    have n5 : ¬ nI k = 5 := fun q => by have := (nI_is 5 (b := (5 : Int32)) rfl (show k < 2 ^ 31 by omega) (by decide)).mp q; omega
    have n8 : ¬ nI k = 8 := fun q => by have := (nI_is 8 (b := (8 : Int32)) rfl (show k < 2 ^ 31 by omega) (by decide)).mp q; omega
    rw [if_neg n0, if_neg n1, if_neg n5, if_neg n8, two7 hT h hx y6 (hK x hx) (hK y y6), Option.bind_some, if_neg (show ¬ k = 0 by omega), if_neg (show ¬ k = 1 by omega), if_neg (show ¬ k = 5 by omega), if_neg (show ¬ k = 8 by omega), (spl _ _ _).1, (spl _ _ _).2]
