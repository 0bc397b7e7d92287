/-! pure rows: states to go back to -/
def cpN (N A : Nat → Int32) (p : Nat) : Nat → Int32 := fun j => if j < p then N j else A j
theorem cpN_0 {N A : Nat → Int32} : cpN N A 0 = A := by
  funext j
  exact if_neg (Nat.not_lt_zero j)
theorem cpN_s {N A : Nat → Int32} {p : Nat} : upd (cpN N A p) p (N p) = cpN N A (p + 1) := by
  funext j
  unfold upd cpN
  by_cases h : j = p
  · rw [if_pos h, if_pos (by omega), h]
  · rw [if_neg h]
    by_cases h2 : j < p
    · rw [if_pos h2, if_pos (by omega)]
    · rw [if_neg h2, if_neg (by omega)]
theorem lay7l {N A : Nat → Int32} : ∀ (d n p : Nat), p + d = 104 → d < n → f7_laysAside_2 N n (cpN N A p, nI p) = some (cpN N A 104) := by
  intro d
  induction d with
  | zero =>
    intro n p hp hn
    obtain ⟨m, rfl⟩ : ∃ m, n = m + 1 := ⟨n - 1, by omega⟩
    unfold f7_laysAside_2
    rw [itf]
    unfold f7_laysAside_2b
    dsimp only
    rw [if_pos (show (104 : Int32) ≤ nI p from (nI_leI (a := 104) (by decide) (by omega)).mpr (by omega)), show p = 104 by omega]
  | succ d ih =>
    intro n p hp hn
    obtain ⟨m, rfl⟩ : ∃ m, n = m + 1 := ⟨n - 1, by omega⟩
    have e : nI p + (1 : Int32) = nI (p + 1) := nI_add ..
    unfold f7_laysAside_2
    rw [itf]
    unfold f7_laysAside_2b
    dsimp only
    rw [if_neg (show ¬ (104 : Int32) ≤ nI p from fun q => by have := (nI_leI (a := 104) (by decide) (by omega)).mp q; omega), inb_nI (show p < 104 by omega) (by decide), nI_clamp (show p < 2 ^ 31 by omega), ck_t, ck_t, e, cpN_s]
    exact ih m (p + 1) (by omega) (by omega)
theorem layA7 (N A : Nat → Int32) : f7_laysAside N A = some (cpN N A 104) := by
  unfold f7_laysAside
  have := lay7l (N := N) (A := A) 104 1000 0 rfl (by decide)
  rw [cpN_0] at this
  exact this
/-- a row of 104 laid at place b -/
def pt (A P : Nat → Int32) (b p : Nat) : Nat → Int32 := fun j => if b ≤ j ∧ j < b + p then A (j - b) else P j
theorem pt_0 {A P : Nat → Int32} {b : Nat} : pt A P b 0 = P := by
  funext j
  exact if_neg (by omega)
theorem pt_s {A P : Nat → Int32} {b p : Nat} : upd (pt A P b p) (b + p) (A p) = pt A P b (p + 1) := by
  funext j
  unfold upd pt
  by_cases h : j = b + p
  · rw [if_pos h, if_pos (by omega), h, Nat.add_sub_cancel_left]
  · rw [if_neg h]
    by_cases h2 : b ≤ j ∧ j < b + p
    · rw [if_pos h2, if_pos (by omega)]
    · rw [if_neg h2, if_neg (by omega)]
theorem leave7l {A P : Nat → Int32} {st : Nat} (hs : st < 5) : ∀ (d n p : Nat), p + d = 104 → d < n → f7_leaves_50 A n (pt A P (104 * st) p, nI st, nI p) = some (pt A P (104 * st) 104, nI (st + 1)) := by
  intro d
  induction d with
  | zero =>
    intro n p hp hn
    obtain ⟨m, rfl⟩ : ∃ m, n = m + 1 := ⟨n - 1, by omega⟩
    have e : nI st + (1 : Int32) = nI (st + 1) := nI_add ..
    unfold f7_leaves_50
    rw [itf]
    unfold f7_leaves_50b f7_leaves_82
    dsimp only
    rw [if_pos (show (104 : Int32) ≤ nI p from (nI_leI (a := 104) (by decide) (by omega)).mpr (by omega)), show p = 104 by omega, e]
  | succ d ih =>
    intro n p hp hn
    obtain ⟨m, rfl⟩ : ∃ m, n = m + 1 := ⟨n - 1, by omega⟩
    have e : nI p + (1 : Int32) = nI (p + 1) := nI_add ..
    have e2 : (104 : Int32) * nI st + nI p = nI (104 * st + p) := by rw [show (104 : Int32) * nI st = nI (104 * st) from pk_mul 104 st, nI_add]
    unfold f7_leaves_50
    rw [itf]
    unfold f7_leaves_50b
    dsimp only
    rw [if_neg (show ¬ (104 : Int32) ≤ nI p from fun q => by have := (nI_leI (a := 104) (by decide) (by omega)).mp q; omega), e2, inb_nI (show p < 104 by omega) (by decide), inb_nI (show 104 * st + p < 520 by omega) (by decide), nI_clamp (show p < 2 ^ 31 by omega), nI_clamp (show 104 * st + p < 2 ^ 31 by omega), ck_t, ck_t, e, pt_s]
    exact ih m (p + 1) (by omega) (by omega)
def sh (P : Nat → Int32) (p : Nat) : Nat → Int32 := fun j => if j < p then P (j + 104) else P j
theorem sh_0 {P : Nat → Int32} : sh P 0 = P := by
  funext j
  exact if_neg (Nat.not_lt_zero j)
theorem sh_s {P : Nat → Int32} {p : Nat} : upd (sh P p) p (sh P p (p + 104)) = sh P (p + 1) := by
  funext j
  unfold upd sh
  by_cases h : j = p
  · rw [if_pos h, if_neg (by omega), if_pos (by omega), h]
  · rw [if_neg h]
    by_cases h2 : j < p
    · rw [if_pos h2, if_pos (by omega)]
    · rw [if_neg h2, if_neg (by omega)]
theorem shift7l {A P : Nat → Int32} : ∀ (d n p : Nat), p + d = 416 → d < n → f7_leaves_10 A n (sh P p, nI 5, nI p) = some (pt A (sh P 416) 416 104, nI 5) := by
  intro d
  induction d with
  | zero =>
    intro n p hp hn
    obtain ⟨m, rfl⟩ : ∃ m, n = m + 1 := ⟨n - 1, by omega⟩
    unfold f7_leaves_10
    rw [itf]
    unfold f7_leaves_10b f7_leaves_38
    dsimp only
    rw [if_pos (show (416 : Int32) ≤ nI p from (nI_leI (a := 416) (by decide) (by omega)).mpr (by omega)), show p = 416 by omega, show nI 5 - (1 : Int32) = nI 4 from nI_pred 4]
    have := leave7l (A := A) (P := sh P 416) (st := 4) (by decide) 104 1000 0 rfl (by decide)
    rw [pt_0] at this
    exact this
  | succ d ih =>
    intro n p hp hn
    obtain ⟨m, rfl⟩ : ∃ m, n = m + 1 := ⟨n - 1, by omega⟩
    have e : nI p + (1 : Int32) = nI (p + 1) := nI_add ..
    have e2 : nI p + (104 : Int32) = nI (p + 104) := nI_add ..
    unfold f7_leaves_10
    rw [itf]
    unfold f7_leaves_10b
    dsimp only
    rw [if_neg (show ¬ (416 : Int32) ≤ nI p from fun q => by have := (nI_leI (a := 416) (by decide) (by omega)).mp q; omega), e2, inb_nI (show p < 520 by omega) (by decide), inb_nI (show p + 104 < 520 by omega) (by decide), nI_clamp (show p < 2 ^ 31 by omega), nI_clamp (show p + 104 < 2 ^ 31 by omega), ck_t, ck_t, e, sh_s]
    exact ih m (p + 1) (by omega) (by omega)
def lvP (A P : Nat → Int32) (st : Nat) : Nat → Int32 := if st < 5 then pt A P (104 * st) 104 else pt A (sh P 416) 416 104
theorem leave7 (A P : Nat → Int32) {st : Nat} (hs : st ≤ 5) : f7_leaves A P (nI st) = some (lvP A P st, nI (if st < 5 then st + 1 else 5)) := by
  unfold f7_leaves lvP
  by_cases h : st < 5
  · rw [if_neg (fun q => by have := (nI_is 5 (b := (5 : Int32)) rfl (by omega) (by decide)).mp q; omega), if_pos h, if_pos h]
    have := leave7l (A := A) (P := P) h 104 1000 0 rfl (by decide)
    rw [pt_0] at this
    exact this
  · rw [if_pos (by rw [show st = 5 by omega]; rfl), if_neg h, if_neg h, show st = 5 by omega]
    have := shift7l (A := A) (P := P) 416 1000 0 rfl (by decide)
    rw [sh_0] at this
    exact this
def bkN (P N : Nat → Int32) (st p : Nat) : Nat → Int32 := fun j => if j < p then P (104 * st + j) else N j
theorem bkN_0 {P N : Nat → Int32} {st : Nat} : bkN P N st 0 = N := by
  funext j
  exact if_neg (Nat.not_lt_zero j)
theorem bkN_s {P N : Nat → Int32} {st p : Nat} : upd (bkN P N st p) p (P (104 * st + p)) = bkN P N st (p + 1) := by
  funext j
  unfold upd bkN
  by_cases h : j = p
  · rw [if_pos h, if_pos (by omega), h]
  · rw [if_neg h]
    by_cases h2 : j < p
    · rw [if_pos h2, if_pos (by omega)]
    · rw [if_neg h2, if_neg (by omega)]
theorem back7l {P N : Nat → Int32} {st : Nat} (hs : st < 5) (rf : Nat → Int32) : ∀ (d n p : Nat), p + d = 104 → d < n → f7_back_24 P n (bkN P N st p, nI st, rf, nI p) = some (nI st, bkN P N st 104, nI st, rf) := by
  intro d
  induction d with
  | zero =>
    intro n p hp hn
    obtain ⟨m, rfl⟩ : ∃ m, n = m + 1 := ⟨n - 1, by omega⟩
    unfold f7_back_24
    rw [itf]
    unfold f7_back_24b
    dsimp only
    rw [if_pos (show (104 : Int32) ≤ nI p from (nI_leI (a := 104) (by decide) (by omega)).mpr (by omega)), show p = 104 by omega]
  | succ d ih =>
    intro n p hp hn
    obtain ⟨m, rfl⟩ : ∃ m, n = m + 1 := ⟨n - 1, by omega⟩
    have e : nI p + (1 : Int32) = nI (p + 1) := nI_add ..
    have e2 : (104 : Int32) * nI st + nI p = nI (104 * st + p) := by rw [show (104 : Int32) * nI st = nI (104 * st) from pk_mul 104 st, nI_add]
    unfold f7_back_24
    rw [itf]
    unfold f7_back_24b
    dsimp only
    rw [if_neg (show ¬ (104 : Int32) ≤ nI p from fun q => by have := (nI_leI (a := 104) (by decide) (by omega)).mp q; omega), e2, inb_nI (show p < 104 by omega) (by decide), inb_nI (show 104 * st + p < 520 by omega) (by decide), nI_clamp (show p < 2 ^ 31 by omega), nI_clamp (show 104 * st + p < 2 ^ 31 by omega), ck_t, ck_t, e, bkN_s]
    exact ih m (p + 1) (by omega) (by omega)
theorem back7 (P N : Nat → Int32) {st : Nat} (hs : st < 5) (rf : Nat → Int32) : f7_back P N (nI (st + 1)) rf = some (nI st, bkN P N st 104, nI st, rf) := by
  unfold f7_back
  rw [if_neg (fun q => by have := (nI_is 0 (b := (0 : Int32)) rfl (by omega) (by decide)).mp q; omega), show nI (st + 1) - (1 : Int32) = nI st from nI_pred st]
  have := back7l (P := P) (N := N) hs rf 104 1000 0 rfl (by decide)
  rw [bkN_0] at this
  exact this
theorem does39 (T : Nat → Int32) (ln : Int32) {A P : Nat → Int32} {st a f o : Int32} {LT NU N : Nat → Int32} {x : Int32} : ∀ (d n p : Nat), p + d = 104 → d < n → f7_does_39 T ln n (cpN A N p, A, P, st, a, f, o, LT, NU, x, nI p) = some (-1000 - x, cpN A N 104, A, P, st, a, f, o, LT, NU) := by
  intro d
  induction d with
  | zero =>
    intro n p hp hn
    obtain ⟨m, rfl⟩ : ∃ m, n = m + 1 := ⟨n - 1, by omega⟩
    unfold f7_does_39
    rw [itf]
    unfold f7_does_39b f7_does_63
    dsimp only
    rw [if_pos (show (104 : Int32) ≤ nI p from (nI_leI (a := 104) (by decide) (by omega)).mpr (by omega)), show p = 104 by omega]
  | succ d ih =>
    intro n p hp hn
    obtain ⟨m, rfl⟩ : ∃ m, n = m + 1 := ⟨n - 1, by omega⟩
    have e : nI p + (1 : Int32) = nI (p + 1) := nI_add ..
    unfold f7_does_39
    rw [itf]
    unfold f7_does_39b
    dsimp only
    rw [if_neg (show ¬ (104 : Int32) ≤ nI p from fun q => by have := (nI_leI (a := 104) (by decide) (by omega)).mp q; omega), inb_nI (show p < 104 by omega) (by decide), nI_clamp (show p < 2 ^ 31 by omega), ck_t, ck_t, e, cpN_s]
    exact ih m (p + 1) (by omega) (by omega)
/-! the ring -/
theorem irm5 {r : Nat} (h : r < 2 ^ 31) : irm (nI r) (5 : Int32) = nI (r % 5) := pk_rem (d := 5) h (by decide) (by decide)
def h5 (a b c d e : Nat → Int32) (k : Nat) : Nat → Int32 := if k = 0 then a else if k = 1 then b else if k = 2 then c else if k = 3 then d else e
theorem keep1 (P a b c d e : Nat → Int32) {od sz : Nat} (ho : od < 5) (hs : sz ≤ 5) : ∃ a' b' c' d' e', f1_keep P (nI od) (nI sz) a b c d e = some (nI (if sz < 5 then od else (od + 1) % 5), nI (if sz < 5 then sz + 1 else 5), a', b', c', d', e') ∧ ∀ k, k < 5 → h5 a' b' c' d' e' k = if k = (od + sz) % 5 then P else h5 a b c d e k := by
  have hm : (od + sz) % 5 < 5 := Nat.mod_lt _ (by decide)
  have e1 : nI od + nI sz = nI (od + sz) := nI_add ..
  have e2 : nI od + (1 : Int32) = nI (od + 1) := nI_add ..
  have e3 : nI sz + (1 : Int32) = nI (sz + 1) := nI_add ..
  have hif : ∀ q : Int32 × Int32 × (Nat → Int32) × (Nat → Int32) × (Nat → Int32) × (Nat → Int32) × (Nat → Int32), ∀ r : (Nat → Int32) × (Nat → Int32) × (Nat → Int32) × (Nat → Int32) × (Nat → Int32), (if (5 : Int32) ≤ nI sz then some (nI ((od + 1) % 5), nI sz, r) else some (nI od, nI (sz + 1), r)) = some (nI (if sz < 5 then od else (od + 1) % 5), nI (if sz < 5 then sz + 1 else 5), r) := by
    intro _ r
    by_cases h : sz < 5
    · rw [if_neg (show ¬ (5 : Int32) ≤ nI sz from fun q => by have := (nI_leI (a := 5) (by decide) (by omega)).mp q; omega), if_pos h, if_pos h]
    · rw [if_pos (show (5 : Int32) ≤ nI sz from (nI_leI (a := 5) (by decide) (by omega)).mpr (by omega)), if_neg h, if_neg h, show sz = 5 by omega]
  have hcp : ∀ Q, f1_copy P Q = some P := fun Q => rfl
  unfold f1_keep
  rw [e1, e2, e3, irm5 (by omega), irm5 (by omega), inb_nI hm (by decide), nI_clamp (by omega), ck_t]
  generalize hg : (od + sz) % 5 = g at hm
  have hg5 : g = 0 ∨ g = 1 ∨ g = 2 ∨ g = 3 ∨ g = 4 := by omega
  rcases hg5 with rfl | rfl | rfl | rfl | rfl
  · refine ⟨P, b, c, d, e, ?_, ?_⟩
    · rw [if_pos rfl, hcp, Option.bind_some]
      exact hif (0, 0, P, b, c, d, e) _
    · intro k hk
      have : k = 0 ∨ k = 1 ∨ k = 2 ∨ k = 3 ∨ k = 4 := by omega
      rcases this with rfl | rfl | rfl | rfl | rfl <;> rfl
  · refine ⟨a, P, c, d, e, ?_, ?_⟩
    · rw [if_neg (by decide), if_pos rfl, hcp, Option.bind_some]
      exact hif (0, 0, P, b, c, d, e) _
    · intro k hk
      have : k = 0 ∨ k = 1 ∨ k = 2 ∨ k = 3 ∨ k = 4 := by omega
      rcases this with rfl | rfl | rfl | rfl | rfl <;> rfl
  · refine ⟨a, b, P, d, e, ?_, ?_⟩
    · rw [if_neg (by decide), if_neg (by decide), if_pos rfl, hcp, Option.bind_some]
      exact hif (0, 0, P, b, c, d, e) _
    · intro k hk
      have : k = 0 ∨ k = 1 ∨ k = 2 ∨ k = 3 ∨ k = 4 := by omega
      rcases this with rfl | rfl | rfl | rfl | rfl <;> rfl
  · refine ⟨a, b, c, P, e, ?_, ?_⟩
    · rw [if_neg (by decide), if_neg (by decide), if_neg (by decide), if_pos rfl, hcp, Option.bind_some]
      exact hif (0, 0, P, b, c, d, e) _
    · intro k hk
      have : k = 0 ∨ k = 1 ∨ k = 2 ∨ k = 3 ∨ k = 4 := by omega
      rcases this with rfl | rfl | rfl | rfl | rfl <;> rfl
  · refine ⟨a, b, c, d, P, ?_, ?_⟩
    · rw [if_neg (by decide), if_neg (by decide), if_neg (by decide), if_neg (by decide), if_pos rfl, hcp, Option.bind_some]
      exact hif (0, 0, P, b, c, d, e) _
    · intro k hk
      have : k = 0 ∨ k = 1 ∨ k = 2 ∨ k = 3 ∨ k = 4 := by omega
      rcases this with rfl | rfl | rfl | rfl | rfl <;> rfl
theorem rest1 (P a b c d e : Nat → Int32) {od sz : Nat} (ho : od < 5) (hs : sz < 5) : f1_restore (nI od) a b c d e (nI (sz + 1)) P = some (nI sz, h5 a b c d e ((od + sz) % 5)) := by
  have hm : (od + sz) % 5 < 5 := Nat.mod_lt _ (by decide)
  have e1 : nI od + nI sz = nI (od + sz) := nI_add ..
  unfold f1_restore
  rw [if_neg (fun q => by have := (nI_is 0 (b := (0 : Int32)) rfl (by omega) (by decide)).mp q; omega), show nI (sz + 1) - (1 : Int32) = nI sz from nI_pred sz, e1, irm5 (by omega), inb_nI hm (by decide), nI_clamp (by omega), ck_t]
  generalize hg : (od + sz) % 5 = g at hm
  have hg5 : g = 0 ∨ g = 1 ∨ g = 2 ∨ g = 3 ∨ g = 4 := by omega
  rcases hg5 with rfl | rfl | rfl | rfl | rfl <;> rfl
/-- the states kept, as the ring and as the row have them -/
def RG (od sz : Nat) (h : Nat → Nat → Int32) (P : Nat → Int32) : Prop := od < 5 ∧ sz ≤ 5 ∧ ∀ k, k < sz → (∃ c s, wf (h ((od + k) % 5)) c s) ∧ ∀ j, j < 104 → h ((od + k) % 5) j = P (104 * k + j)
theorem RG_keep {od sz : Nat} {h h' : Nat → Nat → Int32} {P N A : Nat → Int32} {c s : Nat} (hR : RG od sz h P) (hw : wf N c s) (hA : ∀ j, j < 104 → A j = N j) (hh : ∀ k, k < 5 → h' k = if k = (od + sz) % 5 then N else h k) : RG (if sz < 5 then od else (od + 1) % 5) (if sz < 5 then sz + 1 else 5) h' (lvP A P sz) := by
  obtain ⟨ho, hs, hk⟩ := hR
  unfold lvP
  by_cases h5 : sz < 5
  · rw [if_pos h5, if_pos h5, if_pos h5]
    refine ⟨ho, by omega, fun k hk1 => ?_⟩
    have hm : (od + k) % 5 < 5 := Nat.mod_lt _ (by decide)
    rw [hh _ hm]
    by_cases hks : k = sz
    · rw [if_pos (by rw [hks])]
      refine ⟨⟨c, s, hw⟩, fun j hj => ?_⟩
      unfold pt
      rw [if_pos (by rw [hks]; omega), hks, Nat.add_sub_cancel_left, hA j hj]
    · rw [if_neg (by omega)]
      obtain ⟨q1, q2⟩ := hk k (by omega)
      refine ⟨q1, fun j hj => ?_⟩
      unfold pt
      rw [if_neg (by omega)]
      exact q2 j hj
  · rw [if_neg h5, if_neg h5, if_neg h5]
    have e5 : sz = 5 := by omega
    refine ⟨by omega, by omega, fun k hk1 => ?_⟩
    have hm : ((od + 1) % 5 + k) % 5 < 5 := Nat.mod_lt _ (by decide)
    rw [hh _ hm]
    by_cases hks : k = 4
    · rw [if_pos (by omega)]
      refine ⟨⟨c, s, hw⟩, fun j hj => ?_⟩
      unfold pt
      rw [if_pos (by omega), hks, show 104 * 4 + j - 416 = j by omega, hA j hj]
    · rw [if_neg (by omega), show ((od + 1) % 5 + k) % 5 = (od + (k + 1)) % 5 by omega]
      obtain ⟨q1, q2⟩ := hk (k + 1) (by omega)
      refine ⟨q1, fun j hj => ?_⟩
      unfold pt sh
      rw [if_neg (by omega), if_pos (by omega), q2 j hj, show 104 * (k + 1) + j = 104 * k + j + 104 by omega]
theorem wf_0 {N : Nat → Int32} {c s j : Nat} (h : wf N c s) (hj : 104 ≤ j) : N j = 0 := h.2.2.2.2.2.2.2.2 j hj
theorem RG_back {od sz : Nat} {h : Nat → Nat → Int32} {P N : Nat → Int32} {c s : Nat} (hR : RG od (sz + 1) h P) (hw : wf N c s) : RG od sz h P ∧ (∃ c' s', wf (h ((od + sz) % 5)) c' s') ∧ bkN P N sz 104 = h ((od + sz) % 5) := by
  obtain ⟨ho, hs, hk⟩ := hR
  obtain ⟨⟨c', s', q1⟩, q2⟩ := hk sz (by omega)
  refine ⟨⟨ho, by omega, fun k hk1 => hk k (by omega)⟩, ⟨c', s', q1⟩, ?_⟩
  funext j
  unfold bkN
  by_cases hj : j < 104
  · rw [if_pos hj, q2 j hj]
  · rw [if_neg hj, wf_0 hw (by omega), wf_0 q1 (by omega)]
