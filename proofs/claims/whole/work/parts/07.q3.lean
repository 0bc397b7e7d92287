/-! pure rows: the text is read alike -/
def nof (c : Int32) : Nat := if c = (100 : Int32) then 1 else if c = (108 : Int32) then 4 else if c = (112 : Int32) then 2 else if c = (116 : Int32) then 2 else if c = (118 : Int32) then 2 else 0
theorem nof5 (c : Int32) : f5_numbersOf c = some (nI (nof c)) := by
  unfold f5_numbersOf nof
  repeat' split
  all_goals rfl
theorem nof7 (c : Int32) : f7_manyOf c = some (nI (nof c)) := by
  unfold f7_manyOf nof
  repeat' split
  all_goals rfl
theorem nof_le (c : Int32) : nof c ≤ 4 := by
  unfold nof
  repeat' split
  all_goals decide
def CR (T : Nat → Int32) (len i : Nat) (L A : Nat → Int32) (o : Nat) (op nu fi : Int32) (res : Int32 × (Nat → Int32) × (Nat → Int32) × Int32 × Int32 × Int32 × Int32) : Prop := ∀ n, len - i < n → f5_read_12 T (nI len) n (L, A, nI o, op, nu, fi, nI i) = some res
theorem CR_e1 {T : Nat → Int32} {len : Nat} (hl : len ≤ 120) {L A : Nat → Int32} {o : Nat} {nu fi : Int32} : CR T len len L A o 1 nu fi (nI len, L, A, nI o, 1, nu, fi) := by
  intro n hn
  obtain ⟨m, rfl⟩ : ∃ m, n = m + 1 := ⟨n - 1, by omega⟩
  show f5_read_12b _ _ _ _ _ _ _ _ _ _ = _
  unfold f5_read_12b
  rw [if_pos (show nI len ≤ nI len from (nI_leI (by omega) (by omega)).mpr (Nat.le_refl _)), if_neg one_ne]
theorem CR_e0 {T : Nat → Int32} {len : Nat} (hl : len ≤ 120) {L A : Nat → Int32} {o : Nat} (ho : o ≤ 40) {nu fi : Int32} : CR T len len L A o 0 nu fi (if o = 0 then nI len else -1, L, A, nI o, 0, nu, fi) := by
  intro n hn
  obtain ⟨m, rfl⟩ : ∃ m, n = m + 1 := ⟨n - 1, by omega⟩
  show f5_read_12b _ _ _ _ _ _ _ _ _ _ = _
  unfold f5_read_12b
  rw [if_pos (show nI len ≤ nI len from (nI_leI (by omega) (by omega)).mpr (Nat.le_refl _)), if_pos rfl]
  by_cases h : o = 0
  · rw [if_pos h, if_pos (show nI o = 0 by rw [h]; rfl)]
  · rw [if_neg h, if_neg (fun q => h ((nI_is 0 (b := (0 : Int32)) rfl (by omega) (by decide)).mp q))]
theorem CR_go {T : Nat → Int32} {len i : Nat} (hl : len ≤ 120) (hi : i < len) {L A : Nat → Int32} {o : Nat} {op nu fi : Int32} {L' A' : Nat → Int32} {o' : Nat} {op' nu' fi' : Int32} {res} (ht : f5_takes L A (nI o) op nu fi (T i) = some (1, L', A', nI o', op', nu', fi')) (h : CR T len (i + 1) L' A' o' op' nu' fi' res) : CR T len i L A o op nu fi res := by
  intro n hn
  obtain ⟨m, rfl⟩ : ∃ m, n = m + 1 := ⟨n - 1, by omega⟩
  show f5_read_12b _ _ _ _ _ _ _ _ _ _ = _
  unfold f5_read_12b
  rw [if_neg (show ¬ nI len ≤ nI i from fun q => by have := (nI_leI (by omega) (by omega)).mp q; omega)]
  dsimp only
  rw [inb_nI (show i < 120 by omega) (by decide), nI_clamp (show i < 2 ^ 31 by omega), ck_t, ht, Option.bind_some]
  dsimp only
  rw [if_neg one_ne]
  have e : nI i + (1 : Int32) = nI (i + 1) := nI_add ..
  rw [e]
  exact h m (by omega)
theorem CR_no {T : Nat → Int32} {len i : Nat} (hl : len ≤ 120) (hi : i < len) {L A : Nat → Int32} {o : Nat} {op nu fi : Int32} {r} (ht : f5_takes L A (nI o) op nu fi (T i) = some (0, r)) : CR T len i L A o op nu fi (nI i, r) := by
  intro n hn
  obtain ⟨m, rfl⟩ : ∃ m, n = m + 1 := ⟨n - 1, by omega⟩
  show f5_read_12b _ _ _ _ _ _ _ _ _ _ = _
  unfold f5_read_12b
  rw [if_neg (show ¬ nI len ≤ nI i from fun q => by have := (nI_leI (by omega) (by omega)).mp q; omega)]
  dsimp only
  rw [inb_nI (show i < 120 by omega) (by decide), nI_clamp (show i < 2 ^ 31 by omega), ck_t, ht, Option.bind_some]
  dsimp only
  rw [if_pos rfl]
def dg (c : Int32) : Prop := ¬ c < (48 : Int32) ∧ ¬ (57 : Int32) < c
theorem dg32 {c : Int32} (h : dg c) : c ≠ 32 := fun q => h.1 (by rw [q]; decide +kernel)
theorem dg59 {c : Int32} (h : dg c) : c ≠ 59 := fun q => h.2 (by rw [q]; decide +kernel)
theorem t_bl {L A : Nat → Int32} {O op nu fi c : Int32} (h : c = 32) : f5_takes L A O op nu fi c = some (1, L, A, O, op, nu, 0) := by
  unfold f5_takes
  rw [if_pos h]
theorem t_beg0 {L A : Nat → Int32} {O nu fi c : Int32} (h : c ≠ 32) (h0 : nof c = 0) : f5_takes L A O 0 nu fi c = some (0, L, A, O, 0, nu, fi) := by
  unfold f5_takes f5_begins
  rw [if_neg h, if_pos rfl, nof5, Option.bind_some, if_pos (by rw [h0]; rfl)]
  rfl
theorem t_beg1 {L A : Nat → Int32} {o : Nat} {nu fi c : Int32} (h : c ≠ 32) (h0 : nof c ≠ 0) (ho : o < 40) : f5_takes L A (nI o) 0 nu fi c = some (1, upd L o c, A, nI o, 1, 0, 0) := by
  unfold f5_takes f5_begins
  have := nof_le c
  rw [if_neg h, if_pos rfl, nof5, Option.bind_some, if_neg (fun q => h0 ((nI_is 0 (b := (0 : Int32)) rfl (by omega) (by decide)).mp q)), if_pos (show nI o < (40 : Int32) from (nI_ltI (by omega) (by decide)).mpr ho), inb_nI ho (by decide), nI_clamp (show o < 2 ^ 31 by omega)]
  rfl
theorem t_end1 {L A : Nat → Int32} {o q : Nat} {fi : Int32} (hq : nof (L o) = q) (ho : o < 40) : f5_takes L A (nI o) 1 (nI q) fi 59 = some (1, L, A, nI (o + 1), 0, nI q, fi) := by
  unfold f5_takes f5_ends
  rw [if_neg (by decide +kernel), if_neg one_ne, if_pos rfl, inb_nI ho (by decide), nI_clamp (show o < 2 ^ 31 by omega), ck_t, nof5, Option.bind_some, if_pos (by rw [hq])]
  have e : nI o + (1 : Int32) = nI (o + 1) := nI_add ..
  rw [e]
  rfl
theorem t_bad {L A : Nat → Int32} {o q : Nat} {fi c : Int32} (hc : c ≠ 32) (hd : ¬ dg c) (hq : q ≤ 4) (h : c = 59 → q ≠ nof (L o)) (ho : o < 40) : ∃ r, f5_takes L A (nI o) 1 (nI q) fi c = some (0, r) := by
  unfold f5_takes f5_ends
  rw [if_neg hc, if_neg one_ne]
  by_cases h9 : c = 59
  · have := nof_le (L o)
    rw [if_pos h9, inb_nI ho (by decide), nI_clamp (show o < 2 ^ 31 by omega), ck_t, nof5, Option.bind_some, if_neg (fun e => h h9 ((nI_eq (by omega) (by omega)).mp e))]
    exact ⟨_, rfl⟩
  · rw [if_neg h9]
    by_cases h1 : c < 48
    · rw [if_pos h1]; exact ⟨_, rfl⟩
    · rw [if_neg h1]
      by_cases h2 : 57 < c
      · rw [if_pos h2]; exact ⟨_, rfl⟩
      · exact absurd ⟨h1, h2⟩ hd
theorem t_at {o q : Nat} : nI o * (4 : Int32) + nI q = nI (4 * o + q) := by
  rw [show nI o * (4 : Int32) = nI (4 * o) from by rw [nI4, pk_mul, Nat.mul_comm], nI_add]
theorem t_fig0 {L A : Nat → Int32} {o q : Nat} {c : Int32} (hd : dg c) (hq : q < nof (L o)) (ho : o < 40) : f5_takes L A (nI o) 1 (nI q) 0 c = some (1, L, upd A (4 * o + q) (c - 48), nI o, 1, nI (q + 1), 1) := by
  have := nof_le (L o)
  have e : nI q + (1 : Int32) = nI (q + 1) := nI_add ..
  unfold f5_takes f5_takesFigure
  rw [if_neg (dg32 hd), if_neg one_ne, if_neg (dg59 hd), if_neg hd.1, if_neg hd.2, if_neg (by decide +kernel), if_neg (by decide +kernel), inb_nI ho (by decide), nI_clamp (show o < 2 ^ 31 by omega), ck_t, nof5, Option.bind_some, if_neg (fun e => by have := (nI_eq (by omega) (by omega)).mp e; omega), t_at, inb_nI (show 4 * o + q < 160 by omega) (by decide), nI_clamp (show 4 * o + q < 2 ^ 31 by omega), e, ck_t, Option.bind_some]
  dsimp only
  rw [if_neg one_ne]
theorem t_fig1 {L A : Nat → Int32} {o q : Nat} {c : Int32} (hd : dg c) (hq : q < 4) (ho : o < 40) : f5_takes L A (nI o) 1 (nI (q + 1)) 1 c = some (1, L, upd A (4 * o + q) (10 * A (4 * o + q) + (c - 48)), nI o, 1, nI (q + 1), 2) := by
  have e : nI o * (4 : Int32) + nI (q + 1) - (1 : Int32) = nI (4 * o + q) := by
    rw [t_at, ← Nat.add_assoc]
    exact nI_pred _
  unfold f5_takes f5_takesFigure
  rw [if_neg (dg32 hd), if_neg one_ne, if_neg (dg59 hd), if_neg hd.1, if_neg hd.2, if_pos rfl, e, inb_nI (show 4 * o + q < 160 by omega) (by decide), nI_clamp (show 4 * o + q < 2 ^ 31 by omega), ck_t, ck_t, Option.bind_some]
  dsimp only
  rw [if_neg one_ne]
theorem t_fig2 {L A : Nat → Int32} {o : Nat} {nu c : Int32} (hd : dg c) : ∃ r, f5_takes L A (nI o) 1 nu 2 c = some (0, r) := by
  unfold f5_takes f5_takesFigure
  rw [if_neg (dg32 hd), if_neg one_ne, if_neg (dg59 hd), if_neg hd.1, if_neg hd.2, if_neg (by decide +kernel), if_pos rfl, Option.bind_some]
  exact ⟨_, rfl⟩
theorem t_figF {L A : Nat → Int32} {o q : Nat} {c : Int32} (hd : dg c) (hq : q = nof (L o)) (ho : o < 40) : ∃ r, f5_takes L A (nI o) 1 (nI q) 0 c = some (0, r) := by
  unfold f5_takes f5_takesFigure
  rw [if_neg (dg32 hd), if_neg one_ne, if_neg (dg59 hd), if_neg hd.1, if_neg hd.2, if_neg (by decide +kernel), if_neg (by decide +kernel), inb_nI ho (by decide), nI_clamp (show o < 2 ^ 31 by omega), ck_t, nof5, Option.bind_some, if_pos (by rw [hq]), Option.bind_some]
  exact ⟨_, rfl⟩
/-! the model's side -/
theorem at7 {T : Nat → Int32} {len i : Nat} (hl : len ≤ 120) (hi : i ≤ len) (lo up : Int32) : f7_isAt T (nI len) (nI i) lo up = some (b01 (decide (i < len) && (decide (¬ T i < lo) && decide (¬ up < T i)))) := by
  unfold f7_isAt f7_within
  by_cases h : i < len
  · rw [if_neg (show ¬ nI len ≤ nI i from fun q => by have := (nI_leI (by omega) (by omega)).mp q; omega), inb_nI (show i < 120 by omega) (by decide), nI_clamp (show i < 2 ^ 31 by omega), ck_t, decide_eq_true h]
    by_cases h1 : T i < lo
    · rw [if_pos h1, Option.bind_some, if_pos rfl, decide_eq_false (p := ¬ T i < lo) (fun q => q h1)]; rfl
    · rw [if_neg h1, decide_eq_true (p := ¬ T i < lo) h1]
      by_cases h2 : up < T i
      · rw [if_pos h2, Option.bind_some, if_pos rfl, decide_eq_false (p := ¬ up < T i) (fun q => q h2)]; rfl
      · rw [if_neg h2, Option.bind_some, if_neg one_ne, decide_eq_true (p := ¬ up < T i) h2]; rfl
  · rw [if_pos (show nI len ≤ nI i from (nI_leI (by omega) (by omega)).mpr (by omega)), decide_eq_false h]; rfl
theorem at_end {T : Nat → Int32} {len : Nat} (hl : len ≤ 120) (lo up : Int32) : f7_isAt T (nI len) (nI len) lo up = some 0 := by
  rw [at7 hl (Nat.le_refl _), decide_eq_false (Nat.lt_irrefl _)]; rfl
theorem at_one {T : Nat → Int32} {len i : Nat} (hl : len ≤ 120) (hi : i < len) {c : Int32} (h : T i = c) : f7_isAt T (nI len) (nI i) c c = some 1 := by
  have z : ¬ c < c := by rw [i_lt]; omega
  rw [at7 hl (by omega), decide_eq_true hi, h, decide_eq_true (p := ¬ c < c) z]; rfl
theorem at_oth {T : Nat → Int32} {len i : Nat} (hl : len ≤ 120) (hi : i < len) {c : Int32} (h : T i ≠ c) : f7_isAt T (nI len) (nI i) c c = some 0 := by
  rw [at7 hl (by omega), decide_eq_true hi]
  have hh : ¬ (T i).toInt = c.toInt := fun q => h (i_eq.mpr q)
  by_cases h1 : T i < c
  · rw [decide_eq_false (p := ¬ T i < c) (fun q => q h1)]; rfl
  · rw [decide_eq_true (p := ¬ T i < c) h1, decide_eq_false (p := ¬ c < T i) (fun q => q (by rw [i_lt] at h1 ⊢; omega))]; rfl
theorem at_dg {T : Nat → Int32} {len i : Nat} (hl : len ≤ 120) (hi : i < len) (h : dg (T i)) : f7_isAt T (nI len) (nI i) 48 57 = some 1 := by
  rw [at7 hl (by omega), decide_eq_true hi, decide_eq_true (p := ¬ T i < 48) h.1, decide_eq_true (p := ¬ 57 < T i) h.2]; rfl
theorem at_nd {T : Nat → Int32} {len i : Nat} (hl : len ≤ 120) (hi : i < len) (h : ¬ dg (T i)) : f7_isAt T (nI len) (nI i) 48 57 = some 0 := by
  rw [at7 hl (by omega), decide_eq_true hi]
  by_cases h1 : T i < 48
  · rw [decide_eq_false (p := ¬ T i < 48) (fun q => q h1)]; rfl
  · rw [decide_eq_true (p := ¬ T i < 48) h1, decide_eq_false (p := ¬ 57 < T i) (fun q => h ⟨h1, q⟩)]; rfl
theorem bl_ex {T : Nat → Int32} {len : Nat} (hl : len ≤ 120) : ∀ (d i : Nat), i + d = len → ∃ j, i ≤ j ∧ j ≤ len ∧ (j < len → T j ≠ 32) ∧ (∀ n, d < n → f7_blanks_0 T (nI len) n (nI i) = some (nI j)) ∧ (∀ (L A : Nat → Int32) (o : Nat) (op nu fi : Int32), ∃ fi', (fi' = fi ∧ i = j ∨ fi' = 0) ∧ ∀ res, CR T len j L A o op nu fi' res → CR T len i L A o op nu fi res) := by
  intro d
  induction d with
  | zero =>
    intro i hd
    refine ⟨i, Nat.le_refl _, by omega, fun h => by omega, ?_, fun L A o op nu fi => ⟨fi, Or.inl ⟨rfl, rfl⟩, fun _ h => h⟩⟩
    intro n hn
    obtain ⟨m, rfl⟩ : ∃ m, n = m + 1 := ⟨n - 1, by omega⟩
    show f7_blanks_0b _ _ _ _ = _
    unfold f7_blanks_0b
    have e : i = len := by omega
    rw [e, at_end hl, Option.bind_some, if_pos rfl]
  | succ d ih =>
    intro i hd
    by_cases h : T i = 32
    · obtain ⟨j, h1, h2, h3, h4, h5⟩ := ih (i + 1) (by omega)
      refine ⟨j, by omega, h2, h3, ?_, ?_⟩
      · intro n hn
        obtain ⟨m, rfl⟩ : ∃ m, n = m + 1 := ⟨n - 1, by omega⟩
        show f7_blanks_0b _ _ _ _ = _
        unfold f7_blanks_0b
        have e : nI i + (1 : Int32) = nI (i + 1) := nI_add ..
        rw [at_one hl (by omega) h, Option.bind_some, if_neg one_ne, e]
        exact h4 m (by omega)
      · intro L A o op nu fi
        obtain ⟨fi', hf, hr⟩ := h5 L A o op nu 0
        refine ⟨fi', Or.inr ?_, fun res hres => CR_go hl (by omega) (t_bl h) (hr res hres)⟩
        rcases hf with ⟨q, _⟩ | q <;> exact q
    · refine ⟨i, Nat.le_refl _, by omega, fun _ => h, ?_, fun L A o op nu fi => ⟨fi, Or.inl ⟨rfl, rfl⟩, fun _ h => h⟩⟩
      intro n hn
      obtain ⟨m, rfl⟩ : ∃ m, n = m + 1 := ⟨n - 1, by omega⟩
      show f7_blanks_0b _ _ _ _ = _
      unfold f7_blanks_0b
      rw [at_oth hl (by omega) h, Option.bind_some, if_pos rfl]
theorem blk {T : Nat → Int32} {len i : Nat} (hl : len ≤ 120) (hi : i ≤ len) : ∃ j, i ≤ j ∧ j ≤ len ∧ (j < len → T j ≠ 32) ∧ f7_blanks T (nI len) (nI i) = some (nI j) ∧ (∀ (L A : Nat → Int32) (o : Nat) (op nu fi : Int32), ∃ fi', (fi' = fi ∧ i = j ∨ fi' = 0) ∧ ∀ res, CR T len j L A o op nu fi' res → CR T len i L A o op nu fi res) := by
  obtain ⟨j, h1, h2, h3, h4, h5⟩ := bl_ex (T := T) hl (len - i) i (by omega)
  exact ⟨j, h1, h2, h3, h4 1000 (by omega), h5⟩
theorem num_lp0 (T : Nat → Int32) (len : Nat) {n : Nat} (a x f : Int32) : f7_number_28 T (nI len) (n + 1) (a, 1, x, f) = some (x, a, 1) := by
  unfold f7_number_28
  rw [itf]
  unfold f7_number_28b
  rw [if_neg one_ne]
theorem num_end {T : Nat → Int32} {len n i : Nat} (hl : len ≤ 120) (hi : i ≤ len) (h : i < len → ¬ dg (T i)) (x f : Int32) : f7_number_28 T (nI len) (n + 1) (nI i, 0, x, f) = some (x, nI i, 0) := by
  unfold f7_number_28
  rw [itf]
  unfold f7_number_28b
  rw [if_pos rfl]
  have e : f7_isAt T (nI len) (nI i) 48 57 = some 0 := by
    by_cases h1 : i < len
    · exact at_nd hl h1 (h h1)
    · have e2 : i = len := by omega
      rw [e2]; exact at_end hl _ _
  dsimp only
  rw [e, Option.bind_some, if_pos rfl]
theorem num_go {T : Nat → Int32} {len n i f : Nat} (hl : len ≤ 120) (hi : i < len) (h : dg (T i)) (x : Int32) (hf : f < 2) : f7_number_28 T (nI len) (n + 1) (nI i, 0, x, nI f) = f7_number_28 T (nI len) n (nI (i + 1), 0, 10 * x + T i - 48, nI (f + 1)) := by
  unfold f7_number_28
  rw [itf]
  have e : nI f + (1 : Int32) = nI (f + 1) := nI_add ..
  have e2 : nI i + (1 : Int32) = nI (i + 1) := nI_add ..
  unfold f7_number_28b
  rw [if_pos rfl]
  dsimp only
  rw [at_dg hl hi h, Option.bind_some, if_neg one_ne, e, if_pos (show nI (f + 1) ≤ (2 : Int32) from (nI_leI (b := 2) (by omega) (by decide)).mpr (by omega))]
  unfold f7_number_60
  rw [show isb 0 = true from by decide +kernel, ck_t, if_pos rfl, inb_nI (show i < 120 by omega) (by decide), nI_clamp (show i < 2 ^ 31 by omega), ck_t]
  unfold f7_number_91
  rw [if_pos rfl, e2]
theorem num_no {T : Nat → Int32} {len n i : Nat} (hl : len ≤ 120) (hi : i < len) (h : dg (T i)) (x : Int32) : f7_number_28 T (nI len) (n + 2) (nI i, 0, x, nI 2) = some (x, nI i, 1) := by
  unfold f7_number_28
  rw [itf]
  unfold f7_number_28b
  rw [if_pos rfl]
  dsimp only
  rw [at_dg hl hi h, Option.bind_some, if_neg one_ne, if_neg (by decide +kernel)]
  unfold f7_number_60
  rw [show isb 1 = true from by decide +kernel, ck_t, if_neg one_ne]
  unfold f7_number_91
  rw [if_neg one_ne, show nI i + (0 : Int32) = nI i from nI_add (a := i) (b := 0)]
  exact num_lp0 ..
theorem i_assoc (x c : Int32) : 10 * x + c - 48 = 10 * x + (c - 48) := by
  rw [Int32.sub_eq_add_neg, Int32.sub_eq_add_neg, Int32.add_assoc]
theorem i_zero (c : Int32) : 10 * (0 : Int32) + c - 48 = c - 48 := by
  rw [show (10 : Int32) * 0 = 0 from by decide +kernel, Int32.zero_add]
theorem upd_at {A : Nat → Int32} {i : Nat} {v : Int32} : upd A i v i = v := if_pos rfl
theorem upd_upd {A : Nat → Int32} {i : Nat} {v w : Int32} : upd (upd A i v) i w = upd A i w := by
  funext j
  unfold upd
  split <;> rfl
theorem upd_ne {A : Nat → Int32} {i j : Nat} {v : Int32} (h : j ≠ i) : upd A i v j = A j := if_neg h
/-- one number -/
theorem number7 {T : Nat → Int32} {len i : Nat} (hl : len ≤ 120) (hi : i ≤ len) (fa : Int32) : ∃ (v : Int32) (j : Nat) (flt : Bool), f7_number T (nI len) (nI i) fa = some (v, nI j, b01 flt) ∧ i ≤ j ∧ j ≤ len ∧ (flt = false → i < j ∧ (j < len → ¬ dg (T j))) ∧ ∀ (L A : Nat → Int32) (o q : Nat) (fi : Int32), o < 40 → q < nof (L o) → (fi = 0 ∨ (i < len → ¬ dg (T i))) → (flt = true → ∃ r, CR T len i L A o 1 (nI q) fi (nI j, r)) ∧ (flt = false → ∃ fi', ∀ res, CR T len j L (upd A (4 * o + q) v) o 1 (nI (q + 1)) fi' res → CR T len i L A o 1 (nI q) fi res) := by
  obtain ⟨j, h1, h2, h3, h4, h5⟩ := blk (T := T) hl hi
  unfold f7_number
  rw [h4, Option.bind_some]
  by_cases hj : j < len ∧ dg (T j)
  · obtain ⟨hjl, hd⟩ := hj
    rw [at_dg hl hjl hd, Option.bind_some, if_neg one_ne]
    have e1 : f7_number_28 T (nI len) 1000 (nI j, 0, 0, 0) = f7_number_28 T (nI len) 999 (nI (j + 1), 0, T j - 48, nI 1) := by
      have := num_go (n := 999) (f := 0) hl hjl hd 0 (by decide)
      rw [i_zero] at this
      exact this
    rw [e1]
    -- what the component does with the first figure
    have c1 : ∀ (L A : Nat → Int32) (o q : Nat) (fi : Int32), o < 40 → q < nof (L o) → (fi = 0 ∨ (i < len → ¬ dg (T i))) → ∀ res, CR T len (j + 1) L (upd A (4 * o + q) (T j - 48)) o 1 (nI (q + 1)) 1 res → CR T len i L A o 1 (nI q) fi res := by
      intro L A o q fi ho hq hfi res hres
      obtain ⟨fi', hf, hr⟩ := h5 L A o 1 (nI q) fi
      have hf0 : fi' = 0 := by
        rcases hf with ⟨q1, q2⟩ | q1
        · rcases hfi with q3 | q3
          · rw [q1, q3]
          · rw [q2] at q3; exact absurd hd (q3 hjl)
        · exact q1
      rw [hf0] at hr
      exact hr res (CR_go hl hjl (t_fig0 hd hq ho) hres)
    by_cases hj1 : j + 1 < len ∧ dg (T (j + 1))
    · obtain ⟨hjl1, hd1⟩ := hj1
      have e2 : f7_number_28 T (nI len) 999 (nI (j + 1), 0, T j - 48, nI 1) = f7_number_28 T (nI len) 998 (nI (j + 2), 0, 10 * (T j - 48) + (T (j + 1) - 48), nI 2) := by
        have := num_go (n := 998) (f := 1) hl hjl1 hd1 (T j - 48) (by decide)
        rw [i_assoc] at this
        exact this
      rw [e2]
      have c2 : ∀ (L A : Nat → Int32) (o q : Nat) (fi : Int32), o < 40 → q < nof (L o) → (fi = 0 ∨ (i < len → ¬ dg (T i))) → ∀ res, CR T len (j + 2) L (upd A (4 * o + q) (10 * (T j - 48) + (T (j + 1) - 48))) o 1 (nI (q + 1)) 2 res → CR T len i L A o 1 (nI q) fi res := by
        intro L A o q fi ho hq hfi res hres
        have := nof_le (L o)
        refine c1 L A o q fi ho hq hfi res (CR_go hl hjl1 (t_fig1 hd1 (by omega) ho) ?_)
        rw [upd_at, upd_upd]
        exact hres
      by_cases hj2 : j + 2 < len ∧ dg (T (j + 2))
      · refine ⟨_, j + 2, true, num_no (n := 996) hl hj2.1 hj2.2 _, by omega, by omega, fun h => (by cases h), ?_⟩
        intro L A o q fi ho hq hfi
        refine ⟨fun _ => ?_, fun h => (by cases h)⟩
        obtain ⟨r, hr⟩ := t_fig2 (L := L) (A := upd A (4 * o + q) (10 * (T j - 48) + (T (j + 1) - 48))) (o := o) (nu := nI (q + 1)) hj2.2
        exact ⟨r, c2 L A o q fi ho hq hfi _ (CR_no hl hj2.1 hr)⟩
      · refine ⟨_, j + 2, false, num_end (n := 997) hl (by omega) (fun h1 h2 => hj2 ⟨h1, h2⟩) _ _, by omega, by omega, fun _ => ⟨by omega, fun h1 h2 => hj2 ⟨h1, h2⟩⟩, ?_⟩
        intro L A o q fi ho hq hfi
        exact ⟨fun h => (by cases h), fun _ => ⟨2, c2 L A o q fi ho hq hfi⟩⟩
    · refine ⟨_, j + 1, false, num_end (n := 998) hl (by omega) (fun h1 h2 => hj1 ⟨h1, h2⟩) _ _, by omega, by omega, fun _ => ⟨by omega, fun h1 h2 => hj1 ⟨h1, h2⟩⟩, ?_⟩
      intro L A o q fi ho hq hfi
      exact ⟨fun h => (by cases h), fun _ => ⟨1, c1 L A o q fi ho hq hfi⟩⟩
  · have e : f7_isAt T (nI len) (nI j) 48 57 = some 0 := by
      by_cases h1 : j < len
      · exact at_nd hl h1 (fun q => hj ⟨h1, q⟩)
      · have e2 : j = len := by omega
        rw [e2]; exact at_end hl _ _
    rw [e, Option.bind_some, if_pos rfl]
    refine ⟨0, j, true, num_lp0 (n := 999) T len _ _ _, h1, h2, fun h => (by cases h), ?_⟩
    intro L A o q fi ho hq hfi
    refine ⟨fun _ => ?_, fun h => (by cases h)⟩
    obtain ⟨fi', hf, hr⟩ := h5 L A o 1 (nI q) fi
    have := nof_le (L o)
    by_cases hjl : j < len
    · obtain ⟨r, ht⟩ := t_bad (L := L) (A := A) (o := o) (q := q) (fi := fi') (h3 hjl) (fun q => hj ⟨hjl, q⟩) (by omega) (fun _ => by omega) ho
      exact ⟨r, hr _ (CR_no hl hjl ht)⟩
    · have e2 : j = len := by omega
      rw [e2] at hr ⊢
      exact ⟨_, hr _ (CR_e1 hl)⟩
/-- the numbers of an order, and its end -/
theorem order7 {T : Nat → Int32} {len : Nat} (hl : len ≤ 120) {o : Nat} (ho : o < 40) {c : Int32} {LT : Nat → Int32} : ∀ (d i q n : Nat) (NU : Nat → Int32), i ≤ len → q + d = nof c → d < n → ∃ (j : Nat) (flt : Bool) (NU' : Nat → Int32), f7_readsOrder_51 T (nI len) n (nI i, 0, nI o, LT, NU, c, nI (nof c), nI q) = some (nI j, b01 flt, (bif flt then nI o else nI (o + 1)), (bif flt then LT else upd LT o c), NU') ∧ i ≤ j ∧ j ≤ len ∧ (flt = false → i + d + 1 ≤ j) ∧ (∀ k, k < 4 * o + q → NU' k = NU k) ∧ ∀ (L A : Nat → Int32) (fi : Int32), L o = c → (fi = 0 ∨ (i < len → ¬ dg (T i))) → (flt = true → ∃ r, CR T len i L A o 1 (nI q) fi (nI j, r)) ∧ (flt = false → ∃ fi' nu' A', (∀ k, k < 4 * o + q → A' k = A k) ∧ (∀ k, q ≤ k → k < nof c → A' (4 * o + k) = NU' (4 * o + k)) ∧ ∀ res, CR T len j L A' (o + 1) 0 nu' fi' res → CR T len i L A o 1 (nI q) fi res) := by
  intro d
  have hc4 := nof_le c
  induction d with
  | zero =>
    intro i q n NU hi hq hn
    have hq' : q = nof c := by omega
    obtain ⟨m, rfl⟩ : ∃ m, n = m + 1 := ⟨n - 1, by omega⟩
    obtain ⟨j, h1, h2, h3, h4, h5⟩ := blk (T := T) hl hi
    show ∃ (j : Nat) (flt : Bool) (NU' : Nat → Int32), f7_readsOrder_51b T (nI len) _ (nI i) 0 (nI o) LT NU c (nI (nof c)) (nI q) = _ ∧ _
    unfold f7_readsOrder_51b
    rw [if_pos (show nI (nof c) ≤ nI q from (nI_leI (by omega) (by omega)).mpr (by omega)), if_pos (show (0 : Int32) = 0 from rfl), h4, Option.bind_some]
    by_cases h59 : j < len ∧ T j = 59
    · obtain ⟨hjl, h9⟩ := h59
      rw [at_one hl hjl h9, Option.bind_some, if_neg one_ne]
      refine ⟨j + 1, false, NU, ?_, by omega, by omega, fun _ => by omega, fun _ _ => rfl, ?_⟩
      · unfold f7_readsOrder_114
        rw [show isb 0 = true from by decide +kernel, ck_t, if_pos rfl]
        unfold f7_readsOrder_134
        have e : nI j + (1 : Int32) = nI (j + 1) := nI_add ..
        have e2 : nI o + (1 : Int32) = nI (o + 1) := nI_add ..
        rw [if_pos rfl, inb_nI (show o < 41 by omega) (by decide), nI_clamp (show o < 2 ^ 31 by omega), ck_t, e, e2]
        rfl
      · intro L A fi hL hfi
        refine ⟨fun h => (by cases h), fun _ => ?_⟩
        obtain ⟨fi', hf, hr⟩ := h5 L A o 1 (nI q) fi
        refine ⟨fi', nI q, A, fun _ _ => rfl, fun k hk1 hk2 => by omega, fun res hres => hr res (CR_go hl hjl ?_ hres)⟩
        rw [h9]
        exact t_end1 (by rw [hL]; omega) ho
    · have e : f7_isAt T (nI len) (nI j) 59 59 = some 0 := by
        by_cases h1 : j < len
        · exact at_oth hl h1 (fun q => h59 ⟨h1, q⟩)
        · have e2 : j = len := by omega
          rw [e2]; exact at_end hl _ _
      rw [e, Option.bind_some, if_pos rfl]
      refine ⟨j, true, NU, ?_, by omega, by omega, fun h => (by cases h), fun _ _ => rfl, ?_⟩
      · unfold f7_readsOrder_114
        rw [show isb 1 = true from by decide +kernel, ck_t, if_neg one_ne]
        unfold f7_readsOrder_134
        have e : nI j + (0 : Int32) = nI j := nI_add j 0
        rw [if_neg one_ne, e]
        rfl
      · intro L A fi hL hfi
        refine ⟨fun _ => ?_, fun h => (by cases h)⟩
        obtain ⟨fi', hf, hr⟩ := h5 L A o 1 (nI q) fi
        by_cases hjl : j < len
        · by_cases hd : dg (T j)
          · have hf0 : fi' = 0 := by
              rcases hf with ⟨q1, q2⟩ | q1
              · rcases hfi with q3 | q3
                · rw [q1, q3]
                · rw [q2] at q3; exact absurd hd (q3 hjl)
              · exact q1
            rw [hf0] at hr
            obtain ⟨r, ht⟩ := t_figF (L := L) (A := A) (o := o) (q := q) hd (by rw [hL]; exact hq') ho
            exact ⟨r, hr _ (CR_no hl hjl ht)⟩
          · obtain ⟨r, ht⟩ := t_bad (L := L) (A := A) (o := o) (q := q) (fi := fi') (h3 hjl) hd (by omega) (fun h => absurd ⟨hjl, h⟩ h59) ho
            exact ⟨r, hr _ (CR_no hl hjl ht)⟩
        · have e2 : j = len := by omega
          rw [e2] at hr ⊢
          exact ⟨_, hr _ (CR_e1 hl)⟩
  | succ d ih =>
    intro i q n NU hi hq hn
    obtain ⟨m, rfl⟩ : ∃ m, n = m + 1 := ⟨n - 1, by omega⟩
    obtain ⟨v, j, flt, h1, h2, h3, h4, h5⟩ := number7 (T := T) hl hi 0
    show ∃ (j : Nat) (flt : Bool) (NU' : Nat → Int32), f7_readsOrder_51b T (nI len) _ (nI i) 0 (nI o) LT NU c (nI (nof c)) (nI q) = _ ∧ _
    have e2 : nI q + (1 : Int32) = nI (q + 1) := nI_add ..
    have e3 : (4 : Int32) * nI o + nI q = nI (4 * o + q) := by rw [show (4 : Int32) * nI o = nI (4 * o) from pk_mul 4 o, nI_add]
    unfold f7_readsOrder_51b
    rw [if_neg (show ¬ nI (nof c) ≤ nI q from fun h => by have := (nI_leI (by omega) (by omega)).mp h; omega), if_pos (show (0 : Int32) = 0 from rfl), h1, Option.bind_some, e3, inb_nI (show 4 * o + q < 164 by omega) (by decide), nI_clamp (show 4 * o + q < 2 ^ 31 by omega), ck_t, e2]
    cases flt with
    | true =>
      refine ⟨j, true, upd NU (4 * o + q) v, ?_, h2, h3, fun h => (by cases h), fun k hk => upd_ne (by omega), ?_⟩
      · obtain ⟨m', rfl⟩ : ∃ m', m = m' + 1 := ⟨m - 1, by omega⟩
        show f7_readsOrder_51b T (nI len) _ (nI j) 1 (nI o) LT _ c (nI (nof c)) (nI (q + 1)) = _
        unfold f7_readsOrder_51b
        by_cases hh : nI (nof c) ≤ nI (q + 1)
        · rw [if_pos hh, if_neg one_ne, if_neg one_ne]
          rfl
        · rw [if_neg hh, if_neg one_ne, if_neg one_ne, if_neg one_ne]
          rfl
      · intro L A fi hL hfi
        exact ⟨fun _ => (h5 L A o q fi ho (by rw [hL]; omega) hfi).1 rfl, fun h => (by cases h)⟩
    | false =>
      obtain ⟨h4a, h4b⟩ := h4 rfl
      obtain ⟨j2, flt2, NU2, g1, g2, g3, g4, g5, g6⟩ := ih j (q + 1) m (upd NU (4 * o + q) v) h3 (by omega) (by omega)
      refine ⟨j2, flt2, NU2, g1, by omega, g3, fun h => by have := g4 h; omega, fun k hk => by rw [g5 k (by omega), upd_ne (by omega)], ?_⟩
      intro L A fi hL hfi
      obtain ⟨_, h5b⟩ := h5 L A o q fi ho (by rw [hL]; omega) hfi
      obtain ⟨fi', hr⟩ := h5b rfl
      obtain ⟨g6a, g6b⟩ := g6 L (upd A (4 * o + q) v) fi' hL (Or.inr h4b)
      refine ⟨fun h => ?_, fun h => ?_⟩
      · obtain ⟨r, hr2⟩ := g6a h
        exact ⟨r, hr _ hr2⟩
      · obtain ⟨fi2, nu2, A2, k1, k2, k3⟩ := g6b h
        refine ⟨fi2, nu2, A2, fun k hk => by rw [k1 k (by omega), upd_ne (by omega)], fun k hk1 hk2 => ?_, fun res hres => hr _ (k3 res hres)⟩
        by_cases hk : k = q
        · rw [hk, k1 _ (by omega), g5 _ (by omega), upd_at, upd_at]
        · exact k2 k (by omega) hk2
/-- agreement of the orders read -/
def OA (L A LT NU : Nat → Int32) (o : Nat) : Prop := ∀ k, k < o → L k = LT k ∧ nof (LT k) ≠ 0 ∧ ∀ q, q < nof (LT k) → A (4 * k + q) = NU (4 * k + q)
theorem ro_end (T : Nat → Int32) (len n : Nat) (i O c a b : Int32) (LT NU : Nat → Int32) : f7_readsOrder_51 T (nI len) (n + 1) (i, 1, O, LT, NU, c, a, b) = some (i, 1, O, LT, NU) := by
  unfold f7_readsOrder_51
  rw [itf]
  unfold f7_readsOrder_51b
  dsimp only
  by_cases h : a ≤ b
  · rw [if_pos h, if_neg one_ne, if_neg one_ne]
  · rw [if_neg h, if_neg one_ne, if_neg one_ne, if_neg one_ne]
theorem rd_end (T : Nat → Int32) (len n : Nat) (i O : Int32) (LT NU : Nat → Int32) : f7_isRead_34 T (nI len) (n + 1) (i, 1, O, LT, NU) = some (b01 false, i, b01 (!false), O, LT, NU) := by
  unfold f7_isRead_34
  rw [itf]
  unfold f7_isRead_34b
  dsimp only
  rw [if_neg one_ne, if_neg one_ne]
  rfl
theorem read_lp {T : Nat → Int32} {len : Nat} (hl : len ≤ 120) : ∀ (d i o n : Nat) (LT NU L A : Nat → Int32) (nu fi : Int32), len - i ≤ d → i ≤ len → 3 * o ≤ i → d < n → (i = len → o ≠ 0) → (i < len → T i ≠ 32) → OA L A LT NU o → ∃ (ok : Bool) (j o' : Nat) (LT' NU' : Nat → Int32), f7_isRead_34 T (nI len) n (nI i, 0, nI o, LT, NU) = some (b01 ok, nI j, b01 (!ok), nI o', LT', NU') ∧ j ≤ len ∧ o' ≤ 40 ∧ ∃ (r : Int32) (L' A' : Nat → Int32) (w : Int32 × Int32 × Int32 × Int32), CR T len i L A o 0 nu fi (r, L', A', w) ∧ (ok = false → r = nI j) ∧ (ok = true → r = -1 ∧ w.1 = nI o' ∧ OA L' A' LT' NU' o') := by
  have hlen : ∀ (n o : Nat) (LT NU : Nat → Int32), f7_isRead_34 T (nI len) (n + 1) (nI len, 0, nI o, LT, NU) = some (b01 true, nI len, b01 (!true), nI o, LT, NU) := by
    intro n o LT NU
    show f7_isRead_34b _ _ _ (nI len) 0 (nI o) LT NU = _
    unfold f7_isRead_34b
    rw [if_pos (show (0 : Int32) = 0 from rfl), if_pos ((nI_leI (by omega) (by omega)).mpr (Nat.le_refl _)), if_pos (show (0 : Int32) = 0 from rfl)]
    rfl
  intro d
  induction d with
  | zero =>
    intro i o n LT NU L A nu fi hd hi ho hn h0 h32 hOA
    have e : i = len := by omega
    subst e
    obtain ⟨m, rfl⟩ : ∃ m, n = m + 1 := ⟨n - 1, by omega⟩
    refine ⟨true, i, o, LT, NU, hlen m o LT NU, Nat.le_refl _, by omega, _, L, A, _, CR_e0 hl (by omega), fun h => (by cases h), fun _ => ⟨if_neg (h0 rfl), rfl, hOA⟩⟩
  | succ d ih =>
    intro i o n LT NU L A nu fi hd hi ho hn h0 h32 hOA
    obtain ⟨m, rfl⟩ : ∃ m, n = m + 1 := ⟨n - 1, by omega⟩
    by_cases hil : i < len
    · have ho' : o < 40 := by omega
      have h32' := h32 hil
      have hb : ∀ (k : Int32 × Int32 × Int32 × (Nat → Int32) × (Nat → Int32) → Option (Int32 × Int32 × Int32 × Int32 × (Nat → Int32) × (Nat → Int32))), f7_isRead_34b T (nI len) k (nI i) 0 (nI o) LT NU = (f7_readsOrder T (nI len) (nI i) 0 (nI o) LT NU).bind (fun q5 => if q5.2.1 = 0 then ((f7_blanks T (nI len) q5.1).bind <| fun q7 => k (q7, q5.2.1, q5.2.2.1, q5.2.2.2.1, q5.2.2.2.2)) else (k (q5.1, q5.2.1, q5.2.2.1, q5.2.2.2.1, q5.2.2.2.2))) := by
        intro k
        unfold f7_isRead_34b
        rw [if_pos (show (0 : Int32) = 0 from rfl), if_neg (show ¬ nI len ≤ nI i from fun h => by have := (nI_leI (by omega) (by omega)).mp h; omega)]
      have hro : f7_readsOrder T (nI len) (nI i) 0 (nI o) LT NU = (if nof (T i) = 0 then f7_readsOrder_25 T (nI len) (nI i) 0 (nI o) LT NU (T i) (nI (nof (T i))) 1 else f7_readsOrder_25 T (nI len) (nI i) 0 (nI o) LT NU (T i) (nI (nof (T i))) 0) := by
        have := nof_le (T i)
        unfold f7_readsOrder
        rw [inb_nI (show i < 120 by omega) (by decide), nI_clamp (show i < 2 ^ 31 by omega), ck_t, nof7, Option.bind_some]
        by_cases hz : nof (T i) = 0
        · rw [if_pos hz, if_pos (show nI (nof (T i)) = 0 by rw [hz]; rfl)]
        · rw [if_neg hz, if_neg (fun q => hz ((nI_is 0 (b := (0 : Int32)) rfl (by omega) (by decide)).mp q))]
      by_cases hz : nof (T i) = 0
      · obtain ⟨m', rfl⟩ : ∃ m', m = m' + 1 := ⟨m - 1, by omega⟩
        refine ⟨false, i, o, LT, NU, ?_, by omega, by omega, nI i, L, A, _, CR_no hl hil (t_beg0 h32' hz), fun _ => rfl, fun h => (by cases h)⟩
        show f7_isRead_34b T (nI len) _ (nI i) 0 (nI o) LT NU = _
        have e5 : f7_readsOrder_25 T (nI len) (nI i) 0 (nI o) LT NU (T i) (nI (nof (T i))) 1 = some (nI i, 1, nI o, LT, NU) := by
          unfold f7_readsOrder_25
          rw [show isb 1 = true from by decide +kernel, ck_t, if_neg one_ne]
          unfold f7_readsOrder_45
          rw [show nI i + (0 : Int32) = nI i from nI_add i 0, hz]
          exact ro_end T len 999 ..
        rw [hb, hro, if_pos hz, e5, Option.bind_some]
        dsimp only
        rw [if_neg one_ne]
        exact rd_end ..
      · have e5 : f7_readsOrder_25 T (nI len) (nI i) 0 (nI o) LT NU (T i) (nI (nof (T i))) 0 = f7_readsOrder_51 T (nI len) 1000 (nI (i + 1), 0, nI o, LT, NU, T i, nI (nof (T i)), nI 0) := by
          unfold f7_readsOrder_25
          rw [show isb 0 = true from by decide +kernel, ck_t, if_pos rfl]
          unfold f7_readsOrder_45
          rw [show nI i + (1 : Int32) = nI (i + 1) from nI_add i 1]
          rfl
        obtain ⟨j, flt, NU', g1, g2, g3, g4, g5, g6⟩ := order7 (T := T) hl ho' (c := T i) (LT := LT) (nof (T i)) (i + 1) 0 1000 NU (by omega) (by omega) (by have := nof_le (T i); omega)
        obtain ⟨g6a, g6b⟩ := g6 (upd L o (T i)) A 0 upd_at (Or.inl rfl)
        cases flt with
        | true =>
          obtain ⟨m', rfl⟩ : ∃ m', m = m' + 1 := ⟨m - 1, by omega⟩
          obtain ⟨⟨L', A', w⟩, hr⟩ := g6a rfl
          refine ⟨false, j, o, LT, NU', ?_, by omega, by omega, nI j, L', A', w, CR_go hl hil (t_beg1 h32' hz ho') hr, fun _ => rfl, fun h => (by cases h)⟩
          show f7_isRead_34b T (nI len) _ (nI i) 0 (nI o) LT NU = _
          rw [hb, hro, if_neg hz, e5, g1, Option.bind_some]
          dsimp only
          rw [b01_t1, if_neg one_ne]
          exact rd_end ..
        | false =>
          obtain ⟨fi', nu', A', k1, k2, k3⟩ := g6b rfl
          have g4' := g4 rfl
          obtain ⟨j2, f1, f2, f3, f4, f5⟩ := blk (T := T) hl g3
          obtain ⟨fi2, _, hr2⟩ := f5 (upd L o (T i)) A' (o + 1) 0 nu' fi'
          have hOA' : OA (upd L o (T i)) A' (upd LT o (T i)) NU' (o + 1) := by
            intro k hk
            by_cases hko : k = o
            · rw [hko, upd_at, upd_at]
              exact ⟨rfl, hz, fun q hq => k2 q (Nat.zero_le _) hq⟩
            · rw [upd_ne hko, upd_ne hko]
              obtain ⟨a1, a0, a2⟩ := hOA k (by omega)
              refine ⟨a1, a0, fun q hq => ?_⟩
              have := nof_le (LT k)
              rw [k1 _ (by omega), g5 _ (by omega)]
              exact a2 q hq
          obtain ⟨ok, j3, o3, LT3, NU3, p1, p2, p3, r, L3, A3, w, p4, p5, p6⟩ := ih j2 (o + 1) m (upd LT o (T i)) NU' (upd L o (T i)) A' nu' fi2 (by omega) f2 (by omega) (by omega) (fun _ => by omega) f3 hOA'
          refine ⟨ok, j3, o3, LT3, NU3, ?_, p2, p3, r, L3, A3, w, CR_go hl hil (t_beg1 h32' hz ho') (k3 _ (hr2 _ p4)), p5, p6⟩
          show f7_isRead_34b T (nI len) _ (nI i) 0 (nI o) LT NU = _
          rw [hb, hro, if_neg hz, e5, g1, Option.bind_some]
          dsimp only
          rw [b01_f0, if_pos rfl, f4, Option.bind_some]
          exact p1
    · have e : i = len := by omega
      subst e
      refine ⟨true, i, o, LT, NU, hlen m o LT NU, Nat.le_refl _, by omega, _, L, A, _, CR_e0 hl (by omega), fun h => (by cases h), fun _ => ⟨if_neg (h0 rfl), rfl, hOA⟩⟩
/-- both read alike -/
theorem read_both {T : Nat → Int32} {len : Nat} (hl : len ≤ 120) (L A LT NU : Nat → Int32) (O op nu fi a7 f7 o7 : Int32) : ∃ (ok : Bool) (j o' : Nat) (LT' NU' : Nat → Int32), f7_isRead T (nI len) a7 f7 o7 LT NU = some (b01 ok, nI j, b01 (!ok), nI o', LT', NU') ∧ j ≤ 120 ∧ o' ≤ 40 ∧ ∃ (r : Int32) (L' A' : Nat → Int32) (w : Int32 × Int32 × Int32 × Int32), f5_read T (nI len) L A O op nu fi = some (r, L', A', w) ∧ (ok = false → r = nI j) ∧ (ok = true → r = -1 ∧ w.1 = nI o' ∧ OA L' A' LT' NU' o') := by
  obtain ⟨j, f1, f2, f3, f4, f5⟩ := blk (T := T) (i := 0) hl (Nat.zero_le _)
  obtain ⟨fi2, _, hr2⟩ := f5 L A 0 0 nu fi
  unfold f7_isRead f5_read
  rw [show (0 : Int32) = nI 0 from rfl, f4, Option.bind_some]
  by_cases hj : j = len
  · rw [if_pos (by rw [hj])]
    refine ⟨false, j, 0, LT, NU, ?_, by omega, by omega, nI len, L, A, _, hr2 _ (by rw [hj]; exact CR_e0 (o := 0) hl (by omega)) 1000 (by omega), fun _ => by rw [hj], fun h => (by cases h)⟩
    exact rd_end T len 999 ..
  · rw [if_neg (fun q => hj ((nI_eq (by omega) (by omega)).mp q))]
    obtain ⟨ok, j3, o3, LT3, NU3, p1, p2, p3, r, L3, A3, w, p4, p5, p6⟩ := read_lp (T := T) hl (len - j) j 0 1000 LT NU L A nu fi2 (Nat.le_refl _) f2 (Nat.zero_le _) (by omega) (fun h => absurd h hj) f3 (fun k hk => by omega)
    exact ⟨ok, j3, o3, LT3, NU3, p1, by omega, p3, r, L3, A3, w, hr2 _ p4 1000 (by omega), p5, p6⟩
