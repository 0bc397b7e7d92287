/-! pure rows: a run of the reference; how runs begin; whole runs -/
theorem do7 {N : Nat → Int32} {c s i m r : Nat} {A sg : Nat → Int32} {V : Nat → Nat} (hw : wf N c s) (hi : i < c) (hV : VR A V) (hm : 61 * r + m < 15616) : ∃ A', f7_stepsOn N A sg (nI m) (nI r) (nI i) = some (nI (sstep N V i).1, A', putL sg (61 * r + m) (sstep N V i).2.2, nI (m + (sstep N V i).2.2.length)) ∧ VR A' (sstep N V i).2.1 := by
  obtain ⟨l0, l1, l2, l3, b0, b1, b2, b3⟩ := wf_line hw hi
  have hc := hw.2.1
  generalize hk : ln N i 0 = k at *
  generalize hx : ln N i 1 = x at *
  generalize hy : ln N i 2 = y at *
  generalize hz : ln N i 3 = z at *
  have ei : nI i + (1 : Int32) = nI (i + 1) := nI_add i 1
  have hbx : inb (nI x) 6 = true := inb_nI b1 (by decide)
  have cx : (nI x).toNatClampNeg = x := nI_clamp (by omega)
  have Ax := hV x b1
  unfold f7_stepsOn
  rw [show f7_partOf N (nI i) (0 : Int32) = some (nI k) from (part7 N (q := 0) (by omega) (by decide)).trans (congrArg some l0), show f7_partOf N (nI i) (1 : Int32) = some (nI x) from (part7 N (q := 1) (by omega) (by decide)).trans (congrArg some l1), show f7_partOf N (nI i) (2 : Int32) = some (nI y) from (part7 N (q := 2) (by omega) (by decide)).trans (congrArg some l2), Option.bind_some, Option.bind_some, Option.bind_some]
  have p3 : f7_partOf N (nI i) (3 : Int32) = some (nI z) := (part7 N (q := 3) (by omega) (by decide)).trans (congrArg some l3)
  unfold f7_stepsOn_23 sstep
  simp only [hk, hx, hy, hz]
  have hyv : k ≠ 0 → k ≠ 7 → inb (nI y) 6 = true ∧ (nI y).toNatClampNeg = y ∧ A y = nI (V y) ∧ V y < 16 := by
    intro h0 h7
    unfold yE at b2
    rw [if_neg h0, if_neg h7] at b2
    exact ⟨inb_nI b2 (by decide), nI_clamp (by omega), (hV y b2).1, (hV y b2).2⟩
  have g204 : k ≠ 0 → k ≠ 7 → ∀ (w : Nat) (sg : Nat → Int32) (mm : Int32), w < 16 → f7_comesOut N (nI k) (nI (V x)) (nI (V y)) = some (nI w) → f7_stepsOn_204 N A sg mm (nI r) (nI i) (nI k) (nI x) (nI y) = some (nI (i + 1), upd A x (nI w), sg, mm) := by
    intro h0 h7 w sg mm hw2 hco
    obtain ⟨y1, y2, y3, y4⟩ := hyv h0 h7
    unfold f7_stepsOn_204
    rw [hbx, y1, cx, y2, Ax.1, y3, hco, Option.bind_some, ei]
    simp only [ck_t]
  have two : k = 2 ∨ k = 3 ∨ k = 4 → f7_stepsOn_204 N A sg (nI m) (nI r) (nI i) (nI k) (nI x) (nI y) = some (nI (i + 1), upd A x (nI (cmb k (V x) (V y))), sg, nI m) ∧ VR (upd A x (nI (cmb k (V x) (V y)))) (va_up V x (cmb k (V x) (V y))) := by
    intro h
    obtain ⟨y1, y2, y3, y4⟩ := hyv (by omega) (by omega)
    exact ⟨g204 (by omega) (by omega) _ _ _ (cmb_lt k b0 _ Ax.2 _ y4) (cmb7 N (by omega) Ax.2 y4), VR_up hV (cmb_lt k b0 _ Ax.2 _ y4)⟩
  rcases (show k = 0 ∨ k = 1 ∨ k = 2 ∨ k = 3 ∨ k = 4 ∨ k = 5 ∨ k = 6 ∨ k = 7 ∨ k = 8 by omega) with rfl | rfl | rfl | rfl | rfl | rfl | rfl | rfl | rfl
  · rw [if_neg (by decide +kernel), if_pos (by decide +kernel), if_pos rfl, hbx, ck_t, cx, ei]
    exact ⟨_, rfl, VR_up hV b2⟩
  · obtain ⟨y1, y2, y3, y4⟩ := hyv (by decide) (by decide)
    rw [if_neg (by decide +kernel), if_neg (by decide +kernel), if_neg (by decide +kernel), if_neg (by decide +kernel), if_neg (by decide +kernel), if_neg (by decide), if_pos rfl]
    refine ⟨_, g204 (by decide) (by decide) (V y) _ _ y4 ?_, VR_up hV y4⟩
    unfold f7_comesOut
    rw [if_neg (by decide +kernel), if_neg (by decide +kernel), if_neg (by decide +kernel), if_neg (by decide +kernel), if_neg (by decide +kernel)]
  · rw [if_neg (by decide +kernel), if_neg (by decide +kernel), if_neg (by decide +kernel), if_neg (by decide +kernel), if_neg (by decide +kernel), if_neg (by decide), if_neg (by decide), if_neg (by decide), if_neg (by decide), if_neg (by decide), if_neg (by decide)]
    exact ⟨_, two (by decide)⟩
  · rw [if_neg (by decide +kernel), if_neg (by decide +kernel), if_neg (by decide +kernel), if_neg (by decide +kernel), if_neg (by decide +kernel), if_neg (by decide), if_neg (by decide), if_neg (by decide), if_neg (by decide), if_neg (by decide), if_neg (by decide)]
    exact ⟨_, two (by decide)⟩
  · rw [if_neg (by decide +kernel), if_neg (by decide +kernel), if_neg (by decide +kernel), if_neg (by decide +kernel), if_neg (by decide +kernel), if_neg (by decide), if_neg (by decide), if_neg (by decide), if_neg (by decide), if_neg (by decide), if_neg (by decide)]
    exact ⟨_, two (by decide)⟩
  · obtain ⟨y1, y2, y3, y4⟩ := hyv (by decide) (by decide)
    obtain ⟨t1, t2⟩ := wf_tb hw y4
    rw [if_neg (by decide +kernel), if_neg (by decide +kernel), if_neg (by decide +kernel), if_pos (by decide +kernel), if_neg (by decide), if_neg (by decide), if_pos rfl, y1, y2, y3, ck_t, show (100 : Int32) + nI (V y) = nI (100 + V y) from nI_add 100 _, sees7 _ _ hm, Option.bind_some]
    refine ⟨_, g204 (by decide) (by decide) (tb N (V y)) _ _ t2 ?_, VR_up hV t2⟩
    unfold f7_comesOut
    rw [if_neg (by decide +kernel), if_neg (by decide +kernel), if_neg (by decide +kernel), if_pos (by decide +kernel), show (8 : Int32) + nI (V y) = nI (8 + V y) from nI_add 8 _, inb_nI (by omega) (by decide), nI_clamp (by omega), t1]
    rfl
  · obtain ⟨y1, y2, y3, y4⟩ := hyv (by decide) (by decide)
    rw [if_neg (by decide +kernel), if_neg (by decide +kernel), if_neg (by decide +kernel), if_neg (by decide +kernel), if_pos (by decide +kernel), if_neg (by decide), if_neg (by decide), if_neg (by decide), if_pos rfl, y1, hbx, y2, y3, cx, Ax.1, ck_t, ck_t, show (16 : Int32) * nI (V x) = nI (16 * V x) from pk_mul 16 _, show (200 : Int32) + nI (16 * V x) = nI (200 + 16 * V x) from nI_add 200 _, nI_add, sees7 _ _ hm, Option.bind_some]
    exact ⟨_, g204 (by decide) (by decide) _ _ _ (cmb_lt 6 b0 _ Ax.2 _ y4) (cmb7 N (by decide) Ax.2 y4), VR_up hV (cmb_lt 6 b0 _ Ax.2 _ y4)⟩
  · rw [if_pos (by decide +kernel), if_neg (show ¬ (7 : Nat) = 0 by decide), if_neg (show ¬ (7 : Nat) = 1 by decide), if_neg (show ¬ (7 : Nat) = 5 by decide), if_neg (show ¬ (7 : Nat) = 6 by decide), if_pos (show (7 : Nat) = 7 from rfl), hbx, ck_t, cx, Ax.1]
    unfold f7_stepsOn_44 f7_stepsOn_65
    rw [show (2 : Int32) * nI i = nI (2 * i) from pk_mul 2 i, show (500 : Int32) + nI (2 * i) = nI (500 + 2 * i) from nI_add 500 _, show nI (500 + 2 * i) + (0 : Int32) = nI (500 + 2 * i + 0) from nI_add _ 0, show nI (500 + 2 * i) + (1 : Int32) = nI (500 + 2 * i + 1) from nI_add _ 1, sees7 _ _ hm, sees7 _ _ hm, Option.bind_some, Option.bind_some]
    by_cases hv : V x = 0
    · rw [if_pos hv, if_pos hv, if_pos (show nI (V x) = 0 by rw [hv]; rfl), if_pos rfl, if_pos rfl, ei]
      exact ⟨_, rfl, hV⟩
    · have hne : ¬ nI (V x) = 0 := nI_ne0 (by omega) (by omega)
      rw [if_neg hv, if_neg hv, if_neg hne, if_neg one_ne, Option.bind_some, if_neg one_ne]
      exact ⟨_, rfl, hV⟩
  · obtain ⟨y1, y2, y3, y4⟩ := hyv (by decide) (by decide)
    have hz6 : z < 6 := b3
    rw [if_neg (by decide +kernel), if_neg (by decide +kernel), if_pos (by decide +kernel), if_neg (show ¬ (8 : Nat) = 0 by decide), if_neg (show ¬ (8 : Nat) = 1 by decide), if_neg (show ¬ (8 : Nat) = 5 by decide), if_neg (show ¬ (8 : Nat) = 6 by decide), if_neg (show ¬ (8 : Nat) = 7 by decide), if_pos (show (8 : Nat) = 8 from rfl), hbx, ck_t, cx, Ax.1, p3, Option.bind_some, inb_nI hz6 (by decide), nI_clamp (show z < 2 ^ 31 by omega), (hV z hz6).1, y1, y2, y3]
    simp only [ck_t]
    unfold f7_stepsOn_143
    rw [hbx, cx, ei]
    simp only [ck_t]
    by_cases hv : V x = 0
    · rw [if_pos hv, if_pos (show nI (V x) = 0 by rw [hv]; rfl)]
      exact ⟨_, rfl, VR_up hV (hV z hz6).2⟩
    · rw [if_neg hv, if_neg (nI_ne0 (by omega) (by omega))]
      exact ⟨_, rfl, VR_up hV y4⟩
theorem sstep_b {N : Nat → Int32} {c s i : Nat} {V : Nat → Nat} (hw : wf N c s) (hi : i < c) (hV : ∀ j, j < 6 → V j < 16) : (sstep N V i).1 ≤ 20 ∧ (sstep N V i).2.2.length ≤ 1 ∧ (∀ a ∈ (sstep N V i).2.2, 1 ≤ a ∧ a < 1024) := by
  obtain ⟨-, -, -, -, b0, b1, b2, b3⟩ := wf_line hw hi
  have hc := hw.2.1
  have vx := hV _ b1
  unfold sstep
  unfold yE at b2
  split
  · exact ⟨by show i + 1 ≤ 20; omega, Nat.zero_le 1, fun a h => by cases h⟩
  · rename_i h0
    rw [if_neg h0] at b2
    split
    · exact ⟨by show i + 1 ≤ 20; omega, Nat.zero_le 1, fun a h => by cases h⟩
    · split
      · rename_i h5
        rw [if_neg (by omega)] at b2
        have vy := hV _ b2
        refine ⟨by show i + 1 ≤ 20; omega, Nat.le_refl 1, fun a h => ?_⟩
        rw [List.mem_singleton.mp h]; omega
      · split
        · rename_i h6
          rw [if_neg (by omega)] at b2
          have vy := hV _ b2
          refine ⟨by show i + 1 ≤ 20; omega, Nat.le_refl 1, fun a h => ?_⟩
          rw [List.mem_singleton.mp h]; omega
        · split
          · rename_i h7
            rw [if_pos h7] at b2
            refine ⟨?_, Nat.le_refl 1, fun a h => ?_⟩
            · show (if V (ln N i 1) = 0 then i + 1 else ln N i 2) ≤ 20
              split <;> omega
            · rw [List.mem_singleton.mp h]; split <;> omega
          · split
            · exact ⟨by show i + 1 ≤ 20; omega, Nat.zero_le 1, fun a h => by cases h⟩
            · exact ⟨by show i + 1 ≤ 20; omega, Nat.zero_le 1, fun a h => by cases h⟩
def rst (b s : Nat) : Nat → Nat
  | 0 => s
  | x + 1 => if b / 2 ^ x % 2 = 1 then rst b s x / 16 else rst b s x
theorem rst_le (b s : Nat) : ∀ x, rst b s x ≤ s
  | 0 => Nat.le_refl s
  | x + 1 => by
    have h := rst_le b s x
    show (if b / 2 ^ x % 2 = 1 then rst b s x / 16 else rst b s x) ≤ s
    split
    · exact Nat.le_trans (Nat.div_le_self _ _) h
    · exact h
def iv (N : Nat → Int32) (b s x : Nat) : Nat := if b / 2 ^ x % 2 = 1 then rst b s x % 16 else (N (2 + x)).toNatClampNeg
theorem wf_st {N : Nat → Int32} {c s x : Nat} (h : wf N c s) (hx : x < 6) : N (2 + x) = nI (N (2 + x)).toNatClampNeg ∧ (N (2 + x)).toNatClampNeg < 16 := by
  obtain ⟨v, hv, e⟩ := inb_ex (h.2.2.2.2.2.1 x hx) (by decide)
  rw [e, nI_clamp (by omega)]
  exact ⟨rfl, hv⟩
theorem iv_lt {N : Nat → Int32} {c b s x : Nat} (h : wf N c b) (hx : x < 6) : iv N b s x < 16 := by
  unfold iv
  split
  · exact Nat.mod_lt _ (by decide)
  · exact (wf_st h hx).2
theorem irm16 {r : Nat} (h : r < 2 ^ 31) : irm (nI r) (16 : Int32) = nI (r % 16) := pk_rem (d := 16) h (by decide) (by decide)
theorem div16 {r : Nat} (h : r < 2 ^ 31) : nI r / (16 : Int32) = nI (r / 16) := pk_div (d := 16) h (by decide) (by decide)
theorem set3l {N : Nat → Int32} {c b s : Nat} (hw : wf N c b) (hs : s < 2 ^ 31) (sc sp v : Int32) : ∀ (d n x : Nat) (A : Nat → Int32), x + d = 6 → d < n → (∀ j, j < x → A j = nI (iv N b s j)) → ∃ A', f3_setOut_15 N n (A, sc, sp, v, nI (rst b s x), nI x) = some (A', sc, sp) ∧ ∀ j, j < 6 → A' j = nI (iv N b s j) := by
  intro d
  induction d with
  | zero =>
    intro n x A hx hn hA
    obtain ⟨n, rfl⟩ : ∃ m, n = m + 1 := ⟨n - 1, by omega⟩
    refine ⟨A, ?_, fun j hj => hA j (by omega)⟩
    show f3_setOut_15b N _ A sc sp v (nI (rst b s x)) (nI x) = _
    unfold f3_setOut_15b
    rw [if_pos (show (6 : Int32) ≤ nI x from (nI_le (by omega) (by omega) : nI 6 ≤ nI x))]
  | succ d ih =>
    intro n x A hx hn hA
    obtain ⟨n, rfl⟩ : ∃ m, n = m + 1 := ⟨n - 1, by omega⟩
    have hr : rst b s x < 2 ^ 31 := Nat.lt_of_le_of_lt (rst_le b s x) hs
    have bit := (p_oth b hw.2.2.2.1 x (by omega)).2.2.2
    show ∃ A', f3_setOut_15b N (f3_setOut_15 N n) A sc sp v (nI (rst b s x)) (nI x) = _ ∧ _
    unfold f3_setOut_15b
    rw [if_neg (show ¬ (6 : Int32) ≤ nI x from (nI_ge (by omega) (by omega) : ¬ nI 6 ≤ nI x)), hw.2.2.1, bit, inb_nI (by omega) (by decide), nI_clamp (by omega), show nI x + (1 : Int32) = nI (x + 1) from nI_add x 1, irm16 hr, div16 hr]
    simp only [ck_t]
    by_cases hb : b / 2 ^ x % 2 = 1
    · rw [if_pos (show nI (b / 2 ^ x % 2) = (1 : Int32) by rw [hb]; rfl)]
      have e : rst b s x / 16 = rst b s (x + 1) := by show _ = if b / 2 ^ x % 2 = 1 then rst b s x / 16 else rst b s x; rw [if_pos hb]
      rw [e]
      refine ih n (x + 1) _ (by omega) (by omega) (fun j hj => ?_)
      by_cases hjx : j = x
      · subst hjx
        rw [pu_eq]; unfold iv; rw [if_pos hb]
      · rw [pu_ne hjx]; exact hA j (by omega)
    · rw [if_neg (show ¬ nI (b / 2 ^ x % 2) = (1 : Int32) from fun q => hb ((nI_eq (b := 1) (by omega) (by decide)).mp q))]
      have e : rst b s x = rst b s (x + 1) := by show _ = if b / 2 ^ x % 2 = 1 then rst b s x / 16 else rst b s x; rw [if_neg hb]
      rw [e]
      refine ih n (x + 1) _ (by omega) (by omega) (fun j hj => ?_)
      by_cases hjx : j = x
      · subst hjx
        rw [pu_eq]; unfold iv; rw [if_neg hb]; exact (wf_st hw (by omega)).1
      · rw [pu_ne hjx]; exact hA j (by omega)
theorem set3 {N : Nat → Int32} {c b s : Nat} (hw : wf N c b) (hs : s < 2 ^ 31) (A : Nat → Int32) (sc sp : Int32) : ∃ A', f3_setOut N A sc sp (nI s) = some (A', 0, 0) ∧ VR A' (iv N b s) := by
  obtain ⟨A', h1, h2⟩ := set3l hw hs 0 0 (nI s) 6 1000 0 A rfl (by decide) (fun j h => absurd h (Nat.not_lt_zero j))
  exact ⟨A', h1, fun j hj => ⟨h2 j hj, iv_lt hw hj⟩⟩
theorem has7 {b x : Nat} (hb : b < 64) (hx : x < 6) : f7_has (nI b) (nI x) = some (nI (b / 2 ^ x % 2)) := by
  unfold f7_has
  rw [(p_oth b hb x hx).2.2.2]
  rcases (show b / 2 ^ x % 2 = 0 ∨ b / 2 ^ x % 2 = 1 by omega) with h | h
  · rw [h, if_neg (by decide +kernel)]; rfl
  · rw [h, if_pos (by decide +kernel)]; rfl
theorem set7l {N : Nat → Int32} {c b s : Nat} (hw : wf N c b) (hs : s < 2 ^ 31) (v : Int32) : ∀ (d n x : Nat) (A : Nat → Int32), x + d = 6 → d < n → (∀ j, j < x → A j = nI (iv N b s j)) → ∃ A', f7_begins_4 N n (A, v, nI (rst b s x), nI x) = some A' ∧ ∀ j, j < 6 → A' j = nI (iv N b s j) := by
  intro d
  induction d with
  | zero =>
    intro n x A hx hn hA
    obtain ⟨n, rfl⟩ : ∃ m, n = m + 1 := ⟨n - 1, by omega⟩
    refine ⟨A, ?_, fun j hj => hA j (by omega)⟩
    show f7_begins_4b N _ A v (nI (rst b s x)) (nI x) = _
    unfold f7_begins_4b
    rw [if_pos (show (6 : Int32) ≤ nI x from (nI_le (by omega) (by omega) : nI 6 ≤ nI x))]
  | succ d ih =>
    intro n x A hx hn hA
    obtain ⟨n, rfl⟩ : ∃ m, n = m + 1 := ⟨n - 1, by omega⟩
    have hr : rst b s x < 2 ^ 31 := Nat.lt_of_le_of_lt (rst_le b s x) hs
    show ∃ A', f7_begins_4b N (f7_begins_4 N n) A v (nI (rst b s x)) (nI x) = _ ∧ _
    unfold f7_begins_4b
    rw [if_neg (show ¬ (6 : Int32) ≤ nI x from (nI_ge (by omega) (by omega) : ¬ nI 6 ≤ nI x)), hw.2.2.1, has7 hw.2.2.2.1 (by omega), Option.bind_some, show (2 : Int32) + nI x = nI (2 + x) from nI_add 2 x, inb_nI (show 2 + x < 104 by omega) (by decide), nI_clamp (show 2 + x < 2 ^ 31 by omega), inb_nI (show x < 6 by omega) (by decide), nI_clamp (show x < 2 ^ 31 by omega), show nI x + (1 : Int32) = nI (x + 1) from nI_add x 1, irm16 hr, div16 hr]
    simp only [ck_t]
    by_cases hb : b / 2 ^ x % 2 = 1
    · have hn0 : ¬ nI (b / 2 ^ x % 2) = (0 : Int32) := by rw [hb]; decide +kernel
      rw [if_neg hn0, if_neg hn0]
      have e : rst b s x / 16 = rst b s (x + 1) := by show _ = if b / 2 ^ x % 2 = 1 then rst b s x / 16 else rst b s x; rw [if_pos hb]
      rw [e]
      refine ih n (x + 1) _ (by omega) (by omega) (fun j hj => ?_)
      by_cases hjx : j = x
      · subst hjx
        rw [pu_eq]; unfold iv; rw [if_pos hb]
      · rw [pu_ne hjx]; exact hA j (by omega)
    · have hn0 : nI (b / 2 ^ x % 2) = (0 : Int32) := by rw [show b / 2 ^ x % 2 = 0 by omega]; rfl
      rw [if_pos hn0, if_pos hn0]
      have e : rst b s x = rst b s (x + 1) := by show _ = if b / 2 ^ x % 2 = 1 then rst b s x / 16 else rst b s x; rw [if_neg hb]
      rw [e]
      refine ih n (x + 1) _ (by omega) (by omega) (fun j hj => ?_)
      by_cases hjx : j = x
      · subst hjx
        rw [pu_eq]; unfold iv; rw [if_neg hb]; exact (wf_st hw (by omega)).1
      · rw [pu_ne hjx]; exact hA j (by omega)
theorem set7 {N : Nat → Int32} {c b s : Nat} (hw : wf N c b) (hs : s < 2 ^ 31) (A : Nat → Int32) : ∃ A', f7_begins N A (nI s) = some A' ∧ VR A' (iv N b s) := by
  obtain ⟨A', h1, h2⟩ := set7l hw hs (nI s) 6 1000 0 A rfl (by decide) (fun j h => absurd h (Nat.not_lt_zero j))
  exact ⟨A', h1, fun j hj => ⟨h2 j hj, iv_lt hw hj⟩⟩
/-- the lines done, d at most: variables, sights, steps, the next line -/
def spRun (N : Nat → Int32) (c : Nat) : Nat → (Nat → Nat) → Nat → (Nat → Nat) × List Nat × Nat × Nat
  | 0, V, i => (V, [], 0, i)
  | d + 1, V, i => if i < c then ((spRun N c d (sstep N V i).2.1 (sstep N V i).1).1, (sstep N V i).2.2 ++ (spRun N c d (sstep N V i).2.1 (sstep N V i).1).2.1, (spRun N c d (sstep N V i).2.1 (sstep N V i).1).2.2.1 + 1, (spRun N c d (sstep N V i).2.1 (sstep N V i).1).2.2.2) else (V, [], 0, i)
theorem spRun_out {N : Nat → Int32} {c d i : Nat} {V : Nat → Nat} (h : ¬ i < c) : spRun N c d V i = (V, [], 0, i) := by
  cases d with
  | zero => rfl
  | succ d => show (if i < c then _ else _) = _; rw [if_neg h]
theorem spRun_in {N : Nat → Int32} {c d i : Nat} {V : Nat → Nat} (h : i < c) : spRun N c (d + 1) V i = ((spRun N c d (sstep N V i).2.1 (sstep N V i).1).1, (sstep N V i).2.2 ++ (spRun N c d (sstep N V i).2.1 (sstep N V i).1).2.1, (spRun N c d (sstep N V i).2.1 (sstep N V i).1).2.2.1 + 1, (spRun N c d (sstep N V i).2.1 (sstep N V i).1).2.2.2) := by
  show (if i < c then _ else _) = _
  rw [if_pos h]
theorem VRlt {A : Nat → Int32} {V : Nat → Nat} (h : VR A V) : ∀ j, j < 6 → V j < 16 := fun j hj => (h j hj).2
theorem fol3 {N : Nat → Int32} {c s : Nat} (hw : wf N c s) (cut v : Int32) : ∀ (d n i m t : Nat) (V : Nat → Nat) (A sg : Nat → Int32), VR A V → t + d = 60 → m ≤ t → d < n → i ≤ 20 → ∃ A', f3_follow_8 N n (A, sg, nI m, nI t, cut, v, nI i) = f3_follow_45 N A' (putL sg m (spRun N c d V i).2.1) (nI (m + (spRun N c d V i).2.1.length)) (nI (t + (spRun N c d V i).2.2.1)) cut v (nI (spRun N c d V i).2.2.2) ∧ VR A' (spRun N c d V i).1 ∧ (spRun N c d V i).2.1.length ≤ (spRun N c d V i).2.2.1 ∧ (spRun N c d V i).2.2.1 ≤ d ∧ (spRun N c d V i).2.2.2 ≤ 20 ∧ ∀ a ∈ (spRun N c d V i).2.1, 1 ≤ a ∧ a < 1024 := by
  intro d
  induction d with
  | zero =>
    intro n i m t V A sg hV ht hm hn hi
    obtain ⟨n, rfl⟩ : ∃ m, n = m + 1 := ⟨n - 1, by omega⟩
    refine ⟨A, ?_, hV, Nat.le_refl 0, Nat.le_refl 0, hi, fun a h => by cases h⟩
    show f3_follow_8b N _ A sg (nI m) (nI t) cut v (nI i) = _
    unfold f3_follow_8b
    rw [if_pos (show (60 : Int32) ≤ nI t from (nI_le (by omega) (by omega) : nI 60 ≤ nI t))]
    rfl
  | succ d ih =>
    intro n i m t V A sg hV ht hm hn hi
    obtain ⟨n, rfl⟩ : ∃ m, n = m + 1 := ⟨n - 1, by omega⟩
    have hc := hw.2.1
    by_cases h : i < c
    · obtain ⟨A1, e1, v1⟩ := do3 (sg := sg) (m := m) hw h hV (by omega)
      obtain ⟨q1, q2, q3⟩ := sstep_b hw h (VRlt hV)
      obtain ⟨A', e2, v2, u1, u2, u3, u4⟩ := ih n (sstep N V i).1 (m + (sstep N V i).2.2.length) (t + 1) (sstep N V i).2.1 A1 (putL sg m (sstep N V i).2.2) v1 (by omega) (by omega) (by omega) q1
      rw [spRun_in h]
      refine ⟨A', ?_, v2, ?_, by show _ + 1 ≤ d + 1; omega, u3, fun a ha => ?_⟩
      · show f3_follow_8b N (f3_follow_8 N n) A sg (nI m) (nI t) cut v (nI i) = _
        unfold f3_follow_8b
        rw [if_neg (show ¬ (60 : Int32) ≤ nI t from (nI_ge (by omega) (by omega) : ¬ nI 60 ≤ nI t)), hw.1, if_neg (nI_ge h (by omega)), e1, Option.bind_some, show nI t + (1 : Int32) = nI (t + 1) from nI_add t 1]
        show f3_follow_8 N n (A1, putL sg m (sstep N V i).2.2, nI (m + (sstep N V i).2.2.length), nI (t + 1), cut, v, nI (sstep N V i).1) = _
        rw [e2]
        dsimp only
        rw [putL_app, List.length_append]
        congr 2
        · omega
        · omega
      · dsimp only
        rw [List.length_append]; omega
      · rcases List.mem_append.mp ha with h1 | h1
        · exact q3 a h1
        · exact u4 a h1
    · rw [spRun_out h]
      refine ⟨A, ?_, hV, Nat.le_refl 0, Nat.zero_le _, hi, fun a h => by cases h⟩
      show f3_follow_8b N _ A sg (nI m) (nI t) cut v (nI i) = _
      unfold f3_follow_8b
      rw [if_neg (show ¬ (60 : Int32) ≤ nI t from (nI_ge (by omega) (by omega) : ¬ nI 60 ≤ nI t)), hw.1, if_pos (nI_le (by omega) (by omega))]
      rfl
theorem fol7 {N : Nat → Int32} {c s r : Nat} (hw : wf N c s) (hr : r < 256) (cut v : Int32) : ∀ (d n i m t : Nat) (V : Nat → Nat) (A sg : Nat → Int32), VR A V → t + d = 60 → m ≤ t → d < n → i ≤ 20 → ∃ A', f7_goes_17 N n (A, sg, nI m, nI t, cut, nI r, v, nI i) = f7_goes_56 N A' (putL sg (61 * r + m) (spRun N c d V i).2.1) (nI (m + (spRun N c d V i).2.1.length)) (nI (t + (spRun N c d V i).2.2.1)) cut (nI r) v (nI (spRun N c d V i).2.2.2) ∧ VR A' (spRun N c d V i).1 := by
  intro d
  induction d with
  | zero =>
    intro n i m t V A sg hV ht hm hn hi
    obtain ⟨n, rfl⟩ : ∃ m, n = m + 1 := ⟨n - 1, by omega⟩
    refine ⟨A, ?_, hV⟩
    show f7_goes_17b N _ A sg (nI m) (nI t) cut (nI r) v (nI i) = _
    unfold f7_goes_17b
    rw [if_pos (show (60 : Int32) ≤ nI t from (nI_le (by omega) (by omega) : nI 60 ≤ nI t))]
    split <;> rfl
  | succ d ih =>
    intro n i m t V A sg hV ht hm hn hi
    obtain ⟨n, rfl⟩ : ∃ m, n = m + 1 := ⟨n - 1, by omega⟩
    have hc := hw.2.1
    by_cases h : i < c
    · obtain ⟨A1, e1, v1⟩ := do7 (sg := sg) (m := m) (r := r) hw h hV (by omega)
      obtain ⟨q1, q2, q3⟩ := sstep_b hw h (VRlt hV)
      obtain ⟨A', e2, v2⟩ := ih n (sstep N V i).1 (m + (sstep N V i).2.2.length) (t + 1) (sstep N V i).2.1 A1 (putL sg (61 * r + m) (sstep N V i).2.2) v1 (by omega) (by omega) (by omega) q1
      rw [spRun_in h]
      refine ⟨A', ?_, v2⟩
      show f7_goes_17b N (f7_goes_17 N n) A sg (nI m) (nI t) cut (nI r) v (nI i) = _
      unfold f7_goes_17b
      rw [hw.1, if_neg (nI_ge h (by omega)), if_neg (show ¬ (60 : Int32) ≤ nI t from (nI_ge (by omega) (by omega) : ¬ nI 60 ≤ nI t)), e1, Option.bind_some, show nI t + (1 : Int32) = nI (t + 1) from nI_add t 1]
      show f7_goes_17 N n (A1, putL sg (61 * r + m) (sstep N V i).2.2, nI (m + (sstep N V i).2.2.length), nI (t + 1), cut, nI r, v, nI (sstep N V i).1) = _
      rw [e2]
      dsimp only
      rw [putL_app, List.length_append, show 61 * r + m + (sstep N V i).2.2.length = 61 * r + (m + (sstep N V i).2.2.length) by omega]
      congr 2
      · omega
      · omega
    · rw [spRun_out h]
      refine ⟨A, ?_, hV⟩
      show f7_goes_17b N _ A sg (nI m) (nI t) cut (nI r) v (nI i) = _
      unfold f7_goes_17b
      rw [hw.1, if_pos (nI_le (by omega) (by omega))]
      rfl
/-- the run by secrets s: variables at its end, sights, steps, cut -/
def rnV (N : Nat → Int32) (c b s : Nat) : Nat → Nat := (spRun N c 60 (iv N b s) 0).1
def rnS (N : Nat → Int32) (c b s : Nat) : Nat := (spRun N c 60 (iv N b s) 0).2.2.1
def rnL (N : Nat → Int32) (c b s : Nat) : List Nat := (spRun N c 60 (iv N b s) 0).2.1 ++ [600 + rnS N c b s]
def rnC (N : Nat → Int32) (c b s : Nat) : Bool := decide ((spRun N c 60 (iv N b s) 0).2.2.2 < c)
theorem run3 {N : Nat → Int32} {c b s : Nat} (hw : wf N c b) (hs : s < 2 ^ 31) (A sg : Nat → Int32) (sc sp cut : Int32) : ∃ A', f3_follow N A sg sc sp cut (nI s) = some (A', putL sg 0 (rnL N c b s), nI (rnL N c b s).length, nI (rnS N c b s), b01 (rnC N c b s)) ∧ VR A' (rnV N c b s) ∧ (rnL N c b s).length ≤ 61 ∧ rnS N c b s ≤ 60 ∧ ∀ a ∈ rnL N c b s, 1 ≤ a ∧ a < 1024 := by
  obtain ⟨A1, e1, v1⟩ := set3 hw hs A sc sp
  obtain ⟨A', e2, v2, u1, u2, u3, u4⟩ := fol3 hw cut (nI s) 60 1000 0 0 0 (iv N b s) A1 sg v1 rfl (Nat.le_refl 0) (by decide) (by decide)
  have hc := hw.2.1
  refine ⟨A', ?_, v2, ?_, u2, fun a ha => ?_⟩
  · unfold f3_follow
    rw [e1, Option.bind_some]
    show f3_follow_8 N 1000 (A1, sg, nI 0, nI 0, cut, nI s, nI 0) = _
    rw [e2]
    unfold f3_follow_45
    rw [hw.1]
    have fin : ∀ y1 : Int32, isb y1 = true → f3_follow_59 N A' (putL sg 0 (spRun N c 60 (iv N b s) 0).2.1) (nI (0 + (spRun N c 60 (iv N b s) 0).2.1.length)) (nI (0 + (spRun N c 60 (iv N b s) 0).2.2.1)) cut (nI s) (nI (spRun N c 60 (iv N b s) 0).2.2.2) y1 = some (A', putL sg 0 (rnL N c b s), nI (rnL N c b s).length, nI (rnS N c b s), y1) := by
      intro y1 hy
      unfold f3_follow_59
      rw [hy, ck_t, Nat.zero_add, Nat.zero_add, show (600 : Int32) + nI (spRun N c 60 (iv N b s) 0).2.2.1 = nI (600 + (spRun N c 60 (iv N b s) 0).2.2.1) from nI_add 600 _, see3 _ _ (by omega), Option.bind_some]
      unfold rnL
      rw [putL_app, List.length_append, Nat.zero_add]
      rfl
    unfold rnC
    by_cases h : (spRun N c 60 (iv N b s) 0).2.2.2 < c
    · rw [if_neg (nI_ge h (by omega)), fin 1 isb1, decide_eq_true h]; rfl
    · rw [if_pos (nI_le (by omega) (by omega)), fin 0 isb0, decide_eq_false h]; rfl
  · unfold rnL; rw [List.length_append]; show _ + 1 ≤ 61; omega
  · rcases List.mem_append.mp ha with h1 | h1
    · exact u4 a h1
    · rw [List.mem_singleton.mp h1]
      have : rnS N c b s ≤ 60 := u2
      omega
/-- a row of sights with -1 behind them -/
def padL (sg : Nat → Int32) (r l : Nat) : Nat → Int32 := fun j => if 61 * r + l ≤ j ∧ j < 61 * r + 61 then -1 else sg j
theorem pad7 {N : Nat → Int32} {r l : Nat} (hr : r < 256) (A : Nat → Int32) (m t ct v x : Int32) (sg0 : Nat → Int32) : ∀ (d n k : Nat), k + d = 61 → l ≤ k → d < n → f7_goes_94 N n (A, (fun j => if 61 * r + l ≤ j ∧ j < 61 * r + k then -1 else sg0 j), m, t, ct, nI r, v, x, nI k) = some (A, padL sg0 r l, m, t, ct) := by
  intro d
  induction d with
  | zero =>
    intro n k hk hl hn
    obtain ⟨n, rfl⟩ : ∃ m, n = m + 1 := ⟨n - 1, by omega⟩
    show f7_goes_94b N _ A _ m t ct (nI r) v x (nI k) = _
    unfold f7_goes_94b
    rw [if_pos (show (61 : Int32) ≤ nI k from (nI_le (by omega) (by omega) : nI 61 ≤ nI k)), show k = 61 by omega]
    rfl
  | succ d ih =>
    intro n k hk hl hn
    obtain ⟨n, rfl⟩ : ∃ m, n = m + 1 := ⟨n - 1, by omega⟩
    show f7_goes_94b N (f7_goes_94 N n) A _ m t ct (nI r) v x (nI k) = _
    unfold f7_goes_94b
    rw [if_neg (show ¬ (61 : Int32) ≤ nI k from (nI_ge (by omega) (by omega) : ¬ nI 61 ≤ nI k)), show (61 : Int32) * nI r = nI (61 * r) from pk_mul 61 r, nI_add, inb_nI (by omega) (by decide), nI_clamp (by omega), ck_t, show nI k + (1 : Int32) = nI (k + 1) from nI_add k 1, ← ih n (k + 1) (by omega) (by omega) (by omega)]
    congr 3
    funext j
    by_cases hj : j = 61 * r + k
    · subst hj
      rw [pu_eq, if_pos (by omega)]
    · rw [pu_ne hj]
      dsimp only
      by_cases h2 : 61 * r + l ≤ j ∧ j < 61 * r + k
      · rw [if_pos h2, if_pos (by omega)]
      · rw [if_neg h2, if_neg (by omega)]
theorem run7 {N : Nat → Int32} {c b s r : Nat} (hw : wf N c b) (hs : s < 2 ^ 31) (hr : r < 256) (A sg : Nat → Int32) (mn sp cut : Int32) : ∃ A', f7_goes N A sg mn sp cut (nI r) (nI s) = some (A', padL (putL sg (61 * r) (rnL N c b s)) r (rnL N c b s).length, nI (rnL N c b s).length, nI (rnS N c b s), b01 (rnC N c b s)) ∧ VR A' (rnV N c b s) := by
  obtain ⟨A1, e1, v1⟩ := set7 hw hs A
  obtain ⟨A', e2, v2⟩ := fol7 hw hr cut (nI s) 60 1000 0 0 0 (iv N b s) A1 sg v1 rfl (Nat.le_refl 0) (by decide) (by decide)
  obtain ⟨-, -, -, u1, u2, -⟩ := run3 hw hs A sg mn sp cut
  have hc := hw.2.1
  have hl : (rnL N c b s).length = (spRun N c 60 (iv N b s) 0).2.1.length + 1 := by unfold rnL; rw [List.length_append]; rfl
  have h20 : (spRun N c 60 (iv N b s) 0).2.2.2 ≤ 20 := by
    obtain ⟨A3, e3, v3⟩ := set3 hw hs A mn sp
    exact (fol3 hw cut (nI s) 60 1000 0 0 0 (iv N b s) A3 sg v3 rfl (Nat.le_refl 0) (by decide) (by decide)).choose_spec.2.2.2.2.1
  refine ⟨A', ?_, v2⟩
  unfold f7_goes
  rw [e1, Option.bind_some]
  show f7_goes_17 N 1000 (A1, sg, nI 0, nI 0, cut, nI r, nI s, nI 0) = _
  rw [e2]
  unfold f7_goes_56
  rw [hw.1]
  have fin : ∀ y1 : Int32, isb y1 = true → f7_goes_72 N A' (putL sg (61 * r + 0) (spRun N c 60 (iv N b s) 0).2.1) (nI (0 + (spRun N c 60 (iv N b s) 0).2.1.length)) (nI (0 + (spRun N c 60 (iv N b s) 0).2.2.1)) cut (nI r) (nI s) (nI (spRun N c 60 (iv N b s) 0).2.2.2) y1 = some (A', padL (putL sg (61 * r) (rnL N c b s)) r (rnL N c b s).length, nI (rnL N c b s).length, nI (rnS N c b s), y1) := by
    intro y1 hy
    unfold f7_goes_72
    rw [hy, ck_t, Nat.zero_add, Nat.zero_add, show (600 : Int32) + nI (spRun N c 60 (iv N b s) 0).2.2.1 = nI (600 + (spRun N c 60 (iv N b s) 0).2.2.1) from nI_add 600 _, sees7 _ _ (by omega), Option.bind_some]
    have e9 : upd (putL sg (61 * r + 0) (spRun N c 60 (iv N b s) 0).2.1) (61 * r + (spRun N c 60 (iv N b s) 0).2.1.length) (nI (600 + (spRun N c 60 (iv N b s) 0).2.2.1)) = putL sg (61 * r) (rnL N c b s) := by
      unfold rnL
      rw [putL_app]
      rfl
    rw [e9, ← hl]
    rw [← pad7 (N := N) (l := (rnL N c b s).length) hr A' (nI (rnL N c b s).length) (nI (rnS N c b s)) y1 (nI s) (nI (spRun N c 60 (iv N b s) 0).2.2.2) (putL sg (61 * r) (rnL N c b s)) (61 - (rnL N c b s).length) 1000 (rnL N c b s).length (by omega) (Nat.le_refl _) (by omega)]
    congr 3
    funext j
    rw [if_neg (by omega)]
  unfold rnC
  by_cases h : (spRun N c 60 (iv N b s) 0).2.2.2 < c
  · rw [if_neg (nI_ge h (by omega)), fin 1 isb1, decide_eq_true h]; rfl
  · rw [if_pos (nI_le (by omega) (by omega)), fin 0 isb0, decide_eq_false h]; rfl
