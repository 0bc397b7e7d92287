/-! pure rows: lines asked till nothing becomes other -/
theorem tak7l {ta kn : Nat → Int32} {t : Int32} {i : Nat} (hi : i ≤ 20) : ∀ (d n x : Nat) (kw : Nat → Int32), x + d = 6 → d < n → (∀ j, j < x → kw j = kn (6 * i + j)) → ∃ kw', f7_takes_12 ta kn n (t, kw, nI i, nI x) = some (t, kw') ∧ ∀ j, j < 6 → kw' j = kn (6 * i + j) := by
  intro d
  induction d with
  | zero =>
    intro n x kw hx hn h1
    obtain ⟨n, rfl⟩ : ∃ m, n = m + 1 := ⟨n - 1, by omega⟩
    refine ⟨kw, ?_, fun j hj => h1 j (by omega)⟩
    show f7_takes_12b ta kn _ t kw (nI i) (nI x) = _
    unfold f7_takes_12b
    rw [if_pos (show (6 : Int32) ≤ nI x from (nI_le (by omega) (by omega) : nI 6 ≤ nI x))]
  | succ d ih =>
    intro n x kw hx hn h1
    obtain ⟨n, rfl⟩ : ∃ m, n = m + 1 := ⟨n - 1, by omega⟩
    show ∃ kw', f7_takes_12b ta kn (f7_takes_12 ta kn n) t kw (nI i) (nI x) = _ ∧ _
    unfold f7_takes_12b
    rw [if_neg (show ¬ (6 : Int32) ≤ nI x from (nI_ge (by omega) (by omega) : ¬ nI 6 ≤ nI x)), show (6 : Int32) * nI i = nI (6 * i) from pk_mul 6 i, nI_add, inb_nI (show 6 * i + x < 126 by omega) (by decide), nI_clamp (show 6 * i + x < 2 ^ 31 by omega), inb_nI (show x < 6 by omega) (by decide), nI_clamp (show x < 2 ^ 31 by omega), show nI x + (1 : Int32) = nI (x + 1) from nI_add x 1, ck_t, ck_t]
    refine ih n (x + 1) _ (by omega) (by omega) (fun j hj => ?_)
    by_cases e : j = x
    · rw [e, pu_eq]
    · rw [pu_ne e]; exact h1 j (by omega)
theorem ask7 {N : Nat → Int32} {c s i : Nat} (hw : wf N c s) (hi : i < c) {cm ta kn kw : Nat → Int32} {tn : Int32} {r : FS × Bool} (hF : FRel c cm ta kn r.1) (hS : r.1 i ≠ none) : ∃ cm' ta' kn' tn' kw', f7_asks N cm ta kn tn kw (b01 r.2) (nI i) = some (cm', ta', kn', tn', kw', b01 (stS N c r i).2) ∧ FRel c cm' ta' kn' (stS N c r i).1 := by
  obtain ⟨S, ch⟩ := r
  have hpl := hF i (by omega)
  dsimp only at hpl hS hF
  have hc := hw.2.1
  unfold stS
  dsimp only
  cases hq : S i with
  | none => exact absurd hq hS
  | some z =>
    obtain ⟨T, K⟩ := z
    rw [hq] at hpl
    obtain ⟨a1, a2, a3, a4⟩ := hpl
    obtain ⟨l0, l1, l2, l3, hk, hx, hy, hz⟩ := wf_line hw hi
    have tok := fun h7 => trv_ok (T := T) hw hi h7 (fun j hj => (a4 j hj).2)
    obtain ⟨kw2, t1, t2⟩ := tak7l (ta := ta) (kn := kn) (t := ta i) (show i ≤ 20 by omega) 6 1000 0 kw rfl (by decide) (fun j h => absurd h (Nat.not_lt_zero j))
    have htk : f7_takes ta kn tn kw (nI i) = some (nI T, kw2) := by
      unfold f7_takes
      rw [inb_nI (show i < 21 by omega) (by decide), nI_clamp (show i < 2 ^ 31 by omega), ck_t, show (0 : Int32) = nI 0 from rfl, t1, a2]
    have ho : ∀ j, j < 6 → kw2 j = K j ∧ kOK (K j) := fun j hj => ⟨(t2 j hj).trans (a4 j hj).1, (a4 j hj).2⟩
    have tln := fun (h7 : ln N i 0 ≠ 7) => tln7 (K := kw2) hw hi a3 h7 (fun j hj => by rw [(ho j hj).1]; exact (ho j hj).2)
    have q0 : f7_partOf N (nI i) (0 : Int32) = some (nI (ln N i 0)) := (part7 N (q := 0) (by omega) (by decide)).trans (congrArg some l0)
    have q1 : f7_partOf N (nI i) (1 : Int32) = some (nI (ln N i 1)) := (part7 N (q := 1) (by omega) (by decide)).trans (congrArg some l1)
    have q2 : f7_partOf N (nI i) (2 : Int32) = some (nI (ln N i 2)) := (part7 N (q := 2) (by omega) (by decide)).trans (congrArg some l2)
    unfold f7_asks
    rw [htk, Option.bind_some, q0, Option.bind_some]
    dsimp only
    generalize ln N i 0 = k at *
    generalize ln N i 1 = x at *
    generalize ln N i 2 = y at *
    generalize ln N i 3 = z at *
    have e1 : nI i + (1 : Int32) = nI (i + 1) := nI_add i 1
    have em1 : min (i + 1) c = i + 1 := Nat.min_eq_left (by omega)
    by_cases h7 : k = 7
    · have hy21 : y ≤ 20 := by unfold yE at hy; rw [h7] at hy; exact Nat.le_of_lt_succ hy
      rw [if_pos h7, if_pos (show nI k = (7 : Int32) by rw [h7]; rfl), q1, Option.bind_some, inb_nI hx (by decide), ck_t, nI_clamp (show x < 2 ^ 31 by omega)]
      have h55 : ∀ (cm ta kn : Nat → Int32) (ch : Bool), f7_asks_55 N cm ta kn (nI T) kw2 (b01 ch) (nI i) (nI x) = if K x = -1 ∨ K x = 0 then f7_asks_74 N cm ta kn (nI T) kw2 (b01 ch) (nI i) (nI x) else some (cm, ta, kn, nI T, kw2, b01 ch) := by
        intro cm ta kn ch
        unfold f7_asks_55
        rw [inb_nI hx (by decide), nI_clamp (show x < 2 ^ 31 by omega), (ho x hx).1, ck_t, ck_t]
        by_cases km : K x = -1
        · rw [if_pos km, if_pos (Or.inl km)]
        · rw [if_neg km]
          by_cases k0 : K x = 0
          · rw [if_pos k0, if_pos (Or.inr k0)]
          · rw [if_neg k0, if_neg (fun q => q.elim km k0)]
      have h74 : ∀ (r : FS × Bool) (cm ta kn : Nat → Int32), FRel c cm ta kn r.1 → ∃ cm' ta' kn', f7_asks_74 N cm ta kn (nI T) kw2 (b01 r.2) (nI i) (nI x) = some (cm', ta', kn', nI T, kw2, b01 (jn r (i + 1) T K).2) ∧ FRel c cm' ta' kn' (jn r (i + 1) T K).1 := by
        intro r cm ta kn hF
        obtain ⟨cm', ta', kn', g1, g2⟩ := cm7 (S := r.1) (ch := r.2) hw hF (show i + 1 ≤ 21 by omega) a3 ho
        rw [em1] at g1 g2
        refine ⟨cm', ta', kn', ?_, g2⟩
        unfold f7_asks_74
        rw [e1, g1]
        rfl
      rw [h55]
      have kx := (ho x hx).1
      by_cases k0 : K x = 0
      · rw [if_pos (kx.trans k0), if_pos (Or.inr k0), if_pos (Or.inr k0), if_pos k0]
        obtain ⟨cm', ta', kn', g1, g2⟩ := h74 (S, ch) cm ta kn hF
        exact ⟨cm', ta', kn', _, _, g1, g2⟩
      · rw [if_neg (fun q => k0 (kx.symm.trans q)), if_neg k0, q2, Option.bind_some]
        obtain ⟨cm', ta', kn', g1, g2⟩ := cm7 (S := S) (ch := ch) hw hF (show y ≤ 21 by omega) a3 ho
        rw [g1, Option.bind_some]
        dsimp only
        rw [h55]
        by_cases km : K x = -1
        · rw [if_pos (Or.inl km), if_pos (Or.inl km)]
          obtain ⟨cm2, ta2, kn2, g3, g4⟩ := h74 (jn (S, ch) (min y c) T K) cm' ta' kn' g2
          exact ⟨cm2, ta2, kn2, _, _, g3, g4⟩
        · rw [if_neg (fun q => q.elim km k0), if_neg (fun q => q.elim km k0)]
          exact ⟨cm', ta', kn', _, _, rfl, g2⟩
    · have ecg : trv N T kw2 k x y z = trv N T K k x y z := by
        refine trv_cg (ho x hx).1 (fun h0 => ?_) (fun h8 => ?_)
        · unfold yE at hy; rw [if_neg h0, if_neg h7] at hy; exact (ho y hy).1
        · unfold zE at hz; rw [if_pos h8] at hz; exact (ho z hz).1
      rw [if_neg h7, if_neg (fun q => h7 ((nI_is 7 (b := (7 : Int32)) rfl (by omega) (by decide)).mp q)), tln h7, Option.bind_some, ecg, e1]
      obtain ⟨cm', ta', kn', g1, g2⟩ := cm7 (S := S) (ch := ch) hw hF (show i + 1 ≤ 21 by omega) (setb_lt a3 hx (trv N T K k x y z).1) (upd_ok (x := x) (tok h7) ho)
      rw [em1] at g1 g2
      dsimp only
      rw [g1]
      exact ⟨cm', ta', kn', _, _, rfl, g2⟩
def rd (N : Nat → Int32) (c : Nat) : Nat → Nat → FS × Bool → FS × Bool
  | 0, _, r => r
  | d + 1, i, r => rd N c d (i + 1) (stS N c r i)
theorem st_none {N : Nat → Int32} {c i : Nat} {r : FS × Bool} (h : r.1 i = none) : stS N c r i = r := by unfold stS; rw [h]
theorem pl_none {c : Nat} {cm ta kn : Nat → Int32} {S : FS} {i : Nat} (hF : FRel c cm ta kn S) (hi : i ≤ c) : cm i = 0 ↔ S i = none := by
  have h := hF i hi
  cases hS : S i with
  | none => rw [hS] at h; exact ⟨fun _ => rfl, fun _ => h⟩
  | some z =>
    obtain ⟨T, K⟩ := z
    rw [hS] at h
    exact ⟨fun q => absurd (h.1.symm.trans q) one_ne, fun q => by cases q⟩
theorem pl_isb {c : Nat} {cm ta kn : Nat → Int32} {S : FS} {i : Nat} (hF : FRel c cm ta kn S) (hi : i ≤ c) : cm i = b01 (S i).isSome := by
  have h := hF i hi
  cases hS : S i with
  | none => rw [hS] at h; exact h
  | some z =>
    obtain ⟨T, K⟩ := z
    rw [hS] at h
    exact h.1
theorem fin31 {N : Nat → Int32} {c s : Nat} (hw : wf N c s) (k10 : (Nat → Int32) × (Nat → Int32) × (Nat → Int32) × (Nat → Int32) × Int32 × Int32 × Int32 → Option ((Nat → Int32) × (Nat → Int32) × (Nat → Int32) × (Nat → Int32) × Int32 × Int32)) (x2 : Int32) : ∀ (d n i : Nat) (cm ta kn oK : Nat → Int32) (oT : Int32) (r : FS × Bool), i + d = c → d < n → FRel c cm ta kn r.1 → ∃ cm' ta' kn' oK' oT', f0_find_31 N k10 n (cm, ta, kn, oK, oT, b01 r.2, x2, nI i) = k10 (cm', ta', kn', oK', oT', b01 (rd N c d i r).2, x2 + 1) ∧ FRel c cm' ta' kn' (rd N c d i r).1 := by
  have hc := hw.2.1
  intro d
  induction d with
  | zero =>
    intro n i cm ta kn oK oT r hi hn hF
    obtain ⟨n, rfl⟩ : ∃ m, n = m + 1 := ⟨n - 1, by omega⟩
    refine ⟨cm, ta, kn, oK, oT, ?_, hF⟩
    show f0_find_31b N k10 _ cm ta kn oK oT (b01 r.2) x2 (nI i) = _
    unfold f0_find_31b
    rw [hw.1, if_pos (nI_le (by omega) (by omega))]
    rfl
  | succ d ih =>
    intro n i cm ta kn oK oT r hi hn hF
    obtain ⟨n, rfl⟩ : ∃ m, n = m + 1 := ⟨n - 1, by omega⟩
    show ∃ cm' ta' kn' oK' oT', f0_find_31b N k10 (f0_find_31 N k10 n) cm ta kn oK oT (b01 r.2) x2 (nI i) = k10 (cm', ta', kn', oK', oT', b01 (rd N c d (i + 1) (stS N c r i)).2, x2 + 1) ∧ FRel c cm' ta' kn' (rd N c d (i + 1) (stS N c r i)).1
    unfold f0_find_31b
    rw [hw.1, if_neg (nI_ge (show i < c by omega) (by omega)), inb_nI (show i < 21 by omega) (by decide), nI_clamp (show i < 2 ^ 31 by omega), ck_t, show nI i + (1 : Int32) = nI (i + 1) from nI_add i 1]
    by_cases h : r.1 i = none
    · rw [if_pos ((pl_none hF (by omega)).mpr h), st_none h]
      exact ih n (i + 1) cm ta kn oK oT r (by omega) (by omega) hF
    · rw [if_neg (fun q => h ((pl_none hF (by omega)).mp q))]
      obtain ⟨cm', ta', kn', oK', oT', g1, g2⟩ := pas0 (oK := oK) (oT := oT) hw (show i < c by omega) hF h
      rw [g1, Option.bind_some]
      exact ih n (i + 1) cm' ta' kn' oK' oT' (stS N c r i) (by omega) (by omega) g2
theorem lay87 {N : Nat → Int32} {c s : Nat} (hw : wf N c s) (k73 : (Nat → Int32) × (Nat → Int32) × (Nat → Int32) × Int32 × (Nat → Int32) × Int32 × Int32 → Option ((Nat → Int32) × (Nat → Int32) × (Nat → Int32) × Int32 × (Nat → Int32) × Int32)) : ∀ (d n i : Nat) (cm ta kn kw : Nat → Int32) (tn : Int32) (r : FS × Bool), i + d = c → d < n → FRel c cm ta kn r.1 → ∃ cm' ta' kn' kw' tn', f7_laysLines_87 N k73 n (cm, ta, kn, tn, kw, b01 r.2, nI i) = k73 (cm', ta', kn', tn', kw', b01 (rd N c d i r).2, nI c) ∧ FRel c cm' ta' kn' (rd N c d i r).1 := by
  have hc := hw.2.1
  intro d
  induction d with
  | zero =>
    intro n i cm ta kn kw tn r hi hn hF
    obtain ⟨n, rfl⟩ : ∃ m, n = m + 1 := ⟨n - 1, by omega⟩
    refine ⟨cm, ta, kn, kw, tn, ?_, hF⟩
    show f7_laysLines_87b N k73 _ cm ta kn tn kw (b01 r.2) (nI i) = _
    unfold f7_laysLines_87b
    rw [hw.1, if_pos (nI_le (by omega) (by omega)), show i = c by omega]
    rfl
  | succ d ih =>
    intro n i cm ta kn kw tn r hi hn hF
    obtain ⟨n, rfl⟩ : ∃ m, n = m + 1 := ⟨n - 1, by omega⟩
    show ∃ cm' ta' kn' kw' tn', f7_laysLines_87b N k73 (f7_laysLines_87 N k73 n) cm ta kn tn kw (b01 r.2) (nI i) = k73 (cm', ta', kn', tn', kw', b01 (rd N c d (i + 1) (stS N c r i)).2, nI c) ∧ FRel c cm' ta' kn' (rd N c d (i + 1) (stS N c r i)).1
    unfold f7_laysLines_87b
    rw [hw.1, if_neg (nI_ge (show i < c by omega) (by omega)), inb_nI (show i < 21 by omega) (by decide), nI_clamp (show i < 2 ^ 31 by omega), ck_t, show nI i + (1 : Int32) = nI (i + 1) from nI_add i 1]
    by_cases h : r.1 i = none
    · rw [if_pos ((pl_none hF (by omega)).mpr h), st_none h]
      exact ih n (i + 1) cm ta kn kw tn r (by omega) (by omega) hF
    · rw [if_neg (fun q => h ((pl_none hF (by omega)).mp q))]
      obtain ⟨cm', ta', kn', tn', kw', g1, g2⟩ := ask7 (kw := kw) (tn := tn) hw (show i < c by omega) hF h
      rw [g1, Option.bind_some]
      exact ih n (i + 1) cm' ta' kn' kw' tn' (stS N c r i) (by omega) (by omega) g2
/-! the measure -/
def nnf (K : Nat → Int32) : Nat → Nat
  | 0 => 0
  | x + 1 => nnf K x + if K x = -1 then 1 else 0
theorem nnf_le (K : Nat → Int32) : ∀ x, nnf K x ≤ x
  | 0 => Nat.le_refl 0
  | x + 1 => by
    have := nnf_le K x
    show nnf K x + (if K x = -1 then 1 else 0) ≤ x + 1
    split <;> omega
theorem nnf_mono {K0 K1 : Nat → Int32} (h : ∀ j, K0 j = -1 → K1 j = -1) : ∀ x, nnf K0 x ≤ nnf K1 x ∧ ∀ j, j < x → ¬ K0 j = -1 → K1 j = -1 → nnf K0 x < nnf K1 x
  | 0 => ⟨Nat.le_refl 0, fun j hj => absurd hj (Nat.not_lt_zero j)⟩
  | x + 1 => by
    obtain ⟨i1, i2⟩ := nnf_mono h x
    have e0 : nnf K0 (x + 1) = nnf K0 x + if K0 x = -1 then 1 else 0 := rfl
    have e1 : nnf K1 (x + 1) = nnf K1 x + if K1 x = -1 then 1 else 0 := rfl
    rw [e0, e1]
    have hle : (if K0 x = -1 then 1 else 0) ≤ (if K1 x = -1 then 1 else 0) := by
      by_cases q : K0 x = -1
      · rw [if_pos q, if_pos (h x q)]; exact Nat.le_refl 1
      · rw [if_neg q]; exact Nat.zero_le _
    refine ⟨by omega, fun j hj a b => ?_⟩
    by_cases e : j = x
    · subst e
      rw [if_neg a, if_pos b]; omega
    · have := i2 j (by omega) a b; omega
theorem k1_m {K0 K : Nat → Int32} : ∀ j, K0 j = -1 → k1 K0 K j = -1 := by
  intro j h
  unfold k1
  rw [h]
  split <;> rfl
theorem anyr_ex {K0 K : Nat → Int32} : ∀ (d x : Nat), anyr K0 K d x = true → ∃ j, x ≤ j ∧ j < x + d ∧ ¬ K0 j = -1 ∧ k1 K0 K j = -1
  | 0, x, h => by cases h
  | d + 1, x, h => by
    have h : (kc K0 K x || anyr K0 K d (x + 1)) = true := h
    rcases Bool.or_eq_true_iff.mp h with h1 | h1
    · obtain ⟨a, b⟩ := of_decide_eq_true (p := ¬ K0 x = -1 ∧ ¬ K0 x = K x) h1
      exact ⟨x, Nat.le_refl x, by omega, a, by unfold k1; rw [if_neg b]⟩
    · obtain ⟨j, a, b, c, e⟩ := anyr_ex d (x + 1) h1
      exact ⟨j, by omega, by omega, c, e⟩
def wt (o : Option (Nat × (Nat → Int32))) : Nat := match o with
  | none => 0
  | some (T, K) => 1 + pop6 T + nnf K 6
theorem pop6_le (T : Nat) : pop6 T ≤ 6 := by unfold pop6; omega
theorem wt_le (o : Option (Nat × (Nat → Int32))) : wt o ≤ 13 := by
  cases o with
  | none => exact Nat.zero_le 13
  | some z =>
    obtain ⟨T, K⟩ := z
    have := pop6_le T
    have := nnf_le K 6
    show 1 + pop6 T + nnf K 6 ≤ 13
    omega
theorem wt_jn {o : Option (Nat × (Nat → Int32))} {T : Nat} {K : Nat → Int32} (hT : T < 64) (ho : ∀ T0 K0, o = some (T0, K0) → T0 < 64) : wt o ≤ wt (some (jnV o T K)) ∧ (jnC o T K = true → wt o < wt (some (jnV o T K))) ∧ (jnV o T K).1 < 64 := by
  cases o with
  | none => exact ⟨Nat.zero_le _, fun _ => by show 0 < 1 + pop6 T + nnf K 6; omega, hT⟩
  | some z =>
    obtain ⟨T0, K0⟩ := z
    obtain ⟨-, o2, o3, o4, -⟩ := p_or T0 (ho T0 K0 rfl) T hT
    obtain ⟨n1, n2⟩ := nnf_mono (K0 := K0) (K1 := k1 K0 K) k1_m 6
    have e0 : wt (some (T0, K0)) = 1 + pop6 T0 + nnf K0 6 := rfl
    have e1 : wt (some (jnV (some (T0, K0)) T K)) = 1 + pop6 (T0 ||| T) + nnf (k1 K0 K) 6 := rfl
    rw [e0, e1]
    refine ⟨by omega, fun h => ?_, o2⟩
    have h : (decide (¬ (T0 ||| T) = T0) || anyr K0 K 6 0) = true := h
    rcases Bool.or_eq_true_iff.mp h with h1 | h1
    · have h2 := of_decide_eq_true (p := ¬ (T0 ||| T) = T0) h1
      omega
    · obtain ⟨j, a, b, c, e⟩ := anyr_ex 6 0 h1
      have := n2 j (by omega) c e
      omega
def mus (S : FS) : Nat → Nat
  | 0 => 0
  | k + 1 => mus S k + wt (S k)
theorem mus_le (S : FS) : ∀ k, mus S k ≤ 13 * k
  | 0 => Nat.le_refl 0
  | k + 1 => by
    have := mus_le S k
    have := wt_le (S k)
    show mus S k + wt (S k) ≤ 13 * (k + 1)
    omega
theorem mus_up (S : FS) (p : Nat) (v : Option (Nat × (Nat → Int32))) : ∀ k, mus (fun i => if i = p then v else S i) k + (if p < k then wt (S p) else 0) = mus S k + (if p < k then wt v else 0)
  | 0 => by rw [if_neg (Nat.not_lt_zero p), if_neg (Nat.not_lt_zero p)]; rfl
  | k + 1 => by
    have ih := mus_up S p v k
    have e0 : mus (fun i => if i = p then v else S i) (k + 1) = mus (fun i => if i = p then v else S i) k + wt (if k = p then v else S k) := rfl
    have e1 : mus S (k + 1) = mus S k + wt (S k) := rfl
    rw [e0, e1]
    by_cases h : k = p
    · subst h
      rw [if_neg (Nat.lt_irrefl k), if_neg (Nat.lt_irrefl k)] at ih
      rw [if_pos rfl, if_pos (Nat.lt_succ_self k), if_pos (Nat.lt_succ_self k)]
      omega
    · rw [if_neg h]
      by_cases h2 : p < k
      · rw [if_pos h2, if_pos h2] at ih
        rw [if_pos (by omega), if_pos (by omega)]
        omega
      · rw [if_neg h2, if_neg h2] at ih
        rw [if_neg (by omega), if_neg (by omega)]
        omega
def OKS (S : FS) : Prop := ∀ i T K, S i = some (T, K) → T < 64
theorem jn_mu {r : FS × Bool} {p T k : Nat} {K : Nat → Int32} (hp : p < k) (hT : T < 64) (ho : OKS r.1) : OKS (jn r p T K).1 ∧ mus r.1 k ≤ mus (jn r p T K).1 k ∧ ((jn r p T K).2 = true → r.2 = true ∨ mus r.1 k < mus (jn r p T K).1 k) := by
  obtain ⟨w1, w2, w3⟩ := wt_jn (K := K) hT (fun T0 K0 h => ho p T0 K0 h)
  have hm := mus_up r.1 p (some (jnV (r.1 p) T K)) k
  rw [if_pos hp, if_pos hp] at hm
  have e : (jn r p T K).1 = fun i => if i = p then some (jnV (r.1 p) T K) else r.1 i := rfl
  rw [e]
  refine ⟨fun i T1 K1 h => ?_, by omega, fun h => ?_⟩
  · by_cases q : i = p
    · have h : (if i = p then some (jnV (r.1 p) T K) else r.1 i) = some (T1, K1) := h
      rw [if_pos q] at h
      have h2 := Option.some.inj h
      rw [h2] at w3
      exact w3
    · have h : (if i = p then some (jnV (r.1 p) T K) else r.1 i) = some (T1, K1) := h
      rw [if_neg q] at h
      exact ho i T1 K1 h
  · have h : (r.2 || jnC (r.1 p) T K) = true := h
    rcases Bool.or_eq_true_iff.mp h with h1 | h1
    · exact Or.inl h1
    · exact Or.inr (by have := w2 h1; omega)
theorem st_mu {N : Nat → Int32} {c s i : Nat} (hw : wf N c s) (hi : i < c) {r : FS × Bool} (ho : OKS r.1) : OKS (stS N c r i).1 ∧ mus r.1 (c + 1) ≤ mus (stS N c r i).1 (c + 1) ∧ ((stS N c r i).2 = true → r.2 = true ∨ mus r.1 (c + 1) < mus (stS N c r i).1 (c + 1)) := by
  obtain ⟨-, -, -, -, hk, hx, hy, hz⟩ := wf_line hw hi
  unfold stS
  cases h : r.1 i with
  | none => exact ⟨ho, Nat.le_refl _, fun q => Or.inl q⟩
  | some z =>
    obtain ⟨T, K⟩ := z
    have hT := ho i T K h
    dsimp only
    by_cases h7 : ln N i 0 = 7
    · rw [if_pos h7]
      have first : ∀ r1 : FS × Bool, r1 = (if K (ln N i 1) = 0 then r else jn r (min (ln N i 2) c) T K) → OKS r1.1 ∧ mus r.1 (c + 1) ≤ mus r1.1 (c + 1) ∧ (r1.2 = true → r.2 = true ∨ mus r.1 (c + 1) < mus r1.1 (c + 1)) := by
        intro r1 e
        by_cases k0 : K (ln N i 1) = 0
        · rw [if_pos k0] at e
          rw [e]
          exact ⟨ho, Nat.le_refl _, fun q => Or.inl q⟩
        · rw [if_neg k0] at e
          rw [e]
          exact jn_mu (by omega) hT ho
      obtain ⟨f1, f2, f3⟩ := first _ rfl
      generalize (if K (ln N i 1) = 0 then r else jn r (min (ln N i 2) c) T K) = r1 at f1 f2 f3 ⊢
      by_cases km : K (ln N i 1) = -1 ∨ K (ln N i 1) = 0
      · rw [if_pos km]
        obtain ⟨g1, g2, g3⟩ := jn_mu (K := K) (show i + 1 < c + 1 by omega) hT f1
        refine ⟨g1, by omega, fun q => ?_⟩
        rcases g3 q with g | g
        · rcases f3 g with f | f
          · exact Or.inl f
          · exact Or.inr (by omega)
        · exact Or.inr (by omega)
      · rw [if_neg km]
        exact ⟨f1, f2, f3⟩
    · rw [if_neg h7]
      exact jn_mu (by omega) (setb_lt hT hx _) ho
theorem rd_mu {N : Nat → Int32} {c s : Nat} (hw : wf N c s) : ∀ (d i : Nat) (r : FS × Bool), i + d = c → OKS r.1 → OKS (rd N c d i r).1 ∧ mus r.1 (c + 1) ≤ mus (rd N c d i r).1 (c + 1) ∧ ((rd N c d i r).2 = true → r.2 = true ∨ mus r.1 (c + 1) < mus (rd N c d i r).1 (c + 1))
  | 0, i, r, hi, ho => ⟨ho, Nat.le_refl _, fun q => Or.inl q⟩
  | d + 1, i, r, hi, ho => by
    obtain ⟨a1, a2, a3⟩ := st_mu hw (show i < c by omega) ho
    obtain ⟨b1, b2, b3⟩ := rd_mu hw d (i + 1) (stS N c r i) (by omega) a1
    refine ⟨b1, Nat.le_trans a2 b2, fun q => ?_⟩
    rcases b3 q with g | g
    · rcases a3 g with f | f
      · exact Or.inl f
      · exact Or.inr (Nat.lt_of_lt_of_le f b2)
    · exact Or.inr (Nat.lt_of_le_of_lt a2 g)
def lim (N : Nat → Int32) (c : Nat) : Nat → FS → FS
  | 0, S => S
  | d + 1, S => if (rd N c c 0 (S, false)).2 = true then lim N c d (rd N c c 0 (S, false)).1 else (rd N c c 0 (S, false)).1
def S0 (b : Nat) : FS := fun i => if i = 0 then some (b, fun _ => -1) else none
/-- what the lines tell -/
def flw (N : Nat → Int32) (c b : Nat) : FS := lim N c 267 (S0 b)
theorem lim0 {N : Nat → Int32} {c s : Nat} (hw : wf N c s) : ∀ (d n r : Nat) (cm ta kn oK : Nat → Int32) (oT : Int32) (S : FS), 274 ≤ mus S (c + 1) + d → r + d ≤ 274 → d + 1 < n → OKS S → FRel c cm ta kn S → ∃ cm' ta' kn' oK' oT', f0_find_10 N n (cm, ta, kn, oK, oT, b01 true, nI r) = some (cm', ta', kn', oK', oT', b01 false) ∧ FRel c cm' ta' kn' (lim N c d S) := by
  have hc := hw.2.1
  intro d
  induction d with
  | zero =>
    intro n r cm ta kn oK oT S hm hr hn ho hF
    have := mus_le S (c + 1)
    omega
  | succ d ih =>
    intro n r cm ta kn oK oT S hm hr hn ho hF
    obtain ⟨n, rfl⟩ : ∃ m, n = m + 1 := ⟨n - 1, by omega⟩
    show ∃ cm' ta' kn' oK' oT', f0_find_10b N (f0_find_10 N n) cm ta kn oK oT (b01 true) (nI r) = _ ∧ FRel c cm' ta' kn' (if (rd N c c 0 (S, false)).2 = true then lim N c d (rd N c c 0 (S, false)).1 else (rd N c c 0 (S, false)).1)
    unfold f0_find_10b
    rw [if_neg (show ¬ b01 true = 0 from one_ne), if_neg (show ¬ (274 : Int32) ≤ nI r from (nI_ge (by omega) (by decide) : ¬ nI 274 ≤ nI r))]
    obtain ⟨cm1, ta1, kn1, oK1, oT1, g1, g2⟩ := fin31 hw (f0_find_10 N n) (nI r) c 1000 0 cm ta kn oK oT (S, false) (Nat.zero_add c) (by omega) hF
    obtain ⟨u1, u2, u3⟩ := rd_mu hw c 0 (S, false) (Nat.zero_add c) ho
    rw [show (0 : Int32) = b01 false from rfl, show f0_find_31 N (f0_find_10 N n) 1000 (cm, ta, kn, oK, oT, b01 false, nI r, b01 false) = _ from g1, show nI r + (1 : Int32) = nI (r + 1) from nI_add r 1]
    cases hch : (rd N c c 0 (S, false)).2 with
    | true =>
      rw [if_pos rfl]
      rcases u3 hch with u | u
      · cases u
      · have u : mus S (c + 1) < mus (rd N c c 0 (S, false)).1 (c + 1) := u
        exact ih n (r + 1) cm1 ta1 kn1 oK1 oT1 _ (by omega) (by omega) (by omega) u1 g2
    | false =>
      rw [if_neg (by decide)]
      refine ⟨cm1, ta1, kn1, oK1, oT1, ?_, g2⟩
      obtain ⟨n, rfl⟩ : ∃ m, n = m + 1 := ⟨n - 1, by omega⟩
      show f0_find_10b N (f0_find_10 N n) cm1 ta1 kn1 oK1 oT1 (b01 false) (nI (r + 1)) = _
      unfold f0_find_10b
      rw [if_pos (show b01 false = 0 from rfl)]
theorem lim7 {N : Nat → Int32} {c s : Nat} (hw : wf N c s) : ∀ (d n : Nat) (cm ta kn kw : Nat → Int32) (tn x1 : Int32) (S : FS), 274 ≤ mus S (c + 1) + d → d + 1 < n → OKS S → FRel c cm ta kn S → ∃ cm' ta' kn' kw' tn', f7_laysLines_73 N n (cm, ta, kn, tn, kw, b01 true, x1) = some (cm', ta', kn', tn', kw', b01 false) ∧ FRel c cm' ta' kn' (lim N c d S) := by
  have hc := hw.2.1
  intro d
  induction d with
  | zero =>
    intro n cm ta kn kw tn x1 S hm hn ho hF
    have := mus_le S (c + 1)
    omega
  | succ d ih =>
    intro n cm ta kn kw tn x1 S hm hn ho hF
    obtain ⟨n, rfl⟩ : ∃ m, n = m + 1 := ⟨n - 1, by omega⟩
    show ∃ cm' ta' kn' kw' tn', f7_laysLines_73b N (f7_laysLines_73 N n) cm ta kn tn kw (b01 true) x1 = _ ∧ FRel c cm' ta' kn' (if (rd N c c 0 (S, false)).2 = true then lim N c d (rd N c c 0 (S, false)).1 else (rd N c c 0 (S, false)).1)
    unfold f7_laysLines_73b
    rw [if_neg (show ¬ b01 true = 0 from one_ne)]
    obtain ⟨cm1, ta1, kn1, kw1, tn1, g1, g2⟩ := lay87 hw (f7_laysLines_73 N n) c 1000 0 cm ta kn kw tn (S, false) (Nat.zero_add c) (by omega) hF
    obtain ⟨u1, u2, u3⟩ := rd_mu hw c 0 (S, false) (Nat.zero_add c) ho
    rw [show f7_laysLines_87 N (f7_laysLines_73 N n) 1000 (cm, ta, kn, tn, kw, (0 : Int32), (0 : Int32)) = _ from g1]
    cases hch : (rd N c c 0 (S, false)).2 with
    | true =>
      rw [if_pos rfl]
      rcases u3 hch with u | u
      · cases u
      · have u : mus S (c + 1) < mus (rd N c c 0 (S, false)).1 (c + 1) := u
        exact ih n cm1 ta1 kn1 kw1 tn1 (nI c) _ (by omega) (by omega) u1 g2
    | false =>
      rw [if_neg (by decide)]
      refine ⟨cm1, ta1, kn1, kw1, tn1, ?_, g2⟩
      obtain ⟨n, rfl⟩ : ∃ m, n = m + 1 := ⟨n - 1, by omega⟩
      show f7_laysLines_73b N (f7_laysLines_73 N n) cm1 ta1 kn1 tn1 kw1 (b01 false) (nI c) = _
      unfold f7_laysLines_73b
      rw [if_pos (show b01 false = 0 from rfl)]
theorem S0_ok {b : Nat} (hb : b < 64) : OKS (S0 b) := by
  intro i T K h
  unfold S0 at h
  by_cases e : i = 0
  · rw [if_pos e] at h; cases h; exact hb
  · rw [if_neg e] at h; cases h
theorem S0_mu (b c : Nat) : 7 ≤ mus (S0 b) (c + 1) := by
  have h : ∀ k, 7 ≤ mus (S0 b) (k + 1) := by
    intro k
    induction k with
    | zero =>
      show 7 ≤ 0 + wt (S0 b 0)
      have e : wt (S0 b 0) = 1 + pop6 b + nnf (fun _ => -1) 6 := rfl
      rw [e, show nnf (fun _ => (-1 : Int32)) 6 = 6 by decide +kernel]
      omega
    | succ k ih => exact Nat.le_trans ih (Nat.le_add_right _ _)
  exact h c
theorem setc0 (ta kn : Nat → Int32) (ch v : Int32) : ∀ (d n x : Nat) (cm : Nat → Int32), x + d = 21 → d < n → (∀ j, j < x → cm j = if j = 0 then 1 else 0) → ∃ cm', f0_setOut_2 n (cm, ta, kn, ch, v, nI x) = f0_setOut_31 1000 (cm', ta, kn, ch, v, 0) ∧ ∀ j, j < 21 → cm' j = if j = 0 then 1 else 0 := by
  intro d
  induction d with
  | zero =>
    intro n x cm hx hn h1
    obtain ⟨n, rfl⟩ : ∃ m, n = m + 1 := ⟨n - 1, by omega⟩
    refine ⟨cm, ?_, fun j hj => h1 j (by omega)⟩
    show f0_setOut_2b _ cm ta kn ch v (nI x) = _
    unfold f0_setOut_2b
    rw [if_pos (show (21 : Int32) ≤ nI x from (nI_le (by omega) (by omega) : nI 21 ≤ nI x))]
  | succ d ih =>
    intro n x cm hx hn h1
    obtain ⟨n, rfl⟩ : ∃ m, n = m + 1 := ⟨n - 1, by omega⟩
    show ∃ cm', f0_setOut_2b (f0_setOut_2 n) cm ta kn ch v (nI x) = _ ∧ _
    unfold f0_setOut_2b
    rw [if_neg (show ¬ (21 : Int32) ≤ nI x from (nI_ge (by omega) (by omega) : ¬ nI 21 ≤ nI x)), inb_nI (show x < 21 by omega) (by decide), nI_clamp (show x < 2 ^ 31 by omega), show nI x + (1 : Int32) = nI (x + 1) from nI_add x 1]
    simp only [ck_t]
    have step : ∀ v1 : Int32, v1 = (if x = 0 then 1 else 0) → ∃ cm', f0_setOut_2 n (upd cm x v1, ta, kn, ch, v, nI (x + 1)) = f0_setOut_31 1000 (cm', ta, kn, ch, v, 0) ∧ ∀ j, j < 21 → cm' j = if j = 0 then 1 else 0 := by
      intro v1 hv
      refine ih n (x + 1) _ (by omega) (by omega) (fun j hj => ?_)
      by_cases e : j = x
      · rw [e, pu_eq, hv]
      · rw [pu_ne e]; exact h1 j (by omega)
    by_cases h0 : x = 0
    · rw [if_pos (show nI x = 0 by rw [h0]; rfl)]
      exact step 1 (by rw [if_pos h0])
    · rw [if_neg (nI_ne0 (by omega) (by omega))]
      exact step 0 (by rw [if_neg h0])
theorem setk0 (cm ta : Nat → Int32) (ch v : Int32) : ∀ (d n x : Nat) (kn : Nat → Int32), x + d = 6 → d < n → (∀ j, j < x → kn j = -1) → ∃ kn', f0_setOut_31 n (cm, ta, kn, ch, v, nI x) = some (cm, upd ta 0 v, kn', 1) ∧ ∀ j, j < 6 → kn' j = -1 := by
  intro d
  induction d with
  | zero =>
    intro n x kn hx hn h1
    obtain ⟨n, rfl⟩ : ∃ m, n = m + 1 := ⟨n - 1, by omega⟩
    refine ⟨kn, ?_, fun j hj => h1 j (by omega)⟩
    show f0_setOut_31b _ cm ta kn ch v (nI x) = _
    unfold f0_setOut_31b
    rw [if_pos (show (6 : Int32) ≤ nI x from (nI_le (by omega) (by omega) : nI 6 ≤ nI x))]
    rfl
  | succ d ih =>
    intro n x kn hx hn h1
    obtain ⟨n, rfl⟩ : ∃ m, n = m + 1 := ⟨n - 1, by omega⟩
    show ∃ kn', f0_setOut_31b (f0_setOut_31 n) cm ta kn ch v (nI x) = _ ∧ _
    unfold f0_setOut_31b
    rw [if_neg (show ¬ (6 : Int32) ≤ nI x from (nI_ge (by omega) (by omega) : ¬ nI 6 ≤ nI x)), inb_nI (show x < 126 by omega) (by decide), nI_clamp (show x < 2 ^ 31 by omega), ck_t, show nI x + (1 : Int32) = nI (x + 1) from nI_add x 1]
    refine ih n (x + 1) _ (by omega) (by omega) (fun j hj => ?_)
    by_cases e : j = x
    · rw [e, pu_eq]
    · rw [pu_ne e]; exact h1 j (by omega)
theorem fnd0 {N : Nat → Int32} {c b : Nat} (hw : wf N c b) (cm ta kn oK : Nat → Int32) (oT ch : Int32) : ∃ cm' ta' kn' oK' oT', f0_find N cm ta kn oK oT ch = some (cm', ta', kn', oK', oT', 0) ∧ FRel c cm' ta' kn' (flw N c b) := by
  obtain ⟨cm1, e1, h1⟩ := setc0 ta kn ch (nI b) 21 1000 0 cm rfl (by decide) (fun j h => absurd h (Nat.not_lt_zero j))
  obtain ⟨kn1, e2, h2⟩ := setk0 cm1 ta ch (nI b) 6 1000 0 kn rfl (by decide) (fun j h => absurd h (Nat.not_lt_zero j))
  have hc := hw.2.1
  have hF : FRel c cm1 (upd ta 0 (nI b)) kn1 (S0 b) := by
    intro i hi
    unfold S0
    by_cases e : i = 0
    · subst e
      rw [if_pos rfl]
      exact ⟨by rw [h1 0 (by decide), if_pos rfl], pu_eq, hw.2.2.2.1, fun j hj => ⟨by rw [Nat.mul_zero, Nat.zero_add]; exact h2 j hj, kOK_m⟩⟩
    · rw [if_neg e]
      show cm1 i = 0
      rw [h1 i (by omega), if_neg e]
  have hm := S0_mu b c
  obtain ⟨cm', ta', kn', oK', oT', g1, g2⟩ := lim0 hw 267 1000 0 cm1 (upd ta 0 (nI b)) kn1 oK oT (S0 b) (by omega) (by decide) (by decide) (S0_ok hw.2.2.2.1) hF
  refine ⟨cm', ta', kn', oK', oT', ?_, g2⟩
  unfold f0_find f0_setOut
  rw [hw.2.2.1, show f0_setOut_2 1000 (cm, ta, kn, ch, nI b, (0 : Int32)) = _ from e1, show f0_setOut_31 1000 (cm1, ta, kn, ch, nI b, (0 : Int32)) = _ from e2, Option.bind_some]
  exact g1
theorem lay2 (N : Nat → Int32) {c s : Nat} (hw : wf N c s) (kn kw : Nat → Int32) (tn ot : Int32) : ∀ (d n x : Nat) (cm ta : Nat → Int32), x + d = c + 1 → d < n → (∀ j, j < x → cm j = 0) → ∃ cm' ta' x', f7_laysLines_2 N n (cm, ta, kn, tn, kw, ot, nI x) = f7_laysLines_32 N cm' ta' kn tn kw ot x' ∧ ∀ j, j ≤ c → cm' j = 0 := by
  have hc := hw.2.1
  intro d
  induction d with
  | zero =>
    intro n x cm ta hx hn h1
    obtain ⟨n, rfl⟩ : ∃ m, n = m + 1 := ⟨n - 1, by omega⟩
    refine ⟨cm, ta, nI x, ?_, fun j hj => h1 j (by omega)⟩
    show f7_laysLines_2b N _ cm ta kn tn kw ot (nI x) = _
    unfold f7_laysLines_2b
    rw [hw.1, if_pos (nI_lt (by omega) (by omega))]
  | succ d ih =>
    intro n x cm ta hx hn h1
    obtain ⟨n, rfl⟩ : ∃ m, n = m + 1 := ⟨n - 1, by omega⟩
    show ∃ cm' ta' x', f7_laysLines_2b N (f7_laysLines_2 N n) cm ta kn tn kw ot (nI x) = _ ∧ _
    unfold f7_laysLines_2b
    rw [hw.1, if_neg (nI_nlt (by omega) (by omega)), inb_nI (show x < 21 by omega) (by decide), nI_clamp (show x < 2 ^ 31 by omega), ck_t, ck_t, show nI x + (1 : Int32) = nI (x + 1) from nI_add x 1]
    refine ih n (x + 1) _ _ (by omega) (by omega) (fun j hj => ?_)
    by_cases e : j = x
    · rw [e, pu_eq]
    · rw [pu_ne e]; exact h1 j (by omega)
theorem lay44 (N cm ta kn : Nat → Int32) (tn ot : Int32) : ∀ (d n x : Nat) (kw : Nat → Int32), x + d = 6 → d < n → (∀ j, j < x → kw j = -1) → ∃ kw' x', f7_laysLines_44 N n (cm, ta, kn, tn, kw, ot, nI x) = f7_laysLines_63 N cm ta kn tn kw' ot x' ∧ ∀ j, j < 6 → kw' j = -1 := by
  intro d
  induction d with
  | zero =>
    intro n x kw hx hn h1
    obtain ⟨n, rfl⟩ : ∃ m, n = m + 1 := ⟨n - 1, by omega⟩
    refine ⟨kw, nI x, ?_, fun j hj => h1 j (by omega)⟩
    show f7_laysLines_44b N _ cm ta kn tn kw ot (nI x) = _
    unfold f7_laysLines_44b
    rw [if_pos (show (6 : Int32) ≤ nI x from (nI_le (by omega) (by omega) : nI 6 ≤ nI x))]
  | succ d ih =>
    intro n x kw hx hn h1
    obtain ⟨n, rfl⟩ : ∃ m, n = m + 1 := ⟨n - 1, by omega⟩
    show ∃ kw' x', f7_laysLines_44b N (f7_laysLines_44 N n) cm ta kn tn kw ot (nI x) = _ ∧ _
    unfold f7_laysLines_44b
    rw [if_neg (show ¬ (6 : Int32) ≤ nI x from (nI_ge (by omega) (by omega) : ¬ nI 6 ≤ nI x)), inb_nI (show x < 6 by omega) (by decide), nI_clamp (show x < 2 ^ 31 by omega), ck_t, show nI x + (1 : Int32) = nI (x + 1) from nI_add x 1]
    refine ih n (x + 1) _ (by omega) (by omega) (fun j hj => ?_)
    by_cases e : j = x
    · rw [e, pu_eq]
    · rw [pu_ne e]; exact h1 j (by omega)
theorem lay7 {N : Nat → Int32} {c b : Nat} (hw : wf N c b) (cm ta kn kw : Nat → Int32) (tn : Int32) (ot : Bool) : ∃ cm' ta' kn' kw' tn', f7_laysLines N cm ta kn tn kw (b01 ot) = some (cm', ta', kn', tn', kw', 0) ∧ FRel c cm' ta' kn' (flw N c b) := by
  have hc := hw.2.1
  obtain ⟨cm1, ta1, x1, e1, h1⟩ := lay2 N hw kn kw tn (b01 ot) (c + 1) 1000 0 cm ta (Nat.zero_add _) (by omega) (fun j h => absurd h (Nat.not_lt_zero j))
  obtain ⟨kw1, x2, e2, h2⟩ := lay44 N cm1 ta1 kn (nI b) (b01 ot) 6 1000 0 kw rfl (by decide) (fun j h => absurd h (Nat.not_lt_zero j))
  have hF0 : FRel c cm1 ta1 kn (fun _ => none) := fun i hi => h1 i hi
  obtain ⟨cm2, ta2, kn2, e3, h3⟩ := cm7 (ch := ot) (q := 0) hw hF0 (by decide) hw.2.2.2.1 (oK := kw1) (K := fun _ => -1) (fun j hj => ⟨h2 j hj, kOK_m⟩)
  have eS : (jn ((fun _ => none), ot) (min 0 c) b (fun _ => -1)).1 = S0 b := by
    rw [Nat.zero_min]
    rfl
  rw [eS] at h3
  have hm := S0_mu b c
  obtain ⟨cm', ta', kn', kw', tn', g1, g2⟩ := lim7 hw 267 1000 cm2 ta2 kn2 kw1 (nI b) x2 (S0 b) (by omega) (by decide) (S0_ok hw.2.2.2.1) h3
  refine ⟨cm', ta', kn', kw', tn', ?_, g2⟩
  unfold f7_laysLines
  rw [show f7_laysLines_2 N 1000 (cm, ta, kn, tn, kw, b01 ot, (0 : Int32)) = _ from e1]
  unfold f7_laysLines_32
  rw [hw.2.2.1, show f7_laysLines_44 N 1000 (cm1, ta1, kn, nI b, kw, b01 ot, (0 : Int32)) = _ from e2]
  unfold f7_laysLines_63
  rw [show f7_comesTo N (nI b) kw1 cm1 ta1 kn (b01 ot) (0 : Int32) = _ from e3, Option.bind_some]
  exact g1
