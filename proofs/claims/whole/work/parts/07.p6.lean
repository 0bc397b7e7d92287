/-! pure rows: how many unlike rows, and the other -/
def unq (F : Nat → List Nat) : Nat → List (List Nat)
  | 0 => []
  | s + 1 => if F s ∈ unq F s then unq F s else unq F s ++ [F s]
def ot (F : Nat → List Nat) : Nat → Option Nat
  | 0 => none
  | s + 1 => if F s ∈ unq F s then ot F s else if (unq F s).length = 1 then some s else ot F s
theorem unq_len (F : Nat → List Nat) : ∀ s, (unq F s).length ≤ s
  | 0 => Nat.le_refl 0
  | s + 1 => by
    have h := unq_len F s
    show (if F s ∈ unq F s then unq F s else unq F s ++ [F s]).length ≤ s + 1
    split
    · omega
    · rw [List.length_append]; show _ + 1 ≤ s + 1; omega
theorem unq_mem (F : Nat → List Nat) (P : List Nat → Prop) : ∀ s, (∀ q, q < s → P (F q)) → ∀ M ∈ unq F s, P M
  | 0, _, M, h => by cases h
  | s + 1, hP, M, h => by
    have h : M ∈ (if F s ∈ unq F s then unq F s else unq F s ++ [F s]) := h
    split at h
    · exact unq_mem F P s (fun q hq => hP q (by omega)) M h
    · rcases List.mem_append.mp h with h1 | h1
      · exact unq_mem F P s (fun q hq => hP q (by omega)) M h1
      · rw [List.mem_singleton.mp h1]; exact hP s (by omega)
theorem getD_app {α : Type} {U : List α} {L d : α} {r : Nat} (h : r < U.length) : (U ++ [L]).getD r d = U.getD r d := by
  rw [List.getD_eq_getElem?_getD, List.getD_eq_getElem?_getD, List.getElem?_append_left h]
theorem getD_app2 {α : Type} {U : List α} {L d : α} : (U ++ [L]).getD U.length d = L := by
  rw [List.getD_eq_getElem?_getD, List.getElem?_append_right (Nat.le_refl _), Nat.sub_self]; rfl
theorem take4l {N : Nat → Int32} {c b : Nat} (hw : wf N c b) : ∀ (d n s : Nat) (pk : Nat → Int64) (A sg : Nat → Int32) (sc sp cu : Int32), s + d = sE b → d < n → (∀ r, r < (unq (rnL N c b) s).length → rowP pk r ((unq (rnL N c b) s).getD r [])) → ∃ (pk' : Nat → Int64) (A' sg' : Nat → Int32) (sc' sp' cu' : Int32), f4_take_24 N n (pk, nI (unq (rnL N c b) s).length, oN (ot (rnL N c b) s), A, sg, sc, sp, cu, nI (sE b), nI s) = some (pk', nI (unq (rnL N c b) (sE b)).length, oN (ot (rnL N c b) (sE b)), A', sg', sc', sp', cu') := by
  obtain ⟨hE1, hE2, -⟩ := sE_b hw.2.2.2.2.1
  intro d
  induction d with
  | zero =>
    intro n s pk A sg sc sp cu hs hn hr
    obtain ⟨n, rfl⟩ : ∃ m, n = m + 1 := ⟨n - 1, by omega⟩
    refine ⟨pk, A, sg, sc, sp, cu, ?_⟩
    show f4_take_24b N _ pk _ _ A sg sc sp cu (nI (sE b)) (nI s) = _
    unfold f4_take_24b
    rw [if_pos (nI_le (by omega) (by omega)), show s = sE b by omega]
  | succ d ih =>
    intro n s pk A sg sc sp cu hs hn hr
    obtain ⟨n, rfl⟩ : ∃ m, n = m + 1 := ⟨n - 1, by omega⟩
    have hl := unq_len (rnL N c b) s
    have hok : ∀ q, q < s → okL (rnL N c b q) := fun q hq => okL_rn hw (by omega)
    have hLs : okL (rnL N c b s) := okL_rn hw (by omega)
    obtain ⟨A1, e1, -, -, -, -⟩ := run3 hw (show s < 2 ^ 31 by omega) A sg sc sp cu
    show ∃ (pk' : Nat → Int64) (A' sg' : Nat → Int32) (sc' sp' cu' : Int32), f4_take_24b N (f4_take_24 N n) pk _ _ A sg sc sp cu (nI (sE b)) (nI s) = _
    unfold f4_take_24b
    have e2 := pack4 (sg := putL sg 0 (rnL N c b s)) hLs (fun t ht => by have := putL_in (rnL N c b s) sg 0 t ht; rw [Nat.zero_add] at this; exact this) pk (r := (unq (rnL N c b) s).length) (by omega)
    have e3 := isNew4 (pk := pkR pk (unq (rnL N c b) s).length (rnL N c b s) 11) (U := unq (rnL N c b) s) (by omega) hLs (unq_mem _ okL s hok) (fun r h => rowP_out (by omega) (hr r h)) rowP_in
    rw [if_neg (nI_ge (by omega) (by omega)), e1, Option.bind_some, e2, Option.bind_some, e3, Option.bind_some, show nI s + (1 : Int32) = nI (s + 1) from nI_add s 1]
    by_cases hm : rnL N c b s ∈ unq (rnL N c b) s
    · rw [decide_eq_false (fun q => q hm), b01_f0, if_pos rfl]
      have u1 : unq (rnL N c b) (s + 1) = unq (rnL N c b) s := if_pos hm
      have u2 : ot (rnL N c b) (s + 1) = ot (rnL N c b) s := if_pos hm
      have h9 := ih n (s + 1) (pkR pk (unq (rnL N c b) s).length (rnL N c b s) 11) A1 (putL sg 0 (rnL N c b s)) (nI (rnL N c b s).length) (nI (rnS N c b s)) (b01 (rnC N c b s)) (by omega) (by omega) (by rw [u1]; exact fun r h => rowP_out (by omega) (hr r h))
      rw [u1, u2] at h9
      exact h9
    · rw [decide_eq_true hm, b01_t1, if_neg one_ne]
      have u1 : unq (rnL N c b) (s + 1) = unq (rnL N c b) s ++ [rnL N c b s] := if_neg hm
      have h9 := ih n (s + 1) (pkR pk (unq (rnL N c b) s).length (rnL N c b s) 11) A1 (putL sg 0 (rnL N c b s)) (nI (rnL N c b s).length) (nI (rnS N c b s)) (b01 (rnC N c b s)) (by omega) (by omega) (by
        rw [u1]
        intro r h
        rw [List.length_append] at h
        have h : r < (unq (rnL N c b) s).length + 1 := h
        by_cases e : r = (unq (rnL N c b) s).length
        · rw [e, getD_app2]; exact rowP_in
        · rw [getD_app (by omega)]; exact rowP_out e (hr r (by omega)))
      rw [u1, List.length_append, show (unq (rnL N c b) s).length + [rnL N c b s].length = (unq (rnL N c b) s).length + 1 from rfl] at h9
      by_cases e1' : (unq (rnL N c b) s).length = 1
      · have u2 : ot (rnL N c b) (s + 1) = some s := by show (if _ then _ else _) = _; rw [if_neg hm, if_pos e1']
        rw [u2] at h9
        rw [if_pos (show nI (unq (rnL N c b) s).length = (1 : Int32) by rw [e1']; rfl)]
        unfold f4_take_71
        rw [show nI (unq (rnL N c b) s).length + (1 : Int32) = nI ((unq (rnL N c b) s).length + 1) from nI_add _ 1, show nI s + (1 : Int32) = nI (s + 1) from nI_add s 1]
        exact h9
      · have u2 : ot (rnL N c b) (s + 1) = ot (rnL N c b) s := by show (if _ then _ else _) = _; rw [if_neg hm, if_neg e1']
        rw [u2] at h9
        rw [if_neg (show ¬ nI (unq (rnL N c b) s).length = (1 : Int32) from fun q => e1' ((nI_eq (b := 1) (by omega) (by decide)).mp q))]
        unfold f4_take_71
        rw [show nI (unq (rnL N c b) s).length + (1 : Int32) = nI ((unq (rnL N c b) s).length + 1) from nI_add _ 1, show nI s + (1 : Int32) = nI (s + 1) from nI_add s 1]
        exact h9
theorem take4 {N : Nat → Int32} {c b : Nat} (hw : wf N c b) (pk : Nat → Int64) (un o : Int32) (A sg : Nat → Int32) (sc sp cu : Int32) : ∃ (pk' : Nat → Int64) (A' sg' : Nat → Int32) (sc' sp' cu' : Int32), f4_take N pk un o A sg sc sp cu = some (pk', nI (unq (rnL N c b) (sE b)).length, oN (ot (rnL N c b) (sE b)), A', sg', sc', sp', cu') := by
  obtain ⟨hE1, hE2, -⟩ := sE_b hw.2.2.2.2.1
  unfold f4_take
  rw [end2 hw, Option.bind_some, if_neg (show ¬ (256 : Int32) < nI (sE b) from (nI_nlt hE2 (by decide) : ¬ nI 256 < nI (sE b)))]
  exact take4l hw (sE b) 1000 0 pk A sg sc sp cu (Nat.zero_add _) (by omega) (fun r h => absurd h (Nat.not_lt_zero r))
theorem rows23 {N : Nat → Int32} {A sg : Nat → Int32} {mn sp cu : Int32} {U : List (List Nat)} {L : List Nat} {s : Nat} (k4 : (Nat → Int32) × (Nat → Int32) × Int32 × Int32 × Int32 × Int32 × Int32 → Option (Int32 × (Nat → Int32) × (Nat → Int32) × Int32 × Int32 × Int32)) (hU : U.length < 256) (hL : okL L) (hk : ∀ M ∈ U, okL M) (h1 : ∀ r, r < U.length → rowIs sg r (U.getD r [])) (h2 : rowIs sg U.length L) : ∀ (d n k : Nat) (is : Bool), k + d = U.length → d < n → f7_rowsNow_23 N k4 n (A, sg, mn, sp, cu, nI U.length, nI s, b01 is, nI k) = k4 (A, sg, mn, sp, cu, nI (U.length + if is = true ∧ L ∉ U.drop k then 1 else 0), nI (s + 1)) := by
  intro d
  induction d with
  | zero =>
    intro n k is hk2 hn
    obtain ⟨n, rfl⟩ : ∃ m, n = m + 1 := ⟨n - 1, by omega⟩
    show f7_rowsNow_23b N k4 _ A sg mn sp cu (nI U.length) (nI s) (b01 is) (nI k) = _
    unfold f7_rowsNow_23b f7_rowsNow_66
    rw [if_pos (nI_le (by omega) (by omega)), List.drop_eq_nil_of_le (by omega), show nI s + (1 : Int32) = nI (s + 1) from nI_add s 1]
    cases is with
    | false => rw [b01_f0, if_pos rfl, if_neg (fun q => by cases q.1), show nI U.length + (0 : Int32) = nI (U.length + 0) from nI_add _ 0]
    | true => rw [b01_t1, if_neg one_ne, if_pos ⟨rfl, List.not_mem_nil⟩, show nI U.length + (1 : Int32) = nI (U.length + 1) from nI_add _ 1]
  | succ d ih =>
    intro n k is hk2 hn
    obtain ⟨n, rfl⟩ : ∃ m, n = m + 1 := ⟨n - 1, by omega⟩
    have hlt : k < U.length := by omega
    have eM : U.getD k [] = U[k] := by rw [List.getD_eq_getElem?_getD, List.getElem?_eq_getElem hlt]; rfl
    show f7_rowsNow_23b N k4 (f7_rowsNow_23 N k4 n) A sg mn sp cu (nI U.length) (nI s) (b01 is) (nI k) = _
    unfold f7_rowsNow_23b
    rw [if_neg (nI_ge hlt (by omega))]
    cases is with
    | false =>
      rw [b01_f0, if_pos rfl, if_pos rfl]
      unfold f7_rowsNow_66
      rw [if_neg (fun q => by cases q.1), show nI U.length + (0 : Int32) = nI (U.length + 0) from nI_add _ 0, show nI s + (1 : Int32) = nI (s + 1) from nI_add s 1]
    | true =>
      have h3 := h1 k hlt
      rw [eM] at h3
      have hok := hk _ (List.getElem_mem hlt)
      rw [b01_t1, if_neg one_ne, par7 (by omega) hU h3 h2, Option.bind_some, show nI k + (1 : Int32) = nI (k + 1) from nI_add k 1, List.drop_eq_getElem_cons hlt]
      by_cases e : U[k] = L
      · rw [if_pos ((oN_dif hok hL).mpr e), show (0 : Int32) = b01 false from rfl, ih n (k + 1) false (by omega) (by omega), if_neg (fun q => by cases q.1), if_neg (fun q => q.2 (by rw [e]; exact List.mem_cons_self))]
      · rw [if_neg (fun q => e ((oN_dif hok hL).mp q)), show (1 : Int32) = b01 true from rfl, ih n (k + 1) true (by omega) (by omega)]
        have e4 : (true = true ∧ L ∉ U.drop (k + 1)) ↔ (true = true ∧ L ∉ U[k] :: U.drop (k + 1)) := by
          rw [List.mem_cons]
          exact ⟨fun q => ⟨rfl, fun z => z.elim (fun y => e y.symm) q.2⟩, fun q => ⟨rfl, fun z => q.2 (Or.inr z)⟩⟩
        by_cases h5 : true = true ∧ L ∉ U.drop (k + 1)
        · rw [if_pos h5, if_pos (e4.mp h5)]
        · rw [if_neg h5, if_neg (fun q => h5 (e4.mpr q))]
theorem rows7l {N : Nat → Int32} {c b : Nat} (hw : wf N c b) : ∀ (d n s : Nat) (A sg : Nat → Int32) (mn sp cu : Int32), s + d = sE b → d < n → (∀ r, r < (unq (rnL N c b) s).length → rowIs sg r ((unq (rnL N c b) s).getD r [])) → ∃ (A' sg' : Nat → Int32) (mn' sp' cu' : Int32), f7_rowsNow_4 N n (A, sg, mn, sp, cu, nI (unq (rnL N c b) s).length, nI s) = some (nI (unq (rnL N c b) (sE b)).length, A', sg', mn', sp', cu') := by
  obtain ⟨hE1, hE2, -⟩ := sE_b hw.2.2.2.2.1
  intro d
  induction d with
  | zero =>
    intro n s A sg mn sp cu hs hn hr
    obtain ⟨n, rfl⟩ : ∃ m, n = m + 1 := ⟨n - 1, by omega⟩
    refine ⟨A, sg, mn, sp, cu, ?_⟩
    show f7_rowsNow_4b N _ A sg mn sp cu _ (nI s) = _
    unfold f7_rowsNow_4b
    rw [end7 hw, Option.bind_some, if_pos (nI_le (by omega) (by omega)), show s = sE b by omega]
  | succ d ih =>
    intro n s A sg mn sp cu hs hn hr
    obtain ⟨n, rfl⟩ : ∃ m, n = m + 1 := ⟨n - 1, by omega⟩
    have hl := unq_len (rnL N c b) s
    have hLs : okL (rnL N c b s) := okL_rn hw (by omega)
    obtain ⟨A1, e1, -⟩ := run7 hw (show s < 2 ^ 31 by omega) (show (unq (rnL N c b) s).length < 256 by omega) A sg mn sp cu
    show ∃ (A' sg' : Nat → Int32) (mn' sp' cu' : Int32), f7_rowsNow_4b N (f7_rowsNow_4 N n) A sg mn sp cu _ (nI s) = _
    unfold f7_rowsNow_4b
    rw [end7 hw, Option.bind_some, if_neg (nI_ge (by omega) (by omega)), e1, Option.bind_some]
    have hr2 : ∀ r, r < (unq (rnL N c b) s).length → rowIs (padL (putL sg (61 * (unq (rnL N c b) s).length) (rnL N c b s)) (unq (rnL N c b) s).length (rnL N c b s).length) r ((unq (rnL N c b) s).getD r []) := fun r h => row_out hLs.1 (by omega) (hr r h)
    rw [show (1 : Int32) = b01 true from rfl, show (0 : Int32) = nI 0 from rfl, rows23 (U := unq (rnL N c b) s) (L := rnL N c b s) (f7_rowsNow_4 N n) (by omega) hLs (unq_mem _ okL s (fun q hq => okL_rn hw (by omega))) hr2 row_in (unq (rnL N c b) s).length 1000 0 true (Nat.zero_add _) (by omega), List.drop_zero]
    by_cases hm : rnL N c b s ∈ unq (rnL N c b) s
    · have u1 : unq (rnL N c b) (s + 1) = unq (rnL N c b) s := if_pos hm
      have h9 := ih n (s + 1) A1 _ (nI (rnL N c b s).length) (nI (rnS N c b s)) (b01 (rnC N c b s)) (by omega) (by omega) (by rw [u1]; exact hr2)
      rw [u1] at h9
      rw [if_neg (fun q => q.2 hm), Nat.add_zero]
      exact h9
    · have u1 : unq (rnL N c b) (s + 1) = unq (rnL N c b) s ++ [rnL N c b s] := if_neg hm
      have h9 := ih n (s + 1) A1 (padL (putL sg (61 * (unq (rnL N c b) s).length) (rnL N c b s)) (unq (rnL N c b) s).length (rnL N c b s).length) (nI (rnL N c b s).length) (nI (rnS N c b s)) (b01 (rnC N c b s)) (by omega) (by omega) (by
        rw [u1]
        intro r h
        rw [List.length_append] at h
        have h : r < (unq (rnL N c b) s).length + 1 := h
        by_cases e : r = (unq (rnL N c b) s).length
        · rw [e, getD_app2]; exact row_in
        · rw [getD_app (by omega)]; exact hr2 r (by omega))
      rw [u1, List.length_append, show (unq (rnL N c b) s).length + [rnL N c b s].length = (unq (rnL N c b) s).length + 1 from rfl] at h9
      rw [if_pos ⟨rfl, hm⟩]
      exact h9
theorem rows7 {N : Nat → Int32} {c b : Nat} (hw : wf N c b) (A sg : Nat → Int32) (mn sp cu : Int32) : ∃ (A' sg' : Nat → Int32) (mn' sp' cu' : Int32), f7_rowsNow N A sg mn sp cu = some (nI (unq (rnL N c b) (sE b)).length, A', sg', mn', sp', cu') := by
  obtain ⟨hE1, hE2, -⟩ := sE_b hw.2.2.2.2.1
  exact rows7l hw (sE b) 1000 0 A sg mn sp cu (Nat.zero_add _) (by omega) (fun r h => absurd h (Nat.not_lt_zero r))
def lkf (F : Nat → List Nat) : Nat → Nat → Option Nat
  | 0, _ => none
  | d + 1, s => if F 0 = F s then lkf F d (s + 1) else some s
theorem leak7l {N : Nat → Int32} {c b : Nat} (hw : wf N c b) : ∀ (d n s : Nat) (A sg : Nat → Int32) (mn sp cu : Int32), s + d = sE b → d < n → rowIs sg 0 (rnL N c b 0) → ∃ (A' sg' : Nat → Int32) (mn' sp' cu' : Int32), f7_leakNow_8 N n (A, sg, mn, sp, cu, nI s) = some (oN (lkf (rnL N c b) d s), A', sg', mn', sp', cu') := by
  obtain ⟨hE1, hE2, -⟩ := sE_b hw.2.2.2.2.1
  intro d
  induction d with
  | zero =>
    intro n s A sg mn sp cu hs hn hr
    obtain ⟨n, rfl⟩ : ∃ m, n = m + 1 := ⟨n - 1, by omega⟩
    refine ⟨A, sg, mn, sp, cu, ?_⟩
    show f7_leakNow_8b N _ A sg mn sp cu (nI s) = _
    unfold f7_leakNow_8b
    rw [end7 hw, Option.bind_some, if_pos (nI_le (by omega) (by omega))]
    rfl
  | succ d ih =>
    intro n s A sg mn sp cu hs hn hr
    obtain ⟨n, rfl⟩ : ∃ m, n = m + 1 := ⟨n - 1, by omega⟩
    have hLs : okL (rnL N c b s) := okL_rn hw (by omega)
    have hL0 : okL (rnL N c b 0) := okL_rn hw (by decide)
    obtain ⟨A1, e1, -⟩ := run7 hw (show s < 2 ^ 31 by omega) (show 1 < 256 by decide) A sg mn sp cu
    show ∃ (A' sg' : Nat → Int32) (mn' sp' cu' : Int32), f7_leakNow_8b N (f7_leakNow_8 N n) A sg mn sp cu (nI s) = _
    unfold f7_leakNow_8b
    have r0 : rowIs (padL (putL sg (61 * 1) (rnL N c b s)) 1 (rnL N c b s).length) 0 (rnL N c b 0) := row_out hLs.1 (by decide) hr
    have e2 := par7 (p := 0) (q := 1) (by decide) (by decide) r0 (row_in (sg := sg) (r := 1) (L := rnL N c b s))
    rw [end7 hw, Option.bind_some, if_neg (nI_ge (by omega) (by omega)), show f7_goes N A sg mn sp cu (1 : Int32) (nI s) = _ from e1, Option.bind_some, show f7_partsAt (padL (putL sg (61 * 1) (rnL N c b s)) 1 (rnL N c b s).length) (0 : Int32) (1 : Int32) = _ from e2, Option.bind_some, show nI s + (1 : Int32) = nI (s + 1) from nI_add s 1]
    show ∃ (A' sg' : Nat → Int32) (mn' sp' cu' : Int32), _ = some (oN (if rnL N c b 0 = rnL N c b s then lkf (rnL N c b) d (s + 1) else some s), A', sg', mn', sp', cu')
    by_cases h : rnL N c b 0 = rnL N c b s
    · rw [if_pos ((oN_dif hL0 hLs).mpr h), if_pos h]
      exact ih n (s + 1) A1 _ _ _ _ (by omega) (by omega) r0
    · rw [if_neg (fun q => h ((oN_dif hL0 hLs).mp q)), if_neg h]
      exact ⟨_, _, _, _, _, rfl⟩
theorem leak7 {N : Nat → Int32} {c b : Nat} (hw : wf N c b) (A sg : Nat → Int32) (mn sp cu : Int32) : ∃ (A' sg' : Nat → Int32) (mn' sp' cu' : Int32), f7_leakNow N A sg mn sp cu = some (oN (lkf (rnL N c b) (sE b - 1) 1), A', sg', mn', sp', cu') := by
  obtain ⟨hE1, hE2, -⟩ := sE_b hw.2.2.2.2.1
  obtain ⟨A1, e1, -⟩ := run7 hw (show 0 < 2 ^ 31 by decide) (show 0 < 256 by decide) A sg mn sp cu
  unfold f7_leakNow
  rw [show f7_goes N A sg mn sp cu (0 : Int32) (0 : Int32) = _ from e1, Option.bind_some]
  exact leak7l hw (sE b - 1) 1000 1 A1 _ _ _ _ (by omega) (by omega) row_in
theorem ot_inv (F : Nat → List Nat) : ∀ s, (ot F (s + 1) = none → unq F (s + 1) = [F 0] ∧ ∀ q, q < s + 1 → F 0 = F q) ∧ ∀ q, ot F (s + 1) = some q → 2 ≤ (unq F (s + 1)).length ∧ q < s + 1 ∧ F 0 ≠ F q ∧ ∀ p, p < q → F 0 = F p
  | 0 => by
    have h1 : ot F 1 = none := by
      show (if F 0 ∈ ([] : List (List Nat)) then _ else _) = _
      rw [if_neg List.not_mem_nil]
      rfl
    have h2 : unq F 1 = [F 0] := by
      show (if F 0 ∈ ([] : List (List Nat)) then _ else _) = _
      rw [if_neg List.not_mem_nil]
      rfl
    refine ⟨fun _ => ⟨h2, fun q hq => by rw [show q = 0 by omega]⟩, fun q h => by rw [h1] at h; cases h⟩
  | s + 1 => by
    obtain ⟨i1, i2⟩ := ot_inv F s
    have eo : ot F (s + 1 + 1) = if F (s + 1) ∈ unq F (s + 1) then ot F (s + 1) else if (unq F (s + 1)).length = 1 then some (s + 1) else ot F (s + 1) := rfl
    have eu : unq F (s + 1 + 1) = if F (s + 1) ∈ unq F (s + 1) then unq F (s + 1) else unq F (s + 1) ++ [F (s + 1)] := rfl
    cases ho : ot F (s + 1) with
    | none =>
      obtain ⟨u, a⟩ := i1 ho
      rw [eo, eu, ho, u]
      by_cases hm : F (s + 1) ∈ [F 0]
      · rw [if_pos hm, if_pos hm]
        refine ⟨fun _ => ⟨rfl, fun q hq => ?_⟩, fun q h => by cases h⟩
        by_cases e : q = s + 1
        · rw [e]; exact (List.mem_singleton.mp hm).symm
        · exact a q (by omega)
      · rw [if_neg hm, if_neg hm, if_pos (show [F 0].length = 1 from rfl)]
        refine ⟨fun h => (by cases h), fun q h => ?_⟩
        cases h
        exact ⟨Nat.le_refl 2, by omega, fun z => hm (List.mem_singleton.mpr z.symm), fun p hp => a p hp⟩
    | some q0 =>
      obtain ⟨l2, a1, a2, a3⟩ := i2 q0 ho
      rw [eo, eu, ho]
      by_cases hm : F (s + 1) ∈ unq F (s + 1)
      · rw [if_pos hm, if_pos hm]
        refine ⟨fun h => (by cases h), fun q h => ?_⟩
        cases h
        exact ⟨l2, by omega, a2, a3⟩
      · rw [if_neg hm, if_neg hm, if_neg (by omega)]
        refine ⟨fun h => (by cases h), fun q h => ?_⟩
        cases h
        exact ⟨by rw [List.length_append]; omega, by omega, a2, a3⟩
theorem lkf_inv (F : Nat → List Nat) : ∀ (d s : Nat), (∀ p, p < s → F 0 = F p) → (lkf F d s = none → ∀ p, p < s + d → F 0 = F p) ∧ ∀ q, lkf F d s = some q → q < s + d ∧ F 0 ≠ F q ∧ ∀ p, p < q → F 0 = F p
  | 0, s, h => ⟨fun _ p hp => h p hp, fun q z => by cases z⟩
  | d + 1, s, h => by
    have el : lkf F (d + 1) s = if F 0 = F s then lkf F d (s + 1) else some s := rfl
    rw [el]
    by_cases e : F 0 = F s
    · rw [if_pos e]
      obtain ⟨i1, i2⟩ := lkf_inv F d (s + 1) (fun p hp => by
        by_cases e2 : p = s
        · rw [e2]; exact e
        · exact h p (by omega))
      exact ⟨fun z p hp => i1 z p (by omega), fun q z => by obtain ⟨a, b2, c⟩ := i2 q z; exact ⟨by omega, b2, c⟩⟩
    · rw [if_neg e]
      refine ⟨fun z => (by cases z), fun q z => ?_⟩
      cases z
      exact ⟨by omega, e, h⟩
theorem ot_lk (F : Nat → List Nat) {E : Nat} (hE : 1 ≤ E) : ot F E = lkf F (E - 1) 1 := by
  obtain ⟨s, rfl⟩ : ∃ s, E = s + 1 := ⟨E - 1, by omega⟩
  rw [Nat.add_sub_cancel]
  obtain ⟨i1, i2⟩ := ot_inv F s
  obtain ⟨j1, j2⟩ := lkf_inv F s 1 (fun p hp => by rw [show p = 0 by omega])
  cases ho : ot F (s + 1) with
  | none =>
    obtain ⟨-, a⟩ := i1 ho
    cases hl : lkf F s 1 with
    | none => rfl
    | some q => obtain ⟨b1, b2, -⟩ := j2 q hl; exact absurd (a q (by omega)) b2
  | some q0 =>
    obtain ⟨-, a1, a2, a3⟩ := i2 q0 ho
    cases hl : lkf F s 1 with
    | none => exact absurd (j1 hl q0 (by omega)) a2
    | some q =>
      obtain ⟨b1, b2, b3⟩ := j2 q hl
      rcases Nat.lt_trichotomy q q0 with h | h | h
      · exact absurd (a3 q h) b2
      · rw [h]
      · exact absurd (b3 q0 h) a2
