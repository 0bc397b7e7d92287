/-! the law from its start to its end -/
theorem wf_N0 : wf N0 0 0 := by
  refine ⟨if_neg (by omega), by decide, if_neg (by omega), by decide, by decide, fun j hj => ?_, fun j hj => ?_, fun i hi => absurd hi (Nat.not_lt_zero i), fun j hj => if_neg (by omega)⟩
  · rw [N0_s hj]; decide +kernel
  · have e : N0 (8 + j) = nI j := by
      show (if 8 ≤ 8 + j ∧ 8 + j < 8 + 16 then nI (8 + j - 8) else 0) = nI j
      rw [if_pos (by omega), Nat.add_sub_cancel_left]
    rw [e]
    exact inb_nI hj (by decide)
theorem RR0 : RR SS0 MM0 := RR_i ⟨0, 0, wf_N0⟩ rfl ⟨0, 0, rfl, rfl, rfl, by decide, by decide, fun k hk => absurd hk (Nat.not_lt_zero k)⟩ ⟨rfl, rfl, rfl⟩ ⟨rfl, 0, by decide, rfl, rfl⟩ rfl (Or.inl rfl) (Or.inl rfl)
set_option maxHeartbeats 4000000 in
set_option maxRecDepth 100000 in
theorem law_loop {p : Program} {l : Launch} {e : Env} {s : State} {m : MethodId} {args : Array Value} {below : List Frame} {meth : Method} {c : Code} {G : gG} {A : Nat → Prop} {Q : State → Prop} (C : CX p s m args meth c G A cL_law 4 RL wsL_law) {b L : Nat} {xs : Nat → Int32} {ac am : Nat → Nat} (X : SX s A b L xs) (hL : L ≤ 2560) (kend : ∀ (i : Nat) (S : CS) (M : MS), GG p l e room_1 s m args below meth c G A 4 62 21117 Q (wC G ac S ++ wM G am M) [(0, .ref b), (1, .ref (ac 0)), (2, .ref (am 0)), (3, .int (nI i))] 699 []) : ∀ (d i : Nat) (S : CS) (M : MS), L ≤ i + d → i ≤ 2570 → RR S M → GG p l e room_1 s m args below meth c G A 4 62 21117 Q (wC G ac S ++ wM G am M) [(0, .ref b), (1, .ref (ac 0)), (2, .ref (am 0)), (3, .int (nI i))] 18 [] := by
  have z5 : (Int32.ofNat L - 5).toInt = (L : Int) - 5 := by
    have h1 : Int32.ofNat L = nI L := rfl
    have h2 : (5 : Int32).toInt = 5 := by decide +kernel
    rw [h1, Int32.toInt_sub, nI_toInt (by omega), h2]
    have : (L : Int) - 5 = ((L : Int) - 5).bmod (2 ^ 32) := by
      rw [Int.bmod_def]
      split <;> omega
    exact this.symm
  intro d
  induction d with
  | zero =>
    intro i S M hd hi hR
    refine g_iload_n C dL_law_18 rfl 3 rfl ?_
    refine g_aload_n C dL_law_19 rfl 0 rfl ?_
    refine g_slen C X dL_law_20 ?_
    refine g_iconst (v := (5 : Int32)) C dL_law_21 (by decide +kernel) ?_
    refine g_isub C dL_law_22 ?_
    exact g_icmp_gt (tgt := 699) C dL_law_23 (by decide) (fun _ => kend i S M) (fun z => absurd (by rw [i_lt, z5, nI_toInt (by omega)]; omega) z)
  | succ d ih =>
    intro i S M hd hi hR
    refine g_iload_n C dL_law_18 rfl 3 rfl ?_
    refine g_aload_n C dL_law_19 rfl 0 rfl ?_
    refine g_slen C X dL_law_20 ?_
    refine g_iconst (v := (5 : Int32)) C dL_law_21 (by decide +kernel) ?_
    refine g_isub C dL_law_22 ?_
    refine g_icmp_gt (tgt := 699) C dL_law_23 (by decide) (fun _ => kend i S M) (fun z => ?_)
    rw [i_lt, z5, nI_toInt (by omega)] at z
    have kk : ∀ (S : CS) (M : MS), RR S M → GG p l e room_1 s m args below meth c G A 4 62 21117 Q (wC G ac S ++ wM G am M) [(0, .ref b), (1, .ref (ac 0)), (2, .ref (am 0)), (3, .int (nI i))] 693 [] := by
      intro S M hR
      refine g_iinc (v := nI (i + 5)) C dL_law_693 3 rfl (nI_add i 5) (by decide) [1, 2, 3, 0] rfl ?_
      refine g_goto (tgt := 18) C dL_law_696 (by decide) ?_
      exact ih (i + 5) S M (by omega) (by omega) hR
    refine g_aload_n C dL_law_26 rfl 0 rfl ?_
    refine g_iload_n C dL_law_27 rfl 3 rfl ?_
    refine g_sld (v := xs i) C X (inb_nI (show i < L by omega) (by omega)) (by rw [nI_clamp (show i < 2 ^ 31 by omega)]) dL_law_28 ?_
    refine g_bipush (v := (31 : Int32)) C dL_law_29 (by decide +kernel) ?_
    refine g_iand C dL_law_31 ?_
    by_cases ho : (xs i &&& 31).toInt < 0 ∨ 21 < (xs i &&& 31).toInt
    · exact g_tableOut (tgt := 693) C dL_law_32 ho (by decide) (kk S M hR)
    · obtain ⟨k, hk22, hk⟩ : ∃ k : Nat, k < 22 ∧ xs i &&& 31 = nI k := by
        refine ⟨(xs i &&& 31).toInt.toNat, by omega, ?_⟩
        rw [i_eq, nI_toInt (by omega)]
        omega
      have hkk : k = 0 ∨ k = 1 ∨ k = 2 ∨ k = 3 ∨ k = 4 ∨ k = 5 ∨ k = 6 ∨ k = 7 ∨ k = 8 ∨ k = 9 ∨ k = 10 ∨ k = 11 ∨ k = 12 ∨ k = 13 ∨ k = 14 ∨ k = 15 ∨ k = 16 ∨ k = 17 ∨ k = 18 ∨ k = 19 ∨ k = 20 ∨ k = 21 := by omega
      rcases hkk with rfl | rfl | rfl | rfl | rfl | rfl | rfl | rfl | rfl | rfl | rfl | rfl | rfl | rfl | rfl | rfl | rfl | rfl | rfl | rfl | rfl | rfl
      · rw [hk]
        refine g_tableIn (off := 104) (tgt := 136) C dL_law_32 (by decide +kernel) (by decide +kernel) (by decide +kernel) (by decide) ?_
        exact law_line C X (by omega) hL hR kk
      · rw [hk]
        refine g_tableIn (off := 157) (tgt := 189) C dL_law_32 (by decide +kernel) (by decide +kernel) (by decide +kernel) (by decide) ?_
        exact law_drops C X (by omega) hL hR kk
      · rw [hk]
        refine g_tableIn (off := 180) (tgt := 212) C dL_law_32 (by decide +kernel) (by decide +kernel) (by decide +kernel) (by decide) ?_
        exact law_table C X (by omega) hL hR kk
      · rw [hk]
        refine g_tableIn (off := 213) (tgt := 245) C dL_law_32 (by decide +kernel) (by decide +kernel) (by decide +kernel) (by decide) ?_
        exact law_start C X (by omega) hL hR kk
      · rw [hk]
        refine g_tableIn (off := 246) (tgt := 278) C dL_law_32 (by decide +kernel) (by decide +kernel) (by decide +kernel) (by decide) ?_
        exact law_secret C X (by omega) hL hR kk
      · rw [hk]
        refine g_tableIn (off := 279) (tgt := 311) C dL_law_32 (by decide +kernel) (by decide +kernel) (by decide +kernel) (by decide) ?_
        exact law_run C X (by omega) hL hR kk
      · rw [hk]
        refine g_tableIn (off := 312) (tgt := 344) C dL_law_32 (by decide +kernel) (by decide +kernel) (by decide +kernel) (by decide) ?_
        exact law_sight C X (by omega) hL hR kk
      · rw [hk]
        refine g_tableIn (off := 345) (tgt := 377) C dL_law_32 (by decide +kernel) (by decide +kernel) (by decide +kernel) (by decide) ?_
        exact law_parts C X (by omega) hL hR kk
      · rw [hk]
        refine g_tableIn (off := 378) (tgt := 410) C dL_law_32 (by decide +kernel) (by decide +kernel) (by decide +kernel) (by decide) ?_
        exact law_leak C X (by omega) hL hR kk
      · rw [hk]
        refine g_tableIn (off := 391) (tgt := 423) C dL_law_32 (by decide +kernel) (by decide +kernel) (by decide +kernel) (by decide) ?_
        exact law_rows C X (by omega) hL hR kk
      · rw [hk]
        refine g_tableIn (off := 404) (tgt := 436) C dL_law_32 (by decide +kernel) (by decide +kernel) (by decide +kernel) (by decide) ?_
        exact law_ahead C X (by omega) hL hR kk
      · rw [hk]
        refine g_tableIn (off := 447) (tgt := 479) C dL_law_32 (by decide +kernel) (by decide +kernel) (by decide +kernel) (by decide) ?_
        exact law_reached C X (by omega) hL hR kk
      · rw [hk]
        refine g_tableIn (off := 470) (tgt := 502) C dL_law_32 (by decide +kernel) (by decide +kernel) (by decide +kernel) (by decide) ?_
        exact law_alarm C X (by omega) hL hR kk
      · rw [hk]
        refine g_tableIn (off := 493) (tgt := 525) C dL_law_32 (by decide +kernel) (by decide +kernel) (by decide +kernel) (by decide) ?_
        exact law_accepted C X (by omega) hL hR kk
      · rw [hk]
        refine g_tableIn (off := 506) (tgt := 538) C dL_law_32 (by decide +kernel) (by decide +kernel) (by decide +kernel) (by decide) ?_
        exact law_of C X (by omega) hL hR kk
      · rw [hk]
        refine g_tableIn (off := 539) (tgt := 571) C dL_law_32 (by decide +kernel) (by decide +kernel) (by decide +kernel) (by decide) ?_
        exact law_told C X (by omega) hL hR kk
      · rw [hk]
        refine g_tableIn (off := 562) (tgt := 594) C dL_law_32 (by decide +kernel) (by decide +kernel) (by decide +kernel) (by decide) ?_
        exact law_type C X (by omega) hL hR kk
      · rw [hk]
        refine g_tableIn (off := 585) (tgt := 617) C dL_law_32 (by decide +kernel) (by decide +kernel) (by decide +kernel) (by decide) ?_
        exact law_clear C X (by omega) hL hR kk
      · rw [hk]
        refine g_tableIn (off := 598) (tgt := 630) C dL_law_32 (by decide +kernel) (by decide +kernel) (by decide +kernel) (by decide) ?_
        exact law_does C X (by omega) hL hR kk
      · rw [hk]
        refine g_tableIn (off := 611) (tgt := 643) C dL_law_32 (by decide +kernel) (by decide +kernel) (by decide +kernel) (by decide) ?_
        exact law_back C X (by omega) hL hR kk
      · rw [hk]
        refine g_tableIn (off := 624) (tgt := 656) C dL_law_32 (by decide +kernel) (by decide +kernel) (by decide +kernel) (by decide) ?_
        exact law_refused C X (by omega) hL hR kk
      · rw [hk]
        refine g_tableIn (off := 647) (tgt := 679) C dL_law_32 (by decide +kernel) (by decide +kernel) (by decide +kernel) (by decide) ?_
        exact law_digest C X (by omega) hL hR kk
