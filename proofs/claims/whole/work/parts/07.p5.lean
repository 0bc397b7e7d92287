/-! pure rows: all runs side by side (the first rows, to u_tn and g_or, begun from the kit's BITS) -/
theorem wb_tb (n : Nat) : (lN n).toBitVec = BitVec.ofNat 64 n := rfl
theorem wb_inj {a b : Int64} (h : a.toBitVec = b.toBitVec) : a = b := Int64.toBitVec_inj.mp h
theorem wb_c : ∀ k, k < 64 → ((nI k).toInt64 &&& 63) = lN k := by decide +kernel
theorem wb_sm : ∀ k, k < 64 → (BitVec.ofNat 64 k).smod 64 = BitVec.ofNat 64 k := by decide +kernel
theorem wb_shl (n : Nat) {k : Nat} (hk : k < 64) : lN n <<< ((nI k).toInt64 &&& 63) = lN (n * 2 ^ k) := by
  rw [wb_c k hk]
  apply wb_inj
  rw [Int64.toBitVec_shiftLeft, wb_tb, wb_tb, wb_tb, wb_sm k hk]
  apply BitVec.eq_of_toNat_eq
  rw [BitVec.shiftLeft_eq', BitVec.toNat_shiftLeft, BitVec.toNat_ofNat, BitVec.toNat_ofNat, BitVec.toNat_ofNat, Nat.mod_eq_of_lt (show k < 2 ^ 64 by omega), Nat.shiftLeft_eq, Nat.mul_mod, Nat.mod_mod, ← Nat.mul_mod]
theorem u_tn {n : Nat} (h : n < 2 ^ 64) : (UInt64.ofNat n).toNat = n := Nat.mod_eq_of_lt h
theorem g_or {k p a b : Nat} (hp : 2 ^ k = p) (ha : a < p) (h : b * p + a < 2 ^ 64) : lN (b * p) ||| lN a = lN (b * p + a) := by
  subst hp
  have h1 : b * 2 ^ k ||| a = b * 2 ^ k + a := by rw [← Nat.shiftLeft_eq, Nat.shiftLeft_add_eq_or_of_lt ha]
  have h3 : UInt64.ofNat (b * 2 ^ k) ||| UInt64.ofNat a = UInt64.ofNat (b * 2 ^ k + a) := UInt64.toNat_inj.mp (by rw [UInt64.toNat_or, u_tn (by omega), u_tn (by omega), u_tn h, h1])
  have h2 := congrArg UInt64.toInt64 h3
  exact h2
/-- j sights from i0 on, ten bits each -/
def pw (L : List Nat) (i0 : Nat) : Nat → Nat
  | 0 => 0
  | j + 1 => pw L i0 j * 1024 + L.getD (i0 + j) 0
theorem getD_lt {L : List Nat} (h : okL L) (i : Nat) : L.getD i 0 < 1024 := by
  by_cases hi : i < L.length
  · exact (okL_at h hi).2
  · rw [List.getD_eq_getElem?_getD, List.getElem?_eq_none (by omega)]; decide
theorem pw_lt {L : List Nat} (h : okL L) (i0 : Nat) : ∀ j, pw L i0 j < 1024 ^ j
  | 0 => Nat.zero_lt_one
  | j + 1 => by
    have h1 := pw_lt h i0 j
    have h2 := getD_lt h (i0 + j)
    show pw L i0 j * 1024 + L.getD (i0 + j) 0 < 1024 ^ (j + 1)
    rw [Nat.pow_succ]
    omega
theorem pw_lt6 {L : List Nat} (h : okL L) (i0 : Nat) {j : Nat} (hj : j ≤ 6) : pw L i0 j < 2 ^ 60 := by
  have h1 := pw_lt h i0 j
  have h2 : 1024 ^ j ≤ 1024 ^ 6 := Nat.pow_le_pow_right (by decide) hj
  have h3 : (1024 : Nat) ^ 6 = 2 ^ 60 := by decide
  omega
theorem pw_dig {L M : List Nat} (hL : okL L) (hM : okL M) (i0 : Nat) : ∀ j, pw L i0 j = pw M i0 j → ∀ t, t < j → L.getD (i0 + t) 0 = M.getD (i0 + t) 0
  | 0, _, t, ht => absurd ht (Nat.not_lt_zero t)
  | j + 1, h, t, ht => by
    have h : pw L i0 j * 1024 + L.getD (i0 + j) 0 = pw M i0 j * 1024 + M.getD (i0 + j) 0 := h
    have a := getD_lt hL (i0 + j)
    have b := getD_lt hM (i0 + j)
    by_cases e : t = j
    · subst e; omega
    · exact pw_dig hL hM i0 j (by omega) t (by omega)
theorem getD_out {L : List Nat} {i : Nat} (h : L.length ≤ i) : L.getD i 0 = 0 := by
  rw [List.getD_eq_getElem?_getD, List.getElem?_eq_none h]; rfl
theorem getD_all {L M : List Nat} (hL : okL L) (hM : okL M) (h : ∀ i, i < 66 → L.getD i 0 = M.getD i 0) : L = M := by
  refine rw_eq hL hM (fun t ht => ?_)
  have e := h t (by omega)
  unfold rwL
  by_cases h1 : t < L.length
  · have a1 := okL_at hL h1
    by_cases h2 : t < M.length
    · rw [if_pos h1, if_pos h2, e]
    · have a2 := getD_out (L := M) (i := t) (by omega)
      omega
  · by_cases h2 : t < M.length
    · have a1 := okL_at hM h2
      have a2 := getD_out (L := L) (i := t) (by omega)
      omega
    · rw [if_neg h1, if_neg h2]
theorem pack28 {sg : Nat → Int32} {L : List Nat} (hL : okL L) (hs : ∀ t, t < L.length → sg t = nI (L.getD t 0)) (k8 : (Nat → Int64) × Int32 × Int32 × Int32 → Option (Nat → Int64)) (pk : Nat → Int64) (row at_ : Int32) {i0 : Nat} (hi : i0 ≤ 60) : ∀ (d n j : Nat), j + d = 6 → d < n → f4_pack_28 sg (nI L.length) k8 n (pk, row, nI (i0 + j), at_, lN (pw L i0 j), nI (i0 + 6)) = f4_pack_67 sg (nI L.length) k8 pk row (nI (i0 + 6)) at_ (lN (pw L i0 6)) (nI (i0 + 6)) := by
  intro d
  induction d with
  | zero =>
    intro n j hj hn
    obtain ⟨n, rfl⟩ : ∃ m, n = m + 1 := ⟨n - 1, by omega⟩
    show f4_pack_28b sg (nI L.length) k8 _ pk row (nI (i0 + j)) at_ (lN (pw L i0 j)) (nI (i0 + 6)) = _
    unfold f4_pack_28b
    rw [if_pos (nI_le (by omega) (by omega)), show j = 6 by omega]
  | succ d ih =>
    intro n j hj hn
    obtain ⟨n, rfl⟩ : ∃ m, n = m + 1 := ⟨n - 1, by omega⟩
    have hl := hL.1
    show f4_pack_28b sg (nI L.length) k8 (f4_pack_28 sg (nI L.length) k8 n) pk row (nI (i0 + j)) at_ (lN (pw L i0 j)) (nI (i0 + 6)) = _
    unfold f4_pack_28b
    have b1 := pw_lt6 hL i0 (show j ≤ 6 by omega)
    have e1 : sl64 (lN (pw L i0 j)) (10 : Int32) = lN (pw L i0 j * 1024) := wb_shl (pw L i0 j) (k := 10) (by decide)
    have g1 := getD_lt hL (i0 + j)
    have b2 := pw_lt6 hL i0 (show j + 1 ≤ 6 by omega)
    have e2 : pw L i0 (j + 1) = pw L i0 j * 1024 + L.getD (i0 + j) 0 := rfl
    have e3 : ∀ a : Nat, a = L.getD (i0 + j) 0 → lN (pw L i0 j * 1024) ||| (nI a).toInt64 = lN (pw L i0 (j + 1)) := by
      intro a ha
      rw [nI_l (by omega), ha, e2]
      exact g_or (k := 10) (by decide) g1 (by omega)
    rw [if_neg (nI_ge (by omega) (by omega)), e1, ← ih n (j + 1) (by omega) (by omega)]
    by_cases h : i0 + j < L.length
    · rw [if_neg (nI_ge h (by omega)), inb_nI (by omega) (by decide), ck_t, nI_clamp (by omega), hs _ h]
      unfold f4_pack_57
      rw [e3 _ rfl, show nI (i0 + j) + (1 : Int32) = nI (i0 + (j + 1)) from nI_add _ 1]
    · rw [if_pos (nI_le (by omega) (by omega))]
      unfold f4_pack_57
      rw [show (0 : Int32).toInt64 = (nI 0).toInt64 from rfl, e3 0 (getD_out (by omega)).symm, show nI (i0 + j) + (1 : Int32) = nI (i0 + (j + 1)) from nI_add _ 1]
def pkR (pk : Nat → Int64) (r : Nat) (L : List Nat) (k : Nat) : Nat → Int64 := fun j => if 11 * r ≤ j ∧ j < 11 * r + k then lN (pw L (6 * (j - 11 * r)) 6) else pk j
theorem pack8 {sg : Nat → Int32} {L : List Nat} (hL : okL L) (hs : ∀ t, t < L.length → sg t = nI (L.getD t 0)) (pk : Nat → Int64) {r : Nat} (hr : r < 256) : ∀ (d n w : Nat), w + d = 11 → d < n → f4_pack_8 sg (nI L.length) n (pkR pk r L w, nI r, nI (6 * w), nI (11 * r + w)) = some (pkR pk r L 11) := by
  intro d
  induction d with
  | zero =>
    intro n w hw hn
    obtain ⟨n, rfl⟩ : ∃ m, n = m + 1 := ⟨n - 1, by omega⟩
    show f4_pack_8b sg (nI L.length) _ (pkR pk r L w) (nI r) (nI (6 * w)) (nI (11 * r + w)) = _
    unfold f4_pack_8b
    rw [show nI r + (1 : Int32) = nI (r + 1) from nI_add r 1, show nI (r + 1) * (11 : Int32) = nI ((r + 1) * 11) from pk_mul _ 11, if_pos (nI_le (by omega) (by omega)), show w = 11 by omega]
  | succ d ih =>
    intro n w hw hn
    obtain ⟨n, rfl⟩ : ∃ m, n = m + 1 := ⟨n - 1, by omega⟩
    show f4_pack_8b sg (nI L.length) (f4_pack_8 sg (nI L.length) n) (pkR pk r L w) (nI r) (nI (6 * w)) (nI (11 * r + w)) = _
    unfold f4_pack_8b
    rw [show nI r + (1 : Int32) = nI (r + 1) from nI_add r 1, show nI (r + 1) * (11 : Int32) = nI ((r + 1) * 11) from pk_mul _ 11, if_neg (nI_ge (by omega) (by omega)), show nI (6 * w) + (6 : Int32) = nI (6 * w + 6) from nI_add _ 6]
    rw [show f4_pack_28 sg (nI L.length) (f4_pack_8 sg (nI L.length) n) 1000 (pkR pk r L w, nI r, nI (6 * w), nI (11 * r + w), (0 : Int64), nI (6 * w + 6)) = _ from pack28 hL hs (f4_pack_8 sg (nI L.length) n) (pkR pk r L w) (nI r) (nI (11 * r + w)) (i0 := 6 * w) (by omega) 6 1000 0 rfl (by decide)]
    unfold f4_pack_67
    rw [inb_nI (by omega) (by decide), ck_t, nI_clamp (by omega), show nI (11 * r + w) + (1 : Int32) = nI (11 * r + (w + 1)) from nI_add _ 1, ← ih n (w + 1) (by omega) (by omega), show 6 * (w + 1) = 6 * w + 6 by omega]
    congr 2
    funext j
    unfold vp_updL pkR
    by_cases hj : j = 11 * r + w
    · rw [if_pos hj, if_pos (by omega), hj, show 11 * r + w - 11 * r = w by omega]
    · rw [if_neg hj]
      by_cases h2 : 11 * r ≤ j ∧ j < 11 * r + w
      · rw [if_pos h2, if_pos (by omega)]
      · rw [if_neg h2, if_neg (by omega)]
theorem pack4 {sg : Nat → Int32} {L : List Nat} (hL : okL L) (hs : ∀ t, t < L.length → sg t = nI (L.getD t 0)) (pk : Nat → Int64) {r : Nat} (hr : r < 256) : f4_pack sg (nI L.length) pk (nI r) = some (pkR pk r L 11) := by
  unfold f4_pack
  rw [show nI r * (11 : Int32) = nI (11 * r) from by rw [show (11 : Int32) = nI 11 from rfl, pk_mul, Nat.mul_comm]]
  have h := pack8 hL hs pk hr 11 1000 0 rfl (by decide)
  have e : pkR pk r L 0 = pk := by funext j; unfold pkR; rw [if_neg (by omega)]
  rw [e] at h
  exact h
def rowP (pk : Nat → Int64) (r : Nat) (L : List Nat) : Prop := ∀ w, w < 11 → pk (11 * r + w) = lN (pw L (6 * w) 6)
theorem rowP_in {pk : Nat → Int64} {r : Nat} {L : List Nat} : rowP (pkR pk r L 11) r L := by
  intro w hw
  unfold pkR
  rw [if_pos (by omega), show 11 * r + w - 11 * r = w by omega]
theorem rowP_out {pk : Nat → Int64} {r q : Nat} {L M : List Nat} (h : q ≠ r) (hq : rowP pk q M) : rowP (pkR pk r L 11) q M := by
  intro w hw
  unfold pkR
  rw [if_neg (by omega)]
  exact hq w hw
theorem lg0 {x y : Int64} : lg_cmp x y = 0 ↔ x = y := by
  unfold lg_cmp
  by_cases h : x > y
  · rw [if_pos h]
    refine ⟨fun q => absurd q (by decide +kernel), fun q => ?_⟩
    rw [q] at h
    exact absurd h (Int64.lt_irrefl)
  · rw [if_neg h]
    by_cases e : x = y
    · rw [if_pos e]; exact ⟨fun _ => e, fun _ => rfl⟩
    · rw [if_neg e]; exact ⟨fun q => absurd q (by decide +kernel), fun q => absurd q e⟩
theorem alik {pk : Nat → Int64} {p q : Nat} (hp : p < 256) (hq : q < 256) : ∀ (d n w : Nat), w + d = 11 → d < n → ∃ b : Bool, f4_alike_2 pk n (nI p, nI q, nI w) = some (b01 b) ∧ (b = true ↔ ∀ j, w ≤ j → j < 11 → pk (11 * p + j) = pk (11 * q + j)) := by
  intro d
  induction d with
  | zero =>
    intro n w hw hn
    obtain ⟨n, rfl⟩ : ∃ m, n = m + 1 := ⟨n - 1, by omega⟩
    refine ⟨true, ?_, fun _ j h1 h2 => by omega, fun _ => rfl⟩
    show f4_alike_2b pk _ (nI p) (nI q) (nI w) = _
    unfold f4_alike_2b
    rw [if_pos (show (11 : Int32) ≤ nI w from (nI_le (by omega) (by omega) : nI 11 ≤ nI w))]
    rfl
  | succ d ih =>
    intro n w hw hn
    obtain ⟨n, rfl⟩ : ∃ m, n = m + 1 := ⟨n - 1, by omega⟩
    show ∃ b : Bool, f4_alike_2b pk (f4_alike_2 pk n) (nI p) (nI q) (nI w) = _ ∧ _
    unfold f4_alike_2b
    rw [if_neg (show ¬ (11 : Int32) ≤ nI w from (nI_ge (by omega) (by omega) : ¬ nI 11 ≤ nI w)), show nI p * (11 : Int32) = nI (11 * p) from by rw [show (11 : Int32) = nI 11 from rfl, pk_mul, Nat.mul_comm], show nI q * (11 : Int32) = nI (11 * q) from by rw [show (11 : Int32) = nI 11 from rfl, pk_mul, Nat.mul_comm], nI_add, nI_add, inb_nI (by omega) (by decide), inb_nI (by omega) (by decide), nI_clamp (by omega), nI_clamp (by omega), ck_t, ck_t, show nI w + (1 : Int32) = nI (w + 1) from nI_add w 1]
    by_cases h : pk (11 * p + w) = pk (11 * q + w)
    · rw [if_pos (lg0.mpr h)]
      obtain ⟨b, h1, h2⟩ := ih n (w + 1) (by omega) (by omega)
      refine ⟨b, h1, h2.trans ⟨fun h3 j h4 h5 => ?_, fun h3 j h4 h5 => h3 j (by omega) h5⟩⟩
      by_cases e : j = w
      · rw [e]; exact h
      · exact h3 j (by omega) h5
    · rw [if_neg (fun z => h (lg0.mp z))]
      exact ⟨false, rfl, fun z => (by cases z), fun z => absurd (z w (Nat.le_refl w) (by omega)) h⟩
theorem alike4 {pk : Nat → Int64} {p q : Nat} {L M : List Nat} (hp : p < 256) (hq : q < 256) (hL : okL L) (hM : okL M) (h1 : rowP pk p L) (h2 : rowP pk q M) : f4_alike pk (nI p) (nI q) = some (b01 (decide (L = M))) := by
  obtain ⟨b, e1, e2⟩ := alik (pk := pk) hp hq 11 1000 0 rfl (by decide)
  have e3 : b = decide (L = M) := by
    rw [Bool.eq_iff_iff, decide_eq_true_iff, e2]
    constructor
    · intro h
      refine getD_all hL hM (fun i hi => ?_)
      have h3 := h (i / 6) (Nat.zero_le _) (by omega)
      rw [h1 _ (by omega), h2 _ (by omega)] at h3
      have a1 := pw_lt6 hL (6 * (i / 6)) (Nat.le_refl 6)
      have a2 := pw_lt6 hM (6 * (i / 6)) (Nat.le_refl 6)
      have h4 := (pk_lEQ (by omega) (by omega)).mp h3
      have h5 := pw_dig hL hM _ 6 h4 (i % 6) (by omega)
      rw [show 6 * (i / 6) + i % 6 = i by omega] at h5
      exact h5
    · intro h j _ hj
      rw [h1 j hj, h2 j hj, h]
  rw [← e3]
  exact e1
theorem isNewl {pk : Nat → Int64} {U : List (List Nat)} {L : List Nat} (hU : U.length < 256) (hL : okL L) (hk : ∀ M ∈ U, okL M) (h1 : ∀ r, r < U.length → rowP pk r (U.getD r [])) (h2 : rowP pk U.length L) : ∀ (d n r : Nat), r + d = U.length → d < n → f4_isNew_2 pk n (nI U.length, nI r) = some (b01 (decide (L ∉ U.drop r))) := by
  intro d
  induction d with
  | zero =>
    intro n r hr hn
    obtain ⟨n, rfl⟩ : ∃ m, n = m + 1 := ⟨n - 1, by omega⟩
    show f4_isNew_2b pk _ (nI U.length) (nI r) = _
    unfold f4_isNew_2b
    rw [if_pos (nI_le (by omega) (by omega)), List.drop_eq_nil_of_le (by omega), decide_eq_true List.not_mem_nil]
    rfl
  | succ d ih =>
    intro n r hr hn
    obtain ⟨n, rfl⟩ : ∃ m, n = m + 1 := ⟨n - 1, by omega⟩
    have hlt : r < U.length := by omega
    have eM : U.getD r [] = U[r] := by rw [List.getD_eq_getElem?_getD, List.getElem?_eq_getElem hlt]; rfl
    show f4_isNew_2b pk (f4_isNew_2 pk n) (nI U.length) (nI r) = _
    unfold f4_isNew_2b
    have h3 := h1 r hlt
    rw [eM] at h3
    rw [if_neg (nI_ge hlt (by omega)), alike4 (by omega) hU (hk _ (List.getElem_mem hlt)) hL h3 h2, Option.bind_some, show nI r + (1 : Int32) = nI (r + 1) from nI_add r 1, List.drop_eq_getElem_cons hlt]
    by_cases e : U[r] = L
    · rw [decide_eq_true e, b01_t1, if_neg one_ne, decide_eq_false (fun q => q (by rw [e]; exact List.mem_cons_self))]
      rfl
    · rw [decide_eq_false e, b01_f0, if_pos rfl, ih n (r + 1) (by omega) (by omega)]
      congr 2
      rw [Bool.eq_iff_iff, decide_eq_true_iff, decide_eq_true_iff, List.mem_cons]
      exact ⟨fun q z => z.elim (fun y => e y.symm) q, fun q z => q (Or.inr z)⟩
theorem isNew4 {pk : Nat → Int64} {U : List (List Nat)} {L : List Nat} (hU : U.length < 256) (hL : okL L) (hk : ∀ M ∈ U, okL M) (h1 : ∀ r, r < U.length → rowP pk r (U.getD r [])) (h2 : rowP pk U.length L) : f4_isNew pk (nI U.length) = some (b01 (decide (L ∉ U))) := by
  unfold f4_isNew
  exact isNewl hU hL hk h1 h2 U.length 1000 0 (Nat.zero_add _) (by omega)
