/-! == 51.simple.tpl -/
theorem l0 : (0 : Int32) = nI 0 := rfl
theorem l1 : (1 : Int32) = nI 1 := rfl
theorem l2 : (2 : Int32) = nI 2 := rfl
theorem l3 : (3 : Int32) = nI 3 := rfl
theorem l4 : (4 : Int32) = nI 4 := rfl
theorem l5 : (5 : Int32) = nI 5 := rfl
theorem l6 : (6 : Int32) = nI 6 := rfl
theorem a10 (k : Nat) : (10 : Int32) + nI k = nI (10 + k) := nI_add 10 k
theorem a20 (k : Nat) : (20 : Int32) + nI k = nI (20 + k) := nI_add 20 k
theorem a30 (k : Nat) : (30 : Int32) + nI k = nI (30 + k) := nI_add 30 k
theorem one0 {R : Type} {a b : R} : (if (1 : Int32) = 0 then a else b) = b := if_neg (by decide)
theorem zero0 {R : Type} {a b : R} : (if (0 : Int32) = 0 then a else b) = a := if_pos rfl
theorem nI_m1 {j : Nat} (h : j < 2 ^ 31) : ¬ nI j = -1 := fun h2 => by
  have h3 := congrArg Int32.toInt h2
  rw [nI_toInt h] at h3
  have h4 : (-1 : Int32).toInt = -1 := rfl
  omega
theorem rd_l {Ro : Type} {f : Nat → Int32} {n : Nat} {i : Int32} {k : Int32 → Option Ro} (j : Nat) (hj : i = nI j) (h : j < n) (hn : n < 2 ^ 31) : rd f n i k = k (f j) := by rw [hj, rd_nI h hn]
theorem wrt_l {Ro : Type} {f : Nat → Int32} {n : Nat} {i x : Int32} {k : (Nat → Int32) → Option Ro} (j : Nat) (hj : i = nI j) (h : j < n) (hn : n < 2 ^ 31) : wrt f n i x k = k (upd f j x) := by rw [hj, wrt_nI h hn]
theorem st_on {n0 : Nat} (hn : 2000000 ≤ n0) : St_on n0 := by
  intro xv_isKept xf_found xv_camp_tents xv_camp_said xv_camp_wall xv_camp_bridge xv_camp_counted xv_camp_day xv_camp_z xf_camp_kinds xf_camp_yards xf_camp_spots xv_kept_tents xv_kept_said xv_kept_wall xv_kept_bridge xv_kept_counted xv_kept_day xv_kept_z xf_kept_kinds xf_kept_yards xf_kept_spots xv_tape_size xf_tape_bytes xv_sheets_0_bits xv_sheets_0_size xf_sheets_0_numbers xv_sheets_1_bits xv_sheets_1_size xf_sheets_1_numbers xv_sheets_2_bits xv_sheets_2_size xf_sheets_2_numbers xv_sheets_3_bits xv_sheets_3_size xf_sheets_3_numbers mv_isKept mv_taped mv_gone mf_d mf_kept mf_found mf_tape mf_bitsOf mf_sizeOf mf_number hI p1 p2
  obtain ⟨hC, hK1, hK2, hK3, hF, hT, hS0, hS1, hS2, hS3, hG⟩ := hI
  have hC0 := hC
  obtain ⟨N, hN, h0, hd0, hd1, hd2, hd3, hd4, hd5, hd6, hct, hwl, hbr, hdy, hsa, hA, hKi, hYa, hSp⟩ := hC
  by_cases hy : inR 0 11 p1 ∧ inR 0 11 p2
  · rcases whoR_or xf_camp_yards (12 * p2 + p1) N 0 with hw | ⟨j, _, hj, hw, _⟩
    · have hx : F_X6_on n0 xv_camp_tents xf_found xf_camp_yards p1 p2 = some (-1000004, upd xf_found 3 (xf_found 3 + 1)) := by
        unfold F_X6_on
        rw [isYard_t hy.1 hy.2, h0]
        simp only [bd1, one0, F_X6_yardOf, nm]
        rw [tentOn_s hn hN, hw]
        rfl
      have hm : F_X7_on n0 mf_d mf_found p1 p2 = some (-1000004, upd mf_found 3 (mf_found 3 + 1)) := by
        unfold F_X7_on
        rw [mYard_t hy.1 hy.2]
        simp only [bd1, one0, nm]
        rw [whoIs_s hn hN hd0 (fun i hi => (hA i hi).2.1), hw]
        rfl
      exact ⟨_, _, _, hx, hm, hC0, hK1, hK2, hK3, fnd_u hF 3 (by decide), hT, hS0, hS1, hS2, hS3, hG⟩
    · have hx : F_X6_on n0 xv_camp_tents xf_found xf_camp_yards p1 p2 = some (nI j, xf_found) := by
        unfold F_X6_on
        rw [isYard_t hy.1 hy.2, h0]
        simp only [bd1, one0, F_X6_yardOf, nm]
        rw [tentOn_s hn hN, hw]
        simp only [if_neg (nI_m1 (show j < 2 ^ 31 by omega))]
      have hm : F_X7_on n0 mf_d mf_found p1 p2 = some (nI j, mf_found) := by
        unfold F_X7_on
        rw [mYard_t hy.1 hy.2]
        simp only [bd1, one0, nm]
        rw [whoIs_s hn hN hd0 (fun i hi => (hA i hi).2.1), hw]
        simp only [if_neg (nI_m1 (show j < 2 ^ 31 by omega))]
      exact ⟨_, _, _, hx, hm, hC0, hK1, hK2, hK3, hF, hT, hS0, hS1, hS2, hS3, hG⟩
  · have hx : F_X6_on n0 xv_camp_tents xf_found xf_camp_yards p1 p2 = some (-1000001, upd xf_found 0 (xf_found 0 + 1)) := by
      unfold F_X6_on
      rw [isYard_f hy]
      rfl
    have hm : F_X7_on n0 mf_d mf_found p1 p2 = some (-1000001, upd mf_found 0 (mf_found 0 + 1)) := by
      unfold F_X7_on
      rw [mYard_f hy]
      rfl
    exact ⟨_, _, _, hx, hm, hC0, hK1, hK2, hK3, fnd_u hF 0 (by decide), hT, hS0, hS1, hS2, hS3, hG⟩
theorem st_seed {n0 : Nat} (hn : 2000000 ≤ n0) : St_seed n0 := by
  intro xv_isKept xf_found xv_camp_tents xv_camp_said xv_camp_wall xv_camp_bridge xv_camp_counted xv_camp_day xv_camp_z xf_camp_kinds xf_camp_yards xf_camp_spots xv_kept_tents xv_kept_said xv_kept_wall xv_kept_bridge xv_kept_counted xv_kept_day xv_kept_z xf_kept_kinds xf_kept_yards xf_kept_spots xv_tape_size xf_tape_bytes xv_sheets_0_bits xv_sheets_0_size xf_sheets_0_numbers xv_sheets_1_bits xv_sheets_1_size xf_sheets_1_numbers xv_sheets_2_bits xv_sheets_2_size xf_sheets_2_numbers xv_sheets_3_bits xv_sheets_3_size xf_sheets_3_numbers mv_isKept mv_taped mv_gone mf_d mf_kept mf_found mf_tape mf_bitsOf mf_sizeOf mf_number hI p1
  obtain ⟨hC, hK1, hK2, hK3, hF, hT, hS0, hS1, hS2, hS3, hG⟩ := hI
  obtain ⟨N, hN, h0, hd0, hd1, hd2, hd3, hd4, hd5, hd6, hct, hwl, hbr, hdy, hsa, hA, hKi, hYa, hSp⟩ := hC
  have hx : F_X6_seed n0 xv_camp_z p1 = some (xv_camp_z, p1) := rfl
  have hm : F_X7_seed n0 mf_d p1 = some (xv_camp_z, upd mf_d 2 p1) := by
    unfold F_X7_seed
    rw [rd_l 2 l2 (by decide) (by decide), wrt_l 2 l2 (by decide) (by decide), hd2]
  refine ⟨_, _, _, hx, hm, ⟨N, hN, h0, ?_, ?_, ?_, ?_, ?_, ?_, ?_, hct, hwl, hbr, hdy, hsa, fun i hi => ?_, hKi, hYa, hSp⟩, hK1, hK2, hK3, hF, hT, hS0, hS1, hS2, hS3, hG⟩
  · rw [pk_un (by decide)]; exact hd0
  · rw [pk_un (by decide)]; exact hd1
  · rw [pk_us]
  · rw [pk_un (by decide)]; exact hd3
  · rw [pk_un (by decide)]; exact hd4
  · rw [pk_un (by decide)]; exact hd5
  · rw [pk_un (by decide)]; exact hd6
  · rw [pk_un (by omega), pk_un (by omega), pk_un (by omega)]; exact hA i hi
theorem st_wipe {n0 : Nat} (hn : 2000000 ≤ n0) : St_wipe n0 := by
  intro xv_isKept xf_found xv_camp_tents xv_camp_said xv_camp_wall xv_camp_bridge xv_camp_counted xv_camp_day xv_camp_z xf_camp_kinds xf_camp_yards xf_camp_spots xv_kept_tents xv_kept_said xv_kept_wall xv_kept_bridge xv_kept_counted xv_kept_day xv_kept_z xf_kept_kinds xf_kept_yards xf_kept_spots xv_tape_size xf_tape_bytes xv_sheets_0_bits xv_sheets_0_size xf_sheets_0_numbers xv_sheets_1_bits xv_sheets_1_size xf_sheets_1_numbers xv_sheets_2_bits xv_sheets_2_size xf_sheets_2_numbers xv_sheets_3_bits xv_sheets_3_size xf_sheets_3_numbers mv_isKept mv_taped mv_gone mf_d mf_kept mf_found mf_tape mf_bitsOf mf_sizeOf mf_number hI
  obtain ⟨hC, hK1, hK2, hK3, hF, hT, hS0, hS1, hS2, hS3, hG⟩ := hI
  obtain ⟨T, hT0, hT1, hT2, hT3⟩ := hT
  have hx : F_X6_wipe n0 xv_tape_size = some (nI T, 0) := by rw [hT1]; rfl
  have hm : F_X7_wipe n0 mv_taped = some (nI T, 0) := by rw [hT2]; rfl
  exact ⟨_, _, _, hx, hm, hC, hK1, hK2, hK3, hF, ⟨0, by decide, rfl, rfl, fun i h => absurd h (Nat.not_lt_zero i)⟩, hS0, hS1, hS2, hS3, hG⟩
theorem st_tear {n0 : Nat} (hn : 2000000 ≤ n0) : St_tear n0 := by
  intro xv_isKept xf_found xv_camp_tents xv_camp_said xv_camp_wall xv_camp_bridge xv_camp_counted xv_camp_day xv_camp_z xf_camp_kinds xf_camp_yards xf_camp_spots xv_kept_tents xv_kept_said xv_kept_wall xv_kept_bridge xv_kept_counted xv_kept_day xv_kept_z xf_kept_kinds xf_kept_yards xf_kept_spots xv_tape_size xf_tape_bytes xv_sheets_0_bits xv_sheets_0_size xf_sheets_0_numbers xv_sheets_1_bits xv_sheets_1_size xf_sheets_1_numbers xv_sheets_2_bits xv_sheets_2_size xf_sheets_2_numbers xv_sheets_3_bits xv_sheets_3_size xf_sheets_3_numbers mv_isKept mv_taped mv_gone mf_d mf_kept mf_found mf_tape mf_bitsOf mf_sizeOf mf_number hI
  obtain ⟨hC, hK1, hK2, hK3, hF, hT, hS0, hS1, hS2, hS3, hG⟩ := hI
  rcases hK2 with h | h
  · have hx : F_X6_tear n0 xv_isKept = some (0, 0) := by rw [h]; rfl
    have hm : F_X7_tear n0 mv_isKept = some (0, 0) := by rw [hK1, h]; rfl
    exact ⟨_, _, _, hx, hm, hC, rfl, Or.inl rfl, fun h => absurd h (by decide), hF, hT, hS0, hS1, hS2, hS3, hG⟩
  · have hx : F_X6_tear n0 xv_isKept = some (1, 0) := by rw [h]; rfl
    have hm : F_X7_tear n0 mv_isKept = some (1, 0) := by rw [hK1, h]; rfl
    exact ⟨_, _, _, hx, hm, hC, rfl, Or.inl rfl, fun h => absurd h (by decide), hF, hT, hS0, hS1, hS2, hS3, hG⟩
theorem pos_of_inR {p : Int32} (h : inR 0 9 p) : ∃ k : Nat, k < 10 ∧ p = nI k := by
  obtain ⟨k, hk, rfl⟩ := inR_nI (hi := 9) h
  exact ⟨k, by omega, rfl⟩
theorem st_hold {n0 : Nat} (hn : 2000000 ≤ n0) : St_hold n0 := by
  intro xv_isKept xf_found xv_camp_tents xv_camp_said xv_camp_wall xv_camp_bridge xv_camp_counted xv_camp_day xv_camp_z xf_camp_kinds xf_camp_yards xf_camp_spots xv_kept_tents xv_kept_said xv_kept_wall xv_kept_bridge xv_kept_counted xv_kept_day xv_kept_z xf_kept_kinds xf_kept_yards xf_kept_spots xv_tape_size xf_tape_bytes xv_sheets_0_bits xv_sheets_0_size xf_sheets_0_numbers xv_sheets_1_bits xv_sheets_1_size xf_sheets_1_numbers xv_sheets_2_bits xv_sheets_2_size xf_sheets_2_numbers xv_sheets_3_bits xv_sheets_3_size xf_sheets_3_numbers mv_isKept mv_taped mv_gone mf_d mf_kept mf_found mf_tape mf_bitsOf mf_sizeOf mf_number hI p1 p2
  obtain ⟨hC, hK1, hK2, hK3, hF, hT, hS0, hS1, hS2, hS3, hG⟩ := hI
  have hC0 := hC
  obtain ⟨N, hN, h0, hd0, hd1, hd2, hd3, hd4, hd5, hd6, hct, hwl, hbr, hdy, hsa, hA, hKi, hYa, hSp⟩ := hC
  have hd0' : rd mf_d 40 0 (fun x => some x) = some (nI N) := by rw [rd_l 0 l0 (by decide) (by decide), hd0]
  by_cases hs : inR 0 9 p1
  · by_cases ht : inR (-1) (N - 1) p2
    · obtain ⟨k, hk, rfl⟩ := pos_of_inR hs
      have hx : F_X6_hold n0 xv_camp_tents xf_found xf_camp_spots (nI k) p2 = some (1, xf_found, upd xf_camp_spots k p2) := by
        unfold F_X6_hold
        rw [isSpot_t hs]
        simp only [bd1, one0]
        by_cases h : p2 = -1
        · rw [if_pos h]
          unfold J_X6_hold_30
          rw [wrt_nI hk (by decide)]
        · have h2 : isT N p2 := by
            refine ⟨?_, by have := ht.2; omega⟩
            by_cases h3 : p2.toInt = -1
            · exact absurd (Int32.toInt_inj.mp h3) h
            · have := ht.1; omega
          rw [if_neg h, h0, has_t hN h2]
          simp only [one0]
          unfold J_X6_hold_30
          rw [wrt_nI hk (by decide)]
      have hm : F_X7_hold n0 mf_d mf_found (nI k) p2 = some (1, upd mf_d (30 + k) (p2 + 1), mf_found) := by
        unfold F_X7_hold
        simp only [nm]
        rw [in_t (a := 0) (b := 9) hs]
        simp only [bd1, one0]
        rw [rd_l 0 l0 (by decide) (by decide), hd0]
        rw [in_t (a := -1) (b := (nI N - 1).toInt64) ⟨ht.1, by rw [mT_aux hN]; exact ht.2⟩]
        simp only [one0]
        rw [wrt_l (30 + k) (a30 k) (by omega) (by decide)]
      refine ⟨_, _, _, _, _, hx, hm, ⟨N, hN, h0, ?_, ?_, ?_, ?_, ?_, ?_, ?_, hct, hwl, hbr, hdy, hsa, fun i hi => ?_, hKi, hYa, fun i hi => ?_⟩, hK1, hK2, hK3, hF, hT, hS0, hS1, hS2, hS3, hG⟩
      · rw [pk_un (by omega)]; exact hd0
      · rw [pk_un (by omega)]; exact hd1
      · rw [pk_un (by omega)]; exact hd2
      · rw [pk_un (by omega)]; exact hd3
      · rw [pk_un (by omega)]; exact hd4
      · rw [pk_un (by omega)]; exact hd5
      · rw [pk_un (by omega)]; exact hd6
      · refine ⟨?_, ?_, ?_⟩
        · rw [pk_un (by omega)]; exact (hA i hi).1
        · rw [pk_un (by omega)]; exact (hA i hi).2.1
        · by_cases h : i = k
          · subst h; rw [pk_us, pk_us]
          · rw [pk_un (by omega), pk_un h]; exact (hA i hi).2.2
      · by_cases h : i = k
        · subst h
          rw [pk_us]
          have h9 : (p2 + 1).toInt = p2.toInt + 1 := by
            rw [Int32.toInt_add]
            have a1 := ht.1
            have a2 := ht.2
            have a3 : (1 : Int32).toInt = 1 := rfl
            rw [a3]
            exact Int.bmod_eq_of_le (by omega) (by omega)
          have h10 : ¬ p2 + 1 < 0 := by
            rw [Int32.lt_iff_toInt_lt, h9]
            have a1 := ht.1
            have a3 : (0 : Int32).toInt = 0 := rfl
            omega
          obtain ⟨j, hj, hj2⟩ := nI_of h10
          refine ⟨j, ?_, hj2⟩
          have a2 := ht.2
          rw [hj2, nI_toInt hj] at h9
          omega
        · rw [pk_un h]; exact hSp i hi
    · have hx : F_X6_hold n0 xv_camp_tents xf_found xf_camp_spots p1 p2 = some (-1000001, upd xf_found 0 (xf_found 0 + 1), xf_camp_spots) := by
        have h : ¬ p2 = -1 := fun h => ht ⟨by rw [h]; decide, by rw [h]; have : (-1 : Int32).toInt = -1 := rfl; omega⟩
        have h2 : ¬ isT N p2 := fun h2 => ht ⟨by have := h2.1; omega, by have := h2.2; omega⟩
        unfold F_X6_hold
        rw [isSpot_t hs]
        simp only [bd1, one0]
        rw [if_neg h, h0, has_f hN h2]
        rfl
      have hm : F_X7_hold n0 mf_d mf_found p1 p2 = some (-1000001, mf_d, upd mf_found 0 (mf_found 0 + 1)) := by
        unfold F_X7_hold
        simp only [nm]
        rw [in_t (a := 0) (b := 9) hs]
        simp only [bd1, one0]
        rw [rd_l 0 l0 (by decide) (by decide), hd0]
        rw [in_f (a := -1) (b := (nI N - 1).toInt64) (fun h => ht ⟨h.1, by have := h.2; rw [mT_aux hN] at this; exact this⟩)]
        rfl
      exact ⟨_, _, _, _, _, hx, hm, hC0, hK1, hK2, hK3, fnd_u hF 0 (by decide), hT, hS0, hS1, hS2, hS3, hG⟩
  · have hx : F_X6_hold n0 xv_camp_tents xf_found xf_camp_spots p1 p2 = some (-1000001, upd xf_found 0 (xf_found 0 + 1), xf_camp_spots) := by
      unfold F_X6_hold
      rw [isSpot_f hs]
      rfl
    have hm : F_X7_hold n0 mf_d mf_found p1 p2 = some (-1000001, mf_d, upd mf_found 0 (mf_found 0 + 1)) := by
      unfold F_X7_hold
      simp only [nm]
      rw [in_f (a := 0) (b := 9) hs]
      rfl
    exact ⟨_, _, _, _, _, hx, hm, hC0, hK1, hK2, hK3, fnd_u hF 0 (by decide), hT, hS0, hS1, hS2, hS3, hG⟩
/-! == 52.bits.tpl -/
/-! bits of what is said, by tables -/
def onesE (x : Int32) : Int32 := (F_X7_ones 11 x).getD 0
def bitE (x : Int32) : Int32 := (F_J6_bitCount_0f7a4 0 x).getD 0
theorem ones_s {n0 : Nat} (hn : 2000000 ≤ n0) (x : Int32) : F_X7_ones n0 x = some (onesE x) := by
  obtain ⟨q, rfl⟩ : ∃ q, n0 = q + 11 := ⟨n0 - 11, by omega⟩
  rfl
theorem bitC_s {n0 : Nat} (x : Int32) : F_J6_bitCount_0f7a4 n0 x = some (bitE x) := rfl
theorem vote_s {n0 : Nat} (x : Int32) : F_X0_vote n0 x = some (bitE x) := rfl
theorem pop_eq : ∀ m : Nat, m < 1024 → bitE (nI m) = onesE (nI m) := by decide +kernel
def clrB (s : Int32) (t : Nat) : Int32 := s &&& ((1 <<< (nI t &&& 31)) ^^^ (-1))
def setB (s : Int32) (t : Nat) : Int32 := s ||| (1 <<< (nI t &&& 31))
def bitB (s : Int32) (t : Nat) : Int32 := (s >>> (nI t &&& 31)) &&& 1
theorem clr_set : ∀ t : Nat, t < 10 → ∀ m : Nat, m < 1024 → clrB (nI m) t ||| (1 <<< (nI t &&& 31)) = setB (nI m) t := by decide +kernel
theorem clr_rg0 : ∀ t : Nat, t < 10 → ∀ m : Nat, m < 1024 → 0 ≤ (clrB (nI m) t).toInt ∧ (clrB (nI m) t).toInt ≤ (m : Int) := by decide +kernel
theorem set_rg0 : ∀ N : Nat, N < 11 → ∀ t : Nat, t < N → ∀ m : Nat, m < 2 ^ N → 0 ≤ (setB (nI m) t).toInt ∧ (setB (nI m) t).toInt < (2 ^ N : Nat) := by decide +kernel
theorem bit_01 : ∀ t : Nat, t < 10 → ∀ m : Nat, m < 1024 → bitB (nI m) t = 0 ∨ bitB (nI m) t = 1 := by decide +kernel
theorem nI_rg {x : Int32} {n : Nat} (h0 : 0 ≤ x.toInt) (h1 : x.toInt < (n : Int)) : ∃ w : Nat, w < n ∧ x = nI w := by
  have h3 : ¬ x < 0 := by rw [Int32.lt_iff_toInt_lt]; simpa using h0
  obtain ⟨j, hj, rfl⟩ := nI_of h3
  rw [nI_toInt hj] at h1
  exact ⟨j, by omega, rfl⟩
theorem pow10 {N : Nat} (h : N ≤ 10) : 2 ^ N ≤ 1024 := Nat.pow_le_pow_right (by decide) h
theorem clr_rg {N m t : Nat} (hN : N ≤ 10) (hm : m < 2 ^ N) (ht : t < 10) : ∃ w : Nat, w < 2 ^ N ∧ clrB (nI m) t = nI w := by
  have h := clr_rg0 t ht m (by have := pow10 hN; omega)
  exact nI_rg h.1 (by have := h.2; omega)
theorem set_rg {N m t : Nat} (hN : N ≤ 10) (hm : m < 2 ^ N) (ht : t < N) : ∃ w : Nat, w < 2 ^ N ∧ setB (nI m) t = nI w := by
  have h := set_rg0 N (by omega) t ht m hm
  exact nI_rg h.1 h.2
theorem gw_0 (s : Int32) (t : Nat) : clrB s t ||| ((0 : Int32) <<< (nI t &&& 31)) = clrB s t := by rw [Int32.zero_shiftLeft, Int32.or_zero]
theorem giveWord_s {n0 t : Nat} {s v : Int32} : F_X0_giveWord n0 s (nI t) v = some (clrB s t ||| (v <<< (nI t &&& 31))) := rfl
theorem wordOf_s {n0 t : Nat} {s : Int32} : F_X0_wordOf n0 s (nI t) = some (bitB s t) := rfl
theorem saysNow_s {n0 t : Nat} {d : Nat → Int32} : F_X7_saysNow n0 d (nI t) = some (bitB (d 6) t) := by
  unfold F_X7_saysNow
  rw [rd_l 6 l6 (by decide) (by decide)]
  rfl
theorem sayOf_1 {n0 t : Nat} {d : Nat → Int32} : F_X7_sayOf n0 d (nI t) 1 = some (upd d 6 (setB (d 6) t)) := by
  unfold F_X7_sayOf
  rw [if_pos rfl, rd_l 6 l6 (by decide) (by decide)]
  simp only [nm]
  rw [wrt_l 6 l6 (by decide) (by decide)]
  rfl
theorem sayOf_0 {n0 t : Nat} {d : Nat → Int32} : F_X7_sayOf n0 d (nI t) 0 = some (upd d 6 (clrB (d 6) t)) := by
  unfold F_X7_sayOf
  rw [if_neg (by decide), rd_l 6 l6 (by decide) (by decide)]
  simp only [nm]
  rw [wrt_l 6 l6 (by decide) (by decide)]
  rfl
/-- a new tent -/
theorem pitch_s {n0 N : Nat} {said p1 p2 p3 : Int32} {kinds yards : Nat → Int32} (h : N < 10) : F_X0_pitch n0 (nI N) said kinds yards p1 p2 p3 = some (nI N, nI (N + 1), clrB said N ||| (p3 <<< (nI N &&& 31)), upd kinds N p1, upd yards N p2) := by
  unfold F_X0_pitch
  rw [if_pos (show nI N < 10 from nI_lt (b := 10) h (by decide))]
  simp only [nm]
  rw [wrt_nI h (by decide), wrt_nI h (by decide), nI_1]
  rfl
def comesD (d : Nat → Int32) (N : Nat) (p1 p2 : Int32) : Nat → Int32 := upd (upd (upd (upd d (10 + N) p1) (20 + N) p2) 6 (clrB (d 6) N)) 0 (nI N + 1)
theorem comes_s {n0 N : Nat} {d : Nat → Int32} {p1 p2 : Int32} (h : N < 10) (hd : d 0 = nI N) : F_X7_comes n0 d p1 p2 = some (nI N, comesD d N p1 p2) := by
  have e6 : (upd (upd d (10 + N) p1) (20 + N) p2) 6 = d 6 := by rw [pk_un (by omega), pk_un (by omega)]
  have e0 : ∀ x : Int32, (upd (upd (upd d (10 + N) p1) (20 + N) p2) 6 x) 0 = nI N := fun x => by rw [pk_un (by decide), pk_un (by omega), pk_un (by omega), hd]
  unfold F_X7_comes
  rw [rd_l 0 l0 (by decide) (by decide), hd]
  simp only [nm]
  rw [wrt_l (10 + N) (a10 N) (by omega) (by decide), wrt_l (20 + N) (a20 N) (by omega) (by decide), rd_l 6 l6 (by decide) (by decide), wrt_l 6 l6 (by decide) (by decide), rd_l 0 l0 (by decide) (by decide), wrt_l 0 l0 (by decide) (by decide), e6, e0]
  rfl
theorem CR_pitch {kinds yards spots d : Nat → Int32} {N k y : Nat} {said wall bridge counted day z : Int32} (hN : N < 10) (hk : k < 7) (hy : y < 144) (hC : CR kinds yards spots (nI N) said wall bridge counted day z d) : CR (upd kinds N (nI k)) (upd yards N (nI y)) spots (nI (N + 1)) (clrB said N) wall bridge counted day z (comesD d N (nI k) (nI y)) := by
  obtain ⟨M, hM, h0, hd0, hd1, hd2, hd3, hd4, hd5, hd6, hct, hwl, hbr, hdy, ⟨m, hm, hsa⟩, hA, hKi, hYa, hSp⟩ := hC
  have e : N = M := (nI_eq (by omega) (by omega)).mp h0
  subst e
  have un : ∀ j : Nat, 0 < j → j < 6 → comesD d N (nI k) (nI y) j = d j := fun j h1 h2 => by rw [comesD, pk_un (by omega), pk_un (by omega), pk_un (by omega), pk_un (by omega)]
  refine ⟨N + 1, by omega, rfl, ?_, ?_, ?_, ?_, ?_, ?_, ?_, hct, hwl, hbr, hdy, ?_, fun i hi => ⟨?_, ?_, ?_⟩, fun i hi => ?_, fun i hi => ?_, fun i hi => ?_⟩
  · rw [comesD, pk_us, nI_1]
  · rw [un 1 (by decide) (by decide)]; exact hd1
  · rw [un 2 (by decide) (by decide)]; exact hd2
  · rw [un 3 (by decide) (by decide)]; exact hd3
  · rw [un 4 (by decide) (by decide)]; exact hd4
  · rw [un 5 (by decide) (by decide)]; exact hd5
  · rw [comesD, pk_un (by decide), pk_us, hd6]
  · rw [hsa]
    obtain ⟨w, h1, h2⟩ := clr_rg (N := N) (by omega) hm (t := N) hN
    exact ⟨w, by rw [Nat.pow_succ]; omega, h2⟩
  · rw [comesD, pk_un (by omega), pk_un (by omega), pk_un (by omega)]
    by_cases h : i = N
    · subst h; rw [pk_us, pk_us]
    · rw [pk_un (by omega), pk_un h]; exact (hA i hi).1
  · rw [comesD, pk_un (by omega), pk_un (by omega)]
    by_cases h : i = N
    · subst h; rw [pk_us, pk_us]
    · rw [pk_un (by omega), pk_un (by omega), pk_un h]; exact (hA i hi).2.1
  · rw [comesD, pk_un (by omega), pk_un (by omega), pk_un (by omega), pk_un (by omega)]; exact (hA i hi).2.2
  · by_cases h : i = N
    · subst h; exact ⟨k, hk, pk_us⟩
    · rw [pk_un h]; exact hKi i hi
  · by_cases h : i = N
    · subst h; exact ⟨y, hy, pk_us⟩
    · rw [pk_un h]; exact hYa i hi
  · obtain ⟨w, h1, h2⟩ := hSp i hi
    exact ⟨w, by omega, h2⟩
/-! == 53.simple2.tpl -/
theorem yard_nI {x y : Nat} : (12 : Int32) * nI y + nI x = nI (12 * y + x) := by
  rw [show (12 : Int32) = nI 12 from rfl, pk_mul, nI_add]
theorem st_tent {n0 : Nat} (hn : 2000000 ≤ n0) : St_tent n0 := by
  intro xv_isKept xf_found xv_camp_tents xv_camp_said xv_camp_wall xv_camp_bridge xv_camp_counted xv_camp_day xv_camp_z xf_camp_kinds xf_camp_yards xf_camp_spots xv_kept_tents xv_kept_said xv_kept_wall xv_kept_bridge xv_kept_counted xv_kept_day xv_kept_z xf_kept_kinds xf_kept_yards xf_kept_spots xv_tape_size xf_tape_bytes xv_sheets_0_bits xv_sheets_0_size xf_sheets_0_numbers xv_sheets_1_bits xv_sheets_1_size xf_sheets_1_numbers xv_sheets_2_bits xv_sheets_2_size xf_sheets_2_numbers xv_sheets_3_bits xv_sheets_3_size xf_sheets_3_numbers mv_isKept mv_taped mv_gone mf_d mf_kept mf_found mf_tape mf_bitsOf mf_sizeOf mf_number hI p1 p2 p3
  obtain ⟨hC, hK1, hK2, hK3, hF, hT, hS0, hS1, hS2, hS3, hG⟩ := hI
  have hC0 := hC
  obtain ⟨N, hN, h0, hd0, hd1, hd2, hd3, hd4, hd5, hd6, hct, hwl, hbr, hdy, hsa, hA, hKi, hYa, hSp⟩ := hC
  by_cases hk : inR 0 6 p1
  · by_cases hy : inR 0 11 p2 ∧ inR 0 11 p3
    · rcases whoR_or xf_camp_yards (12 * p3 + p2) N 0 with hw | ⟨j, _, hj, hw, _⟩
      · by_cases h10 : N < 10
        · obtain ⟨k, hk1, rfl⟩ := inR_nI (hi := 6) hk
          obtain ⟨x, hx1, rfl⟩ := inR_nI (hi := 11) hy.1
          obtain ⟨y, hy1, rfl⟩ := inR_nI (hi := 11) hy.2
          have hx : F_X6_tent n0 xv_camp_tents xv_camp_said xf_found xf_camp_kinds xf_camp_yards (nI k) (nI x) (nI y) = some (nI N, nI (N + 1), clrB xv_camp_said N, xf_found, upd xf_camp_kinds N (nI k), upd xf_camp_yards N (nI (12 * y + x))) := by
            unfold F_X6_tent
            rw [isKind_t hk, isYard_t hy.1 hy.2, h0]
            simp only [bd1, one0, F_X6_yardOf, nm]
            rw [tentOn_s hn hN, hw]
            simp only [if_pos, if_pos (show nI N < 10 from nI_lt (b := 10) h10 (by decide))]
            rw [pitch_s h10, gw_0, yard_nI]
            rfl
          have hm : F_X7_tent n0 mf_d mf_found (nI k) (nI x) (nI y) = some (nI N, comesD mf_d N (nI k) (nI (12 * y + x)), mf_found) := by
            unfold F_X7_tent
            simp only [nm]
            rw [in_t (a := 0) (b := 6) hk, mYard_t hy.1 hy.2]
            simp only [bd1, one0]
            rw [whoIs_s hn hN hd0 (fun i hi => (hA i hi).2.1), hw]
            simp only [if_pos]
            rw [rd_l 0 l0 (by decide) (by decide), hd0, if_neg (fun h => by rw [show (10 : Int32) = nI 10 from rfl, nI_eq (by omega) (by decide)] at h; omega), comes_s h10 hd0, yard_nI]
            rfl
          rw [h0] at hC0
          exact ⟨_, _, _, _, _, _, _, _, hx, hm, CR_pitch h10 (by omega) (by omega) hC0, hK1, hK2, hK3, hF, hT, hS0, hS1, hS2, hS3, hG⟩
        · have e10 : N = 10 := by omega
          subst e10
          have hx : F_X6_tent n0 xv_camp_tents xv_camp_said xf_found xf_camp_kinds xf_camp_yards p1 p2 p3 = some (-1000002, nI 10, xv_camp_said, upd xf_found 1 (xf_found 1 + 1), xf_camp_kinds, xf_camp_yards) := by
            unfold F_X6_tent
            rw [isKind_t hk, isYard_t hy.1 hy.2, h0]
            simp only [bd1, one0, F_X6_yardOf, nm]
            rw [tentOn_s hn hN, hw]
            rfl
          have hm : F_X7_tent n0 mf_d mf_found p1 p2 p3 = some (-1000002, mf_d, upd mf_found 1 (mf_found 1 + 1)) := by
            unfold F_X7_tent
            simp only [nm]
            rw [in_t (a := 0) (b := 6) hk, mYard_t hy.1 hy.2]
            simp only [bd1, one0]
            rw [whoIs_s hn hN hd0 (fun i hi => (hA i hi).2.1), hw]
            simp only [if_pos]
            rw [rd_l 0 l0 (by decide) (by decide), hd0]
            rfl
          rw [h0] at hC0
          exact ⟨_, _, _, _, _, _, _, _, hx, hm, hC0, hK1, hK2, hK3, fnd_u hF 1 (by decide), hT, hS0, hS1, hS2, hS3, hG⟩
      · have hx : F_X6_tent n0 xv_camp_tents xv_camp_said xf_found xf_camp_kinds xf_camp_yards p1 p2 p3 = some (-1000005, xv_camp_tents, xv_camp_said, upd xf_found 4 (xf_found 4 + 1), xf_camp_kinds, xf_camp_yards) := by
          unfold F_X6_tent
          rw [isKind_t hk, isYard_t hy.1 hy.2]
          simp only [bd1, one0, F_X6_yardOf, nm]
          rw [h0, tentOn_s hn hN, hw]
          simp only [if_neg (nI_m1 (show j < 2 ^ 31 by omega))]
          rfl
        have hm : F_X7_tent n0 mf_d mf_found p1 p2 p3 = some (-1000005, mf_d, upd mf_found 4 (mf_found 4 + 1)) := by
          unfold F_X7_tent
          simp only [nm]
          rw [in_t (a := 0) (b := 6) hk, mYard_t hy.1 hy.2]
          simp only [bd1, one0]
          rw [whoIs_s hn hN hd0 (fun i hi => (hA i hi).2.1), hw]
          simp only [if_neg (nI_m1 (show j < 2 ^ 31 by omega))]
          rfl
        exact ⟨_, _, _, _, _, _, _, _, hx, hm, hC0, hK1, hK2, hK3, fnd_u hF 4 (by decide), hT, hS0, hS1, hS2, hS3, hG⟩
    · have hx : F_X6_tent n0 xv_camp_tents xv_camp_said xf_found xf_camp_kinds xf_camp_yards p1 p2 p3 = some (-1000001, xv_camp_tents, xv_camp_said, upd xf_found 0 (xf_found 0 + 1), xf_camp_kinds, xf_camp_yards) := by
        unfold F_X6_tent
        rw [isKind_t hk, isYard_f hy]
        rfl
      have hm : F_X7_tent n0 mf_d mf_found p1 p2 p3 = some (-1000001, mf_d, upd mf_found 0 (mf_found 0 + 1)) := by
        unfold F_X7_tent
        simp only [nm]
        rw [in_t (a := 0) (b := 6) hk, mYard_f hy]
        rfl
      exact ⟨_, _, _, _, _, _, _, _, hx, hm, hC0, hK1, hK2, hK3, fnd_u hF 0 (by decide), hT, hS0, hS1, hS2, hS3, hG⟩
  · have hx : F_X6_tent n0 xv_camp_tents xv_camp_said xf_found xf_camp_kinds xf_camp_yards p1 p2 p3 = some (-1000001, xv_camp_tents, xv_camp_said, upd xf_found 0 (xf_found 0 + 1), xf_camp_kinds, xf_camp_yards) := by
      unfold F_X6_tent
      rw [isKind_f hk]
      rfl
    have hm : F_X7_tent n0 mf_d mf_found p1 p2 p3 = some (-1000001, mf_d, upd mf_found 0 (mf_found 0 + 1)) := by
      unfold F_X7_tent
      simp only [nm]
      rw [in_f (a := 0) (b := 6) hk]
      rfl
    exact ⟨_, _, _, _, _, _, _, _, hx, hm, hC0, hK1, hK2, hK3, fnd_u hF 0 (by decide), hT, hS0, hS1, hS2, hS3, hG⟩
/-- a kind, a yard, what is said in a camp become others -/
theorem CR_kind {kinds yards spots d : Nat → Int32} {t k : Nat} {tents said wall bridge counted day z : Int32} (ht : t < 10) (hk : k < 7) (hC : CR kinds yards spots tents said wall bridge counted day z d) : CR (upd kinds t (nI k)) yards spots tents said wall bridge counted day z (upd d (10 + t) (nI k)) := by
  obtain ⟨M, hM, h0, hd0, hd1, hd2, hd3, hd4, hd5, hd6, hct, hwl, hbr, hdy, hsa, hA, hKi, hYa, hSp⟩ := hC
  have un : ∀ j : Nat, j < 7 → upd d (10 + t) (nI k) j = d j := fun j h2 => pk_un (by omega)
  refine ⟨M, hM, h0, by rw [un 0 (by decide)]; exact hd0, by rw [un 1 (by decide)]; exact hd1, by rw [un 2 (by decide)]; exact hd2, by rw [un 3 (by decide)]; exact hd3, by rw [un 4 (by decide)]; exact hd4, by rw [un 5 (by decide)]; exact hd5, by rw [un 6 (by decide)]; exact hd6, hct, hwl, hbr, hdy, hsa, fun i hi => ⟨?_, ?_, ?_⟩, fun i hi => ?_, hYa, hSp⟩
  · by_cases h : i = t
    · subst h; rw [pk_us, pk_us]
    · rw [pk_un (by omega), pk_un h]; exact (hA i hi).1
  · rw [pk_un (by omega)]; exact (hA i hi).2.1
  · rw [pk_un (by omega)]; exact (hA i hi).2.2
  · by_cases h : i = t
    · subst h; exact ⟨k, hk, pk_us⟩
    · rw [pk_un h]; exact hKi i hi
theorem CR_yard {kinds yards spots d : Nat → Int32} {t y : Nat} {tents said wall bridge counted day z : Int32} (ht : t < 10) (hy : y < 144) (hC : CR kinds yards spots tents said wall bridge counted day z d) : CR kinds (upd yards t (nI y)) spots tents said wall bridge counted day z (upd d (20 + t) (nI y)) := by
  obtain ⟨M, hM, h0, hd0, hd1, hd2, hd3, hd4, hd5, hd6, hct, hwl, hbr, hdy, hsa, hA, hKi, hYa, hSp⟩ := hC
  have un : ∀ j : Nat, j < 7 → upd d (20 + t) (nI y) j = d j := fun j h2 => pk_un (by omega)
  refine ⟨M, hM, h0, by rw [un 0 (by decide)]; exact hd0, by rw [un 1 (by decide)]; exact hd1, by rw [un 2 (by decide)]; exact hd2, by rw [un 3 (by decide)]; exact hd3, by rw [un 4 (by decide)]; exact hd4, by rw [un 5 (by decide)]; exact hd5, by rw [un 6 (by decide)]; exact hd6, hct, hwl, hbr, hdy, hsa, fun i hi => ⟨?_, ?_, ?_⟩, hKi, fun i hi => ?_, hSp⟩
  · rw [pk_un (by omega)]; exact (hA i hi).1
  · by_cases h : i = t
    · subst h; rw [pk_us, pk_us]
    · rw [pk_un (by omega), pk_un h]; exact (hA i hi).2.1
  · rw [pk_un (by omega)]; exact (hA i hi).2.2
  · by_cases h : i = t
    · subst h; exact ⟨y, hy, pk_us⟩
    · rw [pk_un h]; exact hYa i hi
theorem CR_said {kinds yards spots d : Nat → Int32} {N w : Nat} {said wall bridge counted day z : Int32} (hN : N ≤ 10) (hw : w < 2 ^ N) (hC : CR kinds yards spots (nI N) said wall bridge counted day z d) : CR kinds yards spots (nI N) (nI w) wall bridge counted day z (upd d 6 (nI w)) := by
  obtain ⟨M, hM, h0, hd0, hd1, hd2, hd3, hd4, hd5, hd6, hct, hwl, hbr, hdy, hsa, hA, hKi, hYa, hSp⟩ := hC
  have e : N = M := (nI_eq (by omega) (by omega)).mp h0
  subst e
  have un : ∀ j : Nat, j ≠ 6 → upd d 6 (nI w) j = d j := fun j h2 => pk_un h2
  exact ⟨N, hM, rfl, by rw [un 0 (by decide)]; exact hd0, by rw [un 1 (by decide)]; exact hd1, by rw [un 2 (by decide)]; exact hd2, by rw [un 3 (by decide)]; exact hd3, by rw [un 4 (by decide)]; exact hd4, by rw [un 5 (by decide)]; exact hd5, pk_us, hct, hwl, hbr, hdy, ⟨w, hw, rfl⟩, fun i hi => by rw [un (10 + i) (by omega), un (20 + i) (by omega), un (30 + i) (by omega)]; exact hA i hi, hKi, hYa, hSp⟩
theorem st_change {n0 : Nat} (hn : 2000000 ≤ n0) : St_change n0 := by
  intro xv_isKept xf_found xv_camp_tents xv_camp_said xv_camp_wall xv_camp_bridge xv_camp_counted xv_camp_day xv_camp_z xf_camp_kinds xf_camp_yards xf_camp_spots xv_kept_tents xv_kept_said xv_kept_wall xv_kept_bridge xv_kept_counted xv_kept_day xv_kept_z xf_kept_kinds xf_kept_yards xf_kept_spots xv_tape_size xf_tape_bytes xv_sheets_0_bits xv_sheets_0_size xf_sheets_0_numbers xv_sheets_1_bits xv_sheets_1_size xf_sheets_1_numbers xv_sheets_2_bits xv_sheets_2_size xf_sheets_2_numbers xv_sheets_3_bits xv_sheets_3_size xf_sheets_3_numbers mv_isKept mv_taped mv_gone mf_d mf_kept mf_found mf_tape mf_bitsOf mf_sizeOf mf_number hI p1 p2 p3
  obtain ⟨hC, hK1, hK2, hK3, hF, hT, hS0, hS1, hS2, hS3, hG⟩ := hI
  have hC0 := hC
  obtain ⟨N, hN, h0, hd0, hd1, hd2, hd3, hd4, hd5, hd6, hct, hwl, hbr, hdy, hsa, hA, hKi, hYa, hSp⟩ := hC
  obtain ⟨m, hm0, hsa⟩ := hsa
  by_cases ht : isT N p1
  · by_cases hk : p2 = 0 ∧ inR 0 6 p3
    · obtain ⟨t, ht1, rfl⟩ := isT_nI ht
      obtain ⟨hp, hk⟩ := hk
      obtain ⟨k, hk1, rfl⟩ := inR_nI (hi := 6) hk
      have hx : F_X6_change n0 xv_camp_tents xv_camp_said xf_found xf_camp_kinds (nI t) p2 (nI k) = some (xf_camp_kinds t, xv_camp_said, xf_found, upd xf_camp_kinds t (nI k)) := by
        unfold F_X6_change
        rw [h0, has_t hN ht]
        simp only [bd1, one0]
        rw [if_pos hp, isKind_t hk]
        simp only [one0]
        rw [rd_nI (by omega) (by decide), wrt_nI (by omega) (by decide)]
      have hm : F_X7_change n0 mf_d mf_found (nI t) p2 (nI k) = some (xf_camp_kinds t, upd mf_d (10 + t) (nI k), mf_found) := by
        unfold F_X7_change J_X7_change_17 J_X7_change_31
        simp only [nm]
        rw [mT_t hN hd0 ht]
        simp only [bd1, one0]
        rw [if_pos hp, if_pos hp, in_t (a := 0) (b := 6) hk]
        simp only [one0]
        rw [if_pos hp, mKd (by omega)]
        unfold J_X7_change_60
        simp only [nm]
        rw [if_pos hp, wrt_l (10 + t) (a10 t) (by omega) (by decide), (hA t (by omega)).1]
      exact ⟨_, _, _, _, _, _, hx, hm, CR_kind (by omega) (by omega) hC0, hK1, hK2, hK3, hF, hT, hS0, hS1, hS2, hS3, hG⟩
    · by_cases hs : p2 = 3 ∧ inR 0 1 p3
      · obtain ⟨t, ht1, rfl⟩ := isT_nI ht
        obtain ⟨hp, hs⟩ := hs
        have hp0 : ¬ p2 = 0 := by rw [hp]; decide
        obtain ⟨v, hv1, rfl⟩ := inR_nI (hi := 1) hs
        have hx : F_X6_change n0 xv_camp_tents xv_camp_said xf_found xf_camp_kinds (nI t) p2 (nI v) = some (bitB xv_camp_said t, clrB xv_camp_said t ||| (nI v <<< (nI t &&& 31)), xf_found, xf_camp_kinds) := by
          unfold F_X6_change
          rw [h0, has_t hN ht]
          simp only [bd1, one0]
          rw [if_neg hp0]
          unfold J_X6_change_53
          rw [if_pos hp, isBit_t hs]
          simp only [bd1, one0]
          rw [wordOf_s, giveWord_s]
        rw [h0, hsa] at hC0
        rcases (show v = 0 ∨ v = 1 by omega) with rfl | rfl
        · have hm : F_X7_change n0 mf_d mf_found (nI t) p2 (nI 0) = some (bitB xv_camp_said t, upd mf_d 6 (clrB xv_camp_said t), mf_found) := by
            unfold F_X7_change J_X7_change_17 J_X7_change_31
            simp only [nm]
            rw [mT_t hN hd0 ht]
            simp only [bd1, one0]
            rw [if_neg hp0, if_pos hp, if_neg hp0, in_t (a := 0) (b := 1) hs]
            simp only [one0]
            rw [if_neg hp0, saysNow_s]
            unfold J_X7_change_60
            simp only []
            rw [if_neg hp0, show nI 0 = (0 : Int32) from rfl, sayOf_0, hd6]
            rfl
          rw [show nI 0 = (0 : Int32) from rfl, gw_0] at hx
          obtain ⟨w, hw1, hw2⟩ := clr_rg hN hm0 (t := t) (by omega)
          rw [hsa, hw2] at hx hm
          rw [h0]
          exact ⟨_, _, _, _, _, _, by rw [← h0, hsa]; exact hx, hm, CR_said hN hw1 hC0, hK1, hK2, hK3, hF, hT, hS0, hS1, hS2, hS3, hG⟩
        · have hm : F_X7_change n0 mf_d mf_found (nI t) p2 (nI 1) = some (bitB xv_camp_said t, upd mf_d 6 (setB xv_camp_said t), mf_found) := by
            unfold F_X7_change J_X7_change_17 J_X7_change_31
            simp only [nm]
            rw [mT_t hN hd0 ht]
            simp only [bd1, one0]
            rw [if_neg hp0, if_pos hp, if_neg hp0, in_t (a := 0) (b := 1) hs]
            simp only [one0]
            rw [if_neg hp0, saysNow_s]
            unfold J_X7_change_60
            simp only []
            rw [if_neg hp0, show nI 1 = (1 : Int32) from rfl, sayOf_1, hd6]
            rfl
          rw [show nI 1 = (1 : Int32) from rfl, hsa, clr_set t (by omega) m (by have := pow10 hN; omega)] at hx
          obtain ⟨w, hw1, hw2⟩ := set_rg hN hm0 (t := t) ht1
          rw [hw2] at hx
          rw [hsa, hw2] at hm
          rw [h0]
          exact ⟨_, _, _, _, _, _, by rw [← h0, hsa]; exact hx, hm, CR_said hN hw1 hC0, hK1, hK2, hK3, hF, hT, hS0, hS1, hS2, hS3, hG⟩
      · have hx : F_X6_change n0 xv_camp_tents xv_camp_said xf_found xf_camp_kinds p1 p2 p3 = some (-1000001, xv_camp_said, upd xf_found 0 (xf_found 0 + 1), xf_camp_kinds) := by
          unfold F_X6_change
          rw [h0, has_t hN ht]
          simp only [bd1, one0]
          have hJ : J_X6_change_53 p2 n0 p3 xf_found xv_camp_said xf_camp_kinds p1 = some (-1000001, xv_camp_said, upd xf_found 0 (xf_found 0 + 1), xf_camp_kinds) := by
            unfold J_X6_change_53
            by_cases h3 : p2 = 3
            · rw [if_pos h3, isBit_f (fun h => hs ⟨h3, h⟩)]
              rfl
            · rw [if_neg h3]
              rfl
          by_cases h2 : p2 = 0
          · rw [if_pos h2, isKind_f (fun h => hk ⟨h2, h⟩)]
            simp only [zero0]
            exact hJ
          · rw [if_neg h2]
            exact hJ
        have hm : F_X7_change n0 mf_d mf_found p1 p2 p3 = some (-1000001, mf_d, upd mf_found 0 (mf_found 0 + 1)) := by
          unfold F_X7_change J_X7_change_17 J_X7_change_31
          simp only [nm]
          rw [mT_t hN hd0 ht]
          simp only [bd1, one0]
          by_cases h2 : p2 = 0
          · rw [if_pos h2, if_pos h2, in_f (a := 0) (b := 6) (fun h => hk ⟨h2, h⟩)]
            rfl
          · rw [if_neg h2]
            by_cases h3 : p2 = 3
            · rw [if_pos h3, if_neg h2, in_f (a := 0) (b := 1) (fun h => hs ⟨h3, h⟩)]
              rfl
            · rw [if_neg h3]
              rfl
        exact ⟨_, _, _, _, _, _, hx, hm, hC0, hK1, hK2, hK3, fnd_u hF 0 (by decide), hT, hS0, hS1, hS2, hS3, hG⟩
  · have hx : F_X6_change n0 xv_camp_tents xv_camp_said xf_found xf_camp_kinds p1 p2 p3 = some (-1000001, xv_camp_said, upd xf_found 0 (xf_found 0 + 1), xf_camp_kinds) := by
      unfold F_X6_change
      rw [h0, has_f hN ht]
      rfl
    have hm : F_X7_change n0 mf_d mf_found p1 p2 p3 = some (-1000001, mf_d, upd mf_found 0 (mf_found 0 + 1)) := by
      unfold F_X7_change
      rw [mT_f hN hd0 ht]
      rfl
    exact ⟨_, _, _, _, _, _, hx, hm, hC0, hK1, hK2, hK3, fnd_u hF 0 (by decide), hT, hS0, hS1, hS2, hS3, hG⟩
/-! == 54.simple3.tpl -/
theorem CR_wall {kinds yards spots d : Nat → Int32} {w : Nat} {tents said wall bridge counted day z : Int32} (hw : w < 12) (hC : CR kinds yards spots tents said wall bridge counted day z d) : CR kinds yards spots tents said (nI w) bridge counted day z (upd d 3 (nI w)) := by
  obtain ⟨M, hM, h0, hd0, hd1, hd2, hd3, hd4, hd5, hd6, hct, hwl, hbr, hdy, hsa, hA, hKi, hYa, hSp⟩ := hC
  have un : ∀ j : Nat, j ≠ 3 → upd d 3 (nI w) j = d j := fun j h2 => pk_un h2
  exact ⟨M, hM, h0, by rw [un 0 (by decide)]; exact hd0, by rw [un 1 (by decide)]; exact hd1, by rw [un 2 (by decide)]; exact hd2, pk_us, by rw [un 4 (by decide)]; exact hd4, by rw [un 5 (by decide)]; exact hd5, by rw [un 6 (by decide)]; exact hd6, hct, ⟨w, hw, rfl⟩, hbr, hdy, hsa, fun i hi => by rw [un (10 + i) (by omega), un (20 + i) (by omega), un (30 + i) (by omega)]; exact hA i hi, hKi, hYa, hSp⟩
theorem CR_bridge {kinds yards spots d : Nat → Int32} {w : Nat} {tents said wall bridge counted day z : Int32} (hw : w < 12) (hC : CR kinds yards spots tents said wall bridge counted day z d) : CR kinds yards spots tents said wall (nI w) counted day z (upd d 4 (nI w)) := by
  obtain ⟨M, hM, h0, hd0, hd1, hd2, hd3, hd4, hd5, hd6, hct, hwl, hbr, hdy, hsa, hA, hKi, hYa, hSp⟩ := hC
  have un : ∀ j : Nat, j ≠ 4 → upd d 4 (nI w) j = d j := fun j h2 => pk_un h2
  exact ⟨M, hM, h0, by rw [un 0 (by decide)]; exact hd0, by rw [un 1 (by decide)]; exact hd1, by rw [un 2 (by decide)]; exact hd2, by rw [un 3 (by decide)]; exact hd3, pk_us, by rw [un 5 (by decide)]; exact hd5, by rw [un 6 (by decide)]; exact hd6, hct, hwl, ⟨w, hw, rfl⟩, hdy, hsa, fun i hi => by rw [un (10 + i) (by omega), un (20 + i) (by omega), un (30 + i) (by omega)]; exact hA i hi, hKi, hYa, hSp⟩
theorem CR_counted {kinds yards spots d : Nat → Int32} {v : Int32} {tents said wall bridge counted day z : Int32} (hw : v = 0 ∨ v = 1) (hC : CR kinds yards spots tents said wall bridge counted day z d) : CR kinds yards spots tents said wall bridge v day z (upd d 5 v) := by
  obtain ⟨M, hM, h0, hd0, hd1, hd2, hd3, hd4, hd5, hd6, hct, hwl, hbr, hdy, hsa, hA, hKi, hYa, hSp⟩ := hC
  have un : ∀ j : Nat, j ≠ 5 → upd d 5 v j = d j := fun j h2 => pk_un h2
  exact ⟨M, hM, h0, by rw [un 0 (by decide)]; exact hd0, by rw [un 1 (by decide)]; exact hd1, by rw [un 2 (by decide)]; exact hd2, by rw [un 3 (by decide)]; exact hd3, by rw [un 4 (by decide)]; exact hd4, pk_us, by rw [un 6 (by decide)]; exact hd6, hw, hwl, hbr, hdy, hsa, fun i hi => by rw [un (10 + i) (by omega), un (20 + i) (by omega), un (30 + i) (by omega)]; exact hA i hi, hKi, hYa, hSp⟩
theorem st_wall {n0 : Nat} (hn : 2000000 ≤ n0) : St_wall n0 := by
  intro xv_isKept xf_found xv_camp_tents xv_camp_said xv_camp_wall xv_camp_bridge xv_camp_counted xv_camp_day xv_camp_z xf_camp_kinds xf_camp_yards xf_camp_spots xv_kept_tents xv_kept_said xv_kept_wall xv_kept_bridge xv_kept_counted xv_kept_day xv_kept_z xf_kept_kinds xf_kept_yards xf_kept_spots xv_tape_size xf_tape_bytes xv_sheets_0_bits xv_sheets_0_size xf_sheets_0_numbers xv_sheets_1_bits xv_sheets_1_size xf_sheets_1_numbers xv_sheets_2_bits xv_sheets_2_size xf_sheets_2_numbers xv_sheets_3_bits xv_sheets_3_size xf_sheets_3_numbers mv_isKept mv_taped mv_gone mf_d mf_kept mf_found mf_tape mf_bitsOf mf_sizeOf mf_number hI p1 p2
  obtain ⟨hC, hK1, hK2, hK3, hF, hT, hS0, hS1, hS2, hS3, hG⟩ := hI
  have hC0 := hC
  obtain ⟨N, hN, h0, hd0, hd1, hd2, hd3, hd4, hd5, hd6, hct, hwl, hbr, hdy, hsa, hA, hKi, hYa, hSp⟩ := hC
  by_cases ha : p1 = 0 ∧ inR 0 11 p2
  · obtain ⟨hp, hs⟩ := ha
    subst hp
    obtain ⟨w, hw, rfl⟩ := inR_nI (hi := 11) hs
    have hx : F_X6_wall n0 xv_camp_wall xv_camp_bridge xv_camp_counted xf_found 0 (nI w) = some (xv_camp_wall, nI w, xv_camp_bridge, xv_camp_counted, xf_found) := by
      unfold F_X6_wall
      rw [if_pos rfl, isSide_t hs]
      rfl
    have hm : F_X7_wall n0 mf_d mf_found 0 (nI w) = some (xv_camp_wall, upd mf_d 3 (nI w), mf_found) := by
      unfold F_X7_wall J_X7_wall_27
      simp only [nm]
      rw [in_t (a := 0) (b := 2) (p := 0) (by constructor <;> decide)]
      simp only [bd1, one0]
      rw [if_neg (by decide), in_t (a := 0) (b := 11) hs]
      simp only [one0]
      rw [show (3 : Int32) + 0 = 3 from rfl, rd_l 3 l3 (by decide) (by decide), wrt_l 3 l3 (by decide) (by decide), hd3]
    exact ⟨_, _, _, _, _, _, _, hx, hm, CR_wall (by omega) hC0, hK1, hK2, hK3, hF, hT, hS0, hS1, hS2, hS3, hG⟩
  · by_cases hb : p1 = 1 ∧ inR 0 11 p2
    · obtain ⟨hp, hs⟩ := hb
      subst hp
      obtain ⟨w, hw, rfl⟩ := inR_nI (hi := 11) hs
      have hx : F_X6_wall n0 xv_camp_wall xv_camp_bridge xv_camp_counted xf_found 1 (nI w) = some (xv_camp_bridge, xv_camp_wall, nI w, xv_camp_counted, xf_found) := by
        unfold F_X6_wall J_X6_wall_29
        rw [if_neg (by decide), if_pos rfl, isSide_t hs]
        rfl
      have hm : F_X7_wall n0 mf_d mf_found 1 (nI w) = some (xv_camp_bridge, upd mf_d 4 (nI w), mf_found) := by
        unfold F_X7_wall J_X7_wall_27
        simp only [nm]
        rw [in_t (a := 0) (b := 2) (p := 1) (by constructor <;> decide)]
        simp only [bd1, one0]
        rw [if_neg (by decide), in_t (a := 0) (b := 11) hs]
        simp only [one0]
        rw [show (3 : Int32) + 1 = 4 from rfl, rd_l 4 l4 (by decide) (by decide), wrt_l 4 l4 (by decide) (by decide), hd4]
      exact ⟨_, _, _, _, _, _, _, hx, hm, CR_bridge (by omega) hC0, hK1, hK2, hK3, hF, hT, hS0, hS1, hS2, hS3, hG⟩
    · by_cases hc : p1 = 2 ∧ inR 0 1 p2
      · obtain ⟨hp, hs⟩ := hc
        subst hp
        obtain ⟨w, hw, rfl⟩ := inR_nI (hi := 1) hs
        have hx : F_X6_wall n0 xv_camp_wall xv_camp_bridge xv_camp_counted xf_found 2 (nI w) = some (xv_camp_counted, xv_camp_wall, xv_camp_bridge, nI w, xf_found) := by
          unfold F_X6_wall J_X6_wall_29 J_X6_wall_59 J_X6_wall_86
          rw [if_neg (by decide), if_neg (by decide), if_pos rfl, isBit_t hs]
          simp only [bd1, one0]
          rcases hct with h | h <;> rw [h] <;> rcases (show w = 0 ∨ w = 1 by omega) with rfl | rfl <;> rfl
        have hm : F_X7_wall n0 mf_d mf_found 2 (nI w) = some (xv_camp_counted, upd mf_d 5 (nI w), mf_found) := by
          unfold F_X7_wall J_X7_wall_27
          simp only [nm]
          rw [in_t (a := 0) (b := 2) (p := 2) (by constructor <;> decide)]
          simp only [bd1, one0]
          rw [if_pos trivial, in_t (a := 0) (b := 1) hs]
          simp only [one0]
          rw [show (3 : Int32) + 2 = 5 from rfl, rd_l 5 l5 (by decide) (by decide), wrt_l 5 l5 (by decide) (by decide), hd5]
        exact ⟨_, _, _, _, _, _, _, hx, hm, CR_counted (by rcases (show w = 0 ∨ w = 1 by omega) with rfl | rfl; exact Or.inl rfl; exact Or.inr rfl) hC0, hK1, hK2, hK3, hF, hT, hS0, hS1, hS2, hS3, hG⟩
      · have hJ : J_X6_wall_59 p1 n0 p2 xf_found xv_camp_wall xv_camp_bridge xv_camp_counted = some (-1000001, xv_camp_wall, xv_camp_bridge, xv_camp_counted, upd xf_found 0 (xf_found 0 + 1)) := by
          unfold J_X6_wall_59
          by_cases h2 : p1 = 2
          · rw [if_pos h2, isBit_f (fun h => hc ⟨h2, h⟩)]
            rfl
          · rw [if_neg h2]
            rfl
        have hJ2 : J_X6_wall_29 p1 n0 p2 xf_found xv_camp_wall xv_camp_bridge xv_camp_counted = some (-1000001, xv_camp_wall, xv_camp_bridge, xv_camp_counted, upd xf_found 0 (xf_found 0 + 1)) := by
          unfold J_X6_wall_29
          by_cases h1 : p1 = 1
          · rw [if_pos h1, isSide_f (fun h => hb ⟨h1, h⟩)]
            simp only [bd1, zero0]
            exact hJ
          · rw [if_neg h1]
            exact hJ
        have hx : F_X6_wall n0 xv_camp_wall xv_camp_bridge xv_camp_counted xf_found p1 p2 = some (-1000001, xv_camp_wall, xv_camp_bridge, xv_camp_counted, upd xf_found 0 (xf_found 0 + 1)) := by
          unfold F_X6_wall
          by_cases h1 : p1 = 0
          · rw [if_pos h1, isSide_f (fun h => ha ⟨h1, h⟩)]
            simp only [bd1, zero0]
            exact hJ2
          · rw [if_neg h1]
            exact hJ2
        have hm : F_X7_wall n0 mf_d mf_found p1 p2 = some (-1000001, mf_d, upd mf_found 0 (mf_found 0 + 1)) := by
          unfold F_X7_wall J_X7_wall_27
          simp only [nm]
          by_cases hr : inR 0 2 p1
          · rw [in_t (a := 0) (b := 2) hr]
            simp only [bd1, one0]
            by_cases h2 : p1 = 2
            · rw [if_pos h2, in_f (a := 0) (b := 1) (fun h => hc ⟨h2, h⟩)]
              rfl
            · rw [if_neg h2, in_f (a := 0) (b := 11) (fun h => ?_)]
              · rfl
              · obtain ⟨k, hk, rfl⟩ := inR_nI (hi := 2) hr
                rcases (show k = 0 ∨ k = 1 ∨ k = 2 by omega) with rfl | rfl | rfl
                · exact ha ⟨rfl, h⟩
                · exact hb ⟨rfl, h⟩
                · exact h2 rfl
          · rw [in_f (a := 0) (b := 2) hr]
            rfl
        exact ⟨_, _, _, _, _, _, _, hx, hm, hC0, hK1, hK2, hK3, fnd_u hF 0 (by decide), hT, hS0, hS1, hS2, hS3, hG⟩
/-- copying forty numbers -/
theorem copies_r {N1 N2 : Nat} {f : Nat → Int32} (h1 : 40 ≤ N1) (h2 : 40 ≤ N2) (h3 : N1 < 2 ^ 31) (h4 : N2 < 2 ^ 31) : ∀ (k i n : Nat) (g : Nat → Int32), i + k = 40 → k < n → L_X7_copies_2 f N1 N2 n (nI i) g = some (fun j => if i ≤ j ∧ j < 40 then f j else g j) := by
  intro k
  induction k with
  | zero =>
    intro i n g e1 e2
    obtain ⟨n, rfl⟩ : ∃ q, n = q + 1 := ⟨n - 1, by omega⟩
    rw [L_X7_copies_2_u, if_pos (show (40 : Int32) ≤ nI i from nI_le (a := 40) (by omega) (by omega))]
    refine congrArg some (funext fun j => ?_)
    rw [if_neg (by omega)]
  | succ k ih =>
    intro i n g e1 e2
    obtain ⟨n, rfl⟩ : ∃ q, n = q + 1 := ⟨n - 1, by omega⟩
    rw [L_X7_copies_2_u, if_neg (show ¬ (40 : Int32) ≤ nI i from nI_ge (b := 40) (by omega) (by decide)), rd_nI (by omega) h3, wrt_nI (by omega) h4, nm, nI_1, ih (i + 1) n _ (by omega) (by omega)]
    refine congrArg some (funext fun j => ?_)
    by_cases h5 : i + 1 ≤ j ∧ j < 40
    · rw [if_pos h5, if_pos (by omega)]
    · rw [if_neg h5]
      by_cases h6 : j = i
      · subst h6; rw [if_pos (by omega), pk_us]
      · rw [if_neg (by omega), pk_un h6]
theorem copies_s {n0 : Nat} {f g : Nat → Int32} (hn : 2000000 ≤ n0) : F_X7_copies n0 40 40 f g = some (fun j => if j < 40 then f j else g j) := by
  unfold F_X7_copies
  rw [← nI_0, copies_r (by decide) (by decide) (by decide) (by decide) 40 0 n0 g (by omega) (by omega)]
  refine congrArg some (funext fun j => ?_)
  by_cases h : j < 40
  · rw [if_pos h, if_pos (by omega)]
  · rw [if_neg h, if_neg (by omega)]
/-- a camp becomes another one -/
theorem bz_t {Ro : Type} {v : Int32} {k : Option Ro} (h : v = 0 ∨ v = 1) : bz v k = k := if_pos h
theorem become_s {n0 : Nat} {t1 s1 w1 b1 c1 d1 z1 t2 s2 w2 b2 c2 d2 z2 : Int32} {k1 p1 y1 k2 p2 y2 : Nat → Int32} (h : c2 = 0 ∨ c2 = 1) : F_X0_become n0 t1 s1 w1 b1 c1 d1 z1 k1 p1 y1 t2 s2 w2 b2 c2 d2 z2 k2 p2 y2 = some (t2, s2, w2, b2, c2, d2, z2, va_cpy k2 k1 0 0 10, va_cpy p2 p1 0 0 10, va_cpy y2 y1 0 0 10) := by
  have e : F_X0_become n0 t1 s1 w1 b1 c1 d1 z1 k1 p1 y1 t2 s2 w2 b2 c2 d2 z2 k2 p2 y2 = bz c2 (some (t2, s2, w2, b2, c2, d2, z2, va_cpy k2 k1 0 0 10, va_cpy p2 p1 0 0 10, va_cpy y2 y1 0 0 10)) := rfl
  rw [e, bz_t h]
theorem cpy10 {f g : Nat → Int32} {i : Nat} (h : i < 10) : va_cpy f g 0 0 10 i = f i := by
  rw [pk_cpy_in (by omega) (by omega)]
  congr 1
  omega
theorem CR_copy {kinds yards spots d k1 y1 s1 e : Nat → Int32} {tents said wall bridge counted day z : Int32} (hC : CR kinds yards spots tents said wall bridge counted day z d) (hk : ∀ i, i < 10 → k1 i = kinds i) (hy : ∀ i, i < 10 → y1 i = yards i) (hs : ∀ i, i < 10 → s1 i = spots i) (hd : ∀ j, j < 40 → e j = d j) : CR k1 y1 s1 tents said wall bridge counted day z e := by
  obtain ⟨M, hM, h0, hd0, hd1, hd2, hd3, hd4, hd5, hd6, hct, hwl, hbr, hdy, hsa, hA, hKi, hYa, hSp⟩ := hC
  exact ⟨M, hM, h0, by rw [hd 0 (by decide)]; exact hd0, by rw [hd 1 (by decide)]; exact hd1, by rw [hd 2 (by decide)]; exact hd2, by rw [hd 3 (by decide)]; exact hd3, by rw [hd 4 (by decide)]; exact hd4, by rw [hd 5 (by decide)]; exact hd5, by rw [hd 6 (by decide)]; exact hd6, hct, hwl, hbr, hdy, hsa, fun i hi => by rw [hd (10 + i) (by omega), hd (20 + i) (by omega), hd (30 + i) (by omega), hk i hi, hy i hi, hs i hi]; exact hA i hi, fun i hi => by rw [hk i hi]; exact hKi i hi, fun i hi => by rw [hy i hi]; exact hYa i hi, fun i hi => by rw [hs i hi]; exact hSp i hi⟩
theorem st_image {n0 : Nat} (hn : 2000000 ≤ n0) : St_image n0 := by
  intro xv_isKept xf_found xv_camp_tents xv_camp_said xv_camp_wall xv_camp_bridge xv_camp_counted xv_camp_day xv_camp_z xf_camp_kinds xf_camp_yards xf_camp_spots xv_kept_tents xv_kept_said xv_kept_wall xv_kept_bridge xv_kept_counted xv_kept_day xv_kept_z xf_kept_kinds xf_kept_yards xf_kept_spots xv_tape_size xf_tape_bytes xv_sheets_0_bits xv_sheets_0_size xf_sheets_0_numbers xv_sheets_1_bits xv_sheets_1_size xf_sheets_1_numbers xv_sheets_2_bits xv_sheets_2_size xf_sheets_2_numbers xv_sheets_3_bits xv_sheets_3_size xf_sheets_3_numbers mv_isKept mv_taped mv_gone mf_d mf_kept mf_found mf_tape mf_bitsOf mf_sizeOf mf_number hI
  obtain ⟨hC, hK1, hK2, hK3, hF, hT, hS0, hS1, hS2, hS3, hG⟩ := hI
  have hC0 := hC
  obtain ⟨N, hN, h0, hd0, hd1, hd2, hd3, hd4, hd5, hd6, hct, hwl, hbr, hdy, hsa, hA, hKi, hYa, hSp⟩ := hC
  have hx : F_X6_image n0 xv_isKept xv_camp_tents xv_camp_said xv_camp_wall xv_camp_bridge xv_camp_counted xv_camp_day xv_camp_z xv_kept_tents xv_kept_said xv_kept_wall xv_kept_bridge xv_kept_counted xv_kept_day xv_kept_z xf_camp_kinds xf_camp_spots xf_camp_yards xf_kept_kinds xf_kept_spots xf_kept_yards = some (1, 1, xv_camp_tents, xv_camp_said, xv_camp_wall, xv_camp_bridge, xv_camp_counted, xv_camp_day, xv_camp_z, va_cpy xf_camp_kinds xf_kept_kinds 0 0 10, va_cpy xf_camp_spots xf_kept_spots 0 0 10, va_cpy xf_camp_yards xf_kept_yards 0 0 10) := by
    unfold F_X6_image
    rw [become_s hct]
    rfl
  have hm : F_X7_image n0 mv_isKept mf_d mf_kept = some (1, 1, fun j => if j < 40 then mf_d j else mf_kept j) := by
    unfold F_X7_image
    rw [copies_s hn]
    rfl
  exact ⟨_, _, _, _, _, _, _, _, _, _, _, _, _, _, hx, hm, hC0, rfl, Or.inr rfl, fun _ => CR_copy hC0 (fun i hi => cpy10 hi) (fun i hi => cpy10 hi) (fun i hi => cpy10 hi) (fun j hj => if_pos hj), hF, hT, hS0, hS1, hS2, hS3, hG⟩
theorem st_undo {n0 : Nat} (hn : 2000000 ≤ n0) : St_undo n0 := by
  intro xv_isKept xf_found xv_camp_tents xv_camp_said xv_camp_wall xv_camp_bridge xv_camp_counted xv_camp_day xv_camp_z xf_camp_kinds xf_camp_yards xf_camp_spots xv_kept_tents xv_kept_said xv_kept_wall xv_kept_bridge xv_kept_counted xv_kept_day xv_kept_z xf_kept_kinds xf_kept_yards xf_kept_spots xv_tape_size xf_tape_bytes xv_sheets_0_bits xv_sheets_0_size xf_sheets_0_numbers xv_sheets_1_bits xv_sheets_1_size xf_sheets_1_numbers xv_sheets_2_bits xv_sheets_2_size xf_sheets_2_numbers xv_sheets_3_bits xv_sheets_3_size xf_sheets_3_numbers mv_isKept mv_taped mv_gone mf_d mf_kept mf_found mf_tape mf_bitsOf mf_sizeOf mf_number hI
  obtain ⟨hC, hK1, hK2, hK3, hF, hT, hS0, hS1, hS2, hS3, hG⟩ := hI
  rcases hK2 with h | h
  · have hx : F_X6_undo n0 xv_isKept xv_camp_tents xv_camp_said xv_camp_wall xv_camp_bridge xv_camp_counted xv_camp_day xv_camp_z xf_found xv_kept_tents xv_kept_said xv_kept_wall xv_kept_bridge xv_kept_counted xv_kept_day xv_kept_z xf_camp_kinds xf_camp_spots xf_camp_yards xf_kept_kinds xf_kept_spots xf_kept_yards = some (-1000004, xv_camp_tents, xv_camp_said, xv_camp_wall, xv_camp_bridge, xv_camp_counted, xv_camp_day, xv_camp_z, upd xf_found 3 (xf_found 3 + 1), xf_camp_kinds, xf_camp_spots, xf_camp_yards) := by
      unfold F_X6_undo
      rw [if_pos h]
      rfl
    have hm : F_X7_undo n0 mv_isKept mf_d mf_found mf_kept = some (-1000004, mf_d, upd mf_found 3 (mf_found 3 + 1)) := by
      unfold F_X7_undo
      rw [hK1, if_pos h]
      rfl
    exact ⟨_, _, _, _, _, _, _, _, _, _, _, _, _, _, hx, hm, hC, hK1, Or.inl h, hK3, fnd_u hF 3 (by decide), hT, hS0, hS1, hS2, hS3, hG⟩
  · have hk := hK3 h
    have h1 : ¬ xv_isKept = 0 := by rw [h]; decide
    have hct : xv_kept_counted = 0 ∨ xv_kept_counted = 1 := by
      obtain ⟨_, _, _, _, _, _, _, _, _, _, hct, _⟩ := hk
      exact hct
    have hx : F_X6_undo n0 xv_isKept xv_camp_tents xv_camp_said xv_camp_wall xv_camp_bridge xv_camp_counted xv_camp_day xv_camp_z xf_found xv_kept_tents xv_kept_said xv_kept_wall xv_kept_bridge xv_kept_counted xv_kept_day xv_kept_z xf_camp_kinds xf_camp_spots xf_camp_yards xf_kept_kinds xf_kept_spots xf_kept_yards = some (xv_kept_day, xv_kept_tents, xv_kept_said, xv_kept_wall, xv_kept_bridge, xv_kept_counted, xv_kept_day, xv_kept_z, xf_found, va_cpy xf_kept_kinds xf_camp_kinds 0 0 10, va_cpy xf_kept_spots xf_camp_spots 0 0 10, va_cpy xf_kept_yards xf_camp_yards 0 0 10) := by
      unfold F_X6_undo
      rw [if_neg h1, become_s hct]
      rfl
    have hd1 : mf_kept 1 = xv_kept_day := by
      obtain ⟨_, _, _, _, hd1, _⟩ := hk
      exact hd1
    have hm : F_X7_undo n0 mv_isKept mf_d mf_found mf_kept = some (xv_kept_day, fun j => if j < 40 then mf_kept j else mf_d j, mf_found) := by
      unfold F_X7_undo
      rw [hK1, if_neg h1, copies_s hn]
      simp only [bd1]
      rw [rd_l 1 l1 (by decide) (by decide), if_pos (by decide), hd1]
    exact ⟨_, _, _, _, _, _, _, _, _, _, _, _, _, _, hx, hm, CR_copy hk (fun i hi => cpy10 hi) (fun i hi => cpy10 hi) (fun i hi => cpy10 hi) (fun j hj => if_pos hj), hK1, Or.inr h, hK3, hF, hT, hS0, hS1, hS2, hS3, hG⟩
/-! == 55.sheets.tpl -/
theorem ixb_r {p : Int32} : ixb p 4 = true ↔ inR 0 3 p := by
  simp only [ixb, Bool.and_eq_true, decide_eq_true_eq, inR]
  omega
theorem ixq_t {Ro : Type} {k : Nat} {q : Option Ro} (h : k < 4) : ixq (nI k) 4 q = q := if_pos (ixb_nI h (by decide))
theorem num_ix {k i : Nat} : (40 : Int32) * nI k + nI i = nI (40 * k + i) := by
  rw [show (40 : Int32) = nI 40 from rfl, pk_mul, nI_add]
theorem SR_of {j : Nat} {nb : Nat → Int32} {b s : Int32} {bO sO nu bO' sO' nu' : Nat → Int32} (h : SR j nb b s bO sO nu) (h1 : bO' j = bO j) (h2 : sO' j = sO j) (h3 : ∀ i, i < 40 → nu' (40 * j + i) = nu (40 * j + i)) : SR j nb b s bO' sO' nu' :=
  ⟨h1.trans h.1, h2.trans h.2.1, h.2.2.1, h.2.2.2.1, fun i hi => (h3 i hi).trans (h.2.2.2.2 i hi)⟩
theorem clrN_r {k : Nat} (hk : k < 4) {g4 g5 found : Nat → Int32} : ∀ (c i n : Nat) (t : Nat → Int32), i + c = 40 → c < n → L_X7_sheet_83 g5 (nI k) g4 found n (nI i) t = some (g5 k, g4, found, (fun j => if 40 * k + i ≤ j ∧ j < 40 * k + 40 then 0 else t j), g5) := by
  intro c
  induction c with
  | zero =>
    intro i n t h1 h2
    obtain ⟨n, rfl⟩ : ∃ q, n = q + 1 := ⟨n - 1, by omega⟩
    rw [L_X7_sheet_83_u, if_pos (show (40 : Int32) ≤ nI i from nI_le (a := 40) (by omega) (by omega)), rd_nI hk (by decide)]
    have e : (fun j => if 40 * k + i ≤ j ∧ j < 40 * k + 40 then 0 else t j) = t := funext fun j => if_neg (by omega)
    rw [e]
  | succ c ih =>
    intro i n t h1 h2
    obtain ⟨n, rfl⟩ : ∃ q, n = q + 1 := ⟨n - 1, by omega⟩
    rw [L_X7_sheet_83_u, if_neg (show ¬ (40 : Int32) ≤ nI i from nI_ge (b := 40) (by omega) (by decide))]
    simp only [nm]
    rw [num_ix, wrt_nI (by omega) (by decide), nI_1, ih (i + 1) n _ (by omega) (by omega)]
    have e : (fun j => if 40 * k + (i + 1) ≤ j ∧ j < 40 * k + 40 then 0 else upd t (40 * k + i) 0 j) = (fun j => if 40 * k + i ≤ j ∧ j < 40 * k + 40 then 0 else t j) := funext fun j => by
      by_cases h3 : 40 * k + (i + 1) ≤ j ∧ j < 40 * k + 40
      · rw [if_pos h3, if_pos (by omega)]
      · rw [if_neg h3]
        by_cases h4 : j = 40 * k + i
        · subst h4; rw [pk_us, if_pos (by omega)]
        · rw [pk_un h4, if_neg (by omega)]
    rw [e]
theorem clrN_r' {k : Nat} (hk : k < 4) {g4 g5 found : Nat → Int32} : ∀ (c i n : Nat) (t : Nat → Int32), i + c = 40 → c < n → L_X7_sheet_83' g5 (nI k) g4 found n (nI i) t = some (g5 k, g4, found, (fun j => if 40 * k + i ≤ j ∧ j < 40 * k + 40 then 0 else t j), g5) := by
  intro c i n t h1 h2
  exact clrN_r hk c i n t h1 h2
theorem sheet_core {n0 k : Nat} (hn : 2000000 ≤ n0) (hk4 : k < 4) {bits size p1 p2 p3 : Int32} {numbers found mfound bitsOf sizeOf number : Nat → Int32} (hk : ixb p1 4 = true → p1 = nI k) (hF : ∀ i : Nat, i < 7 → mfound i = found i) (hS : SR k numbers bits size bitsOf sizeOf number) : ∃ (r : Int32) (o0 : Nat → Int32) (o1 o2 : Int32) (o3 w0 w1 w2 w3 : Nat → Int32), F_X6_sheet n0 found bits size numbers p1 p2 p3 = some (r, o0, o1, o2, o3) ∧ F_X7_sheet n0 bitsOf mfound number sizeOf p1 p2 p3 = some (r, w0, w1, w2, w3) ∧ (∀ i : Nat, i < 7 → w1 i = o0 i) ∧ SR k o3 o1 o2 w0 w3 w2 ∧ ∀ j : Nat, j < 4 → j ≠ k → ∀ (nb : Nat → Int32) (b s : Int32), SR j nb b s bitsOf sizeOf number → SR j nb b s w0 w3 w2 := by
  by_cases hs : inR 0 3 p1
  · have e := hk (ixb_r.mpr hs)
    subst e
    by_cases hb : p2 = 0 ∨ p2 = 8 ∨ p2 = 16 ∨ p2 = 32
    · have e1 : F_X6_sheet n0 found bits size numbers (nI k) p2 p3 = J_X6_sheet_36 p3 (nI k) n0 bits size numbers p2 found := by
        unfold F_X6_sheet
        rw [isSheet_t hs]
        rcases hb with h | h | h | h <;> subst h <;> rfl
      have e2 : F_X7_sheet n0 bitsOf mfound number sizeOf (nI k) p2 p3 = J_X7_sheet_35 p3 bitsOf (nI k) p2 sizeOf mfound n0 number := by
        unfold F_X7_sheet
        rw [mSheet_t hs]
        rcases hb with h | h | h | h <;> subst h <;> rfl
      by_cases h3 : 0 ≤ p3
      · by_cases h4 : p3 ≤ 40
        · have h5 : ¬ p3 < 0 := by
            rw [Int32.le_iff_toInt_le] at h3
            rw [Int32.lt_iff_toInt_lt]
            omega
          obtain ⟨z, hz, rfl⟩ := nI_of2 (M := 40) (n := 40) rfl h5 h4
          have hfill := fill_all (N := 40) (n0 := n0) (v := 0) (f := numbers) (by decide) (by omega)
          by_cases hz0 : p2 = 0
          · subst hz0
            have hx : F_X6_sheet n0 found bits size numbers (nI k) 0 (nI z) = some (0, found, 0, 0, fun j => if j < 40 then 0 else numbers j) := by
              rw [e1]
              unfold J_X6_sheet_36 F_X2_layOut
              rw [if_pos h3, if_pos h4, ixq_t hk4, if_pos rfl, hfill]
              simp only [bd1, bd3]
              rw [ixq_t hk4]
            have hm : F_X7_sheet n0 bitsOf mfound number sizeOf (nI k) 0 (nI z) = some (0, upd bitsOf k 0, mfound, (fun j => if 40 * k + 0 ≤ j ∧ j < 40 * k + 40 then 0 else number j), upd sizeOf k 0) := by
              rw [e2]
              unfold J_X7_sheet_35
              rw [if_pos h3, if_pos h4, wrt_nI hk4 (by decide), if_pos rfl, wrt_nI hk4 (by decide), ← nI_0, clrN_r' hk4 40 0 n0 number (by omega) (by omega), pk_us]
              rfl
            refine ⟨_, _, _, _, _, _, _, _, _, hx, hm, hF, ⟨pk_us, pk_us, Or.inl rfl, ⟨0, by decide, rfl, fun _ => rfl⟩, fun i hi => ?_⟩, fun j hj hjk nb b s h => SR_of h (pk_un hjk) (pk_un hjk) (fun i hi => if_neg (by omega))⟩
            simp only []
            rw [if_pos (by omega), if_pos hi]
          · have hx : F_X6_sheet n0 found bits size numbers (nI k) p2 (nI z) = some (nI z, found, p2, nI z, fun j => if j < 40 then 0 else numbers j) := by
              rw [e1]
              unfold J_X6_sheet_36 F_X2_layOut
              rw [if_pos h3, if_pos h4, ixq_t hk4, if_neg hz0, hfill]
              simp only [bd1, bd3]
              rw [ixq_t hk4]
            have hm : F_X7_sheet n0 bitsOf mfound number sizeOf (nI k) p2 (nI z) = some (nI z, upd bitsOf k p2, mfound, (fun j => if 40 * k + 0 ≤ j ∧ j < 40 * k + 40 then 0 else number j), upd sizeOf k (nI z)) := by
              rw [e2]
              unfold J_X7_sheet_35
              rw [if_pos h3, if_pos h4, wrt_nI hk4 (by decide), if_neg hz0, wrt_nI hk4 (by decide), ← nI_0, clrN_r hk4 40 0 n0 number (by omega) (by omega), pk_us]
              rfl
            refine ⟨_, _, _, _, _, _, _, _, _, hx, hm, hF, ⟨pk_us, pk_us, hb, ⟨z, hz, rfl, fun h => absurd h hz0⟩, fun i hi => ?_⟩, fun j hj hjk nb b s h => SR_of h (pk_un hjk) (pk_un hjk) (fun i hi => if_neg (by omega))⟩
            simp only []
            rw [if_pos (by omega), if_pos hi]
        · have hx : F_X6_sheet n0 found bits size numbers (nI k) p2 p3 = some (-1000001, upd found 0 (found 0 + 1), bits, size, numbers) := by
            rw [e1]
            unfold J_X6_sheet_36
            rw [if_pos h3, if_neg h4]
            rfl
          have hm : F_X7_sheet n0 bitsOf mfound number sizeOf (nI k) p2 p3 = some (-1000001, bitsOf, upd mfound 0 (mfound 0 + 1), number, sizeOf) := by
            rw [e2]
            unfold J_X7_sheet_35
            rw [if_pos h3, if_neg h4]
            rfl
          exact ⟨_, _, _, _, _, _, _, _, _, hx, hm, fnd_u hF 0 (by decide), hS, fun _ _ _ _ _ _ h => h⟩
      · have hx : F_X6_sheet n0 found bits size numbers (nI k) p2 p3 = some (-1000007, upd found 6 (found 6 + 1), bits, size, numbers) := by
          rw [e1]
          unfold J_X6_sheet_36
          rw [if_neg h3]
          rfl
        have hm : F_X7_sheet n0 bitsOf mfound number sizeOf (nI k) p2 p3 = some (-1000007, bitsOf, upd mfound 6 (mfound 6 + 1), number, sizeOf) := by
          rw [e2]
          unfold J_X7_sheet_35
          rw [if_neg h3]
          rfl
        exact ⟨_, _, _, _, _, _, _, _, _, hx, hm, fnd_u hF 6 (by decide), hS, fun _ _ _ _ _ _ h => h⟩
    · have hx : F_X6_sheet n0 found bits size numbers (nI k) p2 p3 = some (-1000001, upd found 0 (found 0 + 1), bits, size, numbers) := by
        unfold F_X6_sheet
        rw [isSheet_t hs]
        simp only [bd1, one0]
        rw [if_neg (fun h => hb (Or.inl h)), if_neg (fun h => hb (Or.inr (Or.inl h))), if_neg (fun h => hb (Or.inr (Or.inr (Or.inl h)))), if_neg (fun h => hb (Or.inr (Or.inr (Or.inr h))))]
        rfl
      have hm : F_X7_sheet n0 bitsOf mfound number sizeOf (nI k) p2 p3 = some (-1000001, bitsOf, upd mfound 0 (mfound 0 + 1), number, sizeOf) := by
        unfold F_X7_sheet
        rw [mSheet_t hs]
        simp only [bd1, one0]
        rw [if_neg (fun h => hb (Or.inl h)), if_neg (fun h => hb (Or.inr (Or.inl h))), if_neg (fun h => hb (Or.inr (Or.inr (Or.inl h)))), if_neg (fun h => hb (Or.inr (Or.inr (Or.inr h))))]
        rfl
      exact ⟨_, _, _, _, _, _, _, _, _, hx, hm, fnd_u hF 0 (by decide), hS, fun _ _ _ _ _ _ h => h⟩
  · have hx : F_X6_sheet n0 found bits size numbers p1 p2 p3 = some (-1000001, upd found 0 (found 0 + 1), bits, size, numbers) := by
      unfold F_X6_sheet
      rw [isSheet_f hs]
      rfl
    have hm : F_X7_sheet n0 bitsOf mfound number sizeOf p1 p2 p3 = some (-1000001, bitsOf, upd mfound 0 (mfound 0 + 1), number, sizeOf) := by
      unfold F_X7_sheet
      rw [mSheet_f hs]
      rfl
    exact ⟨_, _, _, _, _, _, _, _, _, hx, hm, fnd_u hF 0 (by decide), hS, fun _ _ _ _ _ _ h => h⟩
theorem st_sheet_0 {n0 : Nat} (hn : 2000000 ≤ n0) : St_sheet_0 n0 := by
  intro xv_isKept xf_found xv_camp_tents xv_camp_said xv_camp_wall xv_camp_bridge xv_camp_counted xv_camp_day xv_camp_z xf_camp_kinds xf_camp_yards xf_camp_spots xv_kept_tents xv_kept_said xv_kept_wall xv_kept_bridge xv_kept_counted xv_kept_day xv_kept_z xf_kept_kinds xf_kept_yards xf_kept_spots xv_tape_size xf_tape_bytes xv_sheets_0_bits xv_sheets_0_size xf_sheets_0_numbers xv_sheets_1_bits xv_sheets_1_size xf_sheets_1_numbers xv_sheets_2_bits xv_sheets_2_size xf_sheets_2_numbers xv_sheets_3_bits xv_sheets_3_size xf_sheets_3_numbers mv_isKept mv_taped mv_gone mf_d mf_kept mf_found mf_tape mf_bitsOf mf_sizeOf mf_number hI p1 p2 p3 hk1
  obtain ⟨hC, hK1, hK2, hK3, hF, hT, hS0, hS1, hS2, hS3, hG⟩ := hI
  obtain ⟨r, o0, o1, o2, o3, w0, w1, w2, w3, hx, hm, h1, h2, h3⟩ := sheet_core (p2 := p2) (p3 := p3) hn (by decide) hk1 hF hS0
  exact ⟨r, o0, o1, o2, o3, w0, w1, w2, w3, hx, hm, hC, hK1, hK2, hK3, h1, hT, h2, h3 1 (by decide) (by decide) _ _ _ hS1, h3 2 (by decide) (by decide) _ _ _ hS2, h3 3 (by decide) (by decide) _ _ _ hS3, hG⟩
theorem st_sheet_1 {n0 : Nat} (hn : 2000000 ≤ n0) : St_sheet_1 n0 := by
  intro xv_isKept xf_found xv_camp_tents xv_camp_said xv_camp_wall xv_camp_bridge xv_camp_counted xv_camp_day xv_camp_z xf_camp_kinds xf_camp_yards xf_camp_spots xv_kept_tents xv_kept_said xv_kept_wall xv_kept_bridge xv_kept_counted xv_kept_day xv_kept_z xf_kept_kinds xf_kept_yards xf_kept_spots xv_tape_size xf_tape_bytes xv_sheets_0_bits xv_sheets_0_size xf_sheets_0_numbers xv_sheets_1_bits xv_sheets_1_size xf_sheets_1_numbers xv_sheets_2_bits xv_sheets_2_size xf_sheets_2_numbers xv_sheets_3_bits xv_sheets_3_size xf_sheets_3_numbers mv_isKept mv_taped mv_gone mf_d mf_kept mf_found mf_tape mf_bitsOf mf_sizeOf mf_number hI p1 p2 p3 hk1
  obtain ⟨hC, hK1, hK2, hK3, hF, hT, hS0, hS1, hS2, hS3, hG⟩ := hI
  obtain ⟨r, o0, o1, o2, o3, w0, w1, w2, w3, hx, hm, h1, h2, h3⟩ := sheet_core (p2 := p2) (p3 := p3) hn (by decide) hk1 hF hS1
  exact ⟨r, o0, o1, o2, o3, w0, w1, w2, w3, hx, hm, hC, hK1, hK2, hK3, h1, hT, h3 0 (by decide) (by decide) _ _ _ hS0, h2, h3 2 (by decide) (by decide) _ _ _ hS2, h3 3 (by decide) (by decide) _ _ _ hS3, hG⟩
theorem st_sheet_2 {n0 : Nat} (hn : 2000000 ≤ n0) : St_sheet_2 n0 := by
  intro xv_isKept xf_found xv_camp_tents xv_camp_said xv_camp_wall xv_camp_bridge xv_camp_counted xv_camp_day xv_camp_z xf_camp_kinds xf_camp_yards xf_camp_spots xv_kept_tents xv_kept_said xv_kept_wall xv_kept_bridge xv_kept_counted xv_kept_day xv_kept_z xf_kept_kinds xf_kept_yards xf_kept_spots xv_tape_size xf_tape_bytes xv_sheets_0_bits xv_sheets_0_size xf_sheets_0_numbers xv_sheets_1_bits xv_sheets_1_size xf_sheets_1_numbers xv_sheets_2_bits xv_sheets_2_size xf_sheets_2_numbers xv_sheets_3_bits xv_sheets_3_size xf_sheets_3_numbers mv_isKept mv_taped mv_gone mf_d mf_kept mf_found mf_tape mf_bitsOf mf_sizeOf mf_number hI p1 p2 p3 hk1
  obtain ⟨hC, hK1, hK2, hK3, hF, hT, hS0, hS1, hS2, hS3, hG⟩ := hI
  obtain ⟨r, o0, o1, o2, o3, w0, w1, w2, w3, hx, hm, h1, h2, h3⟩ := sheet_core (p2 := p2) (p3 := p3) hn (by decide) hk1 hF hS2
  exact ⟨r, o0, o1, o2, o3, w0, w1, w2, w3, hx, hm, hC, hK1, hK2, hK3, h1, hT, h3 0 (by decide) (by decide) _ _ _ hS0, h3 1 (by decide) (by decide) _ _ _ hS1, h2, h3 3 (by decide) (by decide) _ _ _ hS3, hG⟩
theorem st_sheet_3 {n0 : Nat} (hn : 2000000 ≤ n0) : St_sheet_3 n0 := by
  intro xv_isKept xf_found xv_camp_tents xv_camp_said xv_camp_wall xv_camp_bridge xv_camp_counted xv_camp_day xv_camp_z xf_camp_kinds xf_camp_yards xf_camp_spots xv_kept_tents xv_kept_said xv_kept_wall xv_kept_bridge xv_kept_counted xv_kept_day xv_kept_z xf_kept_kinds xf_kept_yards xf_kept_spots xv_tape_size xf_tape_bytes xv_sheets_0_bits xv_sheets_0_size xf_sheets_0_numbers xv_sheets_1_bits xv_sheets_1_size xf_sheets_1_numbers xv_sheets_2_bits xv_sheets_2_size xf_sheets_2_numbers xv_sheets_3_bits xv_sheets_3_size xf_sheets_3_numbers mv_isKept mv_taped mv_gone mf_d mf_kept mf_found mf_tape mf_bitsOf mf_sizeOf mf_number hI p1 p2 p3 hk1
  obtain ⟨hC, hK1, hK2, hK3, hF, hT, hS0, hS1, hS2, hS3, hG⟩ := hI
  obtain ⟨r, o0, o1, o2, o3, w0, w1, w2, w3, hx, hm, h1, h2, h3⟩ := sheet_core (p2 := p2) (p3 := p3) hn (by decide) hk1 hF hS3
  exact ⟨r, o0, o1, o2, o3, w0, w1, w2, w3, hx, hm, hC, hK1, hK2, hK3, h1, hT, h3 0 (by decide) (by decide) _ _ _ hS0, h3 1 (by decide) (by decide) _ _ _ hS1, h3 2 (by decide) (by decide) _ _ _ hS2, h2, hG⟩
/-! == 56.sheets2.tpl -/
def cutB (bits v : Int32) : Int32 := if bits = 8 then v.toInt8.toInt32 else if bits = 16 then v.toInt16.toInt32 else v
theorem why_t {n0 k : Nat} {bitsOf : Nat → Int32} (hk : k < 4) (hs : inR 0 3 (nI k)) (h : ¬ bitsOf k = 0) : F_X7_whyNone n0 bitsOf (nI k) = some (-1) := by
  unfold F_X7_whyNone
  rw [mSheet_t hs]
  simp only [bd1, one0]
  rw [rd_nI hk (by decide), if_neg h]
theorem why_5 {n0 k : Nat} {bitsOf : Nat → Int32} (hk : k < 4) (hs : inR 0 3 (nI k)) (h : bitsOf k = 0) : F_X7_whyNone n0 bitsOf (nI k) = some 5 := by
  unfold F_X7_whyNone
  rw [mSheet_t hs]
  simp only [bd1, one0]
  rw [rd_nI hk (by decide), if_pos h]
theorem why_0 {n0 : Nat} {p : Int32} {bitsOf : Nat → Int32} (hs : ¬ inR 0 3 p) : F_X7_whyNone n0 bitsOf p = some 0 := by
  unfold F_X7_whyNone
  rw [mSheet_f hs]
  rfl
theorem miss_t {n0 : Nat} {b : Int32} (h : b = 0) : F_X2_isMissing n0 b = some 1 := if_pos h
theorem miss_f {n0 : Nat} {b : Int32} (h : ¬ b = 0) : F_X2_isMissing n0 b = some 0 := if_neg h
theorem write_core {n0 k : Nat} (hn : 2000000 ≤ n0) (hk4 : k < 4) {bits size p1 p2 p3 : Int32} {numbers found mfound bitsOf sizeOf number : Nat → Int32} (hk : ixb p1 4 = true → p1 = nI k) (hF : ∀ i : Nat, i < 7 → mfound i = found i) (hS : SR k numbers bits size bitsOf sizeOf number) : ∃ (r : Int32) (o0 o1 w0 w1 : Nat → Int32), F_X6_write n0 found bits size numbers p1 p2 p3 = some (r, o0, o1) ∧ F_X7_write n0 bitsOf mfound number sizeOf p1 p2 p3 = some (r, w0, w1) ∧ (∀ i : Nat, i < 7 → w0 i = o0 i) ∧ SR k o1 bits size bitsOf sizeOf w1 ∧ ∀ j : Nat, j < 4 → j ≠ k → ∀ (nb : Nat → Int32) (b s : Int32), SR j nb b s bitsOf sizeOf number → SR j nb b s bitsOf sizeOf w1 := by
  have hS0 := hS
  obtain ⟨hb, hz, hb4, ⟨z, hz1, hz2, hz3⟩, hnu⟩ := hS
  by_cases hs : inR 0 3 p1
  · have e := hk (ixb_r.mpr hs)
    subst e
    by_cases h0 : bits = 0
    · have hx : F_X6_write n0 found bits size numbers (nI k) p2 p3 = some (-1000006, upd found 5 (found 5 + 1), numbers) := by
        unfold F_X6_write
        rw [isSheet_t hs]
        simp only [bd1, one0]
        rw [ixq_t hk4, miss_t h0]
        rfl
      have hm : F_X7_write n0 bitsOf mfound number sizeOf (nI k) p2 p3 = some (-1000006, upd mfound 5 (mfound 5 + 1), number) := by
        unfold F_X7_write
        rw [why_5 hk4 hs (hb.trans h0)]
        rfl
      exact ⟨_, _, _, _, _, hx, hm, fnd_u hF 5 (by decide), hS0, fun _ _ _ _ _ _ h => h⟩
    · have hmT : (nI z - 1).toInt64.toInt = (z : Int) - 1 := by
        rw [Int32.toInt_toInt64]
        exact pk_sub_toInt (a := z) (b := 1) (by omega) (by decide)
      by_cases hi : inR 0 (z - 1) p2
      · have hlt : ¬ p2 < 0 := by
          rw [Int32.lt_iff_toInt_lt]
          have := hi.1
          have a3 : (0 : Int32).toInt = 0 := rfl
          omega
        obtain ⟨i, hi1, rfl⟩ := nI_of hlt
        have hiz : i < z := by
          have := hi.2
          rw [nI_toInt hi1] at this
          omega
        have hset : F_X2_set n0 bits size numbers (nI i) p3 = some (upd numbers i (cutB bits p3)) := by
          unfold F_X2_set cutB
          rw [if_neg hlt, hz2, if_neg (nI_ge hiz (by omega)), if_pos (show nI i < 40 from nI_lt (b := 40) (by omega) (by decide))]
          simp only [nm]
          by_cases h8 : bits = 8
          · rw [if_pos h8, if_pos h8, wrt_nI (by omega) (by decide)]
          · rw [if_neg h8, if_neg h8]
            by_cases h16 : bits = 16
            · rw [if_pos h16, if_pos h16, wrt_nI (by omega) (by decide)]
            · rw [if_neg h16, if_neg h16, wrt_nI (by omega) (by decide)]
        have hx : F_X6_write n0 found bits size numbers (nI k) (nI i) p3 = some (1, found, upd numbers i (cutB bits p3)) := by
          unfold F_X6_write
          rw [isSheet_t hs]
          simp only [bd1, one0]
          rw [ixq_t hk4, miss_f h0]
          simp only [zero0]
          rw [if_neg hlt, ixq_t hk4, if_pos (show nI i < size from by rw [hz2]; exact nI_lt hiz (by omega)), ixq_t hk4, hset]
          rfl
        have hm : F_X7_write n0 bitsOf mfound number sizeOf (nI k) (nI i) p3 = some (1, mfound, upd number (40 * k + i) (cutB bits p3)) := by
          unfold F_X7_write
          rw [why_t hk4 hs (by rw [hb]; exact h0)]
          simp only [bd1]
          rw [if_neg (by decide)]
          simp only [nm]
          rw [rd_nI hk4 (by decide), hz, hz2, in_t (a := 0) (b := (nI z - 1).toInt64) ⟨hi.1, by rw [hmT]; exact hi.2⟩]
          simp only [one0]
          unfold J_X7_write_34 J_X7_write_36 cutB
          simp only [nm]
          rw [if_pos (by decide), num_ix, rd_nI hk4 (by decide), hb]
          by_cases h8 : bits = 8
          · rw [if_pos h8, if_pos h8, wrt_nI (by omega) (by decide)]
          · rw [if_neg h8, if_neg h8, rd_nI hk4 (by decide), hb]
            by_cases h16 : bits = 16
            · rw [if_pos h16, if_pos h16, wrt_nI (by omega) (by decide)]
            · rw [if_neg h16, if_neg h16, wrt_nI (by omega) (by decide)]
        refine ⟨_, _, _, _, _, hx, hm, hF, ⟨hb, hz, hb4, ⟨z, hz1, hz2, hz3⟩, fun q hq => ?_⟩, fun j hj hjk nb b s h => SR_of h rfl rfl (fun q hq => pk_un (by omega))⟩
        by_cases h : q = i
        · subst h; rw [pk_us, pk_us]
        · rw [pk_un (by omega), pk_un h]; exact hnu q hq
      · have hx : F_X6_write n0 found bits size numbers (nI k) p2 p3 = some (-1000001, upd found 0 (found 0 + 1), numbers) := by
          unfold F_X6_write
          rw [isSheet_t hs]
          simp only [bd1, one0]
          rw [ixq_t hk4, miss_f h0]
          simp only [zero0]
          by_cases hlt : p2 < 0
          · rw [if_pos hlt]
            rfl
          · have hge : ¬ p2 < size := fun h => by
              obtain ⟨i, hi1, rfl⟩ := nI_of hlt
              rw [hz2, nI_ltI hi1 (by omega)] at h
              exact hi ⟨by rw [nI_toInt hi1]; omega, by rw [nI_toInt hi1]; omega⟩
            rw [if_neg hlt, ixq_t hk4, if_neg hge]
            rfl
        have hm : F_X7_write n0 bitsOf mfound number sizeOf (nI k) p2 p3 = some (-1000001, upd mfound 0 (mfound 0 + 1), number) := by
          unfold F_X7_write
          rw [why_t hk4 hs (by rw [hb]; exact h0)]
          simp only [bd1]
          rw [if_neg (by decide)]
          simp only [nm]
          rw [rd_nI hk4 (by decide), hz, hz2, in_f (a := 0) (b := (nI z - 1).toInt64) (fun h => hi ⟨h.1, by have := h.2; rw [hmT] at this; exact this⟩)]
          rfl
        exact ⟨_, _, _, _, _, hx, hm, fnd_u hF 0 (by decide), hS0, fun _ _ _ _ _ _ h => h⟩
  · have hx : F_X6_write n0 found bits size numbers p1 p2 p3 = some (-1000001, upd found 0 (found 0 + 1), numbers) := by
      unfold F_X6_write
      rw [isSheet_f hs]
      rfl
    have hm : F_X7_write n0 bitsOf mfound number sizeOf p1 p2 p3 = some (-1000001, upd mfound 0 (mfound 0 + 1), number) := by
      unfold F_X7_write
      rw [why_0 hs]
      rfl
    exact ⟨_, _, _, _, _, hx, hm, fnd_u hF 0 (by decide), hS0, fun _ _ _ _ _ _ h => h⟩
theorem st_write_0 {n0 : Nat} (hn : 2000000 ≤ n0) : St_write_0 n0 := by
  intro xv_isKept xf_found xv_camp_tents xv_camp_said xv_camp_wall xv_camp_bridge xv_camp_counted xv_camp_day xv_camp_z xf_camp_kinds xf_camp_yards xf_camp_spots xv_kept_tents xv_kept_said xv_kept_wall xv_kept_bridge xv_kept_counted xv_kept_day xv_kept_z xf_kept_kinds xf_kept_yards xf_kept_spots xv_tape_size xf_tape_bytes xv_sheets_0_bits xv_sheets_0_size xf_sheets_0_numbers xv_sheets_1_bits xv_sheets_1_size xf_sheets_1_numbers xv_sheets_2_bits xv_sheets_2_size xf_sheets_2_numbers xv_sheets_3_bits xv_sheets_3_size xf_sheets_3_numbers mv_isKept mv_taped mv_gone mf_d mf_kept mf_found mf_tape mf_bitsOf mf_sizeOf mf_number hI p1 p2 p3 hk1
  obtain ⟨hC, hK1, hK2, hK3, hF, hT, hS0, hS1, hS2, hS3, hG⟩ := hI
  obtain ⟨r, o0, o1, w0, w1, hx, hm, h1, h2, h3⟩ := write_core (p2 := p2) (p3 := p3) hn (by decide) hk1 hF hS0
  exact ⟨r, o0, o1, w0, w1, hx, hm, hC, hK1, hK2, hK3, h1, hT, h2, h3 1 (by decide) (by decide) _ _ _ hS1, h3 2 (by decide) (by decide) _ _ _ hS2, h3 3 (by decide) (by decide) _ _ _ hS3, hG⟩
theorem st_write_1 {n0 : Nat} (hn : 2000000 ≤ n0) : St_write_1 n0 := by
  intro xv_isKept xf_found xv_camp_tents xv_camp_said xv_camp_wall xv_camp_bridge xv_camp_counted xv_camp_day xv_camp_z xf_camp_kinds xf_camp_yards xf_camp_spots xv_kept_tents xv_kept_said xv_kept_wall xv_kept_bridge xv_kept_counted xv_kept_day xv_kept_z xf_kept_kinds xf_kept_yards xf_kept_spots xv_tape_size xf_tape_bytes xv_sheets_0_bits xv_sheets_0_size xf_sheets_0_numbers xv_sheets_1_bits xv_sheets_1_size xf_sheets_1_numbers xv_sheets_2_bits xv_sheets_2_size xf_sheets_2_numbers xv_sheets_3_bits xv_sheets_3_size xf_sheets_3_numbers mv_isKept mv_taped mv_gone mf_d mf_kept mf_found mf_tape mf_bitsOf mf_sizeOf mf_number hI p1 p2 p3 hk1
  obtain ⟨hC, hK1, hK2, hK3, hF, hT, hS0, hS1, hS2, hS3, hG⟩ := hI
  obtain ⟨r, o0, o1, w0, w1, hx, hm, h1, h2, h3⟩ := write_core (p2 := p2) (p3 := p3) hn (by decide) hk1 hF hS1
  exact ⟨r, o0, o1, w0, w1, hx, hm, hC, hK1, hK2, hK3, h1, hT, h3 0 (by decide) (by decide) _ _ _ hS0, h2, h3 2 (by decide) (by decide) _ _ _ hS2, h3 3 (by decide) (by decide) _ _ _ hS3, hG⟩
theorem st_write_2 {n0 : Nat} (hn : 2000000 ≤ n0) : St_write_2 n0 := by
  intro xv_isKept xf_found xv_camp_tents xv_camp_said xv_camp_wall xv_camp_bridge xv_camp_counted xv_camp_day xv_camp_z xf_camp_kinds xf_camp_yards xf_camp_spots xv_kept_tents xv_kept_said xv_kept_wall xv_kept_bridge xv_kept_counted xv_kept_day xv_kept_z xf_kept_kinds xf_kept_yards xf_kept_spots xv_tape_size xf_tape_bytes xv_sheets_0_bits xv_sheets_0_size xf_sheets_0_numbers xv_sheets_1_bits xv_sheets_1_size xf_sheets_1_numbers xv_sheets_2_bits xv_sheets_2_size xf_sheets_2_numbers xv_sheets_3_bits xv_sheets_3_size xf_sheets_3_numbers mv_isKept mv_taped mv_gone mf_d mf_kept mf_found mf_tape mf_bitsOf mf_sizeOf mf_number hI p1 p2 p3 hk1
  obtain ⟨hC, hK1, hK2, hK3, hF, hT, hS0, hS1, hS2, hS3, hG⟩ := hI
  obtain ⟨r, o0, o1, w0, w1, hx, hm, h1, h2, h3⟩ := write_core (p2 := p2) (p3 := p3) hn (by decide) hk1 hF hS2
  exact ⟨r, o0, o1, w0, w1, hx, hm, hC, hK1, hK2, hK3, h1, hT, h3 0 (by decide) (by decide) _ _ _ hS0, h3 1 (by decide) (by decide) _ _ _ hS1, h2, h3 3 (by decide) (by decide) _ _ _ hS3, hG⟩
theorem st_write_3 {n0 : Nat} (hn : 2000000 ≤ n0) : St_write_3 n0 := by
  intro xv_isKept xf_found xv_camp_tents xv_camp_said xv_camp_wall xv_camp_bridge xv_camp_counted xv_camp_day xv_camp_z xf_camp_kinds xf_camp_yards xf_camp_spots xv_kept_tents xv_kept_said xv_kept_wall xv_kept_bridge xv_kept_counted xv_kept_day xv_kept_z xf_kept_kinds xf_kept_yards xf_kept_spots xv_tape_size xf_tape_bytes xv_sheets_0_bits xv_sheets_0_size xf_sheets_0_numbers xv_sheets_1_bits xv_sheets_1_size xf_sheets_1_numbers xv_sheets_2_bits xv_sheets_2_size xf_sheets_2_numbers xv_sheets_3_bits xv_sheets_3_size xf_sheets_3_numbers mv_isKept mv_taped mv_gone mf_d mf_kept mf_found mf_tape mf_bitsOf mf_sizeOf mf_number hI p1 p2 p3 hk1
  obtain ⟨hC, hK1, hK2, hK3, hF, hT, hS0, hS1, hS2, hS3, hG⟩ := hI
  obtain ⟨r, o0, o1, w0, w1, hx, hm, h1, h2, h3⟩ := write_core (p2 := p2) (p3 := p3) hn (by decide) hk1 hF hS3
  exact ⟨r, o0, o1, w0, w1, hx, hm, hC, hK1, hK2, hK3, h1, hT, h3 0 (by decide) (by decide) _ _ _ hS0, h3 1 (by decide) (by decide) _ _ _ hS1, h3 2 (by decide) (by decide) _ _ _ hS2, h2, hG⟩
/-- load: the two loops together -/
theorem load_r {n0 k z N : Nat} (hk4 : k < 4) (hz : z ≤ 40) (hN : N ≤ 10) {kinds yards spots numbers number found mfound sizeOf : Nat → Int32} {wall bridge counted day zz : Int32} (hsz : sizeOf k = nI z) (hnu : ∀ i : Nat, i < 40 → number (40 * k + i) = numbers i) : ∀ (c i n : Nat) (m : Nat) (d : Nat → Int32), i + c = 41 → c < n → m < 2 ^ N → CR kinds yards spots (nI N) (nI m) wall bridge counted day zz d → ∃ (r : Int32) (m' : Nat) (d' : Nat → Int32), L_X6_load_36 (nI k) (nI z) found (nI N) numbers n0 n (nI i) (nI m) = some (r, nI m', found) ∧ L_X7_load_18 sizeOf (nI k) mfound number n0 n (nI i) d = some (r, d', mfound) ∧ m' < 2 ^ N ∧ CR kinds yards spots (nI N) (nI m') wall bridge counted day zz d' := by
  intro c
  induction c with
  | zero =>
    intro i n m d h1 h2 hm hC
    obtain ⟨n, rfl⟩ : ∃ q, n = q + 1 := ⟨n - 1, by omega⟩
    refine ⟨nI i, m, d, ?_, ?_, hm, hC⟩
    · rw [L_X6_load_36_u, ixq_t hk4, if_pos (nI_le (by omega) (by omega))]
    · rw [L_X7_load_18_u, rd_nI hk4 (by decide), hsz, if_pos (nI_le (by omega) (by omega))]
  | succ c ih =>
    intro i n m d h1 h2 hm hC
    obtain ⟨n, rfl⟩ : ∃ q, n = q + 1 := ⟨n - 1, by omega⟩
    rw [L_X6_load_36_u, ixq_t hk4, L_X7_load_18_u, rd_nI hk4 (by decide), hsz]
    by_cases hzi : z ≤ i
    · rw [if_pos (nI_le hzi (by omega)), if_pos (nI_le hzi (by omega))]
      exact ⟨nI i, m, d, rfl, rfl, hm, hC⟩
    · have hd0 : d 0 = nI N := by
        obtain ⟨M, hM, h0, hd0, _⟩ := hC
        rw [hd0, h0]
      have hd6 : d 6 = nI m := by
        obtain ⟨M, hM, h0, hd0, hd1, hd2, hd3, hd4, hd5, hd6, _⟩ := hC
        exact hd6
      have hzn : ¬ nI z ≤ nI i := nI_ge (by omega) (by omega)
      rw [if_neg hzn, if_neg hzn, rd_l 0 l0 (by decide) (by decide), hd0]
      by_cases hNi : N ≤ i
      · rw [if_pos (nI_le hNi (by omega)), if_pos (nI_le hNi (by omega))]
        exact ⟨nI i, m, d, rfl, rfl, hm, hC⟩
      · have hNn : ¬ nI N ≤ nI i := nI_ge (by omega) (by omega)
        rw [if_neg hNn, if_neg hNn, ixq_t hk4, rd_nI (by omega) (by decide)]
        simp only [nm]
        rw [num_ix, rd_nI (by omega) (by decide), rd_nI (by omega) (by decide), hnu i (by omega)]
        by_cases hb : inR 0 1 (numbers i)
        · rw [isBit_t hb, in_t (a := 0) (b := 1) hb]
          simp only [bd1, one0]
          rw [ixq_t hk4, giveWord_s, rd_nI (by omega) (by decide), hnu i (by omega), nI_1]
          obtain ⟨v, hv, hv2⟩ := inR_nI (hi := 1) hb
          rw [hv2]
          rcases (show v = 0 ∨ v = 1 by omega) with rfl | rfl
          · rw [show nI 0 = (0 : Int32) from rfl, sayOf_0, gw_0, hd6]
            obtain ⟨w, hw1, hw2⟩ := clr_rg hN hm (t := i) (by omega)
            simp only []
            rw [hw2]
            exact ih (i + 1) n w _ (by omega) (by omega) hw1 (CR_said hN hw1 hC)
          · rw [show nI 1 = (1 : Int32) from rfl, sayOf_1, clr_set i (by omega) m (by have := pow10 hN; omega), hd6]
            obtain ⟨w, hw1, hw2⟩ := set_rg hN hm (t := i) (by omega)
            simp only []
            rw [hw2]
            exact ih (i + 1) n w _ (by omega) (by omega) hw1 (CR_said hN hw1 hC)
        · rw [isBit_f hb, in_f (a := 0) (b := 1) hb]
          exact ⟨nI i, m, d, rfl, rfl, hm, hC⟩
theorem load_core {n0 k : Nat} (hn : 2000000 ≤ n0) (hk4 : k < 4) {bits size p1 tents said wall bridge counted day zz : Int32} {kinds yards spots d numbers found mfound bitsOf sizeOf number : Nat → Int32} (hk : ixb p1 4 = true → p1 = nI k) (hF : ∀ i : Nat, i < 7 → mfound i = found i) (hS : SR k numbers bits size bitsOf sizeOf number) (hC : CR kinds yards spots tents said wall bridge counted day zz d) : ∃ (r o0 : Int32) (o1 w0 w1 : Nat → Int32), F_X6_load n0 tents said found bits size numbers p1 = some (r, o0, o1) ∧ F_X7_load n0 bitsOf d mfound number sizeOf p1 = some (r, w0, w1) ∧ (∀ i : Nat, i < 7 → w1 i = o1 i) ∧ CR kinds yards spots tents o0 wall bridge counted day zz w0 := by
  have hC0 := hC
  obtain ⟨N, hN, h0, hd0, hd1, hd2, hd3, hd4, hd5, hd6, hct, hwl, hbr, hdy, ⟨m, hm, hsa⟩, _⟩ := hC
  obtain ⟨hb, hz, hb4, ⟨z, hz1, hz2, hz3⟩, hnu⟩ := hS
  by_cases hs : inR 0 3 p1
  · have e := hk (ixb_r.mpr hs)
    subst e
    by_cases hb0 : bits = 0
    · have hx : F_X6_load n0 tents said found bits size numbers (nI k) = some (-1000006, said, upd found 5 (found 5 + 1)) := by
        unfold F_X6_load
        rw [isSheet_t hs]
        simp only [bd1, one0]
        rw [ixq_t hk4, miss_t hb0]
        rfl
      have hm' : F_X7_load n0 bitsOf d mfound number sizeOf (nI k) = some (-1000006, d, upd mfound 5 (mfound 5 + 1)) := by
        unfold F_X7_load
        rw [why_5 hk4 hs (hb.trans hb0)]
        rfl
      exact ⟨_, _, _, _, _, hx, hm', fnd_u hF 5 (by decide), hC0⟩
    · rw [h0, hsa] at hC0
      obtain ⟨r, m', d', e1, e2, e3, e4⟩ := load_r (n0 := n0) (found := found) (mfound := mfound) hk4 hz1 hN (hz.trans hz2) hnu 41 0 n0 m d (by omega) (by omega) hm hC0
      have hx : F_X6_load n0 tents said found bits size numbers (nI k) = some (r, nI m', found) := by
        unfold F_X6_load
        rw [isSheet_t hs]
        simp only [bd1, one0]
        rw [ixq_t hk4, miss_f hb0]
        simp only [zero0]
        rw [hz2, h0, hsa]
        exact e1
      have hm' : F_X7_load n0 bitsOf d mfound number sizeOf (nI k) = some (r, d', mfound) := by
        unfold F_X7_load
        rw [why_t hk4 hs (by rw [hb]; exact hb0)]
        simp only [bd1]
        rw [if_pos (by decide)]
        exact e2
      rw [h0] at hx ⊢
      exact ⟨_, _, _, _, _, hx, hm', hF, e4⟩
  · have hx : F_X6_load n0 tents said found bits size numbers p1 = some (-1000001, said, upd found 0 (found 0 + 1)) := by
      unfold F_X6_load
      rw [isSheet_f hs]
      rfl
    have hm' : F_X7_load n0 bitsOf d mfound number sizeOf p1 = some (-1000001, d, upd mfound 0 (mfound 0 + 1)) := by
      unfold F_X7_load
      rw [why_0 hs]
      rfl
    exact ⟨_, _, _, _, _, hx, hm', fnd_u hF 0 (by decide), hC0⟩
theorem st_load_0 {n0 : Nat} (hn : 2000000 ≤ n0) : St_load_0 n0 := by
  intro xv_isKept xf_found xv_camp_tents xv_camp_said xv_camp_wall xv_camp_bridge xv_camp_counted xv_camp_day xv_camp_z xf_camp_kinds xf_camp_yards xf_camp_spots xv_kept_tents xv_kept_said xv_kept_wall xv_kept_bridge xv_kept_counted xv_kept_day xv_kept_z xf_kept_kinds xf_kept_yards xf_kept_spots xv_tape_size xf_tape_bytes xv_sheets_0_bits xv_sheets_0_size xf_sheets_0_numbers xv_sheets_1_bits xv_sheets_1_size xf_sheets_1_numbers xv_sheets_2_bits xv_sheets_2_size xf_sheets_2_numbers xv_sheets_3_bits xv_sheets_3_size xf_sheets_3_numbers mv_isKept mv_taped mv_gone mf_d mf_kept mf_found mf_tape mf_bitsOf mf_sizeOf mf_number hI p1 hk1
  obtain ⟨hC, hK1, hK2, hK3, hF, hT, hS0, hS1, hS2, hS3, hG⟩ := hI
  obtain ⟨r, o0, o1, w0, w1, hx, hm, h1, h2⟩ := load_core hn (by decide) hk1 hF hS0 hC
  exact ⟨r, o0, o1, w0, w1, hx, hm, h2, hK1, hK2, hK3, h1, hT, hS0, hS1, hS2, hS3, hG⟩
theorem st_load_1 {n0 : Nat} (hn : 2000000 ≤ n0) : St_load_1 n0 := by
  intro xv_isKept xf_found xv_camp_tents xv_camp_said xv_camp_wall xv_camp_bridge xv_camp_counted xv_camp_day xv_camp_z xf_camp_kinds xf_camp_yards xf_camp_spots xv_kept_tents xv_kept_said xv_kept_wall xv_kept_bridge xv_kept_counted xv_kept_day xv_kept_z xf_kept_kinds xf_kept_yards xf_kept_spots xv_tape_size xf_tape_bytes xv_sheets_0_bits xv_sheets_0_size xf_sheets_0_numbers xv_sheets_1_bits xv_sheets_1_size xf_sheets_1_numbers xv_sheets_2_bits xv_sheets_2_size xf_sheets_2_numbers xv_sheets_3_bits xv_sheets_3_size xf_sheets_3_numbers mv_isKept mv_taped mv_gone mf_d mf_kept mf_found mf_tape mf_bitsOf mf_sizeOf mf_number hI p1 hk1
  obtain ⟨hC, hK1, hK2, hK3, hF, hT, hS0, hS1, hS2, hS3, hG⟩ := hI
  obtain ⟨r, o0, o1, w0, w1, hx, hm, h1, h2⟩ := load_core hn (by decide) hk1 hF hS1 hC
  exact ⟨r, o0, o1, w0, w1, hx, hm, h2, hK1, hK2, hK3, h1, hT, hS0, hS1, hS2, hS3, hG⟩
theorem st_load_2 {n0 : Nat} (hn : 2000000 ≤ n0) : St_load_2 n0 := by
  intro xv_isKept xf_found xv_camp_tents xv_camp_said xv_camp_wall xv_camp_bridge xv_camp_counted xv_camp_day xv_camp_z xf_camp_kinds xf_camp_yards xf_camp_spots xv_kept_tents xv_kept_said xv_kept_wall xv_kept_bridge xv_kept_counted xv_kept_day xv_kept_z xf_kept_kinds xf_kept_yards xf_kept_spots xv_tape_size xf_tape_bytes xv_sheets_0_bits xv_sheets_0_size xf_sheets_0_numbers xv_sheets_1_bits xv_sheets_1_size xf_sheets_1_numbers xv_sheets_2_bits xv_sheets_2_size xf_sheets_2_numbers xv_sheets_3_bits xv_sheets_3_size xf_sheets_3_numbers mv_isKept mv_taped mv_gone mf_d mf_kept mf_found mf_tape mf_bitsOf mf_sizeOf mf_number hI p1 hk1
  obtain ⟨hC, hK1, hK2, hK3, hF, hT, hS0, hS1, hS2, hS3, hG⟩ := hI
  obtain ⟨r, o0, o1, w0, w1, hx, hm, h1, h2⟩ := load_core hn (by decide) hk1 hF hS2 hC
  exact ⟨r, o0, o1, w0, w1, hx, hm, h2, hK1, hK2, hK3, h1, hT, hS0, hS1, hS2, hS3, hG⟩
theorem st_load_3 {n0 : Nat} (hn : 2000000 ≤ n0) : St_load_3 n0 := by
  intro xv_isKept xf_found xv_camp_tents xv_camp_said xv_camp_wall xv_camp_bridge xv_camp_counted xv_camp_day xv_camp_z xf_camp_kinds xf_camp_yards xf_camp_spots xv_kept_tents xv_kept_said xv_kept_wall xv_kept_bridge xv_kept_counted xv_kept_day xv_kept_z xf_kept_kinds xf_kept_yards xf_kept_spots xv_tape_size xf_tape_bytes xv_sheets_0_bits xv_sheets_0_size xf_sheets_0_numbers xv_sheets_1_bits xv_sheets_1_size xf_sheets_1_numbers xv_sheets_2_bits xv_sheets_2_size xf_sheets_2_numbers xv_sheets_3_bits xv_sheets_3_size xf_sheets_3_numbers mv_isKept mv_taped mv_gone mf_d mf_kept mf_found mf_tape mf_bitsOf mf_sizeOf mf_number hI p1 hk1
  obtain ⟨hC, hK1, hK2, hK3, hF, hT, hS0, hS1, hS2, hS3, hG⟩ := hI
  obtain ⟨r, o0, o1, w0, w1, hx, hm, h1, h2⟩ := load_core hn (by decide) hk1 hF hS3 hC
  exact ⟨r, o0, o1, w0, w1, hx, hm, h2, hK1, hK2, hK3, h1, hT, hS0, hS1, hS2, hS3, hG⟩
/-! == 57.far.tpl -/
/-! how far two yards are -/
def dN (x y : Nat) : Nat := (x - y) + (y - x)
theorem dN_comm (x y : Nat) : dN x y = dN y x := Nat.add_comm _ _
def farN (w br : Nat) (c : Bool) (a b : Nat) : Nat := if c = true ∧ ¬ (decide (w ≤ a % 12) = decide (w ≤ b % 12)) then (dN (a % 12) (b % 12) + dN (a / 12) br + dN (b / 12) br) * (dN (a % 12) (b % 12) + dN (a / 12) br + dN (b / 12) br) else dN (a % 12) (b % 12) * dN (a % 12) (b % 12) + dN (a / 12) (b / 12) * dN (a / 12) (b / 12)
theorem sq_nI {x y : Nat} : (nI x - nI y) * (nI x - nI y) = nI (dN x y * dN x y) := by
  by_cases h : y ≤ x
  · rw [pk_sub h, pk_mul]
    have e : dN x y = x - y := by unfold dN; omega
    rw [e]
  · have e1 : nI x - nI y = -(nI (y - x)) := by rw [← pk_sub (by omega), Int32.neg_sub]
    rw [e1, Int32.neg_mul_neg, pk_mul]
    have e : dN x y = y - x := by unfold dN; omega
    rw [e]
theorem abs_nI {x y : Nat} (hx : x < 2 ^ 30) (hy : y < 2 ^ 30) : (if 0 ≤ nI x - nI y then nI x - nI y else 0 - (nI x - nI y)) = nI (dN x y) := by
  by_cases h : y ≤ x
  · have e : dN x y = x - y := by unfold dN; omega
    rw [pk_sub h, if_pos (nI_pos' (by omega)), e]
  · have e : dN x y = y - x := by unfold dN; omega
    have h2 : ¬ 0 ≤ nI x - nI y := by
      rw [Int32.le_iff_toInt_le, pk_sub_toInt hx hy]
      have a3 : (0 : Int32).toInt = 0 := rfl
      omega
    rw [if_neg h2, Int32.zero_sub, Int32.neg_sub, pk_sub (by omega), e]
theorem size_nI {n0 x y : Nat} (hx : x < 2 ^ 30) (hy : y < 2 ^ 30) : F_X7_size n0 (nI x - nI y) = some (nI (dN x y)) := by
  have h := abs_nI hx hy
  unfold F_X7_size
  simp only [nm]
  by_cases h1 : 0 ≤ nI x - nI y
  · rw [if_pos h1] at h ⊢
    rw [h]
  · rw [if_neg h1] at h ⊢
    rw [← h, Int32.zero_sub]
theorem dv12 {Ro : Type} {v : Int32} {k : Int32 → Option Ro} : dvn 12 v k = k v := if_neg (by decide)
theorem dv144 {Ro : Type} {v : Int32} {k : Int32 → Option Ro} : dvn 144 v k = k v := if_neg (by decide)
theorem rem12 {a : Nat} (h : a < 144) : nI a - nI a / 12 * 12 = nI (a % 12) := pk_rem (a := a) (d := 12) (by omega) (by decide) (by decide)
theorem div12 {a : Nat} (h : a < 144) : nI a / 12 = nI (a / 12) := pk_div (a := a) (d := 12) (by omega) (by decide) (by decide)
theorem far97 {n m x y : Nat} : J_X0_apart_97 (nI n) (nI m) (nI x) (nI y) = some (nI (dN n m * dN n m + dN x y * dN x y)) := by
  unfold J_X0_apart_97
  simp only [nm]
  rw [sq_nI, sq_nI, nI_add]
theorem far133 {n m x y : Nat} : J_X7_farOf_133 (nI n - nI m) (nI x - nI y) = some (nI (dN n m * dN n m + dN x y * dN x y)) := by
  unfold J_X7_farOf_133
  simp only [nm]
  rw [sq_nI, sq_nI, nI_add]
theorem far57 {n m x y br : Nat} (hn : n < 12) (hm : m < 12) (hx : x < 12) (hy : y < 12) (hb : br < 12) : ∀ k13 k14 : Int32, J_X0_apart_57 k14 k13 (nI n) (nI m) (nI x) (nI y) (nI br) = some (nI (if ¬ k14 = k13 then (dN n m + dN x br + dN y br) * (dN n m + dN x br + dN y br) else dN n m * dN n m + dN x y * dN x y)) := by
  intro k13 k14
  unfold J_X0_apart_57
  by_cases h : k14 = k13
  · rw [if_pos h, far97, if_neg (fun h2 => h2 h)]
  · rw [if_neg h, if_pos h]
    simp only [nm]
    rw [abs_nI (by omega) (by omega), abs_nI (by omega) (by omega), abs_nI (by omega) (by omega), nI_add, nI_add, pk_mul]
theorem apart_s {n0 w br a b : Nat} {c : Int32} (hc : c = 0 ∨ c = 1) (hw : w < 12) (hb : br < 12) (ha : a < 144) (hbb : b < 144) : F_X0_apart n0 (nI w) (nI br) c (nI a) (nI b) = some (nI (farN w br (decide (c = 1)) a b)) := by
  have a1 : a % 12 < 12 := Nat.mod_lt _ (by decide)
  have a2 : b % 12 < 12 := Nat.mod_lt _ (by decide)
  have a3 : a / 12 < 12 := by omega
  have a4 : b / 12 < 12 := by omega
  unfold F_X0_apart
  rw [dv12, rem12 ha, dv12, div12 ha, dv12, rem12 hbb, dv12, div12 hbb]
  rcases hc with rfl | rfl
  · rw [if_pos rfl, far97]
    unfold farN
    rw [if_neg (fun h => absurd h.1 (by decide))]
  · rw [if_neg (by decide)]
    unfold J_X0_apart_43 farN
    by_cases h1 : w ≤ a % 12
    · rw [if_pos (nI_le h1 (by omega))]
      by_cases h2 : w ≤ b % 12
      · rw [if_pos (nI_le h2 (by omega)), far57 a1 a2 a3 a4 hb, if_neg (fun h => h rfl), if_neg (fun h => h.2 (by rw [decide_eq_true h1, decide_eq_true h2]))]
      · rw [if_neg (nI_ge (by omega) (by omega)), far57 a1 a2 a3 a4 hb, if_pos (by decide), if_pos ⟨by decide, by rw [decide_eq_true h1, decide_eq_false h2]; decide⟩]
    · rw [if_neg (nI_ge (by omega) (by omega))]
      by_cases h2 : w ≤ b % 12
      · rw [if_pos (nI_le h2 (by omega)), far57 a1 a2 a3 a4 hb, if_pos (by decide), if_pos ⟨by decide, by rw [decide_eq_false h1, decide_eq_true h2]; decide⟩]
      · rw [if_neg (nI_ge (by omega) (by omega)), far57 a1 a2 a3 a4 hb, if_neg (fun h => h rfl), if_neg (fun h => h.2 (by rw [decide_eq_false h1, decide_eq_false h2]))]
theorem far65 {n0 w br a b : Nat} {d : Nat → Int32} {c k : Int32} (hc : c = 0 ∨ c = 1) (hk : k = 0 ∨ k = 1) (hd3 : d 3 = nI w) (hd4 : d 4 = nI br) (hd5 : d 5 = c) (hw : w < 12) (hb : br < 12) (ha : a < 144) (hbb : b < 144) : J_X7_farOf_65 d (nI (a % 12) - nI (b % 12)) (nI (a / 12) - nI (b / 12)) k n0 (nI a) (nI b) = some (nI (if c = 1 ∧ 0 < w ∧ k = 1 then (dN (a % 12) (b % 12) + dN (a / 12) br + dN (b / 12) br) * (dN (a % 12) (b % 12) + dN (a / 12) br + dN (b / 12) br) else dN (a % 12) (b % 12) * dN (a % 12) (b % 12) + dN (a / 12) (b / 12) * dN (a / 12) (b / 12))) := by
  unfold J_X7_farOf_65
  rw [rd_l 5 l5 (by decide) (by decide), hd5]
  by_cases h1 : c = 1
  · rw [if_pos h1, rd_l 3 l3 (by decide) (by decide), hd3]
    by_cases h2 : 0 < w
    · rw [if_neg (nI_nle h2 (by omega))]
      rcases hk with rfl | rfl
      · rw [if_pos rfl, far133, if_neg (fun h => absurd h.2.2 (by decide))]
      · rw [if_neg (by decide), size_nI (by omega) (by omega), if_pos ⟨h1, h2, rfl⟩]
        simp only [bd1, nm]
        rw [dv12, div12 ha, rd_l 4 l4 (by decide) (by decide), hd4, size_nI (by omega) (by omega)]
        simp only []
        rw [dv12, div12 hbb, rd_l 4 l4 (by decide) (by decide), hd4, size_nI (by omega) (by omega)]
        simp only []
        rw [nI_add, nI_add, pk_mul]
    · have e : w = 0 := by omega
      subst e
      rw [if_pos (by decide), far133, if_neg (fun h => absurd h.2.1 (by decide))]
  · rw [if_neg h1, far133, if_neg (fun h => h1 h.1)]
theorem farOf_s {n0 w br a b : Nat} {d : Nat → Int32} {c : Int32} (hc : c = 0 ∨ c = 1) (hd3 : d 3 = nI w) (hd4 : d 4 = nI br) (hd5 : d 5 = c) (hw : w < 12) (hb : br < 12) (ha : a < 144) (hbb : b < 144) : F_X7_farOf n0 d (nI a) (nI b) = some (nI (farN w br (decide (c = 1)) a b)) := by
  have a1 : a % 12 < 12 := Nat.mod_lt _ (by decide)
  have a2 : b % 12 < 12 := Nat.mod_lt _ (by decide)
  have key : ∀ k : Int32, (k = 0 ∨ k = 1) → (k = 1 ↔ ¬ (decide (w ≤ a % 12) = decide (w ≤ b % 12))) → J_X7_farOf_65 d (nI (a % 12) - nI (b % 12)) (nI (a / 12) - nI (b / 12)) k n0 (nI a) (nI b) = some (nI (farN w br (decide (c = 1)) a b)) := by
    intro k hk hk2
    rw [far65 hc hk hd3 hd4 hd5 hw hb ha hbb]
    unfold farN
    congr 2
    by_cases h1 : c = 1 ∧ 0 < w ∧ k = 1
    · rw [if_pos h1, if_pos ⟨decide_eq_true h1.1, hk2.mp h1.2.2⟩]
    · rw [if_neg h1, if_neg]
      intro h2
      have h3 := of_decide_eq_true h2.1
      have h4 := hk2.mpr h2.2
      by_cases h5 : 0 < w
      · exact h1 ⟨h3, h5, h4⟩
      · have e : w = 0 := by omega
        subst e
        exact h2.2 (by rw [decide_eq_true (Nat.zero_le _), decide_eq_true (Nat.zero_le _)])
  unfold F_X7_farOf J_X7_farOf_39 J_X7_farOf_57
  simp only [nm]
  rw [dv12, rem12 ha, dv12, rem12 hbb, dv12, div12 ha, dv12, div12 hbb, dv12, rd_l 3 l3 (by decide) (by decide), hd3]
  by_cases h1 : w ≤ a % 12
  · rw [if_pos (nI_le h1 (by omega)), dv12, rd_l 3 l3 (by decide) (by decide), hd3]
    by_cases h2 : w ≤ b % 12
    · rw [if_pos (nI_le h2 (by omega)), if_pos trivial]
      exact key 0 (Or.inl rfl) ⟨fun h => absurd h (by decide), fun h => absurd (by rw [decide_eq_true h1, decide_eq_true h2]) h⟩
    · rw [if_neg (nI_ge (by omega) (by omega)), if_neg (by decide)]
      exact key 1 (Or.inr rfl) ⟨fun _ => by rw [decide_eq_true h1, decide_eq_false h2]; decide, fun _ => rfl⟩
  · rw [if_neg (nI_ge (by omega) (by omega)), dv12, rd_l 3 l3 (by decide) (by decide), hd3]
    by_cases h2 : w ≤ b % 12
    · rw [if_pos (nI_le h2 (by omega)), if_neg (by decide)]
      exact key 1 (Or.inr rfl) ⟨fun _ => by rw [decide_eq_false h1, decide_eq_true h2]; decide, fun _ => rfl⟩
    · rw [if_neg (nI_ge (by omega) (by omega)), if_pos trivial]
      exact key 0 (Or.inl rfl) ⟨fun h => absurd h (by decide), fun h => absurd (by rw [decide_eq_false h1, decide_eq_false h2]) h⟩
theorem farN_comm (w br : Nat) (c : Bool) (a b : Nat) : farN w br c a b = farN w br c b a := by
  unfold farN
  rw [dN_comm (a % 12) (b % 12), dN_comm (a / 12) (b / 12)]
  have e : dN (b % 12) (a % 12) + dN (a / 12) br + dN (b / 12) br = dN (b % 12) (a % 12) + dN (b / 12) br + dN (a / 12) br := by omega
  rw [e]
  by_cases h : c = true ∧ ¬ (decide (w ≤ a % 12) = decide (w ≤ b % 12))
  · rw [if_pos h, if_pos ⟨h.1, fun h2 => h.2 h2.symm⟩]
  · rw [if_neg h, if_neg (fun h2 => h ⟨h2.1, fun h3 => h2.2 h3.symm⟩)]
theorem farN_lt {w br a b : Nat} {c : Bool} (ha : a < 144) (hb : b < 144) (hbr : br < 12) : farN w br c a b < 1100 := by
  have h1 : dN (a % 12) (b % 12) ≤ 11 := by unfold dN; omega
  have h2 : dN (a / 12) (b / 12) ≤ 11 := by unfold dN; omega
  have h3 : dN (a / 12) br ≤ 11 := by unfold dN; omega
  have h4 : dN (b / 12) br ≤ 11 := by unfold dN; omega
  unfold farN
  split
  · have := Nat.mul_le_mul (show dN (a % 12) (b % 12) + dN (a / 12) br + dN (b / 12) br ≤ 33 by omega) (show dN (a % 12) (b % 12) + dN (a / 12) br + dN (b / 12) br ≤ 33 by omega)
    omega
  · have e1 := Nat.mul_le_mul h1 h1
    have e2 := Nat.mul_le_mul h2 h2
    omega
theorem farN_pos {w br a b : Nat} {c : Bool} (h : ¬ a = b) : 0 < farN w br c a b := by
  have h0 : ¬ (a % 12 = b % 12 ∧ a / 12 = b / 12) := fun h2 => h (by omega)
  unfold farN
  split
  · rename_i hc
    have h1 : ¬ a % 12 = b % 12 := fun h2 => hc.2 (by rw [h2])
    have h2 : 0 < dN (a % 12) (b % 12) := by unfold dN; omega
    exact Nat.mul_pos (by omega) (by omega)
  · by_cases h1 : a % 12 = b % 12
    · have h2 : 0 < dN (a / 12) (b / 12) := by unfold dN; omega
      have := Nat.mul_pos h2 h2
      omega
    · have h2 : 0 < dN (a % 12) (b % 12) := by unfold dN; omega
      have := Nat.mul_pos h2 h2
      omega
theorem st_far {n0 : Nat} (hn : 2000000 ≤ n0) : St_far n0 := by
  intro xv_isKept xf_found xv_camp_tents xv_camp_said xv_camp_wall xv_camp_bridge xv_camp_counted xv_camp_day xv_camp_z xf_camp_kinds xf_camp_yards xf_camp_spots xv_kept_tents xv_kept_said xv_kept_wall xv_kept_bridge xv_kept_counted xv_kept_day xv_kept_z xf_kept_kinds xf_kept_yards xf_kept_spots xv_tape_size xf_tape_bytes xv_sheets_0_bits xv_sheets_0_size xf_sheets_0_numbers xv_sheets_1_bits xv_sheets_1_size xf_sheets_1_numbers xv_sheets_2_bits xv_sheets_2_size xf_sheets_2_numbers xv_sheets_3_bits xv_sheets_3_size xf_sheets_3_numbers mv_isKept mv_taped mv_gone mf_d mf_kept mf_found mf_tape mf_bitsOf mf_sizeOf mf_number hI p1 p2
  obtain ⟨hC, hK1, hK2, hK3, hF, hT, hS0, hS1, hS2, hS3, hG⟩ := hI
  have hC0 := hC
  obtain ⟨N, hN, h0, hd0, hd1, hd2, hd3, hd4, hd5, hd6, hct, hwl, hbr, hdy, hsa, hA, hKi, hYa, hSp⟩ := hC
  obtain ⟨w, hw1, hw2⟩ := hwl
  obtain ⟨br, hb1, hb2⟩ := hbr
  by_cases ht : isT N p1
  · by_cases hu : isT N p2
    · obtain ⟨t, ht1, rfl⟩ := isT_nI ht
      obtain ⟨u, hu1, rfl⟩ := isT_nI hu
      obtain ⟨a, ha1, ha2⟩ := hYa t (by omega)
      obtain ⟨b, hbb1, hbb2⟩ := hYa u (by omega)
      have hx : F_X6_far n0 xv_camp_tents xv_camp_wall xv_camp_bridge xv_camp_counted xf_found xf_camp_yards (nI t) (nI u) = some (nI (farN w br (decide (xv_camp_counted = 1)) a b), xf_found) := by
        unfold F_X6_far
        rw [h0, has_t hN ht, has_t hN hu]
        simp only [bd1, one0]
        rw [rd_nI (by omega) (by decide), rd_nI (by omega) (by decide), ha2, hbb2, hw2, hb2, apart_s hct hw1 hb1 ha1 hbb1]
      have hm : F_X7_far n0 mf_d mf_found (nI t) (nI u) = some (nI (farN w br (decide (xv_camp_counted = 1)) a b), mf_found) := by
        unfold F_X7_far
        rw [mT_t hN hd0 ht, mT_t hN hd0 hu]
        simp only [bd1, one0]
        rw [mYd (by omega), mYd (by omega)]
        simp only []
        rw [(hA t (by omega)).2.1, (hA u (by omega)).2.1, ha2, hbb2, farOf_s hct (hd3.trans hw2) (hd4.trans hb2) hd5 hw1 hb1 ha1 hbb1]
      exact ⟨_, _, _, hx, hm, hC0, hK1, hK2, hK3, hF, hT, hS0, hS1, hS2, hS3, hG⟩
    · have hx : F_X6_far n0 xv_camp_tents xv_camp_wall xv_camp_bridge xv_camp_counted xf_found xf_camp_yards p1 p2 = some (-1000001, upd xf_found 0 (xf_found 0 + 1)) := by
        unfold F_X6_far
        rw [h0, has_t hN ht, has_f hN hu]
        rfl
      have hm : F_X7_far n0 mf_d mf_found p1 p2 = some (-1000001, upd mf_found 0 (mf_found 0 + 1)) := by
        unfold F_X7_far
        rw [mT_t hN hd0 ht, mT_f hN hd0 hu]
        rfl
      exact ⟨_, _, _, hx, hm, hC0, hK1, hK2, hK3, fnd_u hF 0 (by decide), hT, hS0, hS1, hS2, hS3, hG⟩
  · have hx : F_X6_far n0 xv_camp_tents xv_camp_wall xv_camp_bridge xv_camp_counted xf_found xf_camp_yards p1 p2 = some (-1000001, upd xf_found 0 (xf_found 0 + 1)) := by
      unfold F_X6_far
      rw [h0, has_f hN ht]
      rfl
    have hm : F_X7_far n0 mf_d mf_found p1 p2 = some (-1000001, upd mf_found 0 (mf_found 0 + 1)) := by
      unfold F_X7_far
      rw [mT_f hN hd0 ht]
      rfl
    exact ⟨_, _, _, hx, hm, hC0, hK1, hK2, hK3, fnd_u hF 0 (by decide), hT, hS0, hS1, hS2, hS3, hG⟩
/-! == 58.simple4.tpl -/
theorem mayStand_t {n0 N : Nat} {yards : Nat → Int32} {p y : Int32} (hn : 2000000 ≤ n0) (hN : N ≤ 10) (h : whoR yards y N 0 = -1 ∨ whoR yards y N 0 = p) : F_X0_mayStand n0 (nI N) yards p y = some 1 := by
  unfold F_X0_mayStand
  rw [tentOn_s hn hN]
  simp only [bd1]
  by_cases h1 : whoR yards y N 0 = -1
  · rw [if_pos h1]
  · rw [if_neg h1, if_pos (h.resolve_left h1)]
theorem mayStand_f {n0 N : Nat} {yards : Nat → Int32} {p y : Int32} (hn : 2000000 ≤ n0) (hN : N ≤ 10) (h : ¬ (whoR yards y N 0 = -1 ∨ whoR yards y N 0 = p)) : F_X0_mayStand n0 (nI N) yards p y = some 0 := by
  unfold F_X0_mayStand
  rw [tentOn_s hn hN]
  simp only [bd1]
  rw [if_neg (fun h1 => h (Or.inl h1)), if_neg (fun h1 => h (Or.inr h1))]
theorem st_move {n0 : Nat} (hn : 2000000 ≤ n0) : St_move n0 := by
  intro xv_isKept xf_found xv_camp_tents xv_camp_said xv_camp_wall xv_camp_bridge xv_camp_counted xv_camp_day xv_camp_z xf_camp_kinds xf_camp_yards xf_camp_spots xv_kept_tents xv_kept_said xv_kept_wall xv_kept_bridge xv_kept_counted xv_kept_day xv_kept_z xf_kept_kinds xf_kept_yards xf_kept_spots xv_tape_size xf_tape_bytes xv_sheets_0_bits xv_sheets_0_size xf_sheets_0_numbers xv_sheets_1_bits xv_sheets_1_size xf_sheets_1_numbers xv_sheets_2_bits xv_sheets_2_size xf_sheets_2_numbers xv_sheets_3_bits xv_sheets_3_size xf_sheets_3_numbers mv_isKept mv_taped mv_gone mf_d mf_kept mf_found mf_tape mf_bitsOf mf_sizeOf mf_number hI p1 p2 p3
  obtain ⟨hC, hK1, hK2, hK3, hF, hT, hS0, hS1, hS2, hS3, hG⟩ := hI
  have hC0 := hC
  obtain ⟨N, hN, h0, hd0, hd1, hd2, hd3, hd4, hd5, hd6, hct, hwl, hbr, hdy, hsa, hA, hKi, hYa, hSp⟩ := hC
  obtain ⟨w, hw1, hw2⟩ := hwl
  obtain ⟨br, hb1, hb2⟩ := hbr
  by_cases ht : isT N p1
  · by_cases hy : inR 0 11 p2 ∧ inR 0 11 p3
    · by_cases hm : whoR xf_camp_yards (12 * p3 + p2) N 0 = -1 ∨ whoR xf_camp_yards (12 * p3 + p2) N 0 = p1
      · obtain ⟨t, ht1, rfl⟩ := isT_nI ht
        obtain ⟨x, hx1, rfl⟩ := inR_nI (hi := 11) hy.1
        obtain ⟨y, hy1, rfl⟩ := inR_nI (hi := 11) hy.2
        obtain ⟨a, ha1, ha2⟩ := hYa t (by omega)
        rw [yard_nI] at hm
        have hx : F_X6_move n0 xv_camp_tents xv_camp_wall xv_camp_bridge xv_camp_counted xf_found xf_camp_yards (nI t) (nI x) (nI y) = some (nI (farN w br (decide (xv_camp_counted = 1)) a (12 * y + x)), xf_found, upd xf_camp_yards t (nI (12 * y + x))) := by
          unfold F_X6_move
          rw [h0, has_t hN ht, isYard_t hy.1 hy.2]
          simp only [bd1, one0, F_X6_yardOf, nm]
          rw [yard_nI, mayStand_t hn hN hm]
          simp only [one0]
          rw [rd_nI (by omega) (by decide), ha2, hw2, hb2, apart_s hct hw1 hb1 ha1 (by omega)]
          simp only []
          rw [wrt_nI (by omega) (by decide)]
        have hJ : J_X7_move_52 n0 mf_d (nI t) (nI y) (nI x) mf_found = some (nI (farN w br (decide (xv_camp_counted = 1)) a (12 * y + x)), upd mf_d (20 + t) (nI (12 * y + x)), mf_found) := by
          unfold J_X7_move_52
          rw [mYd (by omega)]
          simp only [bd1, nm]
          rw [yard_nI, (hA t (by omega)).2.1, ha2, farOf_s hct (hd3.trans hw2) (hd4.trans hb2) hd5 hw1 hb1 ha1 (by omega)]
          simp only []
          rw [wrt_l (20 + t) (a20 t) (by omega) (by decide)]
        have hm' : F_X7_move n0 mf_d mf_found (nI t) (nI x) (nI y) = some (nI (farN w br (decide (xv_camp_counted = 1)) a (12 * y + x)), upd mf_d (20 + t) (nI (12 * y + x)), mf_found) := by
          unfold F_X7_move
          rw [mT_t hN hd0 ht, mYard_t hy.1 hy.2]
          simp only [bd1, one0, nm]
          rw [yard_nI, whoIs_s hn hN hd0 (fun i hi => (hA i hi).2.1)]
          simp only []
          by_cases h1 : whoR xf_camp_yards (nI (12 * y + x)) N 0 = -1
          · rw [if_pos h1]
            exact hJ
          · rw [if_neg h1, if_pos (hm.resolve_left h1)]
            exact hJ
        exact ⟨_, _, _, _, _, hx, hm', CR_yard (by omega) (by omega) hC0, hK1, hK2, hK3, hF, hT, hS0, hS1, hS2, hS3, hG⟩
      · have hx : F_X6_move n0 xv_camp_tents xv_camp_wall xv_camp_bridge xv_camp_counted xf_found xf_camp_yards p1 p2 p3 = some (-1000005, upd xf_found 4 (xf_found 4 + 1), xf_camp_yards) := by
          unfold F_X6_move
          rw [h0, has_t hN ht, isYard_t hy.1 hy.2]
          simp only [bd1, one0, F_X6_yardOf, nm]
          rw [mayStand_f hn hN hm]
          rfl
        have hm' : F_X7_move n0 mf_d mf_found p1 p2 p3 = some (-1000005, mf_d, upd mf_found 4 (mf_found 4 + 1)) := by
          unfold F_X7_move
          rw [mT_t hN hd0 ht, mYard_t hy.1 hy.2]
          simp only [bd1, one0, nm]
          rw [whoIs_s hn hN hd0 (fun i hi => (hA i hi).2.1)]
          simp only []
          rw [if_neg (fun h1 => hm (Or.inl h1)), if_neg (fun h1 => hm (Or.inr h1))]
          rfl
        exact ⟨_, _, _, _, _, hx, hm', hC0, hK1, hK2, hK3, fnd_u hF 4 (by decide), hT, hS0, hS1, hS2, hS3, hG⟩
    · have hx : F_X6_move n0 xv_camp_tents xv_camp_wall xv_camp_bridge xv_camp_counted xf_found xf_camp_yards p1 p2 p3 = some (-1000001, upd xf_found 0 (xf_found 0 + 1), xf_camp_yards) := by
        unfold F_X6_move
        rw [h0, has_t hN ht, isYard_f hy]
        rfl
      have hm' : F_X7_move n0 mf_d mf_found p1 p2 p3 = some (-1000001, mf_d, upd mf_found 0 (mf_found 0 + 1)) := by
        unfold F_X7_move
        rw [mT_t hN hd0 ht, mYard_f hy]
        rfl
      exact ⟨_, _, _, _, _, hx, hm', hC0, hK1, hK2, hK3, fnd_u hF 0 (by decide), hT, hS0, hS1, hS2, hS3, hG⟩
  · have hx : F_X6_move n0 xv_camp_tents xv_camp_wall xv_camp_bridge xv_camp_counted xf_found xf_camp_yards p1 p2 p3 = some (-1000001, upd xf_found 0 (xf_found 0 + 1), xf_camp_yards) := by
      unfold F_X6_move
      rw [h0, has_f hN ht]
      rfl
    have hm' : F_X7_move n0 mf_d mf_found p1 p2 p3 = some (-1000001, mf_d, upd mf_found 0 (mf_found 0 + 1)) := by
      unfold F_X7_move
      rw [mT_f hN hd0 ht]
      rfl
    exact ⟨_, _, _, _, _, hx, hm', hC0, hK1, hK2, hK3, fnd_u hF 0 (by decide), hT, hS0, hS1, hS2, hS3, hG⟩
/-- sums of seven, counts of ten -/
def sumF (f : Nat → Int32) : Nat → Nat → Int32 → Int32
  | 0, _, s => s
  | k + 1, i, s => sumF f k (i + 1) (s + f i)
theorem sumF_eq {f m : Nat → Int32} (h : ∀ i : Nat, i < 7 → m i = f i) : ∀ (k i : Nat) (s : Int32), i + k = 7 → sumF m k i s = sumF f k i s := by
  intro k
  induction k with
  | zero => intro i s _; rfl
  | succ k ih => intro i s h1; unfold sumF; rw [h i (by omega), ih (i + 1) _ (by omega)]
theorem stat_r {f : Nat → Int32} : ∀ (k i n : Nat) (s : Int32), i + k = 7 → k < n → L_X6_status_9 f n s (nI i) = some (sumF f k i s, f) := by
  intro k
  induction k with
  | zero =>
    intro i n s h1 h2
    obtain ⟨n, rfl⟩ : ∃ q, n = q + 1 := ⟨n - 1, by omega⟩
    rw [L_X6_status_9_u, if_pos (show (7 : Int32) ≤ nI i from nI_le (a := 7) (by omega) (by omega))]
    rfl
  | succ k ih =>
    intro i n s h1 h2
    obtain ⟨n, rfl⟩ : ∃ q, n = q + 1 := ⟨n - 1, by omega⟩
    rw [L_X6_status_9_u, if_neg (show ¬ (7 : Int32) ≤ nI i from nI_ge (b := 7) (by omega) (by decide)), rd_nI (by omega) (by decide)]
    simp only [nm]
    rw [nI_1, ih (i + 1) n _ (by omega) (by omega)]
    rfl
theorem mstat_r {f : Nat → Int32} {p : Int32} : ∀ (k i n : Nat) (s : Int32), i + k = 7 → k < n → L_X7_status_24 p f n s (nI i) = (if 0 ≤ p then rd f 7 p (fun x => some (x, f)) else some (sumF f k i s, f)) := by
  intro k
  induction k with
  | zero =>
    intro i n s h1 h2
    obtain ⟨n, rfl⟩ : ∃ q, n = q + 1 := ⟨n - 1, by omega⟩
    rw [L_X7_status_24_u, if_pos (show (7 : Int32) ≤ nI i from nI_le (a := 7) (by omega) (by omega))]
    rfl
  | succ k ih =>
    intro i n s h1 h2
    obtain ⟨n, rfl⟩ : ∃ q, n = q + 1 := ⟨n - 1, by omega⟩
    rw [L_X7_status_24_u, if_neg (show ¬ (7 : Int32) ≤ nI i from nI_ge (b := 7) (by omega) (by decide)), rd_nI (by omega) (by decide)]
    simp only [nm]
    rw [nI_1, ih (i + 1) n _ (by omega) (by omega)]
    rfl
theorem st_status {n0 : Nat} (hn : 2000000 ≤ n0) : St_status n0 := by
  intro xv_isKept xf_found xv_camp_tents xv_camp_said xv_camp_wall xv_camp_bridge xv_camp_counted xv_camp_day xv_camp_z xf_camp_kinds xf_camp_yards xf_camp_spots xv_kept_tents xv_kept_said xv_kept_wall xv_kept_bridge xv_kept_counted xv_kept_day xv_kept_z xf_kept_kinds xf_kept_yards xf_kept_spots xv_tape_size xf_tape_bytes xv_sheets_0_bits xv_sheets_0_size xf_sheets_0_numbers xv_sheets_1_bits xv_sheets_1_size xf_sheets_1_numbers xv_sheets_2_bits xv_sheets_2_size xf_sheets_2_numbers xv_sheets_3_bits xv_sheets_3_size xf_sheets_3_numbers mv_isKept mv_taped mv_gone mf_d mf_kept mf_found mf_tape mf_bitsOf mf_sizeOf mf_number hI p1
  obtain ⟨hC, hK1, hK2, hK3, hF, hT, hS0, hS1, hS2, hS3, hG⟩ := hI
  by_cases hm1 : p1 = -1
  · subst hm1
    have hx : F_X6_status n0 xf_found (-1) = some (sumF xf_found 7 0 0, xf_found) := by
      unfold F_X6_status
      rw [if_pos rfl, ← nI_0]
      exact stat_r 7 0 n0 _ (by omega) (by omega)
    have hm : F_X7_status n0 mf_found (-1) = some (sumF xf_found 7 0 0, mf_found) := by
      unfold F_X7_status
      simp only [nm]
      rw [in_t (a := -1) (b := 6) (p := -1) (by constructor <;> decide)]
      simp only [bd1, one0]
      rw [← nI_0, mstat_r 7 0 n0 _ (by omega) (by omega), if_neg (by decide), sumF_eq hF 7 0 _ (by omega)]
    exact ⟨_, _, _, hx, hm, hC, hK1, hK2, hK3, hF, hT, hS0, hS1, hS2, hS3, hG⟩
  · by_cases hr : inR 0 6 p1
    · obtain ⟨k, hk, rfl⟩ := inR_nI (hi := 6) hr
      have hx : F_X6_status n0 xf_found (nI k) = some (xf_found k, xf_found) := by
        unfold F_X6_status
        rw [if_neg hm1, isFrom_t (a := 0) (b := 6) hr]
        simp only [bd1, one0]
        rw [rd_nI (by omega) (by decide)]
      have hm : F_X7_status n0 mf_found (nI k) = some (xf_found k, mf_found) := by
        unfold F_X7_status
        simp only [nm]
        rw [in_t (a := -1) (b := 6) ⟨by have := hr.1; have a3 : (-1 : Int64).toInt = -1 := rfl; omega, hr.2⟩]
        simp only [bd1, one0]
        rw [← nI_0, mstat_r 7 0 n0 _ (by omega) (by omega), if_pos (nI_pos' (by omega)), rd_nI (by omega) (by decide), hF k (by omega)]
      exact ⟨_, _, _, hx, hm, hC, hK1, hK2, hK3, hF, hT, hS0, hS1, hS2, hS3, hG⟩
    · have hx : F_X6_status n0 xf_found p1 = some (-1000001, upd xf_found 0 (xf_found 0 + 1)) := by
        unfold F_X6_status
        rw [if_neg hm1, isFrom_f (a := 0) (b := 6) hr]
        rfl
      have hm : F_X7_status n0 mf_found p1 = some (-1000001, upd mf_found 0 (mf_found 0 + 1)) := by
        unfold F_X7_status
        simp only [nm]
        rw [in_f (a := -1) (b := 6) (fun h => hr ⟨?_, h.2⟩)]
        · rfl
        · have h1 := h.1
          have a3 : (-1 : Int64).toInt = -1 := rfl
          by_cases h2 : p1.toInt = -1
          · exact absurd (Int32.toInt_inj.mp h2) hm1
          · omega
      exact ⟨_, _, _, hx, hm, hC, hK1, hK2, hK3, fnd_u hF 0 (by decide), hT, hS0, hS1, hS2, hS3, hG⟩
def hcF (b : Nat → Bool) : Nat → Nat → Int32 → Int32
  | 0, _, a => a
  | k + 1, i, a => hcF b k (i + 1) (if b i = true then a + 1 else a)
theorem hold_r {spots : Nat → Int32} : ∀ (k i n : Nat) (a : Int32), i + k = 10 → k < n → L_X0_countHolding_4 spots n a (nI i) = some (hcF (fun i => decide (¬ spots i = -1)) k i a) := by
  intro k
  induction k with
  | zero =>
    intro i n a h1 h2
    obtain ⟨n, rfl⟩ : ∃ q, n = q + 1 := ⟨n - 1, by omega⟩
    rw [L_X0_countHolding_4_u, if_pos (show (10 : Int32) ≤ nI i from nI_le (a := 10) (by omega) (by omega))]
    rfl
  | succ k ih =>
    intro i n a h1 h2
    obtain ⟨n, rfl⟩ : ∃ q, n = q + 1 := ⟨n - 1, by omega⟩
    rw [L_X0_countHolding_4_u, if_neg (show ¬ (10 : Int32) ≤ nI i from nI_ge (b := 10) (by omega) (by decide)), rd_nI (by omega) (by decide)]
    simp only [nm]
    unfold hcF
    by_cases h : spots i = -1
    · rw [if_pos h, nI_1, ih (i + 1) n _ (by omega) (by omega), if_neg (by simp [h])]
    · rw [if_neg h, nI_1, ih (i + 1) n _ (by omega) (by omega), if_pos (decide_eq_true h)]
theorem mhold_r {d spots : Nat → Int32} {N : Nat} (hN : N ≤ 10) (hd : ∀ i : Nat, i < 10 → d (30 + i) = spots i + 1) (hs : ∀ i : Nat, i < 10 → ∃ w : Nat, w ≤ N ∧ spots i + 1 = nI w) : ∀ (k i n : Nat) (a : Int32), i + k = 10 → k < n → L_X7_holding_4 d n a (nI i) = some (hcF (fun i => decide (¬ spots i = -1)) k i a) := by
  intro k
  induction k with
  | zero =>
    intro i n a h1 h2
    obtain ⟨n, rfl⟩ : ∃ q, n = q + 1 := ⟨n - 1, by omega⟩
    rw [L_X7_holding_4_u, if_pos (show (10 : Int32) ≤ nI i from nI_le (a := 10) (by omega) (by omega))]
    rfl
  | succ k ih =>
    intro i n a h1 h2
    obtain ⟨n, rfl⟩ : ∃ q, n = q + 1 := ⟨n - 1, by omega⟩
    rw [L_X7_holding_4_u, if_neg (show ¬ (10 : Int32) ≤ nI i from nI_ge (b := 10) (by omega) (by decide))]
    simp only [nm]
    rw [rd_l (30 + i) (a30 i) (by omega) (by decide), hd i (by omega)]
    unfold hcF
    obtain ⟨w, hw, e⟩ := hs i (by omega)
    have e2 : spots i = nI w - 1 := by rw [← e, Int32.add_sub_cancel]
    by_cases h : w = 0
    · have h3 : spots i = -1 := by rw [e2, h]; rfl
      rw [if_pos (by rw [e, h]; decide), Int32.add_zero, nI_1, ih (i + 1) n _ (by omega) (by omega), if_neg (by simp [h3])]
    · have h3 : ¬ spots i = -1 := fun h4 => by
        rw [h4] at e
        have e3 : nI w = 0 := e.symm.trans (by decide)
        exact nI_ne0 (by omega) (by omega) e3
      rw [if_neg (by rw [e]; exact nI_nle (by omega) (by omega)), nI_1, ih (i + 1) n _ (by omega) (by omega), if_pos (decide_eq_true h3)]
theorem st_count {n0 : Nat} (hn : 2000000 ≤ n0) : St_count n0 := by
  intro xv_isKept xf_found xv_camp_tents xv_camp_said xv_camp_wall xv_camp_bridge xv_camp_counted xv_camp_day xv_camp_z xf_camp_kinds xf_camp_yards xf_camp_spots xv_kept_tents xv_kept_said xv_kept_wall xv_kept_bridge xv_kept_counted xv_kept_day xv_kept_z xf_kept_kinds xf_kept_yards xf_kept_spots xv_tape_size xf_tape_bytes xv_sheets_0_bits xv_sheets_0_size xf_sheets_0_numbers xv_sheets_1_bits xv_sheets_1_size xf_sheets_1_numbers xv_sheets_2_bits xv_sheets_2_size xf_sheets_2_numbers xv_sheets_3_bits xv_sheets_3_size xf_sheets_3_numbers mv_isKept mv_taped mv_gone mf_d mf_kept mf_found mf_tape mf_bitsOf mf_sizeOf mf_number hI p1
  obtain ⟨hC, hK1, hK2, hK3, hF, hT, hS0, hS1, hS2, hS3, hG⟩ := hI
  have hC0 := hC
  obtain ⟨N, hN, h0, hd0, hd1, hd2, hd3, hd4, hd5, hd6, hct, hwl, hbr, hdy, hsa, hA, hKi, hYa, hSp⟩ := hC
  obtain ⟨m, hm0, hsa⟩ := hsa
  obtain ⟨T, hT0, hT1, hT2, hT3⟩ := id hT
  have fin : ∀ r : Int32, F_X6_count n0 xv_camp_tents xv_camp_said xv_camp_wall xv_camp_bridge xv_camp_day xv_camp_z xf_found xv_tape_size xf_camp_spots p1 = some (r, xf_found) → F_X7_count n0 mv_taped mf_d mf_found p1 = some (r, mf_found) → ∃ (r : Int32) (o0 w0 : Nat → Int32), F_X6_count n0 xv_camp_tents xv_camp_said xv_camp_wall xv_camp_bridge xv_camp_day xv_camp_z xf_found xv_tape_size xf_camp_spots p1 = some (r, o0) ∧ F_X7_count n0 mv_taped mf_d mf_found p1 = some (r, w0) ∧ Inv xf_camp_kinds xf_camp_yards xf_camp_spots xv_camp_tents xv_camp_said xv_camp_wall xv_camp_bridge xv_camp_counted xv_camp_day xv_camp_z xf_kept_kinds xf_kept_yards xf_kept_spots xv_kept_tents xv_kept_said xv_kept_wall xv_kept_bridge xv_kept_counted xv_kept_day xv_kept_z xv_isKept o0 xv_tape_size xf_tape_bytes xf_sheets_0_numbers xv_sheets_0_bits xv_sheets_0_size xf_sheets_1_numbers xv_sheets_1_bits xv_sheets_1_size xf_sheets_2_numbers xv_sheets_2_bits xv_sheets_2_size xf_sheets_3_numbers xv_sheets_3_bits xv_sheets_3_size mf_d mf_kept mv_isKept w0 mf_tape mv_taped mv_gone mf_bitsOf mf_sizeOf mf_number := fun r h1 h2 => ⟨r, _, _, h1, h2, hC0, hK1, hK2, hK3, hF, hT, hS0, hS1, hS2, hS3, hG⟩
  by_cases q0 : p1 = 0
  · exact fin xv_camp_day (by unfold F_X6_count; rw [if_pos q0]) (by unfold F_X7_count; rw [if_pos q0, rd_l 1 l1 (by decide) (by decide), hd1])
  by_cases q1 : p1 = 1
  · exact fin (nI N) (by unfold F_X6_count; rw [if_neg q0, if_pos q1, h0]) (by unfold F_X7_count; rw [if_neg q0, if_pos q1, rd_l 0 l0 (by decide) (by decide), hd0])
  by_cases q2 : p1 = 2
  · exact fin (onesE xv_camp_said) (by unfold F_X6_count; rw [if_neg q0, if_neg q1, if_pos q2, vote_s, hsa, pop_eq m (by have := pow10 hN; omega)]; rfl) (by unfold F_X7_count; rw [if_neg q0, if_neg q1, if_pos q2, rd_l 6 l6 (by decide) (by decide), hd6, ones_s hn]; rfl)
  by_cases q3 : p1 = 3
  · exact fin xv_camp_wall (by unfold F_X6_count; rw [if_neg q0, if_neg q1, if_neg q2, if_pos q3]) (by unfold F_X7_count; rw [if_neg q0, if_neg q1, if_neg q2, if_pos q3, rd_l 3 l3 (by decide) (by decide), hd3])
  by_cases q4 : p1 = 4
  · exact fin xv_camp_bridge (by unfold F_X6_count; rw [if_neg q0, if_neg q1, if_neg q2, if_neg q3, if_pos q4]) (by unfold F_X7_count; rw [if_neg q0, if_neg q1, if_neg q2, if_neg q3, if_pos q4, rd_l 4 l4 (by decide) (by decide), hd4])
  by_cases q5 : p1 = 5
  · exact fin (nI T) (by unfold F_X6_count; rw [if_neg q0, if_neg q1, if_neg q2, if_neg q3, if_neg q4, if_pos q5, hT1]) (by unfold F_X7_count; rw [if_neg q0, if_neg q1, if_neg q2, if_neg q3, if_neg q4, if_pos q5, hT2])
  by_cases q6 : p1 = 6
  · exact fin xv_camp_z (by unfold F_X6_count; rw [if_neg q0, if_neg q1, if_neg q2, if_neg q3, if_neg q4, if_neg q5, if_pos q6]) (by unfold F_X7_count; rw [if_neg q0, if_neg q1, if_neg q2, if_neg q3, if_neg q4, if_neg q5, if_pos q6, rd_l 2 l2 (by decide) (by decide), hd2])
  by_cases q7 : p1 = 7
  · refine fin (hcF (fun i => decide (¬ xf_camp_spots i = -1)) 10 0 0) ?_ ?_
    · unfold F_X6_count F_X0_countHolding
      rw [if_neg q0, if_neg q1, if_neg q2, if_neg q3, if_neg q4, if_neg q5, if_neg q6, if_pos q7, ← nI_0, hold_r 10 0 n0 _ (by omega) (by omega)]
      rfl
    · unfold F_X7_count F_X7_holding
      rw [if_neg q0, if_neg q1, if_neg q2, if_neg q3, if_neg q4, if_neg q5, if_neg q6, if_pos q7, ← nI_0, mhold_r hN (fun i hi => (hA i hi).2.2) hSp 10 0 n0 _ (by omega) (by omega)]
      rfl
  · have hx : F_X6_count n0 xv_camp_tents xv_camp_said xv_camp_wall xv_camp_bridge xv_camp_day xv_camp_z xf_found xv_tape_size xf_camp_spots p1 = some (-1000001, upd xf_found 0 (xf_found 0 + 1)) := by
      unfold F_X6_count
      rw [if_neg q0, if_neg q1, if_neg q2, if_neg q3, if_neg q4, if_neg q5, if_neg q6, if_neg q7]
      rfl
    have hm : F_X7_count n0 mv_taped mf_d mf_found p1 = some (-1000001, upd mf_found 0 (mf_found 0 + 1)) := by
      unfold F_X7_count
      rw [if_neg q0, if_neg q1, if_neg q2, if_neg q3, if_neg q4, if_neg q5, if_neg q6, if_neg q7]
      rfl
    exact ⟨_, _, _, hx, hm, hC0, hK1, hK2, hK3, fnd_u hF 0 (by decide), hT, hS0, hS1, hS2, hS3, hG⟩
theorem byte_of (v : Int32) : ∃ w : Nat, w < 256 ∧ v &&& 255 = nI w ∧ vp_nar .byte v.toInt8.toInt32 = (nI w).toInt8.toInt32 := by
  obtain ⟨w, hw, e⟩ := pk_andE v (m := 255) 8 (by decide)
  refine ⟨w, hw, e, ?_⟩
  rw [pk_vb, ← e, Int32.toInt8_and, show (255 : Int32).toInt8 = -1 from rfl, Int8.and_neg_one]
theorem feed_r {p : Int32} {found : Nat → Int32} : ∀ (j n T : Nat) (g t : Nat → Int32), T + j ≤ 120 → j < n → TR (nI T) g t (nI T) → ∃ (g' t' : Nat → Int32), L_X3_put_4 p n (nI j - 1) g (nI T) = some (nI (T + j), g') ∧ L_X7_feed_39 found p n (nI j - 1) t (nI T) = some (nI (T + j), nI (T + j), found, t') ∧ TR (nI (T + j)) g' t' (nI (T + j)) := by
  intro j
  induction j with
  | zero =>
    intro n T g t h1 h2 hR
    obtain ⟨n, rfl⟩ : ∃ q, n = q + 1 := ⟨n - 1, by omega⟩
    refine ⟨g, t, ?_, ?_, hR⟩
    · rw [L_X3_put_4_u, if_pos (by decide)]
      rfl
    · rw [L_X7_feed_39_u, if_pos (by decide)]
      rfl
  | succ j ih =>
    intro n T g t h1 h2 hR
    obtain ⟨n, rfl⟩ : ∃ q, n = q + 1 := ⟨n - 1, by omega⟩
    rw [nI_pred, L_X3_put_4_u, L_X7_feed_39_u, if_neg (nI_pos (by omega)), if_neg (nI_pos (by omega)), if_neg (show ¬ (120 : Int32) ≤ nI T from nI_ge (b := 120) (by omega) (by decide))]
    simp only [nm]
    rw [wrt_nI (by omega) (by decide), wrt_nI (by omega) (by decide), nI_1, ← Int32.sub_eq_add_neg]
    obtain ⟨w, hw, e1, e2⟩ := byte_of (p >>> ((8 * nI j) &&& 31))
    rw [e1, e2]
    have hR' : TR (nI (T + 1)) (upd g T (nI w)) (upd t T ((nI w).toInt8.toInt32)) (nI (T + 1)) := by
      obtain ⟨U, hU, u1, u2, u3⟩ := hR
      have e : T = U := (nI_eq (by omega) (by omega)).mp u1
      subst e
      refine ⟨T + 1, by omega, rfl, rfl, fun i hi => ?_⟩
      by_cases h : i = T
      · subst h; exact ⟨w, hw, pk_us, pk_us⟩
      · rw [pk_un h, pk_un h]; exact u3 i (by omega)
    obtain ⟨g', t', a1, a2, a3⟩ := ih n (T + 1) _ _ (by omega) (by omega) hR'
    rw [show T + 1 + j = T + (j + 1) by omega] at a1 a2 a3
    exact ⟨g', t', a1, a2, a3⟩
theorem st_feed {n0 : Nat} (hn : 2000000 ≤ n0) : St_feed n0 := by
  intro xv_isKept xf_found xv_camp_tents xv_camp_said xv_camp_wall xv_camp_bridge xv_camp_counted xv_camp_day xv_camp_z xf_camp_kinds xf_camp_yards xf_camp_spots xv_kept_tents xv_kept_said xv_kept_wall xv_kept_bridge xv_kept_counted xv_kept_day xv_kept_z xf_kept_kinds xf_kept_yards xf_kept_spots xv_tape_size xf_tape_bytes xv_sheets_0_bits xv_sheets_0_size xf_sheets_0_numbers xv_sheets_1_bits xv_sheets_1_size xf_sheets_1_numbers xv_sheets_2_bits xv_sheets_2_size xf_sheets_2_numbers xv_sheets_3_bits xv_sheets_3_size xf_sheets_3_numbers mv_isKept mv_taped mv_gone mf_d mf_kept mf_found mf_tape mf_bitsOf mf_sizeOf mf_number hI p1 p2
  obtain ⟨hC, hK1, hK2, hK3, hF, hT, hS0, hS1, hS2, hS3, hG⟩ := hI
  have hT0 := hT
  obtain ⟨T, hTl, hT1, hT2, hT3⟩ := hT
  by_cases hr : inR 1 4 p2
  · have hlt : ¬ p2 < 0 := by
      rw [Int32.lt_iff_toInt_lt]
      have := hr.1
      have a3 : (0 : Int32).toInt = 0 := rfl
      omega
    obtain ⟨k, hk, rfl⟩ := nI_of hlt
    have hk1 : 1 ≤ k ∧ k ≤ 4 := by
      obtain ⟨a, b⟩ := hr
      rw [nI_toInt hk] at a b
      omega
    by_cases hfull : T + k ≤ 120
    · rw [hT1, hT2] at hT0
      obtain ⟨g', t', a1, a2, a3⟩ := feed_r (p := p1) (found := mf_found) k n0 T xf_tape_bytes mf_tape hfull (by omega) hT0
      have hx : F_X6_feed n0 xf_found xv_tape_size xf_tape_bytes p1 (nI k) = some (nI (T + k), xf_found, nI (T + k), g') := by
        unfold F_X6_feed F_X3_put
        rw [isFrom_t (a := 1) (b := 4) hr]
        simp only [bd1, one0, nm]
        rw [hT1, if_pos, a1]
        · rfl
        · rw [show (120 : Int32) = nI 120 from rfl, pk_sub hTl]
          exact nI_le (by omega) (by omega)
      have hm : F_X7_feed n0 mv_taped mf_found mf_tape p1 (nI k) = some (nI (T + k), nI (T + k), mf_found, t') := by
        unfold F_X7_feed
        simp only [nm]
        rw [in_t (a := 1) (b := 4) hr]
        simp only [bd1, one0]
        rw [hT2, nI_add, if_pos (show nI (T + k) ≤ 120 from nI_le (b := 120) (by omega) (by decide))]
        exact a2
      exact ⟨_, _, _, _, _, _, _, hx, hm, hC, hK1, hK2, hK3, hF, a3, hS0, hS1, hS2, hS3, hG⟩
    · have hx : F_X6_feed n0 xf_found xv_tape_size xf_tape_bytes p1 (nI k) = some (-1000002, upd xf_found 1 (xf_found 1 + 1), xv_tape_size, xf_tape_bytes) := by
        unfold F_X6_feed
        rw [isFrom_t (a := 1) (b := 4) hr]
        simp only [bd1, one0, nm]
        rw [if_neg]
        · rfl
        · rw [hT1, show (120 : Int32) = nI 120 from rfl, pk_sub hTl]
          exact nI_ge (by omega) (by omega)
      have hm : F_X7_feed n0 mv_taped mf_found mf_tape p1 (nI k) = some (-1000002, mv_taped, upd mf_found 1 (mf_found 1 + 1), mf_tape) := by
        unfold F_X7_feed
        simp only [nm]
        rw [in_t (a := 1) (b := 4) hr]
        simp only [bd1, one0]
        rw [if_neg]
        · rfl
        · rw [hT2, nI_add]
          exact (show ¬ nI (T + k) ≤ 120 from nI_ge (a := 120) (by omega) (by omega))
      exact ⟨_, _, _, _, _, _, _, hx, hm, hC, hK1, hK2, hK3, fnd_u hF 1 (by decide), hT0, hS0, hS1, hS2, hS3, hG⟩
  · have hx : F_X6_feed n0 xf_found xv_tape_size xf_tape_bytes p1 p2 = some (-1000001, upd xf_found 0 (xf_found 0 + 1), xv_tape_size, xf_tape_bytes) := by
      unfold F_X6_feed
      rw [isFrom_f (a := 1) (b := 4) hr]
      rfl
    have hm : F_X7_feed n0 mv_taped mf_found mf_tape p1 p2 = some (-1000001, mv_taped, upd mf_found 0 (mf_found 0 + 1), mf_tape) := by
      unfold F_X7_feed
      simp only [nm]
      rw [in_f (a := 1) (b := 4) hr]
      rfl
    exact ⟨_, _, _, _, _, _, _, hx, hm, hC, hK1, hK2, hK3, fnd_u hF 0 (by decide), hT0, hS0, hS1, hS2, hS3, hG⟩
/-! == 60.ears.tpl -/
/-! who is nearest, who hears whom -/
def cod : Option Nat → Int32
  | none => -1
  | some i => nI i
def nearF (g : Nat → Nat) (sk : Nat → Bool) : Nat → Nat → Option Nat → Option Nat
  | 0, _, b => b
  | k + 1, i, b => nearF g sk k (i + 1) (if sk i = true then b else match b with
    | none => some i
    | some o => if g o ≤ g i then some o else some i)
def fartF (g : Nat → Nat) (sk : Nat → Bool) : Nat → Nat → Option Nat → Option Nat
  | 0, _, b => b
  | k + 1, i, b => fartF g sk k (i + 1) (if sk i = true then b else match b with
    | none => some i
    | some o => if g i ≤ g o then some o else some i)
/-- the best so far is a number below i that isn't left out -/
def okB (i : Nat) : Option Nat → Prop
  | none => True
  | some o => o < i
theorem nearF_ok (g : Nat → Nat) (sk : Nat → Bool) : ∀ (k i : Nat) (b : Option Nat), okB i b → okB (i + k) (nearF g sk k i b) := by
  intro k
  induction k with
  | zero => intro i b h; exact h
  | succ k ih =>
    intro i b h
    unfold nearF
    have e : i + (k + 1) = i + 1 + k := by omega
    rw [e]
    apply ih
    split
    · cases b with
      | none => trivial
      | some o => exact Nat.lt_succ_of_lt h
    · cases b with
      | none => exact Nat.lt_succ_self i
      | some o =>
        simp only []
        split
        · exact Nat.lt_succ_of_lt h
        · exact Nat.lt_succ_self i
theorem fartF_ok (g : Nat → Nat) (sk : Nat → Bool) : ∀ (k i : Nat) (b : Option Nat), okB i b → okB (i + k) (fartF g sk k i b) := by
  intro k
  induction k with
  | zero => intro i b h; exact h
  | succ k ih =>
    intro i b h
    unfold fartF
    have e : i + (k + 1) = i + 1 + k := by omega
    rw [e]
    apply ih
    split
    · cases b with
      | none => trivial
      | some o => exact Nat.lt_succ_of_lt h
    · cases b with
      | none => exact Nat.lt_succ_self i
      | some o =>
        simp only []
        split
        · exact Nat.lt_succ_of_lt h
        · exact Nat.lt_succ_self i
theorem nearF_congr {g : Nat → Nat} {s1 s2 : Nat → Bool} : ∀ (k i : Nat) (b : Option Nat), (∀ j, i ≤ j → j < i + k → s1 j = s2 j) → nearF g s1 k i b = nearF g s2 k i b := by
  intro k
  induction k with
  | zero => intro i b _; rfl
  | succ k ih =>
    intro i b h
    unfold nearF
    rw [h i (by omega) (by omega)]
    exact ih (i + 1) _ (fun j h1 h2 => h j (by omega) (by omega))
theorem fartF_congr {g : Nat → Nat} {s1 s2 : Nat → Bool} : ∀ (k i : Nat) (b : Option Nat), (∀ j, i ≤ j → j < i + k → s1 j = s2 j) → fartF g s1 k i b = fartF g s2 k i b := by
  intro k
  induction k with
  | zero => intro i b _; rfl
  | succ k ih =>
    intro i b h
    unfold fartF
    rw [h i (by omega) (by omega)]
    exact ih (i + 1) _ (fun j h1 h2 => h j (by omega) (by omega))
theorem gap_ix {t i : Nat} : (10 : Int32) * nI t + nI i = nI (10 * t + i) := by
  rw [show (10 : Int32) = nI 10 from rfl, pk_mul, nI_add]
def bgN (g : Nat → Nat) : Option Nat → Int32
  | none => 1000000
  | some o => nI (g o)
def bgF (g : Nat → Nat) : Option Nat → Int32
  | none => -1
  | some o => nI (g o)
theorem near_r {t B : Nat} {g : Nat → Nat} {gaps : Nat → Int32} (ht : t < 10) (hB : B ≤ 10) (hg : ∀ i : Nat, i < B → i ≠ t → gaps (10 * t + i) = nI (g i)) (hl : ∀ i : Nat, i < 10 → g i < 1100) : ∀ (k i n : Nat) (b : Option Nat), i + k = B → k < n → okB i b → L_X1_nearestBelow_9 (nI B) (nI t) gaps n (cod b) (bgN g b) (nI i) = some (cod (nearF g (fun j => j == t) k i b)) := by
  intro k
  induction k with
  | zero =>
    intro i n b h1 h2 hb
    obtain ⟨n, rfl⟩ : ∃ q, n = q + 1 := ⟨n - 1, by omega⟩
    rw [L_X1_nearestBelow_9_u, if_pos (nI_le (by omega) (by omega))]
    rfl
  | succ k ih =>
    intro i n b h1 h2 hb
    obtain ⟨n, rfl⟩ : ∃ q, n = q + 1 := ⟨n - 1, by omega⟩
    rw [L_X1_nearestBelow_9_u, if_neg (nI_ge (by omega) (by omega))]
    simp only [nm]
    rw [gap_ix, rd_nI (by omega) (by decide)]
    unfold nearF
    by_cases h : i = t
    · subst h
      have hb' : okB (i + 1) b := by cases b with
        | none => trivial
        | some o => exact Nat.lt_succ_of_lt hb
      rw [if_pos rfl, nI_1, ih (i + 1) n b (by omega) (by omega) hb', if_pos (beq_self_eq_true i)]
    · rw [if_neg (fun h2 => h ((nI_eq (by omega) (by omega)).mp h2)), hg i (by omega) h, if_neg (show ¬ ((i == t) = true) from by simp [h])]
      cases b with
      | none =>
        rw [if_neg (show ¬ bgN g none ≤ nI (g i) from nI_ge (a := g i) (b := 1000000) (by have := hl i (by omega); omega) (by decide)), nI_1]
        exact ih (i + 1) n (some i) (by omega) (by omega) (Nat.lt_succ_self i)
      | some o =>
        have ho : o < i := hb
        have l1 := hl i (by omega)
        have l2 := hl o (by omega)
        simp only []
        by_cases h3 : g o ≤ g i
        · rw [if_pos (show bgN g (some o) ≤ nI (g i) from nI_le h3 (by omega)), if_pos h3, nI_1]
          exact ih (i + 1) n (some o) (by omega) (by omega) (Nat.lt_succ_of_lt ho)
        · rw [if_neg (show ¬ bgN g (some o) ≤ nI (g i) from nI_ge (by omega) (by omega)), if_neg h3, nI_1]
          exact ih (i + 1) n (some i) (by omega) (by omega) (Nat.lt_succ_self i)
theorem near_s {n0 t B : Nat} {g : Nat → Nat} {gaps : Nat → Int32} (hn : 2000000 ≤ n0) (ht : t < 10) (hB : B ≤ 10) (hg : ∀ i : Nat, i < B → i ≠ t → gaps (10 * t + i) = nI (g i)) (hl : ∀ i : Nat, i < 10 → g i < 1100) : F_X1_nearestBelow n0 gaps (nI t) (nI B) = some (cod (nearF g (fun j => j == t) B 0 none)) := by
  unfold F_X1_nearestBelow
  rw [← nI_0]
  exact near_r ht hB hg hl B 0 n0 none (by omega) (by omega) trivial
theorem fart_r {t B : Nat} {g : Nat → Nat} {gaps : Nat → Int32} (ht : t < 10) (hB : B ≤ 10) (hg : ∀ i : Nat, i < B → i ≠ t → gaps (10 * t + i) = nI (g i)) (hl : ∀ i : Nat, i < 10 → g i < 1100) : ∀ (k i n : Nat) (b : Option Nat), i + k = B → k < n → okB i b → L_X1_farthest_7 (nI B) (nI t) gaps n (cod b) (bgF g b) (nI i) = some (cod (fartF g (fun j => j == t) k i b)) := by
  intro k
  induction k with
  | zero =>
    intro i n b h1 h2 hb
    obtain ⟨n, rfl⟩ : ∃ q, n = q + 1 := ⟨n - 1, by omega⟩
    rw [L_X1_farthest_7_u, if_pos (nI_le (by omega) (by omega))]
    rfl
  | succ k ih =>
    intro i n b h1 h2 hb
    obtain ⟨n, rfl⟩ : ∃ q, n = q + 1 := ⟨n - 1, by omega⟩
    rw [L_X1_farthest_7_u, if_neg (nI_ge (by omega) (by omega))]
    simp only [nm]
    rw [gap_ix, rd_nI (by omega) (by decide)]
    unfold fartF
    by_cases h : i = t
    · subst h
      have hb' : okB (i + 1) b := by cases b with
        | none => trivial
        | some o => exact Nat.lt_succ_of_lt hb
      rw [if_pos rfl, nI_1, ih (i + 1) n b (by omega) (by omega) hb', if_pos (beq_self_eq_true i)]
    · rw [if_neg (fun h2 => h ((nI_eq (by omega) (by omega)).mp h2)), hg i (by omega) h, if_neg (show ¬ ((i == t) = true) from by simp [h])]
      have l1 := hl i (by omega)
      cases b with
      | none =>
        have hq : ¬ nI (g i) ≤ bgF g none := by
          show ¬ nI (g i) ≤ -1
          rw [Int32.le_iff_toInt_le, nI_toInt (by omega)]
          have a3 : (-1 : Int32).toInt = -1 := rfl
          omega
        rw [if_neg hq, nI_1]
        exact ih (i + 1) n (some i) (by omega) (by omega) (Nat.lt_succ_self i)
      | some o =>
        have ho : o < i := hb
        have l2 := hl o (by omega)
        simp only []
        by_cases h3 : g i ≤ g o
        · rw [if_pos (show nI (g i) ≤ bgF g (some o) from nI_le h3 (by omega)), if_pos h3, nI_1]
          exact ih (i + 1) n (some o) (by omega) (by omega) (Nat.lt_succ_of_lt ho)
        · rw [if_neg (show ¬ nI (g i) ≤ bgF g (some o) from nI_ge (by omega) (by omega)), if_neg h3, nI_1]
          exact ih (i + 1) n (some i) (by omega) (by omega) (Nat.lt_succ_self i)
theorem fart_s {n0 t B : Nat} {g : Nat → Nat} {gaps : Nat → Int32} (hn : 2000000 ≤ n0) (ht : t < 10) (hB : B ≤ 10) (hg : ∀ i : Nat, i < B → i ≠ t → gaps (10 * t + i) = nI (g i)) (hl : ∀ i : Nat, i < 10 → g i < 1100) : F_X1_farthest n0 (nI B) gaps (nI t) = some (cod (fartF g (fun j => j == t) B 0 none)) := by
  unfold F_X1_farthest
  rw [← nI_0]
  exact fart_r ht hB hg hl B 0 n0 none (by omega) (by omega) trivial
/-- the reference's camp, as numbers -/
def yN (f : Nat → Int32) (i : Nat) : Nat := (f i).toNatClampNeg
theorem yN_of {f : Nat → Int32} {i n : Nat} (hn : n < 2 ^ 31) (h : ∃ w : Nat, w < n ∧ f i = nI w) : f i = nI (yN f i) ∧ yN f i < n := by
  obtain ⟨w, h1, h2⟩ := h
  have e : yN f i = w := by unfold yN; rw [h2, nI_clamp (by omega)]
  rw [e]
  exact ⟨h2, h1⟩
/-- a camp for hearing: yards, wall, bridge, counted, number of tents -/
def MC (d yards : Nat → Int32) (N w br : Nat) (c : Int32) : Prop := N ≤ 10 ∧ d 0 = nI N ∧ d 3 = nI w ∧ d 4 = nI br ∧ d 5 = c ∧ (c = 0 ∨ c = 1) ∧ w < 12 ∧ br < 12 ∧ (∀ i : Nat, i < 10 → d (20 + i) = yards i) ∧ ∀ i : Nat, i < 10 → ∃ y : Nat, y < 144 ∧ yards i = nI y
def GG (w br : Nat) (c : Int32) (yards : Nat → Int32) (i j : Nat) : Nat := farN w br (decide (c = 1)) (yN yards i) (yN yards j)
theorem GG_lt {w br : Nat} {c : Int32} {yards : Nat → Int32} (hb : br < 12) (hy : ∀ i : Nat, i < 10 → ∃ y : Nat, y < 144 ∧ yards i = nI y) {i j : Nat} (hi : i < 10) (hj : j < 10) : GG w br c yards i j < 1100 := farN_lt (yN_of (by decide) (hy i hi)).2 (yN_of (by decide) (hy j hj)).2 hb
theorem GG_comm (w br : Nat) (c : Int32) (yards : Nat → Int32) (i j : Nat) : GG w br c yards i j = GG w br c yards j i := farN_comm _ _ _ _ _
theorem mfar {n0 N w br i j : Nat} {d yards : Nat → Int32} {c : Int32} (hM : MC d yards N w br c) (hi : i < 10) (hj : j < 10) : F_X7_farOf n0 d (d (20 + i)) (d (20 + j)) = some (nI (GG w br c yards i j)) := by
  obtain ⟨h1, h2, h3, h4, h5, h6, h7, h8, h9, h10⟩ := hM
  obtain ⟨a1, a2⟩ := yN_of (by decide) (h10 i hi)
  obtain ⟨b1, b2⟩ := yN_of (by decide) (h10 j hj)
  rw [h9 i hi, h9 j hj, a1, b1, farOf_s h6 h3 h4 h5 h7 h8 a2 b2]
  rfl
theorem cod_m1 {o : Nat} (h : o < 10) : ¬ cod (some o) = -1 := nI_m1 (by omega)
theorem mnear_r {n0 N w br t B : Nat} {d yards : Nat → Int32} {c gone : Int32} (hM : MC d yards N w br c) (ht : t < 10) (hB : B ≤ 10) : ∀ (k i n : Nat) (b : Option Nat), i + k = B → k < n → okB i b → L_X7_nearestOf_5 (nI B) (nI t) gone n0 d n (cod b) (nI i) = some (cod (nearF (GG w br c yards t) (fun j => decide (j = t) || decide (nI j = gone)) k i b)) := by
  intro k
  induction k with
  | zero =>
    intro i n b h1 h2 hb
    obtain ⟨n, rfl⟩ : ∃ q, n = q + 1 := ⟨n - 1, by omega⟩
    rw [L_X7_nearestOf_5_u, if_pos (nI_le (by omega) (by omega))]
    rfl
  | succ k ih =>
    intro i n b h1 h2 hb
    obtain ⟨n, rfl⟩ : ∃ q, n = q + 1 := ⟨n - 1, by omega⟩
    have hb' : okB (i + 1) b := by cases b with
      | none => trivial
      | some o => exact Nat.lt_succ_of_lt hb
    rw [L_X7_nearestOf_5_u, if_neg (nI_ge (by omega) (by omega))]
    simp only [nm]
    unfold nearF
    by_cases h : i = t
    · rw [if_pos (by rw [h]), nI_1, ih (i + 1) n b (by omega) (by omega) hb', if_pos (by simp [h])]
    · rw [if_neg (fun h2 => h ((nI_eq (by omega) (by omega)).mp h2))]
      by_cases h3 : nI i = gone
      · rw [if_pos h3, nI_1, ih (i + 1) n b (by omega) (by omega) hb', if_pos (by simp [h3])]
      · rw [if_neg h3, if_neg (show ¬ ((decide (i = t) || decide (nI i = gone)) = true) from by simp [h, h3])]
        cases b with
        | none =>
          rw [if_pos (show cod none = -1 from rfl), nI_1]
          exact ih (i + 1) n (some i) (by omega) (by omega) (Nat.lt_succ_self i)
        | some o =>
          have ho : o < i := hb
          rw [if_neg (cod_m1 (by omega)), mYd (by omega), mYd (by omega)]
          simp only [bd1]
          rw [mfar hM ht (by omega)]
          simp only []
          rw [show cod (some o) = nI o from rfl, mYd (by omega)]
          simp only []
          rw [mfar hM ht (by omega)]
          simp only []
          have l1 := GG_lt (w := w) (c := c) hM.2.2.2.2.2.2.2.1 hM.2.2.2.2.2.2.2.2.2 ht (j := i) (by omega)
          have l2 := GG_lt (w := w) (c := c) hM.2.2.2.2.2.2.2.1 hM.2.2.2.2.2.2.2.2.2 ht (j := o) (by omega)
          by_cases h4 : GG w br c yards t o ≤ GG w br c yards t i
          · rw [if_pos (nI_le h4 (by omega)), if_pos h4, nI_1]
            exact ih (i + 1) n (some o) (by omega) (by omega) (Nat.lt_succ_of_lt ho)
          · rw [if_neg (nI_ge (by omega) (by omega)), if_neg h4, nI_1]
            exact ih (i + 1) n (some i) (by omega) (by omega) (Nat.lt_succ_self i)
theorem mnear_s {n0 N w br t B : Nat} {d yards : Nat → Int32} {c gone : Int32} (hn : 2000000 ≤ n0) (hM : MC d yards N w br c) (ht : t < 10) (hB : B ≤ 10) : F_X7_nearestOf n0 gone d (nI t) (nI B) = some (cod (nearF (GG w br c yards t) (fun j => decide (j = t) || decide (nI j = gone)) B 0 none)) := by
  unfold F_X7_nearestOf
  rw [← nI_0]
  exact mnear_r hM ht hB B 0 n0 none (by omega) (by omega) trivial
theorem mfart_r {n0 N w br t : Nat} {d yards : Nat → Int32} {c gone : Int32} (hM : MC d yards N w br c) (ht : t < 10) : ∀ (k i n : Nat) (b : Option Nat), i + k = N → k < n → okB i b → L_X7_farthestOf_4 d (nI t) gone n0 n (cod b) (nI i) = some (cod (fartF (GG w br c yards t) (fun j => decide (j = t) || decide (nI j = gone)) k i b)) := by
  have hN := hM.1
  have hd0 := hM.2.1
  intro k
  induction k with
  | zero =>
    intro i n b h1 h2 hb
    obtain ⟨n, rfl⟩ : ∃ q, n = q + 1 := ⟨n - 1, by omega⟩
    rw [L_X7_farthestOf_4_u, rd_l 0 l0 (by decide) (by decide), hd0, if_pos (nI_le (by omega) (by omega))]
    rfl
  | succ k ih =>
    intro i n b h1 h2 hb
    obtain ⟨n, rfl⟩ : ∃ q, n = q + 1 := ⟨n - 1, by omega⟩
    have hb' : okB (i + 1) b := by cases b with
      | none => trivial
      | some o => exact Nat.lt_succ_of_lt hb
    rw [L_X7_farthestOf_4_u, rd_l 0 l0 (by decide) (by decide), hd0, if_neg (nI_ge (by omega) (by omega))]
    simp only [nm]
    unfold fartF
    by_cases h : i = t
    · rw [if_pos (by rw [h]), nI_1, ih (i + 1) n b (by omega) (by omega) hb', if_pos (by simp [h])]
    · rw [if_neg (fun h2 => h ((nI_eq (by omega) (by omega)).mp h2))]
      by_cases h3 : nI i = gone
      · rw [if_pos h3, nI_1, ih (i + 1) n b (by omega) (by omega) hb', if_pos (by simp [h3])]
      · rw [if_neg h3, if_neg (show ¬ ((decide (i = t) || decide (nI i = gone)) = true) from by simp [h, h3])]
        cases b with
        | none =>
          rw [if_pos (show cod none = -1 from rfl), nI_1]
          exact ih (i + 1) n (some i) (by omega) (by omega) (Nat.lt_succ_self i)
        | some o =>
          have ho : o < i := hb
          rw [if_neg (cod_m1 (by omega)), mYd (by omega), mYd (by omega)]
          simp only [bd1]
          rw [mfar hM ht (by omega)]
          simp only []
          rw [show cod (some o) = nI o from rfl, mYd (by omega)]
          simp only []
          rw [mfar hM ht (by omega)]
          simp only []
          have l1 := GG_lt (w := w) (c := c) hM.2.2.2.2.2.2.2.1 hM.2.2.2.2.2.2.2.2.2 ht (j := i) (by omega)
          have l2 := GG_lt (w := w) (c := c) hM.2.2.2.2.2.2.2.1 hM.2.2.2.2.2.2.2.2.2 ht (j := o) (by omega)
          by_cases h4 : GG w br c yards t i ≤ GG w br c yards t o
          · rw [if_pos (nI_le h4 (by omega)), if_pos h4, nI_1]
            exact ih (i + 1) n (some o) (by omega) (by omega) (Nat.lt_succ_of_lt ho)
          · rw [if_neg (nI_ge (by omega) (by omega)), if_neg h4, nI_1]
            exact ih (i + 1) n (some i) (by omega) (by omega) (Nat.lt_succ_self i)
theorem mfart_s {n0 N w br t : Nat} {d yards : Nat → Int32} {c gone : Int32} (hn : 2000000 ≤ n0) (hM : MC d yards N w br c) (ht : t < 10) : F_X7_farthestOf n0 gone d (nI t) = some (cod (fartF (GG w br c yards t) (fun j => decide (j = t) || decide (nI j = gone)) N 0 none)) := by
  have hN := hM.1
  unfold F_X7_farthestOf
  rw [← nI_0]
  exact mfart_r hM ht N 0 n0 none (by omega) (by omega) trivial
/-- who is nearest, who is heard -/
def nrS (G : Nat → Nat → Nat) (sk : Nat → Bool) (N t : Nat) : Int32 := cod (nearF (G t) (fun j => decide (j = t) || sk j) N 0 none)
def hrS (kinds : Nat → Int32) (G : Nat → Nat → Nat) (sk : Nat → Bool) (N t : Nat) : Int32 := if kinds t = 1 ∨ kinds t = 4 then nrS G sk t t else if kinds t = 6 then cod (fartF (G t) (fun j => decide (j = t) || sk j) N 0 none) else nrS G sk N t
/-! == 61.listen.tpl -/
theorem meas_r {n0 w br t B : Nat} {c : Int32} {yards : Nat → Int32} (hc : c = 0 ∨ c = 1) (hw : w < 12) (hb : br < 12) (hy : ∀ i : Nat, i < 10 → ∃ y : Nat, y < 144 ∧ yards i = nI y) (ht : t < 10) (hB : B ≤ 10) : ∀ (k i n : Nat) (gaps : Nat → Int32), i + k = B → k < n → ∃ g' : Nat → Int32, L_X1_measure_2 (nI B) yards (nI t) n0 (nI w) (nI br) c n (nI i) gaps = some g' ∧ (∀ j : Nat, i ≤ j → j < B → g' (10 * t + j) = nI (GG w br c yards t j) ∧ g' (10 * j + t) = nI (GG w br c yards t j)) ∧ ∀ a b : Nat, a < 10 → b < 10 → ¬ (a = t ∧ i ≤ b ∧ b < B) → ¬ (b = t ∧ i ≤ a ∧ a < B) → g' (10 * a + b) = gaps (10 * a + b) := by
  intro k
  induction k with
  | zero =>
    intro i n gaps h1 h2
    obtain ⟨n, rfl⟩ : ∃ q, n = q + 1 := ⟨n - 1, by omega⟩
    rw [L_X1_measure_2_u, if_pos (nI_le (by omega) (by omega))]
    exact ⟨gaps, rfl, fun j h3 h4 => absurd h4 (by omega), fun _ _ _ _ _ _ => rfl⟩
  | succ k ih =>
    intro i n gaps h1 h2
    obtain ⟨n, rfl⟩ : ∃ q, n = q + 1 := ⟨n - 1, by omega⟩
    obtain ⟨a1, a2⟩ := yN_of (by decide) (hy t ht)
    obtain ⟨b1, b2⟩ := yN_of (by decide) (hy i (by omega))
    rw [L_X1_measure_2_u, if_neg (nI_ge (by omega) (by omega)), rd_nI ht (by decide), rd_nI (by omega) (by decide), a1, b1, apart_s hc hw hb a2 b2]
    simp only [bd1, nm]
    rw [gap_ix, wrt_nI (by omega) (by decide), gap_ix, wrt_nI (by omega) (by decide), nI_1]
    obtain ⟨g', e1, e2, e3⟩ := ih (i + 1) n (upd (upd gaps (10 * t + i) (nI (farN w br (decide (c = 1)) (yN yards t) (yN yards i)))) (10 * i + t) (nI (farN w br (decide (c = 1)) (yN yards t) (yN yards i)))) (by omega) (by omega)
    refine ⟨g', e1, fun j h3 h4 => ?_, fun a b ha hb h5 h6 => ?_⟩
    · by_cases h : j = i
      · subst h
        refine ⟨?_, ?_⟩
        · rw [e3 t j ht (by omega) (by omega) (by omega)]
          by_cases h7 : 10 * t + j = 10 * j + t
          · rw [h7, pk_us]; rfl
          · rw [pk_un h7, pk_us]; rfl
        · rw [e3 j t (by omega) ht (by omega) (by omega), pk_us]; rfl
      · exact e2 j (by omega) h4
    · rw [e3 a b ha hb (fun h => h5 ⟨h.1, by omega, h.2.2⟩) (fun h => h6 ⟨h.1, by omega, h.2.2⟩)]
      rw [pk_un (fun h => ?_), pk_un (fun h => ?_)]
      · exact h5 ⟨by omega, by omega, by omega⟩
      · exact h6 ⟨by omega, by omega, by omega⟩
theorem meas_s {n0 w br t B : Nat} {c : Int32} {yards gaps : Nat → Int32} (hn : 2000000 ≤ n0) (hc : c = 0 ∨ c = 1) (hw : w < 12) (hb : br < 12) (hy : ∀ i : Nat, i < 10 → ∃ y : Nat, y < 144 ∧ yards i = nI y) (ht : t < 10) (hB : B ≤ 10) : ∃ g' : Nat → Int32, F_X1_measure n0 (nI w) (nI br) c gaps yards (nI t) (nI B) = some g' ∧ (∀ j : Nat, j < B → g' (10 * t + j) = nI (GG w br c yards t j) ∧ g' (10 * j + t) = nI (GG w br c yards t j)) ∧ ∀ a b : Nat, a < 10 → b < 10 → ¬ (a = t ∧ b < B) → ¬ (b = t ∧ a < B) → g' (10 * a + b) = gaps (10 * a + b) := by
  unfold F_X1_measure
  rw [← nI_0]
  obtain ⟨g', e1, e2, e3⟩ := meas_r (n0 := n0) hc hw hb hy ht hB B 0 n0 gaps (by omega) (by omega)
  exact ⟨g', e1, fun j h => e2 j (by omega) h, fun a b h1 h2 h3 h4 => e3 a b h1 h2 (fun h => h3 ⟨h.1, h.2.2⟩) (fun h => h4 ⟨h.1, h.2.2⟩)⟩
def sk0 : Nat → Bool := fun _ => false
theorem nrS_0 {G : Nat → Nat → Nat} {N t : Nat} : cod (nearF (G t) (fun j => j == t) N 0 none) = nrS G sk0 N t := by
  unfold nrS
  rw [nearF_congr N 0 none (fun j _ _ => ?_)]
  show (j == t) = (decide (j = t) || false)
  rw [Bool.or_false]
  rfl
theorem ftS_0 {G : Nat → Nat → Nat} {N t : Nat} : cod (fartF (G t) (fun j => j == t) N 0 none) = cod (fartF (G t) (fun j => decide (j = t) || sk0 j) N 0 none) := by
  rw [fartF_congr N 0 none (fun j _ _ => ?_)]
  show (j == t) = (decide (j = t) || false)
  rw [Bool.or_false]
  rfl
theorem hear_r {n0 N : Nat} {G : Nat → Nat → Nat} {gaps kinds : Nat → Int32} (hn : 2000000 ≤ n0) (hN : N ≤ 10) (hg : ∀ a b : Nat, a < N → b < N → a ≠ b → gaps (10 * a + b) = nI (G a b)) (hl : ∀ i j : Nat, i < 10 → j < 10 → G i j < 1100) : ∀ (k i n : Nat) (h1 n1 : Nat → Int32), i + k = N → k < n → ∃ h' n' : Nat → Int32, L_X1_hearAll_2 (nI N) n0 gaps kinds n (nI i) h1 n1 = some (h', n') ∧ (∀ j : Nat, i ≤ j → j < N → h' j = hrS kinds G sk0 N j ∧ n' j = nrS G sk0 N j) ∧ ∀ j : Nat, j < i → h' j = h1 j ∧ n' j = n1 j := by
  intro k
  induction k with
  | zero =>
    intro i n h1 n1 e1 e2
    obtain ⟨n, rfl⟩ : ∃ q, n = q + 1 := ⟨n - 1, by omega⟩
    rw [L_X1_hearAll_2_u, if_pos (nI_le (by omega) (by omega))]
    exact ⟨h1, n1, rfl, fun j a b => absurd b (by omega), fun _ _ => ⟨rfl, rfl⟩⟩
  | succ k ih =>
    intro i n h1 n1 e1 e2
    obtain ⟨n, rfl⟩ : ∃ q, n = q + 1 := ⟨n - 1, by omega⟩
    rw [L_X1_hearAll_2_u, if_neg (nI_ge (by omega) (by omega)), near_s (g := G i) hn (by omega) hN (fun j a b => hg i j (by omega) a (Ne.symm b)) (fun j a => hl i j (by omega) a), nrS_0]
    simp only [bd1]
    rw [wrt_nI (by omega) (by decide)]
    have hw : F_X1_whomHeard n0 (nI N) gaps (upd n1 i (nrS G sk0 N i)) kinds (nI i) = some (hrS kinds G sk0 N i) := by
      unfold F_X1_whomHeard hrS
      rw [rd_nI (by omega) (by decide)]
      by_cases q1 : kinds i = 1
      · rw [if_pos q1, if_pos (Or.inl q1), near_s (g := G i) hn (by omega) (by omega) (fun j a b => hg i j (by omega) (by omega) (Ne.symm b)) (fun j a => hl i j (by omega) a), nrS_0]
        rfl
      · rw [if_neg q1]
        by_cases q4 : kinds i = 4
        · rw [if_pos q4, if_pos (Or.inr q4), near_s (g := G i) hn (by omega) (by omega) (fun j a b => hg i j (by omega) (by omega) (Ne.symm b)) (fun j a => hl i j (by omega) a), nrS_0]
          rfl
        · rw [if_neg q4, if_neg (show ¬ (kinds i = 1 ∨ kinds i = 4) from fun h => h.elim q1 q4)]
          by_cases q6 : kinds i = 6
          · rw [if_pos q6, if_pos q6, fart_s (g := G i) hn (by omega) hN (fun j a b => hg i j (by omega) a (Ne.symm b)) (fun j a => hl i j (by omega) a), ftS_0]
            rfl
          · rw [if_neg q6, if_neg q6, rd_nI (by omega) (by decide), pk_us]
    rw [hw]
    simp only [nm]
    rw [wrt_nI (by omega) (by decide), nI_1]
    obtain ⟨h', n', a1, a2, a3⟩ := ih (i + 1) n (upd h1 i (hrS kinds G sk0 N i)) (upd n1 i (nrS G sk0 N i)) (by omega) (by omega)
    refine ⟨h', n', a1, fun j b1 b2 => ?_, fun j b1 => ?_⟩
    · by_cases h : j = i
      · subst h
        obtain ⟨c1, c2⟩ := a3 j (by omega)
        rw [c1, c2, pk_us, pk_us]
        exact ⟨rfl, rfl⟩
      · exact a2 j (by omega) b2
    · obtain ⟨c1, c2⟩ := a3 j (by omega)
      rw [c1, c2, pk_un (by omega), pk_un (by omega)]
      exact ⟨rfl, rfl⟩
theorem hearAll_s {n0 N : Nat} {G : Nat → Nat → Nat} {gaps kinds hears near : Nat → Int32} (hn : 2000000 ≤ n0) (hN : N ≤ 10) (hg : ∀ a b : Nat, a < N → b < N → a ≠ b → gaps (10 * a + b) = nI (G a b)) (hl : ∀ i j : Nat, i < 10 → j < 10 → G i j < 1100) : ∃ h' n' : Nat → Int32, F_X1_hearAll n0 (nI N) gaps hears near kinds = some (h', n') ∧ ∀ j : Nat, j < N → h' j = hrS kinds G sk0 N j ∧ n' j = nrS G sk0 N j := by
  unfold F_X1_hearAll
  rw [← nI_0]
  obtain ⟨h', n', a1, a2, _⟩ := hear_r (kinds := kinds) hn hN hg hl N 0 n0 hears near (by omega) (by omega)
  exact ⟨h', n', a1, fun j h => a2 j (by omega) h⟩
theorem listen_r {n0 N w br : Nat} {c : Int32} {yards kinds hears near : Nat → Int32} (hn : 2000000 ≤ n0) (hN : N ≤ 10) (hc : c = 0 ∨ c = 1) (hw : w < 12) (hb : br < 12) (hy : ∀ i : Nat, i < 10 → ∃ y : Nat, y < 144 ∧ yards i = nI y) : ∀ (k i n : Nat) (gaps : Nat → Int32), i + k = N → k < n → (∀ a b : Nat, a < i → b < i → a ≠ b → gaps (10 * a + b) = nI (GG w br c yards a b)) → ∃ g' h' n' : Nat → Int32, L_X1_listen_2 (nI N) n0 hears near kinds (nI w) (nI br) c yards n (nI i) gaps = some (g', h', n') ∧ (∀ a b : Nat, a < N → b < N → a ≠ b → g' (10 * a + b) = nI (GG w br c yards a b)) ∧ ∀ j : Nat, j < N → h' j = hrS kinds (GG w br c yards) sk0 N j ∧ n' j = nrS (GG w br c yards) sk0 N j := by
  intro k
  induction k with
  | zero =>
    intro i n gaps h1 h2 hg
    obtain ⟨n, rfl⟩ : ∃ q, n = q + 1 := ⟨n - 1, by omega⟩
    have e : i = N := by omega
    subst e
    obtain ⟨h', n', a1, a2⟩ := hearAll_s (kinds := kinds) (hears := hears) (near := near) hn hN hg (fun i j a b => GG_lt hb hy a b)
    rw [L_X1_listen_2_u, if_pos (nI_le (by omega) (by omega)), a1]
    exact ⟨gaps, h', n', rfl, hg, a2⟩
  | succ k ih =>
    intro i n gaps h1 h2 hg
    obtain ⟨n, rfl⟩ : ∃ q, n = q + 1 := ⟨n - 1, by omega⟩
    obtain ⟨g1, a1, a2, a3⟩ := meas_s (n0 := n0) (gaps := gaps) hn hc hw hb hy (t := i) (B := i) (by omega) (by omega)
    rw [L_X1_listen_2_u, if_neg (nI_ge (by omega) (by omega)), a1]
    simp only [bd1, nm]
    rw [nI_1]
    refine ih (i + 1) n g1 (by omega) (by omega) (fun a b b1 b2 b3 => ?_)
    by_cases c1 : a = i
    · subst c1; exact (a2 b (by omega)).1
    · by_cases c2 : b = i
      · subst c2; rw [(a2 a (by omega)).2, GG_comm]
      · rw [a3 a b (by omega) (by omega) (fun h => c1 h.1) (fun h => c2 h.1)]
        exact hg a b (by omega) (by omega) b3
theorem listen_s {n0 N w br : Nat} {c : Int32} {yards kinds hears near gaps : Nat → Int32} (hn : 2000000 ≤ n0) (hN : N ≤ 10) (hc : c = 0 ∨ c = 1) (hw : w < 12) (hb : br < 12) (hy : ∀ i : Nat, i < 10 → ∃ y : Nat, y < 144 ∧ yards i = nI y) : ∃ g' h' n' : Nat → Int32, F_X1_listen n0 (nI N) (nI w) (nI br) c gaps hears near kinds yards = some (g', h', n') ∧ (∀ a b : Nat, a < N → b < N → a ≠ b → g' (10 * a + b) = nI (GG w br c yards a b)) ∧ ∀ j : Nat, j < N → h' j = hrS kinds (GG w br c yards) sk0 N j ∧ n' j = nrS (GG w br c yards) sk0 N j := by
  unfold F_X1_listen
  rw [← nI_0]
  exact listen_r hn hN hc hw hb hy N 0 n0 gaps (by omega) (by omega) (fun a b h => absurd h (Nat.not_lt_zero a))
/-- the reference's -/
theorem mlisten_r {n0 N w br : Nat} {c gone : Int32} {d yards kinds : Nat → Int32} (hn : 2000000 ≤ n0) (hM : MC d yards N w br c) (hk : ∀ i : Nat, i < 10 → d (10 + i) = kinds i) : ∀ (k i n : Nat) (h1 n1 : Nat → Int32), i + k = N → k < n → ∃ h' n' : Nat → Int32, L_X7_listen_2 d n0 gone n (nI i) h1 n1 = some (h', n') ∧ (∀ j : Nat, i ≤ j → j < N → h' j = hrS kinds (GG w br c yards) (fun j => decide (nI j = gone)) N j ∧ n' j = nrS (GG w br c yards) (fun j => decide (nI j = gone)) N j) ∧ ∀ j : Nat, (j < i ∨ N ≤ j) → h' j = h1 j ∧ n' j = n1 j := by
  have hN := hM.1
  have hd0 := hM.2.1
  intro k
  induction k with
  | zero =>
    intro i n h1 n1 e1 e2
    obtain ⟨n, rfl⟩ : ∃ q, n = q + 1 := ⟨n - 1, by omega⟩
    rw [L_X7_listen_2_u, rd_l 0 l0 (by decide) (by decide), hd0, if_pos (nI_le (by omega) (by omega))]
    exact ⟨h1, n1, rfl, fun j a b => absurd b (by omega), fun _ _ => ⟨rfl, rfl⟩⟩
  | succ k ih =>
    intro i n h1 n1 e1 e2
    obtain ⟨n, rfl⟩ : ∃ q, n = q + 1 := ⟨n - 1, by omega⟩
    obtain ⟨h', n', a1, a2, a3⟩ := ih (i + 1) n (upd h1 i (hrS kinds (GG w br c yards) (fun j => decide (nI j = gone)) N i)) (upd n1 i (nrS (GG w br c yards) (fun j => decide (nI j = gone)) N i)) (by omega) (by omega)
    refine ⟨h', n', ?_, fun j b1 b2 => ?_, fun j b1 => ?_⟩
    · rw [L_X7_listen_2_u, rd_l 0 l0 (by decide) (by decide), hd0, if_neg (nI_ge (by omega) (by omega)), mKd (by omega), hk i (by omega)]
      simp only [bd1]
      rw [rd_l 0 l0 (by decide) (by decide), hd0, mnear_s hn hM (by omega) hN]
      simp only []
      rw [wrt_nI (by omega) (by decide)]
      have en : cod (nearF (GG w br c yards i) (fun j => decide (j = i) || decide (nI j = gone)) N 0 none) = nrS (GG w br c yards) (fun j => decide (nI j = gone)) N i := rfl
      rw [en]
      have hJ : hrS kinds (GG w br c yards) (fun j => decide (nI j = gone)) N i = nrS (GG w br c yards) (fun j => decide (nI j = gone)) i i → J_X7_listen_50 n0 gone d (nI i) h1 (nI i) (L_X7_listen_2 d n0 gone n) (upd n1 i (nrS (GG w br c yards) (fun j => decide (nI j = gone)) N i)) = some (h', n') := by
        intro hh
        unfold J_X7_listen_50
        rw [mnear_s hn hM (by omega) (by omega)]
        simp only [bd1, nm]
        rw [wrt_nI (by omega) (by decide), nI_1]
        rw [hh] at a1
        exact a1
      by_cases q1 : kinds i = 1
      · rw [if_pos q1]
        exact hJ (by unfold hrS; rw [if_pos (Or.inl q1)])
      · rw [if_neg q1]
        by_cases q4 : kinds i = 4
        · rw [if_pos q4]
          exact hJ (by unfold hrS; rw [if_pos (Or.inr q4)])
        · rw [if_neg q4]
          by_cases q6 : kinds i = 6
          · rw [if_pos q6, mfart_s hn hM (by omega)]
            simp only [nm]
            rw [wrt_nI (by omega) (by decide), nI_1]
            have hh : hrS kinds (GG w br c yards) (fun j => decide (nI j = gone)) N i = cod (fartF (GG w br c yards i) (fun j => decide (j = i) || decide (nI j = gone)) N 0 none) := by
              unfold hrS
              rw [if_neg (fun h => h.elim q1 q4), if_pos q6]
            rw [hh] at a1
            exact a1
          · rw [if_neg q6, rd_nI (by omega) (by decide), pk_us, wrt_nI (by omega) (by decide)]
            simp only [nm]
            rw [nI_1]
            have hh : hrS kinds (GG w br c yards) (fun j => decide (nI j = gone)) N i = nrS (GG w br c yards) (fun j => decide (nI j = gone)) N i := by
              unfold hrS
              rw [if_neg (fun h => h.elim q1 q4), if_neg q6]
            rw [hh] at a1
            exact a1
    · by_cases h : j = i
      · subst h
        obtain ⟨c1, c2⟩ := a3 j (Or.inl (by omega))
        rw [c1, c2, pk_us, pk_us]
        exact ⟨rfl, rfl⟩
      · exact a2 j (by omega) b2
    · obtain ⟨c1, c2⟩ := a3 j (by omega)
      rw [c1, c2, pk_un (by omega), pk_un (by omega)]
      exact ⟨rfl, rfl⟩
theorem mlisten_s {n0 N w br : Nat} {c gone : Int32} {d yards kinds hears near : Nat → Int32} (hn : 2000000 ≤ n0) (hM : MC d yards N w br c) (hk : ∀ i : Nat, i < 10 → d (10 + i) = kinds i) : ∃ h' n' : Nat → Int32, F_X7_listen n0 gone d hears near = some (h', n') ∧ ∀ j : Nat, j < N → h' j = hrS kinds (GG w br c yards) (fun j => decide (nI j = gone)) N j ∧ n' j = nrS (GG w br c yards) (fun j => decide (nI j = gone)) N j := by
  have hN := hM.1
  unfold F_X7_listen
  rw [← nI_0]
  obtain ⟨h', n', a1, a2, _⟩ := mlisten_r (gone := gone) hn hM hk N 0 n0 hears near (by omega) (by omega)
  exact ⟨h', n', a1, fun j h => a2 j (by omega) h⟩
theorem nrS_g {G : Nat → Nat → Nat} {N t : Nat} (hN : N ≤ 10) : nrS G (fun j => decide (nI j = -1)) N t = nrS G sk0 N t := by
  unfold nrS
  rw [nearF_congr N 0 none (fun j _ h => ?_)]
  show (decide (j = t) || decide (nI j = -1)) = (decide (j = t) || false)
  rw [decide_eq_false (nI_m1 (show j < 2 ^ 31 by omega))]
theorem hrS_g {kinds : Nat → Int32} {G : Nat → Nat → Nat} {N t : Nat} (hN : N ≤ 10) (ht : t < 10) : hrS kinds G (fun j => decide (nI j = -1)) N t = hrS kinds G sk0 N t := by
  unfold hrS
  rw [nrS_g hN, nrS_g (show t ≤ 10 by omega)]
  have e : fartF (G t) (fun j => decide (j = t) || (fun j => decide (nI j = -1)) j) N 0 none = fartF (G t) (fun j => decide (j = t) || sk0 j) N 0 none := fartF_congr N 0 none (fun j _ h => by
    show (decide (j = t) || decide (nI j = -1)) = (decide (j = t) || false)
    rw [decide_eq_false (nI_m1 (show j < 2 ^ 31 by omega))])
  rw [e]
theorem mlisten_0 {n0 N w br : Nat} {c : Int32} {d yards kinds hears near : Nat → Int32} (hn : 2000000 ≤ n0) (hM : MC d yards N w br c) (hk : ∀ i : Nat, i < 10 → d (10 + i) = kinds i) : ∃ h' n' : Nat → Int32, F_X7_listen n0 (-1) d hears near = some (h', n') ∧ ∀ j : Nat, j < N → h' j = hrS kinds (GG w br c yards) sk0 N j ∧ n' j = nrS (GG w br c yards) sk0 N j := by
  have hN := hM.1
  obtain ⟨h', n', a1, a2⟩ := mlisten_s (gone := -1) (hears := hears) (near := near) hn hM hk
  refine ⟨h', n', a1, fun j h => ?_⟩
  obtain ⟨b1, b2⟩ := a2 j h
  rw [b1, b2, hrS_g hN (by omega), nrS_g hN]
  exact ⟨rfl, rfl⟩
theorem MC_of {kinds yards spots d : Nat → Int32} {tents said wall bridge counted day z : Int32} (hC : CR kinds yards spots tents said wall bridge counted day z d) : ∃ N w br : Nat, N ≤ 10 ∧ tents = nI N ∧ wall = nI w ∧ bridge = nI br ∧ MC d yards N w br counted ∧ (∀ i : Nat, i < 10 → d (10 + i) = kinds i) := by
  obtain ⟨N, hN, h0, hd0, hd1, hd2, hd3, hd4, hd5, hd6, hct, ⟨w, hw1, hw2⟩, ⟨br, hb1, hb2⟩, hdy, hsa, hA, hKi, hYa, hSp⟩ := hC
  exact ⟨N, w, br, hN, h0, hw2, hb2, ⟨hN, hd0, hd3.trans hw2, hd4.trans hb2, hd5, hct, hw1, hb1, fun i hi => (hA i hi).2.1, hYa⟩, fun i hi => (hA i hi).1⟩
/-! == 62.next.tpl -/
/-! what will be said -/
def btI (s x : Int32) : Int32 := (s >>> (x &&& 31)) &&& 1
def wS (kinds hears near : Nat → Int32) (s : Int32) (t : Nat) : Int32 :=
  if kinds t = 2 then 1 else if kinds t = 3 then btI s (nI t) else if hears t = -1 then btI s (nI t) else
  if kinds t = 5 then 1 - btI s (hears t) else if kinds t = 6 then 1 - btI s (hears t) else
  if kinds t = 4 then (if near t = -1 then btI s (hears t) else if btI s (near t) = btI s (hears t) then btI s (hears t) else btI s (nI t)) else btI s (hears t)
theorem will_s {n0 t : Nat} {kinds hears near : Nat → Int32} {s : Int32} (ht : t < 10) : F_X1_willSay n0 hears near kinds (nI t) s = some (wS kinds hears near s t) := by
  unfold F_X1_willSay wS
  simp only [nm]
  rw [rd_nI ht (by decide)]
  by_cases q2 : kinds t = 2
  · rw [if_pos q2, if_pos q2]
  rw [if_neg q2, if_neg q2]
  by_cases q3 : kinds t = 3
  · rw [if_pos q3, if_pos q3]; rfl
  rw [if_neg q3, if_neg q3, rd_nI ht (by decide)]
  by_cases qh : hears t = -1
  · rw [if_pos qh, if_pos qh]; rfl
  rw [if_neg qh, if_neg qh, rd_nI ht (by decide)]
  by_cases q5 : kinds t = 5
  · rw [if_pos q5, if_pos q5]; rfl
  rw [if_neg q5, if_neg q5]
  by_cases q6 : kinds t = 6
  · rw [if_pos q6, if_pos q6]; rfl
  rw [if_neg q6, if_neg q6]
  by_cases q4 : kinds t = 4
  · rw [if_pos q4, if_pos q4, rd_nI ht (by decide)]
    by_cases qn : near t = -1
    · rw [if_pos qn, if_pos qn]; rfl
    · rw [if_neg qn, if_neg qn, rd_nI ht (by decide)]
      by_cases qe : btI s (near t) = btI s (hears t)
      · rw [if_pos qe]
        exact if_pos qe
      · rw [if_neg qe]
        exact if_neg qe
  · rw [if_neg q4, if_neg q4]; rfl
theorem mwill_s {n0 t : Nat} {d kinds hears near : Nat → Int32} {s : Int32} (ht : t < 10) (hk : d (10 + t) = kinds t) : F_X7_willSay n0 d hears near (nI t) s = some (wS kinds hears near s t) := by
  have key : ∀ q : Int32, J_X7_willSay_30 n0 d (nI t) (btI s (nI t)) near q s hears = (if kinds t = 2 then some 1 else if kinds t = 3 then some (btI s (nI t)) else if kinds t = 4 then (if near t = -1 then some q else if btI s (near t) = q then some q else some (btI s (nI t))) else if kinds t = 5 ∨ kinds t = 6 then (if hears t = -1 then some (btI s (nI t)) else some (1 - q)) else some q) := by
    intro q
    unfold J_X7_willSay_30 J_X7_willSay_108
    rw [mKd ht, hk]
    simp only [bd1, nm]
    by_cases q2 : kinds t = 2
    · rw [if_pos q2, if_pos q2]
    rw [if_neg q2, if_neg q2]
    by_cases q3 : kinds t = 3
    · rw [if_pos q3, if_pos q3]
    rw [if_neg q3, if_neg q3]
    by_cases q4 : kinds t = 4
    · rw [if_pos q4, if_pos q4, rd_nI ht (by decide)]
      by_cases qn : near t = -1
      · rw [if_pos qn, if_pos qn]
      · rw [if_neg qn, if_neg qn, rd_nI ht (by decide)]
        rfl
    rw [if_neg q4, if_neg q4]
    by_cases q5 : kinds t = 5
    · rw [if_pos q5, if_pos (Or.inl q5), rd_nI ht (by decide)]
    rw [if_neg q5]
    by_cases q6 : kinds t = 6
    · rw [if_pos q6, if_pos (Or.inr q6), rd_nI ht (by decide)]
    rw [if_neg q6, if_neg (fun h => h.elim q5 q6)]
  unfold F_X7_willSay
  simp only [nm]
  rw [rd_nI ht (by decide)]
  unfold wS
  by_cases qh : hears t = -1
  · rw [if_pos qh]
    have e := key (btI s (nI t))
    rw [show ((s >>> (nI t &&& 31)) &&& 1) = btI s (nI t) from rfl, e]
    by_cases q2 : kinds t = 2
    · rw [if_pos q2, if_pos q2]
    rw [if_neg q2, if_neg q2]
    by_cases q3 : kinds t = 3
    · rw [if_pos q3, if_pos q3]
    rw [if_neg q3, if_neg q3, if_pos qh]
    by_cases q4 : kinds t = 4
    · rw [if_pos q4]
      by_cases qn : near t = -1
      · rw [if_pos qn, if_pos qh]
      · rw [if_neg qn]
        by_cases qe : btI s (near t) = btI s (nI t)
        · rw [if_pos qe, if_pos qh]
        · rw [if_neg qe, if_pos qh]
    rw [if_neg q4]
    by_cases q56 : kinds t = 5 ∨ kinds t = 6
    · rw [if_pos q56, if_pos qh]
    · rw [if_neg q56, if_pos qh]
  · rw [if_neg qh, rd_nI ht (by decide)]
    have e := key (btI s (hears t))
    rw [show ((s >>> (nI t &&& 31)) &&& 1) = btI s (nI t) from rfl, show ((s >>> (hears t &&& 31)) &&& 1) = btI s (hears t) from rfl, e]
    by_cases q2 : kinds t = 2
    · rw [if_pos q2, if_pos q2]
    rw [if_neg q2, if_neg q2]
    by_cases q3 : kinds t = 3
    · rw [if_pos q3, if_pos q3]
    rw [if_neg q3, if_neg q3, if_neg qh, if_neg qh]
    by_cases q4 : kinds t = 4
    · rw [if_pos q4, if_neg (show ¬ kinds t = 5 from by rw [q4]; decide), if_neg (show ¬ kinds t = 6 from by rw [q4]; decide), if_pos q4]
      by_cases qn : near t = -1
      · rw [if_pos qn, if_pos qn]
      · rw [if_neg qn, if_neg qn]
        by_cases qe : btI s (near t) = btI s (hears t)
        · rw [if_pos qe, if_pos qe]
        · rw [if_neg qe, if_neg qe]
    rw [if_neg q4]
    by_cases q5 : kinds t = 5
    · rw [if_pos (Or.inl q5), if_pos q5]
    by_cases q6 : kinds t = 6
    · rw [if_pos (Or.inr q6), if_neg q5, if_pos q6]
    rw [if_neg (show ¬ (kinds t = 5 ∨ kinds t = 6) from fun h => h.elim q5 q6), if_neg q5, if_neg q6, if_neg q4]
theorem wS_congr {kinds h1 n1 h2 n2 : Nat → Int32} {s : Int32} {t : Nat} (hh : h1 t = h2 t) (hn : n1 t = n2 t) : wS kinds h1 n1 s t = wS kinds h2 n2 s t := by
  unfold wS
  rw [hh, hn]
theorem bt_01 (s x : Int32) : btI s x = 0 ∨ btI s x = 1 := by
  obtain ⟨j, hj, e⟩ := pk_andE (s >>> (x &&& 31)) (m := 1) 1 (by decide)
  unfold btI
  rw [e]
  rcases (show j = 0 ∨ j = 1 by omega) with rfl | rfl
  · exact Or.inl rfl
  · exact Or.inr rfl
theorem sub_01 {v : Int32} (h : v = 0 ∨ v = 1) : 1 - v = 0 ∨ 1 - v = 1 := by
  rcases h with rfl | rfl
  · exact Or.inr rfl
  · exact Or.inl rfl
theorem wS_01 (kinds hears near : Nat → Int32) (s : Int32) (t : Nat) : wS kinds hears near s t = 0 ∨ wS kinds hears near s t = 1 := by
  unfold wS
  split
  · exact Or.inr rfl
  split
  · exact bt_01 _ _
  split
  · exact bt_01 _ _
  split
  · exact sub_01 (bt_01 _ _)
  split
  · exact sub_01 (bt_01 _ _)
  split
  · split
    · exact bt_01 _ _
    split
    · exact bt_01 _ _
    · exact bt_01 _ _
  · exact bt_01 _ _
/-- the bits of k tents from i on -/
def bitsF (w : Nat → Int32) : Nat → Nat → Int32 → Int32
  | 0, _, a => a
  | k + 1, i, a => bitsF w k (i + 1) (a ||| (w i <<< (nI i &&& 31)))
theorem bitsF_congr {w1 w2 : Nat → Int32} : ∀ (k i : Nat) (a : Int32), (∀ j : Nat, i ≤ j → j < i + k → w1 j = w2 j) → bitsF w1 k i a = bitsF w2 k i a := by
  intro k
  induction k with
  | zero => intro i a _; rfl
  | succ k ih =>
    intro i a h
    unfold bitsF
    rw [h i (by omega) (by omega)]
    exact ih (i + 1) _ (fun j h1 h2 => h j (by omega) (by omega))
theorem bitsF_rg {w : Nat → Int32} (hw : ∀ t, w t = 0 ∨ w t = 1) : ∀ (k i m : Nat), i + k ≤ 10 → m < 2 ^ i → ∃ m' : Nat, m' < 2 ^ (i + k) ∧ bitsF w k i (nI m) = nI m' := by
  intro k
  induction k with
  | zero => intro i m _ h; exact ⟨m, h, rfl⟩
  | succ k ih =>
    intro i m h1 h2
    unfold bitsF
    have e : i + (k + 1) = i + 1 + k := by omega
    rw [e]
    rcases hw i with h | h
    · rw [h, Int32.zero_shiftLeft, Int32.or_zero]
      exact ih (i + 1) m (by omega) (by rw [Nat.pow_succ]; omega)
    · obtain ⟨m', a1, a2⟩ := set_rg (N := i + 1) (m := m) (t := i) (by omega) (by rw [Nat.pow_succ]; omega) (by omega)
      rw [h]
      have e2 : nI m ||| ((1 : Int32) <<< (nI i &&& 31)) = nI m' := a2
      rw [e2]
      exact ih (i + 1) m' (by omega) a1
theorem next_r {n0 N : Nat} {kinds hears near : Nat → Int32} {s : Int32} (hN : N ≤ 10) : ∀ (k i n : Nat) (a : Int32), i + k = N → k < n → L_X1_nextSaid_4 (nI N) n0 hears near kinds s n a (nI i) = some (bitsF (wS kinds hears near s) k i a) := by
  intro k
  induction k with
  | zero =>
    intro i n a h1 h2
    obtain ⟨n, rfl⟩ : ∃ q, n = q + 1 := ⟨n - 1, by omega⟩
    rw [L_X1_nextSaid_4_u, if_pos (nI_le (by omega) (by omega))]
    rfl
  | succ k ih =>
    intro i n a h1 h2
    obtain ⟨n, rfl⟩ : ∃ q, n = q + 1 := ⟨n - 1, by omega⟩
    rw [L_X1_nextSaid_4_u, if_neg (nI_ge (by omega) (by omega)), will_s (by omega)]
    simp only [bd1, nm]
    rw [nI_1, ih (i + 1) n _ (by omega) (by omega)]
    rfl
theorem mnext_r {n0 N : Nat} {d kinds hears near : Nat → Int32} {s : Int32} (hN : N ≤ 10) (hd : d 0 = nI N) (hk : ∀ i : Nat, i < 10 → d (10 + i) = kinds i) : ∀ (k i n : Nat) (a : Int32), i + k = N → k < n → L_X7_nextOf_4 d n0 hears near s n a (nI i) = some (bitsF (wS kinds hears near s) k i a) := by
  intro k
  induction k with
  | zero =>
    intro i n a h1 h2
    obtain ⟨n, rfl⟩ : ∃ q, n = q + 1 := ⟨n - 1, by omega⟩
    rw [L_X7_nextOf_4_u, rd_l 0 l0 (by decide) (by decide), hd, if_pos (nI_le (by omega) (by omega))]
    rfl
  | succ k ih =>
    intro i n a h1 h2
    obtain ⟨n, rfl⟩ : ∃ q, n = q + 1 := ⟨n - 1, by omega⟩
    rw [L_X7_nextOf_4_u, rd_l 0 l0 (by decide) (by decide), hd, if_neg (nI_ge (by omega) (by omega)), mwill_s (by omega) (hk i (by omega))]
    simp only [bd1, nm]
    rw [nI_1, ih (i + 1) n _ (by omega) (by omega)]
    rfl
/-- what is said next, with those heard as in H, the nearest as in M -/
def nxS (kinds H M : Nat → Int32) (N : Nat) (s : Int32) : Int32 := bitsF (wS kinds H M s) N 0 0
theorem next_s {n0 N : Nat} {kinds hears near H M : Nat → Int32} {s : Int32} (hn : 2000000 ≤ n0) (hN : N ≤ 10) (hh : ∀ j : Nat, j < N → hears j = H j ∧ near j = M j) : F_X1_nextSaid n0 (nI N) hears near kinds s = some (nxS kinds H M N s) := by
  unfold F_X1_nextSaid
  rw [show (some (nxS kinds H M N s)) = some (bitsF (wS kinds hears near s) N 0 0) from congrArg some (bitsF_congr N 0 0 (fun j _ h => (wS_congr (hh j (by omega)).1 (hh j (by omega)).2).symm))]
  have := next_r (n0 := n0) (kinds := kinds) (hears := hears) (near := near) (s := s) hN N 0 n0 0 (by omega) (by omega)
  rw [nI_0] at this
  exact this
theorem mnext_s {n0 N : Nat} {d kinds hears near H M : Nat → Int32} {s : Int32} (hn : 2000000 ≤ n0) (hN : N ≤ 10) (hd : d 0 = nI N) (hk : ∀ i : Nat, i < 10 → d (10 + i) = kinds i) (hh : ∀ j : Nat, j < N → hears j = H j ∧ near j = M j) : F_X7_nextOf n0 d hears near s = some (nxS kinds H M N s) := by
  unfold F_X7_nextOf
  rw [show (some (nxS kinds H M N s)) = some (bitsF (wS kinds hears near s) N 0 0) from congrArg some (bitsF_congr N 0 0 (fun j _ h => (wS_congr (hh j (by omega)).1 (hh j (by omega)).2).symm))]
  have := mnext_r (n0 := n0) (kinds := kinds) (hears := hears) (near := near) (s := s) hN hd hk N 0 n0 0 (by omega) (by omega)
  rw [nI_0] at this
  exact this
theorem nxS_rg {kinds H M : Nat → Int32} {N : Nat} (hN : N ≤ 10) (s : Int32) : ∃ m : Nat, m < 2 ^ N ∧ nxS kinds H M N s = nI m := by
  obtain ⟨m, h1, h2⟩ := bitsF_rg (w := wS kinds H M s) (wS_01 kinds H M s) N 0 0 (by omega) (by decide)
  rw [Nat.zero_add] at h1
  exact ⟨m, h1, h2⟩
/-- days on -/
def itS (f : Int32 → Int32) : Nat → Int32 → Int32
  | 0, x => x
  | n + 1, x => itS f n (f x)
theorem itS_add (f : Int32 → Int32) : ∀ (a b : Nat) (x : Int32), itS f (a + b) x = itS f b (itS f a x) := by
  intro a
  induction a with
  | zero => intro b x; rw [Nat.zero_add]; rfl
  | succ a ih => intro b x; rw [Nat.succ_add]; exact ih b (f x)
theorem itS_succ (f : Int32 → Int32) (n : Nat) (x : Int32) : itS f (n + 1) x = f (itS f n x) := itS_add f n 1 x
theorem ahead_r {n0 N p : Nat} {d kinds hears near H M : Nat → Int32} (hn : 2000000 ≤ n0) (hN : N ≤ 10) (hd : d 0 = nI N) (hk : ∀ i : Nat, i < 10 → d (10 + i) = kinds i) (hh : ∀ j : Nat, j < N → hears j = H j ∧ near j = M j) (hp : p < 1000000) : ∀ (k i n : Nat) (s : Int32), i + k = p → k < n → L_X7_ahead_5 (nI p) n0 d hears near n s (nI i) = some (itS (nxS kinds H M N) k s) := by
  intro k
  induction k with
  | zero =>
    intro i n s h1 h2
    obtain ⟨n, rfl⟩ : ∃ q, n = q + 1 := ⟨n - 1, by omega⟩
    rw [L_X7_ahead_5_u, if_pos (nI_le (by omega) (by omega))]
    rfl
  | succ k ih =>
    intro i n s h1 h2
    obtain ⟨n, rfl⟩ : ∃ q, n = q + 1 := ⟨n - 1, by omega⟩
    rw [L_X7_ahead_5_u, if_neg (nI_ge (by omega) (by omega)), mnext_s hn hN hd hk hh]
    simp only [bd1, nm]
    rw [nI_1, ih (i + 1) n _ (by omega) (by omega)]
    rfl
theorem ahead_s {n0 N p : Nat} {d kinds hears near H M : Nat → Int32} {s : Int32} (hn : 2000000 ≤ n0) (hN : N ≤ 10) (hd : d 0 = nI N) (hk : ∀ i : Nat, i < 10 → d (10 + i) = kinds i) (hh : ∀ j : Nat, j < N → hears j = H j ∧ near j = M j) (hp : p < 1000000) : F_X7_ahead n0 d hears near s (nI p) = some (itS (nxS kinds H M N) p s) := by
  unfold F_X7_ahead
  have := ahead_r (kinds := kinds) hn hN hd hk hh hp p 0 n0 s (by omega) (by omega)
  rw [nI_0] at this
  exact this
/-! == 63.path.tpl -/
/-! pigeonhole, paths of those who hear, pairs, lines -/
theorem php : ∀ (N : Nat) (f : Nat → Nat), (∀ i : Nat, i ≤ N → f i < N) → ∃ a b : Nat, a < b ∧ b ≤ N ∧ f a = f b := by
  intro N
  induction N with
  | zero => intro f h; exact absurd (h 0 (Nat.le_refl 0)) (Nat.not_lt_zero _)
  | succ N ih =>
    intro f h
    by_cases hx : ∃ a : Nat, a ≤ N ∧ f a = f (N + 1)
    · obtain ⟨a, h1, h2⟩ := hx
      exact ⟨a, N + 1, by omega, by omega, h2⟩
    · have hn : ∀ i : Nat, i ≤ N → f i ≠ f (N + 1) := fun i hi he => hx ⟨i, hi, he⟩
      obtain ⟨a, b, h1, h2, h3⟩ := ih (fun i => if f i = N then f (N + 1) else f i) (fun i hi => by
        have a1 := h i (by omega)
        have a2 := h (N + 1) (by omega)
        have a3 := hn i hi
        show (if f i = N then f (N + 1) else f i) < N
        split
        · omega
        · omega)
      refine ⟨a, b, h1, by omega, ?_⟩
      have b1 := hn a (by omega)
      have b2 := hn b h2
      have h4 : (if f a = N then f (N + 1) else f a) = (if f b = N then f (N + 1) else f b) := h3
      by_cases c1 : f a = N
      · by_cases c2 : f b = N
        · rw [c1, c2]
        · rw [if_pos c1, if_neg c2] at h4; exact absurd h4.symm b2
      · by_cases c2 : f b = N
        · rw [if_neg c1, if_pos c2] at h4; exact absurd h4 b1
        · rw [if_neg c1, if_neg c2] at h4; exact h4
def hop (H : Nat → Option Nat) : Option Nat → Option Nat
  | none => none
  | some v => H v
def pth (H : Nat → Option Nat) : Nat → Option Nat → Option Nat
  | 0, x => x
  | k + 1, x => pth H k (hop H x)
theorem pth_add (H : Nat → Option Nat) : ∀ (a b : Nat) (x : Option Nat), pth H (a + b) x = pth H b (pth H a x) := by
  intro a
  induction a with
  | zero => intro b x; rw [Nat.zero_add]; rfl
  | succ a ih => intro b x; rw [Nat.succ_add]; exact ih b (hop H x)
theorem pth_none (H : Nat → Option Nat) : ∀ k : Nat, pth H k none = none := by
  intro k
  induction k with
  | zero => rfl
  | succ k ih => exact ih
theorem okB_hop {H : Nat → Option Nat} {N : Nat} (hok : ∀ j : Nat, j < N → okB N (H j)) {x : Option Nat} (hx : okB N x) : okB N (hop H x) := by
  cases x with
  | none => trivial
  | some v => exact hok v hx
theorem pth_ok {H : Nat → Option Nat} {N : Nat} (hok : ∀ j : Nat, j < N → okB N (H j)) : ∀ (k : Nat) (x : Option Nat), okB N x → okB N (pth H k x) := by
  intro k
  induction k with
  | zero => intro x h; exact h
  | succ k ih => intro x h; exact ih _ (okB_hop hok h)
theorem pth_low {H : Nat → Option Nat} {N : Nat} (hok : ∀ j : Nat, j < N → okB N (H j)) {x : Option Nat} (hx : okB N x) {v : Nat} : ∀ (m s : Nat), s ≤ m → pth H s x = some v → ∃ q : Nat, q < N ∧ pth H q x = some v := by
  intro m
  induction m with
  | zero =>
    intro s hs h
    have e : s = 0 := by omega
    subst e
    refine ⟨0, ?_, h⟩
    have h1 : x = some v := h
    rw [h1] at hx
    exact Nat.lt_of_le_of_lt (Nat.zero_le v) hx
  | succ m ih =>
    intro s hs h
    by_cases hsN : s < N
    · exact ⟨s, hsN, h⟩
    · have hsome : ∀ i : Nat, i ≤ N → ∃ u : Nat, u < N ∧ pth H i x = some u := by
        intro i hi
        have h1 := pth_ok hok i x hx
        cases hp : pth H i x with
        | none =>
          have h2 := pth_add H i (s - i) x
          rw [show i + (s - i) = s by omega, hp, pth_none, h] at h2
          cases h2
        | some u => rw [hp] at h1; exact ⟨u, h1, rfl⟩
      obtain ⟨a, b, h1, h2, h3⟩ := php N (fun i => (pth H i x).getD 0) (fun i hi => by
        obtain ⟨u, a1, a2⟩ := hsome i hi
        show (pth H i x).getD 0 < N
        rw [a2]; exact a1)
      have h4 : pth H a x = pth H b x := by
        obtain ⟨u1, a1, a2⟩ := hsome a (by omega)
        obtain ⟨u2, b1, b2⟩ := hsome b h2
        have h5 : (pth H a x).getD 0 = (pth H b x).getD 0 := h3
        rw [a2, b2] at h5 ⊢
        exact congrArg some h5
      have h6 : pth H (a + (s - b)) x = some v := by
        rw [pth_add, h4, ← pth_add, show b + (s - b) = s by omega]
        exact h
      exact ih (a + (s - b)) (by omega) h6
def prB (H : Nat → Option Nat) (i : Nat) : Bool := match H i with
  | none => false
  | some j => decide (H j = some i)
def bI (b : Bool) : Int32 := if b = true then 1 else 0
theorem okB_10 {N : Nat} {x : Option Nat} (hN : N ≤ 10) (h : okB N x) : okB 10 x := by
  cases x with
  | none => trivial
  | some v => exact Nat.lt_of_lt_of_le h hN
theorem cod_eq {x : Option Nat} {t : Nat} (hx : okB 10 x) (ht : t < 10) : cod x = nI t ↔ x = some t := by
  cases x with
  | none => exact ⟨fun h => absurd h.symm (nI_m1 (by omega)), fun h => by cases h⟩
  | some v =>
    have hv : v < 10 := hx
    exact ⟨fun h => congrArg some ((nI_eq (by omega) (by omega)).mp h), fun h => by cases h; rfl⟩
theorem cod_inj {x y : Option Nat} (hx : okB 10 x) (hy : okB 10 y) : cod x = cod y ↔ x = y := by
  cases y with
  | none =>
    cases x with
    | none => exact ⟨fun _ => rfl, fun _ => rfl⟩
    | some v => exact ⟨fun h => absurd h (cod_m1 hx), fun h => by cases h⟩
  | some w => exact cod_eq hx hy
/-- who hears whom: hears is H -/
def HR (N : Nat) (hears : Nat → Int32) (H : Nat → Option Nat) : Prop := ∀ j : Nat, j < N → hears j = cod (H j) ∧ okB N (H j)
theorem pair_s {n0 N i : Nat} {hears : Nat → Int32} {H : Nat → Option Nat} (hN : N ≤ 10) (hh : HR N hears H) (hi : i < N) : F_X1_isOfPair n0 hears (nI i) = some (bI (prB H i)) := by
  unfold F_X1_isOfPair prB
  rw [rd_nI (by omega) (by decide), (hh i hi).1]
  have ho := (hh i hi).2
  cases hj : H i with
  | none => exact if_pos rfl
  | some j =>
    rw [hj] at ho
    have hjN : j < N := ho
    rw [if_neg (cod_m1 (by omega)), show cod (some j) = nI j from rfl, rd_nI (by omega) (by decide), (hh j hjN).1]
    by_cases h : H j = some i
    · rw [if_pos ((cod_eq (okB_10 hN (hh j hjN).2) (by omega)).mpr h)]
      show some 1 = some (bI (decide (H j = some i)))
      rw [decide_eq_true h]; rfl
    · rw [if_neg (fun h2 => h ((cod_eq (okB_10 hN (hh j hjN).2) (by omega)).mp h2))]
      show some 0 = some (bI (decide (H j = some i)))
      rw [decide_eq_false h]; rfl
theorem mpair_s {n0 N i : Nat} {hears : Nat → Int32} {H : Nat → Option Nat} (hN : N ≤ 10) (hh : HR N hears H) (hi : i < N) : F_X7_isPaired n0 hears (nI i) = some (bI (prB H i)) := by
  rw [← pair_s (n0 := n0) hN hh hi]
  unfold F_X7_isPaired F_X1_isOfPair
  rw [rd_nI (by omega) (by decide), rd_nI (by omega) (by decide), rd_nI (by omega) (by decide)]
def lineF (H : Nat → Option Nat) : Nat → Option Nat → Nat → Int32
  | 0, _, _ => -1
  | k + 1, x, s => match x with
    | none => -1
    | some v => if prB H v = true then nI s else lineF H k (H v) (s + 1)
theorem lineF_hit {H : Nat → Option Nat} : ∀ (k : Nat) (x : Option Nat) (s j v : Nat), j < k → pth H j x = some v → prB H v = true → (∀ i : Nat, i < j → ∀ u : Nat, pth H i x = some u → prB H u = false) → lineF H k x s = nI (s + j) := by
  intro k
  induction k with
  | zero => intro x s j v h; omega
  | succ k ih =>
    intro x s j v h1 h2 h3 h4
    cases x with
    | none => rw [pth_none] at h2; cases h2
    | some w =>
      show (if prB H w = true then nI s else lineF H k (H w) (s + 1)) = nI (s + j)
      cases j with
      | zero =>
        have e : w = v := by have h5 : some w = some v := h2; cases h5; rfl
        subst e
        rw [if_pos h3]; rfl
      | succ j =>
        have h5 := h4 0 (by omega) w rfl
        rw [if_neg (by rw [h5]; decide), ih (H w) (s + 1) j v (by omega) h2 h3 (fun i hi u hu => h4 (i + 1) (by omega) u hu), show s + 1 + j = s + (j + 1) by omega]
theorem lineF_miss {H : Nat → Option Nat} : ∀ (k : Nat) (x : Option Nat) (s : Nat), (∀ i : Nat, i < k → ∀ u : Nat, pth H i x = some u → prB H u = false) → lineF H k x s = -1 := by
  intro k
  induction k with
  | zero => intro x s _; rfl
  | succ k ih =>
    intro x s h
    cases x with
    | none => rfl
    | some w =>
      show (if prB H w = true then nI s else lineF H k (H w) (s + 1)) = -1
      have h5 := h 0 (by omega) w rfl
      rw [if_neg (by rw [h5]; decide)]
      exact ih (H w) (s + 1) (fun i hi u hu => h (i + 1) (by omega) u hu)
theorem line_eq {H : Nat → Option Nat} {N t : Nat} (hN : N ≤ 10) (hok : ∀ j : Nat, j < N → okB N (H j)) (ht : t < N) : lineF H 11 (some t) 0 = lineF H (N + 1) (some t) 0 := by
  by_cases hx : ∃ j : Nat, ∃ v : Nat, pth H j (some t) = some v ∧ prB H v = true
  · obtain ⟨j, ⟨v, h1, h2⟩, h3⟩ := pk_least (fun j => ∃ v : Nat, pth H j (some t) = some v ∧ prB H v = true) hx
    have h4 : ∀ i : Nat, i < j → ∀ u : Nat, pth H i (some t) = some u → prB H u = false := fun i hi u hu => by
      cases hp : prB H u with
      | false => rfl
      | true => exact absurd ⟨u, hu, hp⟩ (h3 i hi)
    obtain ⟨q, a1, a2⟩ := pth_low hok (x := some t) ht j j (Nat.le_refl j) h1
    have h5 : j ≤ q := by
      by_cases h : q < j
      · exact absurd ⟨v, a2, h2⟩ (h3 q h)
      · omega
    rw [lineF_hit 11 (some t) 0 j v (by omega) h1 h2 h4, lineF_hit (N + 1) (some t) 0 j v (by omega) h1 h2 h4]
  · have h4 : ∀ i : Nat, ∀ u : Nat, pth H i (some t) = some u → prB H u = false := fun i u hu => by
      cases hp : prB H u with
      | false => rfl
      | true => exact absurd ⟨i, u, hu, hp⟩ hx
    rw [lineF_miss 11 (some t) 0 (fun i _ => h4 i), lineF_miss (N + 1) (some t) 0 (fun i _ => h4 i)]
theorem line_r {n0 N : Nat} {hears : Nat → Int32} {H : Nat → Option Nat} (hN : N ≤ 10) (hh : HR N hears H) : ∀ (k s n : Nat) (x : Option Nat), s + k = N + 1 → k < n → okB N x → L_X1_lineOf_4 (nI N) n0 hears n (cod x) (nI s) = some (lineF H k x s) := by
  intro k
  induction k with
  | zero =>
    intro s n x h1 h2 hx
    obtain ⟨n, rfl⟩ : ∃ q, n = q + 1 := ⟨n - 1, by omega⟩
    rw [L_X1_lineOf_4_u, if_pos (nI_lt (by omega) (by omega))]
    rfl
  | succ k ih =>
    intro s n x h1 h2 hx
    obtain ⟨n, rfl⟩ : ∃ q, n = q + 1 := ⟨n - 1, by omega⟩
    rw [L_X1_lineOf_4_u, if_neg (nI_nlt (by omega) (by omega))]
    cases x with
    | none => exact if_pos rfl
    | some v =>
      have hv : v < N := hx
      rw [if_neg (cod_m1 (by omega)), show cod (some v) = nI v from rfl, pair_s hN hh hv]
      show (if bI (prB H v) = 0 then rd hears 10 (nI v) (fun x4 => nm (nI s + 1) (fun x5 => L_X1_lineOf_4 (nI N) n0 hears n x4 x5)) else some (nI s)) = some (if prB H v = true then nI s else lineF H k (H v) (s + 1))
      cases hp : prB H v with
      | true => rfl
      | false =>
        rw [if_pos (show bI false = 0 from rfl), rd_nI (by omega) (by decide), nm, nI_1, (hh v hv).1, ih (s + 1) n (H v) (by omega) (by omega) (hh v hv).2]
        rfl
theorem line_s {n0 N t : Nat} {hears : Nat → Int32} {H : Nat → Option Nat} (hn : 2000000 ≤ n0) (hN : N ≤ 10) (hh : HR N hears H) (ht : t < N) : F_X1_lineOf n0 (nI N) hears (nI t) = some (lineF H (N + 1) (some t) 0) := by
  unfold F_X1_lineOf
  have := line_r (n0 := n0) hN hh (N + 1) 0 n0 (some t) (by omega) (by omega) ht
  rw [nI_0] at this
  exact this
theorem mline_r {n0 N : Nat} {hears : Nat → Int32} {H : Nat → Option Nat} (hN : N ≤ 10) (hh : HR N hears H) : ∀ (k s n : Nat) (x : Option Nat), s + k = 11 → k < n → okB N x → L_X7_lineOf_4 n0 hears n (cod x) (nI s) = some (lineF H k x s) := by
  intro k
  induction k with
  | zero =>
    intro s n x h1 h2 hx
    obtain ⟨n, rfl⟩ : ∃ q, n = q + 1 := ⟨n - 1, by omega⟩
    rw [L_X7_lineOf_4_u, if_pos (show (10 : Int32) < nI s from nI_lt (a := 10) (by omega) (by omega))]
    rfl
  | succ k ih =>
    intro s n x h1 h2 hx
    obtain ⟨n, rfl⟩ : ∃ q, n = q + 1 := ⟨n - 1, by omega⟩
    rw [L_X7_lineOf_4_u, if_neg (show ¬ (10 : Int32) < nI s from nI_nlt (b := s) (a := 10) (by omega) (by omega))]
    cases x with
    | none => exact if_pos rfl
    | some v =>
      have hv : v < N := hx
      rw [if_neg (cod_m1 (by omega)), show cod (some v) = nI v from rfl, mpair_s hN hh hv]
      show (if bI (prB H v) = 0 then rd hears 10 (nI v) (fun x4 => nm (nI s + 1) (fun x5 => L_X7_lineOf_4 n0 hears n x4 x5)) else some (nI s)) = some (if prB H v = true then nI s else lineF H k (H v) (s + 1))
      cases hp : prB H v with
      | true => rfl
      | false =>
        rw [if_pos (show bI false = 0 from rfl), rd_nI (by omega) (by decide), nm, nI_1, (hh v hv).1, ih (s + 1) n (H v) (by omega) (by omega) (hh v hv).2]
        rfl
theorem mline_s {n0 N t : Nat} {hears : Nat → Int32} {H : Nat → Option Nat} (hn : 2000000 ≤ n0) (hN : N ≤ 10) (hh : HR N hears H) (ht : t < N) : F_X7_lineOf n0 hears (nI t) = some (lineF H (N + 1) (some t) 0) := by
  unfold F_X7_lineOf
  have := mline_r (n0 := n0) hN hh 11 0 n0 (some t) (by omega) (by omega) ht
  rw [nI_0] at this
  rw [← line_eq hN (fun j hj => (hh j hj).2) ht]
  exact this
