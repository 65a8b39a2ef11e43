theorem l0 : (0 : Int32) = nI 0 := rfl
theorem l1 : (1 : Int32) = nI 1 := rfl
theorem l2 : (2 : Int32) = nI 2 := rfl
theorem l3 : (3 : Int32) = nI 3 := rfl
theorem l4 : (4 : Int32) = nI 4 := rfl
theorem l5 : (5 : Int32) = nI 5 := rfl
theorem l6 : (6 : Int32) = nI 6 := rfl
theorem a10 (k : Nat) : (10 : Int32) + nI k = nI (10 + k) := nI_add 10 k
theorem a20 (k : Nat) : (20 : Int32) + nI k = nI (20 + k) := nI_add 20 k
theorem a30 (k : Nat) : (30 : Int32) + nI k = nI (30 + k) := nI_add 30 k
theorem one0 {R : Type} {a b : R} : (if (1 : Int32) = 0 then a else b) = b := if_neg (by decide)
theorem zero0 {R : Type} {a b : R} : (if (0 : Int32) = 0 then a else b) = a := if_pos rfl
theorem nI_m1 {j : Nat} (h : j < 2 ^ 31) : ¬ nI j = -1 := fun h2 => by
  have h3 := congrArg Int32.toInt h2
  rw [nI_toInt h] at h3
  have h4 : (-1 : Int32).toInt = -1 := rfl
  omega
theorem rd_l {Ro : Type} {f : Nat → Int32} {n : Nat} {i : Int32} {k : Int32 → Option Ro} (j : Nat) (hj : i = nI j) (h : j < n) (hn : n < 2 ^ 31) : rd f n i k = k (f j) := by rw [hj, rd_nI h hn]
theorem wrt_l {Ro : Type} {f : Nat → Int32} {n : Nat} {i x : Int32} {k : (Nat → Int32) → Option Ro} (j : Nat) (hj : i = nI j) (h : j < n) (hn : n < 2 ^ 31) : wrt f n i x k = k (upd f j x) := by rw [hj, wrt_nI h hn]
theorem st_on {n0 : Nat} (hn : 2000000 ≤ n0) : St_on n0 := by
  intro xv_isKept xf_found xv_camp_tents xv_camp_said xv_camp_wall xv_camp_bridge xv_camp_counted xv_camp_day xv_camp_z xf_camp_kinds xf_camp_yards xf_camp_spots xv_kept_tents xv_kept_said xv_kept_wall xv_kept_bridge xv_kept_counted xv_kept_day xv_kept_z xf_kept_kinds xf_kept_yards xf_kept_spots xv_tape_size xf_tape_bytes xv_sheets_0_bits xv_sheets_0_size xf_sheets_0_numbers xv_sheets_1_bits xv_sheets_1_size xf_sheets_1_numbers xv_sheets_2_bits xv_sheets_2_size xf_sheets_2_numbers xv_sheets_3_bits xv_sheets_3_size xf_sheets_3_numbers mv_isKept mv_taped mv_gone mf_d mf_kept mf_found mf_tape mf_bitsOf mf_sizeOf mf_number hI p1 p2
  obtain ⟨hC, hK1, hK2, hK3, hF, hT, hS0, hS1, hS2, hS3, hG⟩ := hI
  have hC0 := hC
  obtain ⟨N, hN, h0, hd0, hd1, hd2, hd3, hd4, hd5, hd6, hct, hwl, hbr, hdy, hsa, hA, hKi, hYa, hSp⟩ := hC
  by_cases hy : inR 0 11 p1 ∧ inR 0 11 p2
  · rcases whoR_or xf_camp_yards (12 * p2 + p1) N 0 with hw | ⟨j, _, hj, hw, _⟩
    · have hx : F_X6_on n0 xv_camp_tents xf_found xf_camp_yards p1 p2 = some (-1000004, upd xf_found 3 (xf_found 3 + 1)) := by
        unfold F_X6_on
        rw [isYard_t hy.1 hy.2, h0]
        simp only [bd1, one0, F_X6_yardOf, nm]
        rw [tentOn_s hn hN, hw]
        rfl
      have hm : F_X7_on n0 mf_d mf_found p1 p2 = some (-1000004, upd mf_found 3 (mf_found 3 + 1)) := by
        unfold F_X7_on
        rw [mYard_t hy.1 hy.2]
        simp only [bd1, one0, nm]
        rw [whoIs_s hn hN hd0 (fun i hi => (hA i hi).2.1), hw]
        rfl
      exact ⟨_, _, _, hx, hm, hC0, hK1, hK2, hK3, fnd_u hF 3 (by decide), hT, hS0, hS1, hS2, hS3, hG⟩
    · have hx : F_X6_on n0 xv_camp_tents xf_found xf_camp_yards p1 p2 = some (nI j, xf_found) := by
        unfold F_X6_on
        rw [isYard_t hy.1 hy.2, h0]
        simp only [bd1, one0, F_X6_yardOf, nm]
        rw [tentOn_s hn hN, hw]
        simp only [if_neg (nI_m1 (show j < 2 ^ 31 by omega))]
      have hm : F_X7_on n0 mf_d mf_found p1 p2 = some (nI j, mf_found) := by
        unfold F_X7_on
        rw [mYard_t hy.1 hy.2]
        simp only [bd1, one0, nm]
        rw [whoIs_s hn hN hd0 (fun i hi => (hA i hi).2.1), hw]
        simp only [if_neg (nI_m1 (show j < 2 ^ 31 by omega))]
      exact ⟨_, _, _, hx, hm, hC0, hK1, hK2, hK3, hF, hT, hS0, hS1, hS2, hS3, hG⟩
  · have hx : F_X6_on n0 xv_camp_tents xf_found xf_camp_yards p1 p2 = some (-1000001, upd xf_found 0 (xf_found 0 + 1)) := by
      unfold F_X6_on
      rw [isYard_f hy]
      rfl
    have hm : F_X7_on n0 mf_d mf_found p1 p2 = some (-1000001, upd mf_found 0 (mf_found 0 + 1)) := by
      unfold F_X7_on
      rw [mYard_f hy]
      rfl
    exact ⟨_, _, _, hx, hm, hC0, hK1, hK2, hK3, fnd_u hF 0 (by decide), hT, hS0, hS1, hS2, hS3, hG⟩
theorem st_seed {n0 : Nat} (hn : 2000000 ≤ n0) : St_seed n0 := by
  intro xv_isKept xf_found xv_camp_tents xv_camp_said xv_camp_wall xv_camp_bridge xv_camp_counted xv_camp_day xv_camp_z xf_camp_kinds xf_camp_yards xf_camp_spots xv_kept_tents xv_kept_said xv_kept_wall xv_kept_bridge xv_kept_counted xv_kept_day xv_kept_z xf_kept_kinds xf_kept_yards xf_kept_spots xv_tape_size xf_tape_bytes xv_sheets_0_bits xv_sheets_0_size xf_sheets_0_numbers xv_sheets_1_bits xv_sheets_1_size xf_sheets_1_numbers xv_sheets_2_bits xv_sheets_2_size xf_sheets_2_numbers xv_sheets_3_bits xv_sheets_3_size xf_sheets_3_numbers mv_isKept mv_taped mv_gone mf_d mf_kept mf_found mf_tape mf_bitsOf mf_sizeOf mf_number hI p1
  obtain ⟨hC, hK1, hK2, hK3, hF, hT, hS0, hS1, hS2, hS3, hG⟩ := hI
  obtain ⟨N, hN, h0, hd0, hd1, hd2, hd3, hd4, hd5, hd6, hct, hwl, hbr, hdy, hsa, hA, hKi, hYa, hSp⟩ := hC
  have hx : F_X6_seed n0 xv_camp_z p1 = some (xv_camp_z, p1) := rfl
  have hm : F_X7_seed n0 mf_d p1 = some (xv_camp_z, upd mf_d 2 p1) := by
    unfold F_X7_seed
    rw [rd_l 2 l2 (by decide) (by decide), wrt_l 2 l2 (by decide) (by decide), hd2]
  refine ⟨_, _, _, hx, hm, ⟨N, hN, h0, ?_, ?_, ?_, ?_, ?_, ?_, ?_, hct, hwl, hbr, hdy, hsa, fun i hi => ?_, hKi, hYa, hSp⟩, hK1, hK2, hK3, hF, hT, hS0, hS1, hS2, hS3, hG⟩
  · rw [pk_un (by decide)]; exact hd0
  · rw [pk_un (by decide)]; exact hd1
  · rw [pk_us]
  · rw [pk_un (by decide)]; exact hd3
  · rw [pk_un (by decide)]; exact hd4
  · rw [pk_un (by decide)]; exact hd5
  · rw [pk_un (by decide)]; exact hd6
  · rw [pk_un (by omega), pk_un (by omega), pk_un (by omega)]; exact hA i hi
theorem st_wipe {n0 : Nat} (hn : 2000000 ≤ n0) : St_wipe n0 := by
  intro xv_isKept xf_found xv_camp_tents xv_camp_said xv_camp_wall xv_camp_bridge xv_camp_counted xv_camp_day xv_camp_z xf_camp_kinds xf_camp_yards xf_camp_spots xv_kept_tents xv_kept_said xv_kept_wall xv_kept_bridge xv_kept_counted xv_kept_day xv_kept_z xf_kept_kinds xf_kept_yards xf_kept_spots xv_tape_size xf_tape_bytes xv_sheets_0_bits xv_sheets_0_size xf_sheets_0_numbers xv_sheets_1_bits xv_sheets_1_size xf_sheets_1_numbers xv_sheets_2_bits xv_sheets_2_size xf_sheets_2_numbers xv_sheets_3_bits xv_sheets_3_size xf_sheets_3_numbers mv_isKept mv_taped mv_gone mf_d mf_kept mf_found mf_tape mf_bitsOf mf_sizeOf mf_number hI
  obtain ⟨hC, hK1, hK2, hK3, hF, hT, hS0, hS1, hS2, hS3, hG⟩ := hI
  obtain ⟨T, hT0, hT1, hT2, hT3⟩ := hT
  have hx : F_X6_wipe n0 xv_tape_size = some (nI T, 0) := by rw [hT1]; rfl
  have hm : F_X7_wipe n0 mv_taped = some (nI T, 0) := by rw [hT2]; rfl
  exact ⟨_, _, _, hx, hm, hC, hK1, hK2, hK3, hF, ⟨0, by decide, rfl, rfl, fun i h => absurd h (Nat.not_lt_zero i)⟩, hS0, hS1, hS2, hS3, hG⟩
theorem st_tear {n0 : Nat} (hn : 2000000 ≤ n0) : St_tear n0 := by
  intro xv_isKept xf_found xv_camp_tents xv_camp_said xv_camp_wall xv_camp_bridge xv_camp_counted xv_camp_day xv_camp_z xf_camp_kinds xf_camp_yards xf_camp_spots xv_kept_tents xv_kept_said xv_kept_wall xv_kept_bridge xv_kept_counted xv_kept_day xv_kept_z xf_kept_kinds xf_kept_yards xf_kept_spots xv_tape_size xf_tape_bytes xv_sheets_0_bits xv_sheets_0_size xf_sheets_0_numbers xv_sheets_1_bits xv_sheets_1_size xf_sheets_1_numbers xv_sheets_2_bits xv_sheets_2_size xf_sheets_2_numbers xv_sheets_3_bits xv_sheets_3_size xf_sheets_3_numbers mv_isKept mv_taped mv_gone mf_d mf_kept mf_found mf_tape mf_bitsOf mf_sizeOf mf_number hI
  obtain ⟨hC, hK1, hK2, hK3, hF, hT, hS0, hS1, hS2, hS3, hG⟩ := hI
  rcases hK2 with h | h
  · have hx : F_X6_tear n0 xv_isKept = some (0, 0) := by rw [h]; rfl
    have hm : F_X7_tear n0 mv_isKept = some (0, 0) := by rw [hK1, h]; rfl
    exact ⟨_, _, _, hx, hm, hC, rfl, Or.inl rfl, fun h => absurd h (by decide), hF, hT, hS0, hS1, hS2, hS3, hG⟩
  · have hx : F_X6_tear n0 xv_isKept = some (1, 0) := by rw [h]; rfl
    have hm : F_X7_tear n0 mv_isKept = some (1, 0) := by rw [hK1, h]; rfl
    exact ⟨_, _, _, hx, hm, hC, rfl, Or.inl rfl, fun h => absurd h (by decide), hF, hT, hS0, hS1, hS2, hS3, hG⟩
theorem pos_of_inR {p : Int32} (h : inR 0 9 p) : ∃ k : Nat, k < 10 ∧ p = nI k := by
  obtain ⟨k, hk, rfl⟩ := inR_nI (hi := 9) h
  exact ⟨k, by omega, rfl⟩
theorem st_hold {n0 : Nat} (hn : 2000000 ≤ n0) : St_hold n0 := by
  intro xv_isKept xf_found xv_camp_tents xv_camp_said xv_camp_wall xv_camp_bridge xv_camp_counted xv_camp_day xv_camp_z xf_camp_kinds xf_camp_yards xf_camp_spots xv_kept_tents xv_kept_said xv_kept_wall xv_kept_bridge xv_kept_counted xv_kept_day xv_kept_z xf_kept_kinds xf_kept_yards xf_kept_spots xv_tape_size xf_tape_bytes xv_sheets_0_bits xv_sheets_0_size xf_sheets_0_numbers xv_sheets_1_bits xv_sheets_1_size xf_sheets_1_numbers xv_sheets_2_bits xv_sheets_2_size xf_sheets_2_numbers xv_sheets_3_bits xv_sheets_3_size xf_sheets_3_numbers mv_isKept mv_taped mv_gone mf_d mf_kept mf_found mf_tape mf_bitsOf mf_sizeOf mf_number hI p1 p2
  obtain ⟨hC, hK1, hK2, hK3, hF, hT, hS0, hS1, hS2, hS3, hG⟩ := hI
  have hC0 := hC
  obtain ⟨N, hN, h0, hd0, hd1, hd2, hd3, hd4, hd5, hd6, hct, hwl, hbr, hdy, hsa, hA, hKi, hYa, hSp⟩ := hC
  have hd0' : rd mf_d 40 0 (fun x => some x) = some (nI N) := by rw [rd_l 0 l0 (by decide) (by decide), hd0]
  by_cases hs : inR 0 9 p1
  · by_cases ht : inR (-1) (N - 1) p2
    · obtain ⟨k, hk, rfl⟩ := pos_of_inR hs
      have hx : F_X6_hold n0 xv_camp_tents xf_found xf_camp_spots (nI k) p2 = some (1, xf_found, upd xf_camp_spots k p2) := by
        unfold F_X6_hold
        rw [isSpot_t hs]
        simp only [bd1, one0]
        by_cases h : p2 = -1
        · rw [if_pos h]
          unfold J_X6_hold_30
          rw [wrt_nI hk (by decide)]
        · have h2 : isT N p2 := by
            refine ⟨?_, by have := ht.2; omega⟩
            by_cases h3 : p2.toInt = -1
            · exact absurd (Int32.toInt_inj.mp h3) h
            · have := ht.1; omega
          rw [if_neg h, h0, has_t hN h2]
          simp only [one0]
          unfold J_X6_hold_30
          rw [wrt_nI hk (by decide)]
      have hm : F_X7_hold n0 mf_d mf_found (nI k) p2 = some (1, upd mf_d (30 + k) (p2 + 1), mf_found) := by
        unfold F_X7_hold
        simp only [nm]
        rw [in_t (a := 0) (b := 9) hs]
        simp only [bd1, one0]
        rw [rd_l 0 l0 (by decide) (by decide), hd0]
        rw [in_t (a := -1) (b := (nI N - 1).toInt64) ⟨ht.1, by rw [mT_aux hN]; exact ht.2⟩]
        simp only [one0]
        rw [wrt_l (30 + k) (a30 k) (by omega) (by decide)]
      refine ⟨_, _, _, _, _, hx, hm, ⟨N, hN, h0, ?_, ?_, ?_, ?_, ?_, ?_, ?_, hct, hwl, hbr, hdy, hsa, fun i hi => ?_, hKi, hYa, fun i hi => ?_⟩, hK1, hK2, hK3, hF, hT, hS0, hS1, hS2, hS3, hG⟩
      · rw [pk_un (by omega)]; exact hd0
      · rw [pk_un (by omega)]; exact hd1
      · rw [pk_un (by omega)]; exact hd2
      · rw [pk_un (by omega)]; exact hd3
      · rw [pk_un (by omega)]; exact hd4
      · rw [pk_un (by omega)]; exact hd5
      · rw [pk_un (by omega)]; exact hd6
      · refine ⟨?_, ?_, ?_⟩
        · rw [pk_un (by omega)]; exact (hA i hi).1
        · rw [pk_un (by omega)]; exact (hA i hi).2.1
        · by_cases h : i = k
          · subst h; rw [pk_us, pk_us]
          · rw [pk_un (by omega), pk_un h]; exact (hA i hi).2.2
      · by_cases h : i = k
        · subst h
          rw [pk_us]
          have h9 : (p2 + 1).toInt = p2.toInt + 1 := by
            rw [Int32.toInt_add]
            have a1 := ht.1
            have a2 := ht.2
            have a3 : (1 : Int32).toInt = 1 := rfl
            rw [a3]
            exact Int.bmod_eq_of_le (by omega) (by omega)
          have h10 : ¬ p2 + 1 < 0 := by
            rw [Int32.lt_iff_toInt_lt, h9]
            have a1 := ht.1
            have a3 : (0 : Int32).toInt = 0 := rfl
            omega
          obtain ⟨j, hj, hj2⟩ := nI_of h10
          refine ⟨j, ?_, hj2⟩
          have a2 := ht.2
          rw [hj2, nI_toInt hj] at h9
          omega
        · rw [pk_un h]; exact hSp i hi
    · have hx : F_X6_hold n0 xv_camp_tents xf_found xf_camp_spots p1 p2 = some (-1000001, upd xf_found 0 (xf_found 0 + 1), xf_camp_spots) := by
        have h : ¬ p2 = -1 := fun h => ht ⟨by rw [h]; decide, by rw [h]; have : (-1 : Int32).toInt = -1 := rfl; omega⟩
        have h2 : ¬ isT N p2 := fun h2 => ht ⟨by have := h2.1; omega, by have := h2.2; omega⟩
        unfold F_X6_hold
        rw [isSpot_t hs]
        simp only [bd1, one0]
        rw [if_neg h, h0, has_f hN h2]
        rfl
      have hm : F_X7_hold n0 mf_d mf_found p1 p2 = some (-1000001, mf_d, upd mf_found 0 (mf_found 0 + 1)) := by
        unfold F_X7_hold
        simp only [nm]
        rw [in_t (a := 0) (b := 9) hs]
        simp only [bd1, one0]
        rw [rd_l 0 l0 (by decide) (by decide), hd0]
        rw [in_f (a := -1) (b := (nI N - 1).toInt64) (fun h => ht ⟨h.1, by have := h.2; rw [mT_aux hN] at this; exact this⟩)]
        rfl
      exact ⟨_, _, _, _, _, hx, hm, hC0, hK1, hK2, hK3, fnd_u hF 0 (by decide), hT, hS0, hS1, hS2, hS3, hG⟩
  · have hx : F_X6_hold n0 xv_camp_tents xf_found xf_camp_spots p1 p2 = some (-1000001, upd xf_found 0 (xf_found 0 + 1), xf_camp_spots) := by
      unfold F_X6_hold
      rw [isSpot_f hs]
      rfl
    have hm : F_X7_hold n0 mf_d mf_found p1 p2 = some (-1000001, mf_d, upd mf_found 0 (mf_found 0 + 1)) := by
      unfold F_X7_hold
      simp only [nm]
      rw [in_f (a := 0) (b := 9) hs]
      rfl
    exact ⟨_, _, _, _, _, hx, hm, hC0, hK1, hK2, hK3, fnd_u hF 0 (by decide), hT, hS0, hS1, hS2, hS3, hG⟩
