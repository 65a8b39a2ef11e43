theorem yard_nI {x y : Nat} : (12 : Int32) * nI y + nI x = nI (12 * y + x) := by
  rw [show (12 : Int32) = nI 12 from rfl, pk_mul, nI_add]
theorem st_tent {n0 : Nat} (hn : 2000000 ≤ n0) : St_tent n0 := by
  intro xv_isKept xf_found xv_camp_tents xv_camp_said xv_camp_wall xv_camp_bridge xv_camp_counted xv_camp_day xv_camp_z xf_camp_kinds xf_camp_yards xf_camp_spots xv_kept_tents xv_kept_said xv_kept_wall xv_kept_bridge xv_kept_counted xv_kept_day xv_kept_z xf_kept_kinds xf_kept_yards xf_kept_spots xv_tape_size xf_tape_bytes xv_sheets_0_bits xv_sheets_0_size xf_sheets_0_numbers xv_sheets_1_bits xv_sheets_1_size xf_sheets_1_numbers xv_sheets_2_bits xv_sheets_2_size xf_sheets_2_numbers xv_sheets_3_bits xv_sheets_3_size xf_sheets_3_numbers mv_isKept mv_taped mv_gone mf_d mf_kept mf_found mf_tape mf_bitsOf mf_sizeOf mf_number hI p1 p2 p3
  obtain ⟨hC, hK1, hK2, hK3, hF, hT, hS0, hS1, hS2, hS3, hG⟩ := hI
  have hC0 := hC
  obtain ⟨N, hN, h0, hd0, hd1, hd2, hd3, hd4, hd5, hd6, hct, hwl, hbr, hdy, hsa, hA, hKi, hYa, hSp⟩ := hC
  by_cases hk : inR 0 6 p1
  · by_cases hy : inR 0 11 p2 ∧ inR 0 11 p3
    · rcases whoR_or xf_camp_yards (12 * p3 + p2) N 0 with hw | ⟨j, _, hj, hw, _⟩
      · by_cases h10 : N < 10
        · obtain ⟨k, hk1, rfl⟩ := inR_nI (hi := 6) hk
          obtain ⟨x, hx1, rfl⟩ := inR_nI (hi := 11) hy.1
          obtain ⟨y, hy1, rfl⟩ := inR_nI (hi := 11) hy.2
          have hx : F_X6_tent n0 xv_camp_tents xv_camp_said xf_found xf_camp_kinds xf_camp_yards (nI k) (nI x) (nI y) = some (nI N, nI (N + 1), clrB xv_camp_said N, xf_found, upd xf_camp_kinds N (nI k), upd xf_camp_yards N (nI (12 * y + x))) := by
            unfold F_X6_tent
            rw [isKind_t hk, isYard_t hy.1 hy.2, h0]
            simp only [bd1, one0, F_X6_yardOf, nm]
            rw [tentOn_s hn hN, hw]
            simp only [if_pos, if_pos (show nI N < 10 from nI_lt (b := 10) h10 (by decide))]
            rw [pitch_s h10, gw_0, yard_nI]
            rfl
          have hm : F_X7_tent n0 mf_d mf_found (nI k) (nI x) (nI y) = some (nI N, comesD mf_d N (nI k) (nI (12 * y + x)), mf_found) := by
            unfold F_X7_tent
            simp only [nm]
            rw [in_t (a := 0) (b := 6) hk, mYard_t hy.1 hy.2]
            simp only [bd1, one0]
            rw [whoIs_s hn hN hd0 (fun i hi => (hA i hi).2.1), hw]
            simp only [if_pos]
            rw [rd_l 0 l0 (by decide) (by decide), hd0, if_neg (fun h => by rw [show (10 : Int32) = nI 10 from rfl, nI_eq (by omega) (by decide)] at h; omega), comes_s h10 hd0, yard_nI]
            rfl
          rw [h0] at hC0
          exact ⟨_, _, _, _, _, _, _, _, hx, hm, CR_pitch h10 (by omega) (by omega) hC0, hK1, hK2, hK3, hF, hT, hS0, hS1, hS2, hS3, hG⟩
        · have e10 : N = 10 := by omega
          subst e10
          have hx : F_X6_tent n0 xv_camp_tents xv_camp_said xf_found xf_camp_kinds xf_camp_yards p1 p2 p3 = some (-1000002, nI 10, xv_camp_said, upd xf_found 1 (xf_found 1 + 1), xf_camp_kinds, xf_camp_yards) := by
            unfold F_X6_tent
            rw [isKind_t hk, isYard_t hy.1 hy.2, h0]
            simp only [bd1, one0, F_X6_yardOf, nm]
            rw [tentOn_s hn hN, hw]
            rfl
          have hm : F_X7_tent n0 mf_d mf_found p1 p2 p3 = some (-1000002, mf_d, upd mf_found 1 (mf_found 1 + 1)) := by
            unfold F_X7_tent
            simp only [nm]
            rw [in_t (a := 0) (b := 6) hk, mYard_t hy.1 hy.2]
            simp only [bd1, one0]
            rw [whoIs_s hn hN hd0 (fun i hi => (hA i hi).2.1), hw]
            simp only [if_pos]
            rw [rd_l 0 l0 (by decide) (by decide), hd0]
            rfl
          rw [h0] at hC0
          exact ⟨_, _, _, _, _, _, _, _, hx, hm, hC0, hK1, hK2, hK3, fnd_u hF 1 (by decide), hT, hS0, hS1, hS2, hS3, hG⟩
      · have hx : F_X6_tent n0 xv_camp_tents xv_camp_said xf_found xf_camp_kinds xf_camp_yards p1 p2 p3 = some (-1000005, xv_camp_tents, xv_camp_said, upd xf_found 4 (xf_found 4 + 1), xf_camp_kinds, xf_camp_yards) := by
          unfold F_X6_tent
          rw [isKind_t hk, isYard_t hy.1 hy.2]
          simp only [bd1, one0, F_X6_yardOf, nm]
          rw [h0, tentOn_s hn hN, hw]
          simp only [if_neg (nI_m1 (show j < 2 ^ 31 by omega))]
          rfl
        have hm : F_X7_tent n0 mf_d mf_found p1 p2 p3 = some (-1000005, mf_d, upd mf_found 4 (mf_found 4 + 1)) := by
          unfold F_X7_tent
          simp only [nm]
          rw [in_t (a := 0) (b := 6) hk, mYard_t hy.1 hy.2]
          simp only [bd1, one0]
          rw [whoIs_s hn hN hd0 (fun i hi => (hA i hi).2.1), hw]
          simp only [if_neg (nI_m1 (show j < 2 ^ 31 by omega))]
          rfl
        exact ⟨_, _, _, _, _, _, _, _, hx, hm, hC0, hK1, hK2, hK3, fnd_u hF 4 (by decide), hT, hS0, hS1, hS2, hS3, hG⟩
    · have hx : F_X6_tent n0 xv_camp_tents xv_camp_said xf_found xf_camp_kinds xf_camp_yards p1 p2 p3 = some (-1000001, xv_camp_tents, xv_camp_said, upd xf_found 0 (xf_found 0 + 1), xf_camp_kinds, xf_camp_yards) := by
        unfold F_X6_tent
        rw [isKind_t hk, isYard_f hy]
        rfl
      have hm : F_X7_tent n0 mf_d mf_found p1 p2 p3 = some (-1000001, mf_d, upd mf_found 0 (mf_found 0 + 1)) := by
        unfold F_X7_tent
        simp only [nm]
        rw [in_t (a := 0) (b := 6) hk, mYard_f hy]
        rfl
      exact ⟨_, _, _, _, _, _, _, _, hx, hm, hC0, hK1, hK2, hK3, fnd_u hF 0 (by decide), hT, hS0, hS1, hS2, hS3, hG⟩
  · have hx : F_X6_tent n0 xv_camp_tents xv_camp_said xf_found xf_camp_kinds xf_camp_yards p1 p2 p3 = some (-1000001, xv_camp_tents, xv_camp_said, upd xf_found 0 (xf_found 0 + 1), xf_camp_kinds, xf_camp_yards) := by
      unfold F_X6_tent
      rw [isKind_f hk]
      rfl
    have hm : F_X7_tent n0 mf_d mf_found p1 p2 p3 = some (-1000001, mf_d, upd mf_found 0 (mf_found 0 + 1)) := by
      unfold F_X7_tent
      simp only [nm]
      rw [in_f (a := 0) (b := 6) hk]
      rfl
    exact ⟨_, _, _, _, _, _, _, _, hx, hm, hC0, hK1, hK2, hK3, fnd_u hF 0 (by decide), hT, hS0, hS1, hS2, hS3, hG⟩
/-- a kind, a yard, what is said in a camp become others -/
theorem CR_kind {kinds yards spots d : Nat → Int32} {t k : Nat} {tents said wall bridge counted day z : Int32} (ht : t < 10) (hk : k < 7) (hC : CR kinds yards spots tents said wall bridge counted day z d) : CR (upd kinds t (nI k)) yards spots tents said wall bridge counted day z (upd d (10 + t) (nI k)) := by
  obtain ⟨M, hM, h0, hd0, hd1, hd2, hd3, hd4, hd5, hd6, hct, hwl, hbr, hdy, hsa, hA, hKi, hYa, hSp⟩ := hC
  have un : ∀ j : Nat, j < 7 → upd d (10 + t) (nI k) j = d j := fun j h2 => pk_un (by omega)
  refine ⟨M, hM, h0, by rw [un 0 (by decide)]; exact hd0, by rw [un 1 (by decide)]; exact hd1, by rw [un 2 (by decide)]; exact hd2, by rw [un 3 (by decide)]; exact hd3, by rw [un 4 (by decide)]; exact hd4, by rw [un 5 (by decide)]; exact hd5, by rw [un 6 (by decide)]; exact hd6, hct, hwl, hbr, hdy, hsa, fun i hi => ⟨?_, ?_, ?_⟩, fun i hi => ?_, hYa, hSp⟩
  · by_cases h : i = t
    · subst h; rw [pk_us, pk_us]
    · rw [pk_un (by omega), pk_un h]; exact (hA i hi).1
  · rw [pk_un (by omega)]; exact (hA i hi).2.1
  · rw [pk_un (by omega)]; exact (hA i hi).2.2
  · by_cases h : i = t
    · subst h; exact ⟨k, hk, pk_us⟩
    · rw [pk_un h]; exact hKi i hi
theorem CR_yard {kinds yards spots d : Nat → Int32} {t y : Nat} {tents said wall bridge counted day z : Int32} (ht : t < 10) (hy : y < 144) (hC : CR kinds yards spots tents said wall bridge counted day z d) : CR kinds (upd yards t (nI y)) spots tents said wall bridge counted day z (upd d (20 + t) (nI y)) := by
  obtain ⟨M, hM, h0, hd0, hd1, hd2, hd3, hd4, hd5, hd6, hct, hwl, hbr, hdy, hsa, hA, hKi, hYa, hSp⟩ := hC
  have un : ∀ j : Nat, j < 7 → upd d (20 + t) (nI y) j = d j := fun j h2 => pk_un (by omega)
  refine ⟨M, hM, h0, by rw [un 0 (by decide)]; exact hd0, by rw [un 1 (by decide)]; exact hd1, by rw [un 2 (by decide)]; exact hd2, by rw [un 3 (by decide)]; exact hd3, by rw [un 4 (by decide)]; exact hd4, by rw [un 5 (by decide)]; exact hd5, by rw [un 6 (by decide)]; exact hd6, hct, hwl, hbr, hdy, hsa, fun i hi => ⟨?_, ?_, ?_⟩, hKi, fun i hi => ?_, hSp⟩
  · rw [pk_un (by omega)]; exact (hA i hi).1
  · by_cases h : i = t
    · subst h; rw [pk_us, pk_us]
    · rw [pk_un (by omega), pk_un h]; exact (hA i hi).2.1
  · rw [pk_un (by omega)]; exact (hA i hi).2.2
  · by_cases h : i = t
    · subst h; exact ⟨y, hy, pk_us⟩
    · rw [pk_un h]; exact hYa i hi
theorem CR_said {kinds yards spots d : Nat → Int32} {N w : Nat} {said wall bridge counted day z : Int32} (hN : N ≤ 10) (hw : w < 2 ^ N) (hC : CR kinds yards spots (nI N) said wall bridge counted day z d) : CR kinds yards spots (nI N) (nI w) wall bridge counted day z (upd d 6 (nI w)) := by
  obtain ⟨M, hM, h0, hd0, hd1, hd2, hd3, hd4, hd5, hd6, hct, hwl, hbr, hdy, hsa, hA, hKi, hYa, hSp⟩ := hC
  have e : N = M := (nI_eq (by omega) (by omega)).mp h0
  subst e
  have un : ∀ j : Nat, j ≠ 6 → upd d 6 (nI w) j = d j := fun j h2 => pk_un h2
  exact ⟨N, hM, rfl, by rw [un 0 (by decide)]; exact hd0, by rw [un 1 (by decide)]; exact hd1, by rw [un 2 (by decide)]; exact hd2, by rw [un 3 (by decide)]; exact hd3, by rw [un 4 (by decide)]; exact hd4, by rw [un 5 (by decide)]; exact hd5, pk_us, hct, hwl, hbr, hdy, ⟨w, hw, rfl⟩, fun i hi => by rw [un (10 + i) (by omega), un (20 + i) (by omega), un (30 + i) (by omega)]; exact hA i hi, hKi, hYa, hSp⟩
theorem st_change {n0 : Nat} (hn : 2000000 ≤ n0) : St_change n0 := by
  intro xv_isKept xf_found xv_camp_tents xv_camp_said xv_camp_wall xv_camp_bridge xv_camp_counted xv_camp_day xv_camp_z xf_camp_kinds xf_camp_yards xf_camp_spots xv_kept_tents xv_kept_said xv_kept_wall xv_kept_bridge xv_kept_counted xv_kept_day xv_kept_z xf_kept_kinds xf_kept_yards xf_kept_spots xv_tape_size xf_tape_bytes xv_sheets_0_bits xv_sheets_0_size xf_sheets_0_numbers xv_sheets_1_bits xv_sheets_1_size xf_sheets_1_numbers xv_sheets_2_bits xv_sheets_2_size xf_sheets_2_numbers xv_sheets_3_bits xv_sheets_3_size xf_sheets_3_numbers mv_isKept mv_taped mv_gone mf_d mf_kept mf_found mf_tape mf_bitsOf mf_sizeOf mf_number hI p1 p2 p3
  obtain ⟨hC, hK1, hK2, hK3, hF, hT, hS0, hS1, hS2, hS3, hG⟩ := hI
  have hC0 := hC
  obtain ⟨N, hN, h0, hd0, hd1, hd2, hd3, hd4, hd5, hd6, hct, hwl, hbr, hdy, hsa, hA, hKi, hYa, hSp⟩ := hC
  obtain ⟨m, hm0, hsa⟩ := hsa
  by_cases ht : isT N p1
  · by_cases hk : p2 = 0 ∧ inR 0 6 p3
    · obtain ⟨t, ht1, rfl⟩ := isT_nI ht
      obtain ⟨hp, hk⟩ := hk
      obtain ⟨k, hk1, rfl⟩ := inR_nI (hi := 6) hk
      have hx : F_X6_change n0 xv_camp_tents xv_camp_said xf_found xf_camp_kinds (nI t) p2 (nI k) = some (xf_camp_kinds t, xv_camp_said, xf_found, upd xf_camp_kinds t (nI k)) := by
        unfold F_X6_change
        rw [h0, has_t hN ht]
        simp only [bd1, one0]
        rw [if_pos hp, isKind_t hk]
        simp only [one0]
        rw [rd_nI (by omega) (by decide), wrt_nI (by omega) (by decide)]
      have hm : F_X7_change n0 mf_d mf_found (nI t) p2 (nI k) = some (xf_camp_kinds t, upd mf_d (10 + t) (nI k), mf_found) := by
        unfold F_X7_change J_X7_change_17 J_X7_change_31
        simp only [nm]
        rw [mT_t hN hd0 ht]
        simp only [bd1, one0]
        rw [if_pos hp, if_pos hp, in_t (a := 0) (b := 6) hk]
        simp only [one0]
        rw [if_pos hp, mKd (by omega)]
        unfold J_X7_change_60
        simp only [nm]
        rw [if_pos hp, wrt_l (10 + t) (a10 t) (by omega) (by decide), (hA t (by omega)).1]
      exact ⟨_, _, _, _, _, _, hx, hm, CR_kind (by omega) (by omega) hC0, hK1, hK2, hK3, hF, hT, hS0, hS1, hS2, hS3, hG⟩
    · by_cases hs : p2 = 3 ∧ inR 0 1 p3
      · obtain ⟨t, ht1, rfl⟩ := isT_nI ht
        obtain ⟨hp, hs⟩ := hs
        have hp0 : ¬ p2 = 0 := by rw [hp]; decide
        obtain ⟨v, hv1, rfl⟩ := inR_nI (hi := 1) hs
        have hx : F_X6_change n0 xv_camp_tents xv_camp_said xf_found xf_camp_kinds (nI t) p2 (nI v) = some (bitB xv_camp_said t, clrB xv_camp_said t ||| (nI v <<< (nI t &&& 31)), xf_found, xf_camp_kinds) := by
          unfold F_X6_change
          rw [h0, has_t hN ht]
          simp only [bd1, one0]
          rw [if_neg hp0]
          unfold J_X6_change_53
          rw [if_pos hp, isBit_t hs]
          simp only [bd1, one0]
          rw [wordOf_s, giveWord_s]
        rw [h0, hsa] at hC0
        rcases (show v = 0 ∨ v = 1 by omega) with rfl | rfl
        · have hm : F_X7_change n0 mf_d mf_found (nI t) p2 (nI 0) = some (bitB xv_camp_said t, upd mf_d 6 (clrB xv_camp_said t), mf_found) := by
            unfold F_X7_change J_X7_change_17 J_X7_change_31
            simp only [nm]
            rw [mT_t hN hd0 ht]
            simp only [bd1, one0]
            rw [if_neg hp0, if_pos hp, if_neg hp0, in_t (a := 0) (b := 1) hs]
            simp only [one0]
            rw [if_neg hp0, saysNow_s]
            unfold J_X7_change_60
            simp only []
            rw [if_neg hp0, show nI 0 = (0 : Int32) from rfl, sayOf_0, hd6]
            rfl
          rw [show nI 0 = (0 : Int32) from rfl, gw_0] at hx
          obtain ⟨w, hw1, hw2⟩ := clr_rg hN hm0 (t := t) (by omega)
          rw [hsa, hw2] at hx hm
          rw [h0]
          exact ⟨_, _, _, _, _, _, by rw [← h0, hsa]; exact hx, hm, CR_said hN hw1 hC0, hK1, hK2, hK3, hF, hT, hS0, hS1, hS2, hS3, hG⟩
        · have hm : F_X7_change n0 mf_d mf_found (nI t) p2 (nI 1) = some (bitB xv_camp_said t, upd mf_d 6 (setB xv_camp_said t), mf_found) := by
            unfold F_X7_change J_X7_change_17 J_X7_change_31
            simp only [nm]
            rw [mT_t hN hd0 ht]
            simp only [bd1, one0]
            rw [if_neg hp0, if_pos hp, if_neg hp0, in_t (a := 0) (b := 1) hs]
            simp only [one0]
            rw [if_neg hp0, saysNow_s]
            unfold J_X7_change_60
            simp only []
            rw [if_neg hp0, show nI 1 = (1 : Int32) from rfl, sayOf_1, hd6]
            rfl
          rw [show nI 1 = (1 : Int32) from rfl, hsa, clr_set t (by omega) m (by have := pow10 hN; omega)] at hx
          obtain ⟨w, hw1, hw2⟩ := set_rg hN hm0 (t := t) ht1
          rw [hw2] at hx
          rw [hsa, hw2] at hm
          rw [h0]
          exact ⟨_, _, _, _, _, _, by rw [← h0, hsa]; exact hx, hm, CR_said hN hw1 hC0, hK1, hK2, hK3, hF, hT, hS0, hS1, hS2, hS3, hG⟩
      · have hx : F_X6_change n0 xv_camp_tents xv_camp_said xf_found xf_camp_kinds p1 p2 p3 = some (-1000001, xv_camp_said, upd xf_found 0 (xf_found 0 + 1), xf_camp_kinds) := by
          unfold F_X6_change
          rw [h0, has_t hN ht]
          simp only [bd1, one0]
          have hJ : J_X6_change_53 p2 n0 p3 xf_found xv_camp_said xf_camp_kinds p1 = some (-1000001, xv_camp_said, upd xf_found 0 (xf_found 0 + 1), xf_camp_kinds) := by
            unfold J_X6_change_53
            by_cases h3 : p2 = 3
            · rw [if_pos h3, isBit_f (fun h => hs ⟨h3, h⟩)]
              rfl
            · rw [if_neg h3]
              rfl
          by_cases h2 : p2 = 0
          · rw [if_pos h2, isKind_f (fun h => hk ⟨h2, h⟩)]
            simp only [zero0]
            exact hJ
          · rw [if_neg h2]
            exact hJ
        have hm : F_X7_change n0 mf_d mf_found p1 p2 p3 = some (-1000001, mf_d, upd mf_found 0 (mf_found 0 + 1)) := by
          unfold F_X7_change J_X7_change_17 J_X7_change_31
          simp only [nm]
          rw [mT_t hN hd0 ht]
          simp only [bd1, one0]
          by_cases h2 : p2 = 0
          · rw [if_pos h2, if_pos h2, in_f (a := 0) (b := 6) (fun h => hk ⟨h2, h⟩)]
            rfl
          · rw [if_neg h2]
            by_cases h3 : p2 = 3
            · rw [if_pos h3, if_neg h2, in_f (a := 0) (b := 1) (fun h => hs ⟨h3, h⟩)]
              rfl
            · rw [if_neg h3]
              rfl
        exact ⟨_, _, _, _, _, _, hx, hm, hC0, hK1, hK2, hK3, fnd_u hF 0 (by decide), hT, hS0, hS1, hS2, hS3, hG⟩
  · have hx : F_X6_change n0 xv_camp_tents xv_camp_said xf_found xf_camp_kinds p1 p2 p3 = some (-1000001, xv_camp_said, upd xf_found 0 (xf_found 0 + 1), xf_camp_kinds) := by
      unfold F_X6_change
      rw [h0, has_f hN ht]
      rfl
    have hm : F_X7_change n0 mf_d mf_found p1 p2 p3 = some (-1000001, mf_d, upd mf_found 0 (mf_found 0 + 1)) := by
      unfold F_X7_change
      rw [mT_f hN hd0 ht]
      rfl
    exact ⟨_, _, _, _, _, _, hx, hm, hC0, hK1, hK2, hK3, fnd_u hF 0 (by decide), hT, hS0, hS1, hS2, hS3, hG⟩
