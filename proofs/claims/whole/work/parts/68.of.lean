/-! of, now -/
theorem st_of {n0 : Nat} (hn : 2000000 ≤ n0) : St_of n0 := by
  intro xv_isKept xf_found xv_camp_tents xv_camp_said xv_camp_wall xv_camp_bridge xv_camp_counted xv_camp_day xv_camp_z xf_camp_kinds xf_camp_yards xf_camp_spots xv_kept_tents xv_kept_said xv_kept_wall xv_kept_bridge xv_kept_counted xv_kept_day xv_kept_z xf_kept_kinds xf_kept_yards xf_kept_spots xf_ears_hears xf_ears_near xf_ears_gaps xv_tape_size xf_tape_bytes xv_sheets_0_bits xv_sheets_0_size xf_sheets_0_numbers xv_sheets_1_bits xv_sheets_1_size xf_sheets_1_numbers xv_sheets_2_bits xv_sheets_2_size xf_sheets_2_numbers xv_sheets_3_bits xv_sheets_3_size xf_sheets_3_numbers mv_isKept mv_taped mv_gone mf_d mf_kept mf_found mf_tape mf_hears mf_near mf_bitsOf mf_sizeOf mf_number hI p1 p2
  obtain ⟨hC, hK1, hK2, hK3, hF, hT, hS0, hS1, hS2, hS3, hG⟩ := hI
  have hC0 := hC
  obtain ⟨N, hN, h0, hd0, hd1, hd2, hd3, hd4, hd5, hd6, hct, hwl, hbr, hdy, hsa, hA, hKi, hYa, hSp⟩ := hC
  have hC1 := hC0
  rw [h0] at hC1
  by_cases ht : isT N p1
  · obtain ⟨H, M, g', h', n', mh', mn', j1, j2, j3, j4, j5, j6, j7, j8⟩ := both_listen (xg := xf_ears_gaps) (xh := xf_ears_hears) (xn := xf_ears_near) (mh := mf_hears) (mn := mf_near) hn hN hC1
    by_cases hr : inR 0 7 p2
    · obtain ⟨t, ht1, hp1⟩ := isT_nI ht
      obtain ⟨k, hk1, hk2⟩ := inR_nI (hi := 7) hr
      rcases (show k = 0 ∨ k = 1 ∨ k = 2 ∨ k = 3 ∨ k = 4 ∨ k = 5 ∨ k = 6 ∨ k = 7 by omega) with hk | hk | hk | hk | hk | hk | hk | hk
      · have hp : p2 = 0 := by rw [hk2, hk]; rfl
        have hx : F_X6_of n0 xv_camp_tents xv_camp_said xv_camp_wall xv_camp_bridge xv_camp_counted xf_found xf_camp_kinds xf_camp_yards xf_ears_gaps xf_ears_hears xf_ears_near p1 p2 = some (xf_camp_kinds t, xf_found, g', h', n') := by
          unfold F_X6_of
          rw [h0, has_t hN ht]
          simp only [bd1, one0]
          rw [j1]
          simp only [bd3]
          rw [if_pos hp, hp1, rd_nI (by omega) (by decide)]
        have hm : F_X7_of n0 mv_gone mf_d mf_found mf_hears mf_near p1 p2 = some (xf_camp_kinds t, mf_found, mh', mn') := by
          unfold F_X7_of
          rw [hG]
          simp only [nm]
          rw [mT_t hN hd0 ht, in_t (a := 0) (b := 7) hr]
          simp only [bd1, one0]
          rw [j2]
          simp only [bd2]
          rw [if_pos hp, hp1, mKd (by omega), (hA t (by omega)).1]
        exact ⟨_, _, _, _, _, _, _, _, hx, hm, hC0, hK1, hK2, hK3, hF, hT, hS0, hS1, hS2, hS3, hG⟩
      · have hp : p2 = 1 := by rw [hk2, hk]; rfl
        have hx : F_X6_of n0 xv_camp_tents xv_camp_said xv_camp_wall xv_camp_bridge xv_camp_counted xf_found xf_camp_kinds xf_camp_yards xf_ears_gaps xf_ears_hears xf_ears_near p1 p2 = some (xf_camp_yards t - xf_camp_yards t / 12 * 12, xf_found, g', h', n') := by
          unfold F_X6_of
          rw [h0, has_t hN ht]
          simp only [bd1, one0]
          rw [j1]
          simp only [bd3]
          rw [if_neg (show ¬ p2 = 0 from by rw [hp]; decide), if_pos hp, hp1, rd_nI (by omega) (by decide), dv12]
        have hm : F_X7_of n0 mv_gone mf_d mf_found mf_hears mf_near p1 p2 = some (xf_camp_yards t - xf_camp_yards t / 12 * 12, mf_found, mh', mn') := by
          unfold F_X7_of
          rw [hG]
          simp only [nm]
          rw [mT_t hN hd0 ht, in_t (a := 0) (b := 7) hr]
          simp only [bd1, one0]
          rw [j2]
          simp only [bd2]
          rw [if_neg (show ¬ p2 = 0 from by rw [hp]; decide), if_pos hp, hp1, mYd (by omega), (hA t (by omega)).2.1]
          simp only []
          rw [dv12]
        exact ⟨_, _, _, _, _, _, _, _, hx, hm, hC0, hK1, hK2, hK3, hF, hT, hS0, hS1, hS2, hS3, hG⟩
      · have hp : p2 = 2 := by rw [hk2, hk]; rfl
        have hx : F_X6_of n0 xv_camp_tents xv_camp_said xv_camp_wall xv_camp_bridge xv_camp_counted xf_found xf_camp_kinds xf_camp_yards xf_ears_gaps xf_ears_hears xf_ears_near p1 p2 = some (xf_camp_yards t / 12, xf_found, g', h', n') := by
          unfold F_X6_of
          rw [h0, has_t hN ht]
          simp only [bd1, one0]
          rw [j1]
          simp only [bd3]
          rw [if_neg (show ¬ p2 = 0 from by rw [hp]; decide), if_neg (show ¬ p2 = 1 from by rw [hp]; decide), if_pos hp, hp1, rd_nI (by omega) (by decide), dv12]
        have hm : F_X7_of n0 mv_gone mf_d mf_found mf_hears mf_near p1 p2 = some (xf_camp_yards t / 12, mf_found, mh', mn') := by
          unfold F_X7_of
          rw [hG]
          simp only [nm]
          rw [mT_t hN hd0 ht, in_t (a := 0) (b := 7) hr]
          simp only [bd1, one0]
          rw [j2]
          simp only [bd2]
          rw [if_neg (show ¬ p2 = 0 from by rw [hp]; decide), if_neg (show ¬ p2 = 1 from by rw [hp]; decide), if_pos hp, hp1, mYd (by omega), (hA t (by omega)).2.1]
          simp only []
          rw [dv12]
        exact ⟨_, _, _, _, _, _, _, _, hx, hm, hC0, hK1, hK2, hK3, hF, hT, hS0, hS1, hS2, hS3, hG⟩
      · have hp : p2 = 3 := by rw [hk2, hk]; rfl
        have hx : F_X6_of n0 xv_camp_tents xv_camp_said xv_camp_wall xv_camp_bridge xv_camp_counted xf_found xf_camp_kinds xf_camp_yards xf_ears_gaps xf_ears_hears xf_ears_near p1 p2 = some (bitB xv_camp_said t, xf_found, g', h', n') := by
          unfold F_X6_of
          rw [h0, has_t hN ht]
          simp only [bd1, one0]
          rw [j1]
          simp only [bd3]
          rw [if_neg (show ¬ p2 = 0 from by rw [hp]; decide), if_neg (show ¬ p2 = 1 from by rw [hp]; decide), if_neg (show ¬ p2 = 2 from by rw [hp]; decide), if_pos hp, hp1, wordOf_s]
        have hm : F_X7_of n0 mv_gone mf_d mf_found mf_hears mf_near p1 p2 = some (bitB xv_camp_said t, mf_found, mh', mn') := by
          unfold F_X7_of
          rw [hG]
          simp only [nm]
          rw [mT_t hN hd0 ht, in_t (a := 0) (b := 7) hr]
          simp only [bd1, one0]
          rw [j2]
          simp only [bd2]
          rw [if_neg (show ¬ p2 = 0 from by rw [hp]; decide), if_neg (show ¬ p2 = 1 from by rw [hp]; decide), if_neg (show ¬ p2 = 2 from by rw [hp]; decide), if_pos hp, hp1, saysNow_s, hd6]
        exact ⟨_, _, _, _, _, _, _, _, hx, hm, hC0, hK1, hK2, hK3, hF, hT, hS0, hS1, hS2, hS3, hG⟩
      · have hp : p2 = 4 := by rw [hk2, hk]; rfl
        have hx : F_X6_of n0 xv_camp_tents xv_camp_said xv_camp_wall xv_camp_bridge xv_camp_counted xf_found xf_camp_kinds xf_camp_yards xf_ears_gaps xf_ears_hears xf_ears_near p1 p2 = some (cod (H t), xf_found, g', h', n') := by
          unfold F_X6_of
          rw [h0, has_t hN ht]
          simp only [bd1, one0]
          rw [j1]
          simp only [bd3]
          rw [if_neg (show ¬ p2 = 0 from by rw [hp]; decide), if_neg (show ¬ p2 = 1 from by rw [hp]; decide), if_neg (show ¬ p2 = 2 from by rw [hp]; decide), if_neg (show ¬ p2 = 3 from by rw [hp]; decide), if_pos hp, hp1, rd_nI (by omega) (by decide), (j3 t ht1).1]
        have hm : F_X7_of n0 mv_gone mf_d mf_found mf_hears mf_near p1 p2 = some (cod (H t), mf_found, mh', mn') := by
          unfold F_X7_of
          rw [hG]
          simp only [nm]
          rw [mT_t hN hd0 ht, in_t (a := 0) (b := 7) hr]
          simp only [bd1, one0]
          rw [j2]
          simp only [bd2]
          rw [if_neg (show ¬ p2 = 0 from by rw [hp]; decide), if_neg (show ¬ p2 = 1 from by rw [hp]; decide), if_neg (show ¬ p2 = 2 from by rw [hp]; decide), if_neg (show ¬ p2 = 3 from by rw [hp]; decide), if_pos hp, hp1, rd_nI (by omega) (by decide), (j5 t ht1).1]
        exact ⟨_, _, _, _, _, _, _, _, hx, hm, hC0, hK1, hK2, hK3, hF, hT, hS0, hS1, hS2, hS3, hG⟩
      · have hp : p2 = 5 := by rw [hk2, hk]; rfl
        have hx : F_X6_of n0 xv_camp_tents xv_camp_said xv_camp_wall xv_camp_bridge xv_camp_counted xf_found xf_camp_kinds xf_camp_yards xf_ears_gaps xf_ears_hears xf_ears_near p1 p2 = some (wS xf_camp_kinds h' n' xv_camp_said t, xf_found, g', h', n') := by
          unfold F_X6_of
          rw [h0, has_t hN ht]
          simp only [bd1, one0]
          rw [j1]
          simp only [bd3]
          rw [if_neg (show ¬ p2 = 0 from by rw [hp]; decide), if_neg (show ¬ p2 = 1 from by rw [hp]; decide), if_neg (show ¬ p2 = 2 from by rw [hp]; decide), if_neg (show ¬ p2 = 3 from by rw [hp]; decide), if_neg (show ¬ p2 = 4 from by rw [hp]; decide), if_pos hp, hp1, will_s (by omega)]
        have hm : F_X7_of n0 mv_gone mf_d mf_found mf_hears mf_near p1 p2 = some (wS xf_camp_kinds h' n' xv_camp_said t, mf_found, mh', mn') := by
          unfold F_X7_of
          rw [hG]
          simp only [nm]
          rw [mT_t hN hd0 ht, in_t (a := 0) (b := 7) hr]
          simp only [bd1, one0]
          rw [j2]
          simp only [bd2]
          rw [if_neg (show ¬ p2 = 0 from by rw [hp]; decide), if_neg (show ¬ p2 = 1 from by rw [hp]; decide), if_neg (show ¬ p2 = 2 from by rw [hp]; decide), if_neg (show ¬ p2 = 3 from by rw [hp]; decide), if_neg (show ¬ p2 = 4 from by rw [hp]; decide), if_pos hp, hp1, rd_l 6 l6 (by decide) (by decide), hd6, mwill_s (by omega) (hA t (by omega)).1, wS_congr (h2 := h') (n2 := n') ((j5 t ht1).1.trans (j3 t ht1).1.symm) ((j6 t ht1).1.trans (j4 t ht1).1.symm)]
        exact ⟨_, _, _, _, _, _, _, _, hx, hm, hC0, hK1, hK2, hK3, hF, hT, hS0, hS1, hS2, hS3, hG⟩
      · have hp : p2 = 6 := by rw [hk2, hk]; rfl
        have hx : F_X6_of n0 xv_camp_tents xv_camp_said xv_camp_wall xv_camp_bridge xv_camp_counted xf_found xf_camp_kinds xf_camp_yards xf_ears_gaps xf_ears_hears xf_ears_near p1 p2 = some (lineF H (N + 1) (some t) 0, xf_found, g', h', n') := by
          unfold F_X6_of
          rw [h0, has_t hN ht]
          simp only [bd1, one0]
          rw [j1]
          simp only [bd3]
          rw [if_neg (show ¬ p2 = 0 from by rw [hp]; decide), if_neg (show ¬ p2 = 1 from by rw [hp]; decide), if_neg (show ¬ p2 = 2 from by rw [hp]; decide), if_neg (show ¬ p2 = 3 from by rw [hp]; decide), if_neg (show ¬ p2 = 4 from by rw [hp]; decide), if_neg (show ¬ p2 = 5 from by rw [hp]; decide), if_pos hp, hp1, line_s hn hN j3 ht1]
        have hm : F_X7_of n0 mv_gone mf_d mf_found mf_hears mf_near p1 p2 = some (lineF H (N + 1) (some t) 0, mf_found, mh', mn') := by
          unfold F_X7_of
          rw [hG]
          simp only [nm]
          rw [mT_t hN hd0 ht, in_t (a := 0) (b := 7) hr]
          simp only [bd1, one0]
          rw [j2]
          simp only [bd2]
          rw [if_neg (show ¬ p2 = 0 from by rw [hp]; decide), if_neg (show ¬ p2 = 1 from by rw [hp]; decide), if_neg (show ¬ p2 = 2 from by rw [hp]; decide), if_neg (show ¬ p2 = 3 from by rw [hp]; decide), if_neg (show ¬ p2 = 4 from by rw [hp]; decide), if_neg (show ¬ p2 = 5 from by rw [hp]; decide), if_pos hp, hp1, mline_s hn hN j5 ht1]
        exact ⟨_, _, _, _, _, _, _, _, hx, hm, hC0, hK1, hK2, hK3, hF, hT, hS0, hS1, hS2, hS3, hG⟩
      · have hp : p2 = 7 := by rw [hk2, hk]; rfl
        have hx : F_X6_of n0 xv_camp_tents xv_camp_said xv_camp_wall xv_camp_bridge xv_camp_counted xf_found xf_camp_kinds xf_camp_yards xf_ears_gaps xf_ears_hears xf_ears_near p1 p2 = some (bsF (folB H N t) N, xf_found, g', h', n') := by
          unfold F_X6_of
          rw [h0, has_t hN ht]
          simp only [bd1, one0]
          rw [j1]
          simp only [bd3]
          rw [if_neg (show ¬ p2 = 0 from by rw [hp]; decide), if_neg (show ¬ p2 = 1 from by rw [hp]; decide), if_neg (show ¬ p2 = 2 from by rw [hp]; decide), if_neg (show ¬ p2 = 3 from by rw [hp]; decide), if_neg (show ¬ p2 = 4 from by rw [hp]; decide), if_neg (show ¬ p2 = 5 from by rw [hp]; decide), if_neg (show ¬ p2 = 6 from by rw [hp]; decide), if_pos hp, hp1, fol_s hn hN j3 (by omega)]
        have hm : F_X7_of n0 mv_gone mf_d mf_found mf_hears mf_near p1 p2 = some (bsF (folB H N t) N, mf_found, mh', mn') := by
          unfold F_X7_of
          rw [hG]
          simp only [nm]
          rw [mT_t hN hd0 ht, in_t (a := 0) (b := 7) hr]
          simp only [bd1, one0]
          rw [j2]
          simp only [bd2]
          rw [if_neg (show ¬ p2 = 0 from by rw [hp]; decide), if_neg (show ¬ p2 = 1 from by rw [hp]; decide), if_neg (show ¬ p2 = 2 from by rw [hp]; decide), if_neg (show ¬ p2 = 3 from by rw [hp]; decide), if_neg (show ¬ p2 = 4 from by rw [hp]; decide), if_neg (show ¬ p2 = 5 from by rw [hp]; decide), if_neg (show ¬ p2 = 6 from by rw [hp]; decide), hp1, mfol_s hn hN hd0 j5 (by omega)]
        exact ⟨_, _, _, _, _, _, _, _, hx, hm, hC0, hK1, hK2, hK3, hF, hT, hS0, hS1, hS2, hS3, hG⟩
    · have hn7 : ∀ c : Nat, c ≤ 7 → ¬ p2 = nI c := fun c hc he => hr (by rw [he]; exact ⟨by rw [nI_toInt (by omega)]; omega, by rw [nI_toInt (by omega)]; omega⟩)
      have hx : F_X6_of n0 xv_camp_tents xv_camp_said xv_camp_wall xv_camp_bridge xv_camp_counted xf_found xf_camp_kinds xf_camp_yards xf_ears_gaps xf_ears_hears xf_ears_near p1 p2 = some (-1000001, upd xf_found 0 (xf_found 0 + 1), g', h', n') := by
        unfold F_X6_of
        rw [h0, has_t hN ht]
        simp only [bd1, one0]
        rw [j1]
        simp only [bd3]
        rw [if_neg (show ¬ p2 = 0 from hn7 0 (by decide)), if_neg (show ¬ p2 = 1 from hn7 1 (by decide)), if_neg (show ¬ p2 = 2 from hn7 2 (by decide)), if_neg (show ¬ p2 = 3 from hn7 3 (by decide)), if_neg (show ¬ p2 = 4 from hn7 4 (by decide)), if_neg (show ¬ p2 = 5 from hn7 5 (by decide)), if_neg (show ¬ p2 = 6 from hn7 6 (by decide)), if_neg (show ¬ p2 = 7 from hn7 7 (by decide))]
        rfl
      have hm : F_X7_of n0 mv_gone mf_d mf_found mf_hears mf_near p1 p2 = some (-1000001, upd mf_found 0 (mf_found 0 + 1), mf_hears, mf_near) := by
        unfold F_X7_of
        rw [hG]
        simp only [nm]
        rw [mT_t hN hd0 ht, in_f (a := 0) (b := 7) hr]
        rfl
      exact ⟨_, _, _, _, _, _, _, _, hx, hm, hC0, hK1, hK2, hK3, fnd_u hF 0 (by decide), hT, hS0, hS1, hS2, hS3, hG⟩
  · have hx : F_X6_of n0 xv_camp_tents xv_camp_said xv_camp_wall xv_camp_bridge xv_camp_counted xf_found xf_camp_kinds xf_camp_yards xf_ears_gaps xf_ears_hears xf_ears_near p1 p2 = some (-1000001, upd xf_found 0 (xf_found 0 + 1), xf_ears_gaps, xf_ears_hears, xf_ears_near) := by
      unfold F_X6_of
      rw [h0, has_f hN ht]
      rfl
    have hm : F_X7_of n0 mv_gone mf_d mf_found mf_hears mf_near p1 p2 = some (-1000001, upd mf_found 0 (mf_found 0 + 1), mf_hears, mf_near) := by
      unfold F_X7_of
      rw [hG]
      rw [mT_f hN hd0 ht]
      rfl
    exact ⟨_, _, _, _, _, _, _, _, hx, hm, hC0, hK1, hK2, hK3, fnd_u hF 0 (by decide), hT, hS0, hS1, hS2, hS3, hG⟩
