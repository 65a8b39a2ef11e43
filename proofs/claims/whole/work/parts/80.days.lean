theorem bd1_k {A0 Ro : Type} {a : A0} {k : A0 → Option Ro} : bd1 (some a) k = k a := rfl
theorem bd2_k {A0 A1 Ro : Type} {a : A0} {b : A1} {k : A0 → A1 → Option Ro} : bd2 (some (a, b)) k = k a b := rfl
theorem bd3_k {A0 A1 A2 Ro : Type} {a : A0} {b : A1} {c : A2} {k : A0 → A1 → A2 → Option Ro} : bd3 (some (a, b, c)) k = k a b c := rfl
theorem bd4_k {A0 A1 A2 A3 Ro : Type} {a : A0} {b : A1} {c : A2} {d : A3} {k : A0 → A1 → A2 → A3 → Option Ro} : bd4 (some (a, b, c, d)) k = k a b c d := rfl
theorem day_x {D p : Nat} (hD : D ≤ 999999999) (hp : p ≤ 100000) : nI p ≤ (999999999 : Int32) - nI D ↔ D + p ≤ 999999999 := by
  have h9 : (999999999 : Int32).toInt = 999999999 := by decide
  rw [Int32.le_iff_toInt_le, Int32.toInt_sub, nI_toInt (by omega), nI_toInt (by omega), h9, Int.bmod_eq_of_le (by omega) (by omega)]
  omega
theorem day_m {D p : Nat} (hD : D ≤ 999999999) (hp : p ≤ 100000) : nI (D + p) ≤ (999999999 : Int32) ↔ D + p ≤ 999999999 := by
  have h9 : (999999999 : Int32).toInt = 999999999 := by decide
  rw [Int32.le_iff_toInt_le, nI_toInt (by omega), h9]
  omega
theorem st_days {n0 : Nat} (hn : 2000000 ≤ n0) : St_days n0 := by
  intro xv_isKept xf_found xv_camp_tents xv_camp_said xv_camp_wall xv_camp_bridge xv_camp_counted xv_camp_day xv_camp_z xf_camp_kinds xf_camp_yards xf_camp_spots xv_kept_tents xv_kept_said xv_kept_wall xv_kept_bridge xv_kept_counted xv_kept_day xv_kept_z xf_kept_kinds xf_kept_yards xf_kept_spots xf_ears_hears xf_ears_near xf_ears_gaps xv_tape_size xf_tape_bytes xv_sheets_0_bits xv_sheets_0_size xf_sheets_0_numbers xv_sheets_1_bits xv_sheets_1_size xf_sheets_1_numbers xv_sheets_2_bits xv_sheets_2_size xf_sheets_2_numbers xv_sheets_3_bits xv_sheets_3_size xf_sheets_3_numbers mv_isKept mv_taped mv_gone mv_begin mv_round mf_d mf_kept mf_found mf_tape mf_hears mf_near mf_firstDay mf_daily mf_bitsOf mf_sizeOf mf_number hI p1
  obtain ⟨hC, hK1, hK2, hK3, hF, hT, hS0, hS1, hS2, hS3, hG⟩ := hI
  have hC0 := hC
  obtain ⟨N, hN, h0, hd0, hd1, hd2, hd3, hd4, hd5, hd6, hct, hwl, hbr, hdy, hsa, hA, hKi, hYa, hSp⟩ := hC
  have hC1 := hC0
  rw [h0] at hC1
  obtain ⟨H, M, g', h', n', mh', mn', j1, j2, j3, j4, j5, j6, j7, j8⟩ := both_listen (xg := xf_ears_gaps) (xh := xf_ears_hears) (xn := xf_ears_near) (mh := mf_hears) (mn := mf_near) hn hN hC1
  obtain ⟨m, hm0, hsa⟩ := hsa
  obtain ⟨D, hD1, hD2⟩ := hdy
  by_cases hr : inR 1 100000 p1
  · obtain ⟨p, hp0, hp1, hp2⟩ := inR_nI1 (lo := 1) (hi := 100000) hr
    by_cases hf : D + p ≤ 999999999
    · obtain ⟨B, R, hR⟩ := rho_ex (seq_rg2 (kinds := xf_camp_kinds) (H := H) (M := M) hN hm0)
      obtain ⟨dl, fd, e1, e2⟩ := gt_O (daily := mf_daily) (fd := mf_firstDay) (vb := mv_begin) (vr := mv_round) hn hN hd0 (fun i hi => (hA i hi).1) j5 j6 hm0 hR
      obtain ⟨q, hq1, hq2⟩ := seq_rg (kinds := xf_camp_kinds) (H := H) (M := M) hN hm0 p
      have hq3 : q < 1024 := by have := pow10 hN; omega
      have hx : F_X6_days n0 xv_camp_tents xv_camp_said xv_camp_wall xv_camp_bridge xv_camp_counted xv_camp_day xf_found xf_camp_kinds xf_camp_yards xf_ears_gaps xf_ears_hears xf_ears_near p1 = some (onesE (nI q), nI q, nI (D + p), xf_found, g', h', n') := by
        unfold F_X6_days
        rw [isFrom_t (a := 1) (b := 100000) hr, bd1_k, one0, nmq, hD2, hp2, if_pos ((day_x hD1 hp1).mpr hf), h0, j1, bd3_k, said_O hn hN j3 j4 (by omega), hsa, hq2, bd1_k, nmq, nI_add, vote_s, pop_eq q hq3, bd1_k]
      have hm : F_X7_days n0 mv_gone mv_begin mv_round mf_d mf_daily mf_firstDay mf_found mf_hears mf_near p1 = some (onesE (nI q), nI B, nI R, upd (upd mf_d 6 (nI q)) 1 (nI (D + p)), dl, fd, mf_found, mh', mn') := by
        unfold F_X7_days
        generalize hc : (999999999 : Int32) = c9
        simp only [nmq]
        rw [hG, in_t (a := 1) (b := 100000) hr]
        simp only [bd1, one0]
        rw [rd_l 1 l1 (by decide) (by decide), hd1, hD2, hp2, nI_add, if_pos (show nI (D + p) ≤ c9 from by rw [← hc]; exact (day_m hD1 hp1).mpr hf), j2]
        simp only [bd2]
        rw [rd_l 6 l6 (by decide) (by decide), hd6, hsa, e1]
        simp only [bd4]
        rw [sb_s hR e2 (by omega), hq2]
        simp only []
        rw [wrt_l 6 l6 (by decide) (by decide), rd_l 1 l1 (by decide) (by decide), pk_un (by decide), hd1, hD2, nI_add, wrt_l 1 l1 (by decide) (by decide), rd_l 6 l6 (by decide) (by decide), pk_un (by decide), pk_us, ones_s hn]
      have hC2 := CR_day hf (CR_said hN hq1 hC1)
      rw [← h0] at hC2
      exact ⟨_, _, _, _, _, _, _, _, _, _, _, _, _, _, _, hx, hm, hC2, hK1, hK2, hK3, hF, hT, hS0, hS1, hS2, hS3, hG⟩
    · have hx : F_X6_days n0 xv_camp_tents xv_camp_said xv_camp_wall xv_camp_bridge xv_camp_counted xv_camp_day xf_found xf_camp_kinds xf_camp_yards xf_ears_gaps xf_ears_hears xf_ears_near p1 = some (-1000005, xv_camp_said, xv_camp_day, upd xf_found 4 (xf_found 4 + 1), xf_ears_gaps, xf_ears_hears, xf_ears_near) := by
        unfold F_X6_days
        rw [isFrom_t (a := 1) (b := 100000) hr, bd1_k, one0, nmq, hD2, hp2, if_neg (fun h => hf ((day_x hD1 hp1).mp h))]
        rfl
      have hm : F_X7_days n0 mv_gone mv_begin mv_round mf_d mf_daily mf_firstDay mf_found mf_hears mf_near p1 = some (-1000005, mv_begin, mv_round, mf_d, mf_daily, mf_firstDay, upd mf_found 4 (mf_found 4 + 1), mf_hears, mf_near) := by
        unfold F_X7_days
        generalize hc : (999999999 : Int32) = c9
        simp only [nmq]
        rw [in_t (a := 1) (b := 100000) hr]
        simp only [bd1, one0]
        rw [rd_l 1 l1 (by decide) (by decide), hd1, hD2, hp2, nI_add, if_neg (fun h => hf ((day_m hD1 hp1).mp (by rw [← hc] at h; exact h)))]
        rfl
      exact ⟨_, _, _, _, _, _, _, _, _, _, _, _, _, _, _, hx, hm, hC0, hK1, hK2, hK3, fnd_u hF 4 (by decide), hT, hS0, hS1, hS2, hS3, hG⟩
  · have hx : F_X6_days n0 xv_camp_tents xv_camp_said xv_camp_wall xv_camp_bridge xv_camp_counted xv_camp_day xf_found xf_camp_kinds xf_camp_yards xf_ears_gaps xf_ears_hears xf_ears_near p1 = some (-1000001, xv_camp_said, xv_camp_day, upd xf_found 0 (xf_found 0 + 1), xf_ears_gaps, xf_ears_hears, xf_ears_near) := by
      unfold F_X6_days
      rw [isFrom_f (a := 1) (b := 100000) hr]
      rfl
    have hm : F_X7_days n0 mv_gone mv_begin mv_round mf_d mf_daily mf_firstDay mf_found mf_hears mf_near p1 = some (-1000001, mv_begin, mv_round, mf_d, mf_daily, mf_firstDay, upd mf_found 0 (mf_found 0 + 1), mf_hears, mf_near) := by
      unfold F_X7_days
      simp only [nmq]
      rw [in_f (a := 1) (b := 100000) hr]
      rfl
    exact ⟨_, _, _, _, _, _, _, _, _, _, _, _, _, _, _, hx, hm, hC0, hK1, hK2, hK3, fnd_u hF 0 (by decide), hT, hS0, hS1, hS2, hS3, hG⟩
