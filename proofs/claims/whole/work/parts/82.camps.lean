/-! camps -/
theorem cs_i {n0 N : Nat} {kinds spots : Nat → Int32} {said wall bridge counted day s11 s12 : Int32} {xg xh xn mh mn : Nat → Int32} {kk : Int32 → Int32 → (Nat → Int32) → (Nat → Int32) → (Nat → Int32) → (Nat → Int32) → Int32 → Option (Int32 × Int32 × Int32 × Int32 × Int32 × Int32 × Int32 × Int32 × Int32 × (Nat → Int32) × (Nat → Int32) × (Nat → Int32) × (Nat → Int32) × (Nat → Int32) × (Nat → Int32))} {ll : Int32 → Int32 → (Nat → Int32) → (Nat → Int32) → (Nat → Int32) → Option (Int32 × (Nat → Int32) × (Nat → Int32) × (Nat → Int32) × (Nat → Int32) × (Nat → Int32))} (hn : 2000000 ≤ n0) (hN : N ≤ 10) : ∀ (k i n : Nat) (yards d : Nat → Int32) (z : Int32), i + k = N → k < n → CR kinds yards spots (nI N) said wall bridge counted day z d → ∃ (x z' : Int32) (yards' d' g' h' n' mh' mn' : Nat → Int32), CR kinds yards' spots (nI N) said wall bridge counted day z' d' ∧ L_X4_pairsOfCamps_23 (nI N) n0 wall bridge counted xg xh xn kinds s11 s12 kk n (nI i) yards z = kk (s11 + x) (s12 + 1) g' h' n' yards' z' ∧ L_X7_camps_56 n0 (-1) mh mn s11 s12 ll n (nI i) d = ll (s11 + x) (s12 + 1) d' mh' mn' := by
  intro k
  induction k with
  | zero =>
    intro i n yards d z h1 h2 hC
    obtain ⟨n, rfl⟩ : ∃ q, n = q + 1 := ⟨n - 1, by omega⟩
    obtain ⟨H, M, g', h', n', mh', mn', j1, j2, j3, j4, j5, j6, j7, j8⟩ := both_listen (xg := xg) (xh := xh) (xn := xn) (mh := mh) (mn := mn) hn hN hC
    obtain ⟨hd0, _, _⟩ := CR_N hN hC
    refine ⟨nI (cntF (pgB H) N 0 0), z, yards, d, g', h', n', mh', mn', hC, ?_, ?_⟩
    · rw [L_X4_pairsOfCamps_23_u, if_pos (nI_le (by omega) (by omega)), j1, bd3_k, cp_s hn hN j3 j7, bd1_k, nmq, nmq]
    · rw [L_X7_camps_56_u, rd_l 0 l0 (by decide) (by decide), hd0, if_pos (nI_le (by omega) (by omega)), j2, bd2_k, mps_s hn hN hd0 j5, bd1_k, nmq, nmq]
  | succ k ih =>
    intro i n yards d z h1 h2 hC
    obtain ⟨n, rfl⟩ : ∃ q, n = q + 1 := ⟨n - 1, by omega⟩
    obtain ⟨q, z1, hq, he, hed⟩ := draw_ex n0 z
    have hy : q % 144 < 144 := Nat.mod_lt _ (by decide)
    have hC1 : CR kinds yards spots (nI N) said wall bridge counted day z1 (upd d 2 z1) := CR_z hC
    obtain ⟨hd0, hd2, hdy⟩ := CR_N hN hC
    obtain ⟨hd0', hd2', hdy'⟩ := CR_N hN hC1
    have hC3 := CR_go (N := N) (t := i) (y := q % 144) (by omega) hy hC1
    obtain ⟨x, z', yards', d', g', h', n', mh', mn', e1, e2, e3⟩ := ih (i + 1) n _ _ _ (by omega) (by omega) hC3
    refine ⟨x, z', yards', d', g', h', n', mh', mn', e1, ?_, ?_⟩
    · rw [L_X4_pairsOfCamps_23_u, if_neg (nI_ge (by omega) (by omega)), stray_s hn hN (by omega) hq he, bd2_k, nmq, nI_1]
      exact e2
    · rw [L_X7_camps_56_u, rd_l 0 l0 (by decide) (by decide), hd0, if_neg (nI_ge (by omega) (by omega)), hed d hd2, bd2_k, dv144, show nI q - nI q / 144 * 144 = nI (q % 144) from pk_rem (a := q) (d := 144) (by omega) (by decide) (by decide), goes_s hn hN hd0' hdy' (by omega), bd1_k, nmq, nI_1]
      exact e3
theorem cs_o {n0 N p : Nat} {kinds spots g4 found : Nat → Int32} {said wall bridge counted day : Int32} (hn : 2000000 ≤ n0) (hN : N ≤ 10) (hp : p ≤ 12) : ∀ (k j n : Nat) (s z : Int32) (yards d xg xh xn mh mn : Nat → Int32), j + k = p → k < n → CR kinds yards spots (nI N) said wall bridge counted day z d → ∃ (r z' : Int32) (Y' D' g' h' n' mh' mn' : Nat → Int32), (∀ i : Nat, i < 40 → D' i = upd g4 2 z' i) ∧ L_X4_pairsOfCamps_15 (nI p) (nI N) said wall bridge counted day kinds spots n0 n s (nI j) xg xh xn yards z = some (r, z', nI N, said, wall, bridge, counted, day, z', g', h', n', kinds, spots, Y') ∧ L_X7_camps_48 (nI p) n0 g4 found (-1) n s (nI j) d mh mn = some (r, D', g4, found, mh', mn') := by
  intro k
  induction k with
  | zero =>
    intro j n s z yards d xg xh xn mh mn h1 h2 hC
    obtain ⟨n, rfl⟩ : ∃ q, n = q + 1 := ⟨n - 1, by omega⟩
    obtain ⟨hd0, hd2, _⟩ := CR_N hN hC
    refine ⟨s, z, yards, upd (fun i => if i < 40 then g4 i else d i) 2 z, xg, xh, xn, mh, mn, fun i hi => ?_, ?_, ?_⟩
    · by_cases h : i = 2
      · subst h; rw [pk_us, pk_us]
      · rw [pk_un h, pk_un h]
        exact if_pos hi
    · rw [L_X4_pairsOfCamps_15_u, if_pos (nI_le (by omega) (by omega))]
    · rw [L_X7_camps_48_u, if_pos (nI_le (by omega) (by omega)), rd_l 2 l2 (by decide) (by decide), hd2, copies_s hn, bd1_k, wrt_l 2 l2 (by decide) (by decide)]
  | succ k ih =>
    intro j n s z yards d xg xh xn mh mn h1 h2 hC
    obtain ⟨n, rfl⟩ : ∃ q, n = q + 1 := ⟨n - 1, by omega⟩
    obtain ⟨x, z1, yards1, d1, g1, h3, n1, mh1, mn1, e1, e2, e3⟩ := cs_i (s11 := s) (s12 := nI j) (xg := xg) (xh := xh) (xn := xn) (mh := mh) (mn := mn) (kk := L_X4_pairsOfCamps_15 (nI p) (nI N) said wall bridge counted day kinds spots n0 n) (ll := L_X7_camps_48 (nI p) n0 g4 found (-1) n) hn hN N 0 n0 yards d z (by omega) (by omega) hC
    rw [nI_0, nI_1] at e2 e3
    obtain ⟨r, z', Y', D', g', h', n', mh', mn', f1, f2, f3⟩ := ih (j + 1) n (s + x) z1 yards1 d1 g1 h3 n1 mh1 mn1 (by omega) (by omega) e1
    refine ⟨r, z', Y', D', g', h', n', mh', mn', f1, ?_, ?_⟩
    · rw [L_X4_pairsOfCamps_15_u, if_neg (nI_ge (by omega) (by omega)), e2]
      exact f2
    · rw [L_X7_camps_48_u, if_neg (nI_ge (by omega) (by omega)), e3]
      exact f3
theorem st_camps {n0 : Nat} (hn : 2000000 ≤ n0) : St_camps n0 := by
  intro xv_isKept xf_found xv_camp_tents xv_camp_said xv_camp_wall xv_camp_bridge xv_camp_counted xv_camp_day xv_camp_z xf_camp_kinds xf_camp_yards xf_camp_spots xv_kept_tents xv_kept_said xv_kept_wall xv_kept_bridge xv_kept_counted xv_kept_day xv_kept_z xf_kept_kinds xf_kept_yards xf_kept_spots xv_trials_trial_tents xv_trials_trial_said xv_trials_trial_wall xv_trials_trial_bridge xv_trials_trial_counted xv_trials_trial_day xv_trials_trial_z xf_trials_trial_kinds xf_trials_trial_yards xf_trials_trial_spots xf_trials_ears_hears xf_trials_ears_near xf_trials_ears_gaps xv_tape_size xf_tape_bytes xv_sheets_0_bits xv_sheets_0_size xf_sheets_0_numbers xv_sheets_1_bits xv_sheets_1_size xf_sheets_1_numbers xv_sheets_2_bits xv_sheets_2_size xf_sheets_2_numbers xv_sheets_3_bits xv_sheets_3_size xf_sheets_3_numbers mv_isKept mv_taped mv_gone mf_d mf_e mf_kept mf_found mf_tape mf_hears mf_near mf_bitsOf mf_sizeOf mf_number hI p1
  obtain ⟨hC, hK1, hK2, hK3, hF, hT, hS0, hS1, hS2, hS3, hG⟩ := hI
  have hC0 := hC
  obtain ⟨N, hN, h0, hd0, hd1, hd2, hd3, hd4, hd5, hd6, hct, hwl, hbr, hdy, hsa, hA, hKi, hYa, hSp⟩ := hC
  have hC1 := hC0
  rw [h0] at hC1
  by_cases hr : inR 1 12 p1
  · obtain ⟨p, hp0, hp1, hp2⟩ := inR_nI1 (lo := 1) (hi := 12) hr
    by_cases hz : N = 0
    · subst hz
      have hx : F_X6_camps n0 xv_camp_tents xv_camp_said xv_camp_wall xv_camp_bridge xv_camp_counted xv_camp_day xv_camp_z xf_found xf_camp_kinds xf_camp_spots xf_camp_yards xv_trials_trial_tents xv_trials_trial_said xv_trials_trial_wall xv_trials_trial_bridge xv_trials_trial_counted xv_trials_trial_day xv_trials_trial_z xf_trials_ears_gaps xf_trials_ears_hears xf_trials_ears_near xf_trials_trial_kinds xf_trials_trial_spots xf_trials_trial_yards p1 = some (-1000005, xv_camp_z, upd xf_found 4 (xf_found 4 + 1), xv_trials_trial_tents, xv_trials_trial_said, xv_trials_trial_wall, xv_trials_trial_bridge, xv_trials_trial_counted, xv_trials_trial_day, xv_trials_trial_z, xf_trials_ears_gaps, xf_trials_ears_hears, xf_trials_ears_near, xf_trials_trial_kinds, xf_trials_trial_spots, xf_trials_trial_yards) := by
        unfold F_X6_camps
        rw [isFrom_t (a := 1) (b := 12) hr, bd1_k, one0, h0, if_pos (show nI 0 = 0 from rfl)]
        rfl
      have hm : F_X7_camps n0 mv_gone mf_d mf_e mf_found mf_hears mf_near p1 = some (-1000005, mf_d, mf_e, upd mf_found 4 (mf_found 4 + 1), mf_hears, mf_near) := by
        unfold F_X7_camps
        rw [nmq, in_t (a := 1) (b := 12) hr, bd1_k, one0, rd_l 0 l0 (by decide) (by decide), hd0, if_pos (show nI 0 = 0 from rfl)]
        rfl
      exact ⟨_, _, _, _, _, _, _, _, _, _, _, _, _, _, _, _, _, _, _, _, _, hx, hm, hC0, hK1, hK2, hK3, fnd_u hF 4 (by decide), hT, hS0, hS1, hS2, hS3, hG⟩
    · have hC2 : CR (va_cpy xf_camp_kinds xf_trials_trial_kinds 0 0 10) (va_cpy xf_camp_yards xf_trials_trial_yards 0 0 10) (va_cpy xf_camp_spots xf_trials_trial_spots 0 0 10) (nI N) xv_camp_said xv_camp_wall xv_camp_bridge xv_camp_counted xv_camp_day xv_camp_z mf_d := CR_copy hC1 (fun i hi => cpy10 hi) (fun i hi => cpy10 hi) (fun i hi => cpy10 hi) (fun _ _ => rfl)
      obtain ⟨r, z', Y', D', g', h', n', mh', mn', f1, f2, f3⟩ := cs_o (g4 := fun i => if i < 40 then mf_d i else mf_e i) (found := mf_found) hn hN hp1 p 0 n0 0 xv_camp_z _ mf_d xf_trials_ears_gaps xf_trials_ears_hears xf_trials_ears_near mf_hears mf_near (by omega) (by omega) hC2
      rw [nI_0] at f2 f3
      have hx : F_X6_camps n0 xv_camp_tents xv_camp_said xv_camp_wall xv_camp_bridge xv_camp_counted xv_camp_day xv_camp_z xf_found xf_camp_kinds xf_camp_spots xf_camp_yards xv_trials_trial_tents xv_trials_trial_said xv_trials_trial_wall xv_trials_trial_bridge xv_trials_trial_counted xv_trials_trial_day xv_trials_trial_z xf_trials_ears_gaps xf_trials_ears_hears xf_trials_ears_near xf_trials_trial_kinds xf_trials_trial_spots xf_trials_trial_yards p1 = some (r, z', xf_found, nI N, xv_camp_said, xv_camp_wall, xv_camp_bridge, xv_camp_counted, xv_camp_day, z', g', h', n', va_cpy xf_camp_kinds xf_trials_trial_kinds 0 0 10, va_cpy xf_camp_spots xf_trials_trial_spots 0 0 10, Y') := by
        unfold F_X6_camps
        rw [isFrom_t (a := 1) (b := 12) hr, bd1_k, one0, h0, if_neg (fun h => hz ((nI_z hN).mp h))]
        unfold F_X4_pairsOfCamps
        rw [become_s hct]
        simp only [bd10]
        rw [hp2, f2]
        rfl
      have hm : F_X7_camps n0 mv_gone mf_d mf_e mf_found mf_hears mf_near p1 = some (r, D', (fun i => if i < 40 then mf_d i else mf_e i), mf_found, mh', mn') := by
        unfold F_X7_camps
        rw [nmq, in_t (a := 1) (b := 12) hr, bd1_k, one0, rd_l 0 l0 (by decide) (by decide), hd0, if_neg (fun h => hz ((nI_z hN).mp h)), copies_s hn, bd1_k, hp2, hG]
        exact f3
      have hC5 : CR xf_camp_kinds xf_camp_yards xf_camp_spots xv_camp_tents xv_camp_said xv_camp_wall xv_camp_bridge xv_camp_counted xv_camp_day z' D' := CR_copy (CR_z hC0) (fun _ _ => rfl) (fun _ _ => rfl) (fun _ _ => rfl) (fun j hj => by
        rw [f1 j hj]
        by_cases h : j = 2
        · subst h; rw [pk_us, pk_us]
        · rw [pk_un h, pk_un h]
          exact if_pos hj)
      exact ⟨_, _, _, _, _, _, _, _, _, _, _, _, _, _, _, _, _, _, _, _, _, hx, hm, hC5, hK1, hK2, hK3, hF, hT, hS0, hS1, hS2, hS3, hG⟩
  · have hx : F_X6_camps n0 xv_camp_tents xv_camp_said xv_camp_wall xv_camp_bridge xv_camp_counted xv_camp_day xv_camp_z xf_found xf_camp_kinds xf_camp_spots xf_camp_yards xv_trials_trial_tents xv_trials_trial_said xv_trials_trial_wall xv_trials_trial_bridge xv_trials_trial_counted xv_trials_trial_day xv_trials_trial_z xf_trials_ears_gaps xf_trials_ears_hears xf_trials_ears_near xf_trials_trial_kinds xf_trials_trial_spots xf_trials_trial_yards p1 = some (-1000001, xv_camp_z, upd xf_found 0 (xf_found 0 + 1), xv_trials_trial_tents, xv_trials_trial_said, xv_trials_trial_wall, xv_trials_trial_bridge, xv_trials_trial_counted, xv_trials_trial_day, xv_trials_trial_z, xf_trials_ears_gaps, xf_trials_ears_hears, xf_trials_ears_near, xf_trials_trial_kinds, xf_trials_trial_spots, xf_trials_trial_yards) := by
      unfold F_X6_camps
      rw [isFrom_f (a := 1) (b := 12) hr]
      rfl
    have hm : F_X7_camps n0 mv_gone mf_d mf_e mf_found mf_hears mf_near p1 = some (-1000001, mf_d, mf_e, upd mf_found 0 (mf_found 0 + 1), mf_hears, mf_near) := by
      unfold F_X7_camps
      rw [nmq, in_f (a := 1) (b := 12) hr]
      rfl
    exact ⟨_, _, _, _, _, _, _, _, _, _, _, _, _, _, _, _, _, _, _, _, _, hx, hm, hC0, hK1, hK2, hK3, fnd_u hF 0 (by decide), hT, hS0, hS1, hS2, hS3, hG⟩
