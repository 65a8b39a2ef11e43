/-! walled, changed, still -/
theorem st_walled {n0 : Nat} (hn : 2000000 ≤ n0) : St_walled n0 := by
  intro xv_isKept xf_found xv_camp_tents xv_camp_said xv_camp_wall xv_camp_bridge xv_camp_counted xv_camp_day xv_camp_z xf_camp_kinds xf_camp_yards xf_camp_spots xv_kept_tents xv_kept_said xv_kept_wall xv_kept_bridge xv_kept_counted xv_kept_day xv_kept_z xf_kept_kinds xf_kept_yards xf_kept_spots xf_trials_heardBefore xv_trials_trial_tents xv_trials_trial_said xv_trials_trial_wall xv_trials_trial_bridge xv_trials_trial_counted xv_trials_trial_day xv_trials_trial_z xf_trials_trial_kinds xf_trials_trial_yards xf_trials_trial_spots xf_trials_ears_hears xf_trials_ears_near xf_trials_ears_gaps xv_tape_size xf_tape_bytes xv_sheets_0_bits xv_sheets_0_size xf_sheets_0_numbers xv_sheets_1_bits xv_sheets_1_size xf_sheets_1_numbers xv_sheets_2_bits xv_sheets_2_size xf_sheets_2_numbers xv_sheets_3_bits xv_sheets_3_size xf_sheets_3_numbers mv_isKept mv_taped mv_gone mf_d mf_kept mf_found mf_tape mf_hears mf_near mf_heardNow mf_bitsOf mf_sizeOf mf_number hI
  obtain ⟨hC, hK1, hK2, hK3, hF, hT, hS0, hS1, hS2, hS3, hG⟩ := hI
  have hC0 := hC
  obtain ⟨N, hN, h0, hd0, hd1, hd2, hd3, hd4, hd5, hd6, hct, hwl, hbr, hdy, hsa, hA, hKi, hYa, hSp⟩ := hC
  obtain ⟨w, hw1, hw2⟩ := hwl
  obtain ⟨br, hb1, hb2⟩ := hbr
  have hC1 := hC0
  rw [h0, hw2, hb2] at hC1
  have hC2 : CR (va_cpy xf_camp_kinds xf_trials_trial_kinds 0 0 10) (va_cpy xf_camp_yards xf_trials_trial_yards 0 0 10) (va_cpy xf_camp_spots xf_trials_trial_spots 0 0 10) (nI N) xv_camp_said (nI w) (nI br) xv_camp_counted xv_camp_day xv_camp_z mf_d := CR_copy hC1 (fun i hi => cpy10 hi) (fun i hi => cpy10 hi) (fun i hi => cpy10 hi) (fun _ _ => rfl)
  have hC3 := CR_counted (v := 0) (Or.inl rfl) hC2
  have hC4 := CR_counted (v := 1) (Or.inr rfl) hC3
  obtain ⟨g1, h1, n1, a1, a2, a3, a4⟩ := listen_C (xg := xf_trials_ears_gaps) (xh := xf_trials_ears_hears) (xn := xf_trials_ears_near) hn hN hw1 hb1 hC4
  obtain ⟨g2, h2, n2, c1, c2, c3, c4⟩ := listen_C (xg := g1) (xh := h1) (xn := n1) hn hN hw1 hb1 hC3
  obtain ⟨mb, m1, m2, k1, k2⟩ := kh_C (mh := mf_hears) (mn := mf_near) (hb := mf_heardNow) hn hN hw1 hb1 hC3
  obtain ⟨m3, m4, k3⟩ := mho_C (mh := m1) (mn := m2) hn hN hw1 hb1 hC4 k2
  have hsym : bsF (dfB (hH (va_cpy xf_camp_kinds xf_trials_trial_kinds 0 0 10) N w br 0 (va_cpy xf_camp_yards xf_trials_trial_yards 0 0 10)) (hH (va_cpy xf_camp_kinds xf_trials_trial_kinds 0 0 10) N w br 1 (va_cpy xf_camp_yards xf_trials_trial_yards 0 0 10))) N = bsF (dfB (hH (va_cpy xf_camp_kinds xf_trials_trial_kinds 0 0 10) N w br 1 (va_cpy xf_camp_yards xf_trials_trial_yards 0 0 10)) (hH (va_cpy xf_camp_kinds xf_trials_trial_kinds 0 0 10) N w br 0 (va_cpy xf_camp_yards xf_trials_trial_yards 0 0 10))) N := bsF_congr (fun j _ => by
    unfold dfB
    congr 1
    exact decide_eq_decide.mpr ⟨fun h => h.symm, fun h => h.symm⟩)
  have hx : F_X6_walled n0 xv_camp_tents xv_camp_said xv_camp_wall xv_camp_bridge xv_camp_counted xv_camp_day xv_camp_z xf_camp_kinds xf_camp_spots xf_camp_yards xf_trials_heardBefore xv_trials_trial_tents xv_trials_trial_said xv_trials_trial_wall xv_trials_trial_bridge xv_trials_trial_counted xv_trials_trial_day xv_trials_trial_z xf_trials_ears_gaps xf_trials_ears_hears xf_trials_ears_near xf_trials_trial_kinds xf_trials_trial_spots xf_trials_trial_yards = some (bsF (dfB (hH (va_cpy xf_camp_kinds xf_trials_trial_kinds 0 0 10) N w br 1 (va_cpy xf_camp_yards xf_trials_trial_yards 0 0 10)) (hH (va_cpy xf_camp_kinds xf_trials_trial_kinds 0 0 10) N w br 0 (va_cpy xf_camp_yards xf_trials_trial_yards 0 0 10))) N, va_cpy h1 xf_trials_heardBefore 0 0 10, nI N, xv_camp_said, nI w, nI br, 0, xv_camp_day, xv_camp_z, g2, h2, n2, va_cpy xf_camp_kinds xf_trials_trial_kinds 0 0 10, va_cpy xf_camp_spots xf_trials_trial_spots 0 0 10, va_cpy xf_camp_yards xf_trials_trial_yards 0 0 10) := by
    unfold F_X6_walled F_X4_hearingOtherByWall
    rw [h0, hw2, hb2, become_s hct]
    simp only [bd10]
    rw [a1]
    simp only [bd3]
    rw [cpy10_t, c1]
    simp only []
    rw [ho_s hn hN c3 (HR_congr a3 (fun j hj => cpy10 (by omega))), hsym]
    rfl
  have hm : F_X7_walled n0 mv_gone mf_d mf_heardNow mf_hears mf_near = some (bsF (dfB (hH (va_cpy xf_camp_kinds xf_trials_trial_kinds 0 0 10) N w br 1 (va_cpy xf_camp_yards xf_trials_trial_yards 0 0 10)) (hH (va_cpy xf_camp_kinds xf_trials_trial_kinds 0 0 10) N w br 0 (va_cpy xf_camp_yards xf_trials_trial_yards 0 0 10))) N, mf_d, mb, m3, m4) := by
    unfold F_X7_walled
    rw [hG, rd_l 5 l5 (by decide) (by decide), wrt_l 5 l5 (by decide) (by decide), k1]
    simp only [bd3]
    rw [wrt_l 5 l5 (by decide) (by decide), k3]
    simp only []
    rw [wrt_l 5 l5 (by decide) (by decide), upd_upd, upd_upd, upd_same rfl]
  exact ⟨_, _, _, _, _, _, _, _, _, _, _, _, _, _, _, _, _, _, _, hx, hm, hC0, hK1, hK2, hK3, hF, hT, hS0, hS1, hS2, hS3, hG⟩
theorem st_changed {n0 : Nat} (hn : 2000000 ≤ n0) : St_changed n0 := by
  intro xv_isKept xf_found xv_camp_tents xv_camp_said xv_camp_wall xv_camp_bridge xv_camp_counted xv_camp_day xv_camp_z xf_camp_kinds xf_camp_yards xf_camp_spots xv_kept_tents xv_kept_said xv_kept_wall xv_kept_bridge xv_kept_counted xv_kept_day xv_kept_z xf_kept_kinds xf_kept_yards xf_kept_spots xf_trials_heardBefore xv_trials_trial_tents xv_trials_trial_said xv_trials_trial_wall xv_trials_trial_bridge xv_trials_trial_counted xv_trials_trial_day xv_trials_trial_z xf_trials_trial_kinds xf_trials_trial_yards xf_trials_trial_spots xf_trials_ears_hears xf_trials_ears_near xf_trials_ears_gaps xv_tape_size xf_tape_bytes xv_sheets_0_bits xv_sheets_0_size xf_sheets_0_numbers xv_sheets_1_bits xv_sheets_1_size xf_sheets_1_numbers xv_sheets_2_bits xv_sheets_2_size xf_sheets_2_numbers xv_sheets_3_bits xv_sheets_3_size xf_sheets_3_numbers mv_isKept mv_taped mv_gone mf_d mf_kept mf_found mf_tape mf_hears mf_near mf_heardNow mf_bitsOf mf_sizeOf mf_number hI p1 p2 p3
  obtain ⟨hC, hK1, hK2, hK3, hF, hT, hS0, hS1, hS2, hS3, hG⟩ := hI
  have hC0 := hC
  obtain ⟨N, hN, h0, hd0, hd1, hd2, hd3, hd4, hd5, hd6, hct, hwl, hbr, hdy, hsa, hA, hKi, hYa, hSp⟩ := hC
  obtain ⟨w, hw1, hw2⟩ := hwl
  obtain ⟨br, hb1, hb2⟩ := hbr
  have hC1 := hC0
  rw [h0, hw2, hb2] at hC1
  by_cases ht : isT N p1
  · by_cases hy : inR 0 11 p2 ∧ inR 0 11 p3
    · by_cases hm : whoR xf_camp_yards (12 * p3 + p2) N 0 = -1 ∨ whoR xf_camp_yards (12 * p3 + p2) N 0 = p1
      · obtain ⟨t, ht1, rfl⟩ := isT_nI ht
        obtain ⟨x, hx1, rfl⟩ := inR_nI (hi := 11) hy.1
        obtain ⟨y, hy1, rfl⟩ := inR_nI (hi := 11) hy.2
        rw [yard_nI] at hm
        obtain ⟨hb, g', h', n', tk, ts, ty, b1, b2, b3, b4, b5, b6, b7, b8⟩ := begin_s (hb0 := xf_trials_heardBefore) (xg := xf_trials_ears_gaps) (xh := xf_trials_ears_hears) (xn := xf_trials_ears_near) (tk0 := xf_trials_trial_kinds) (ts0 := xf_trials_trial_spots) (ty0 := xf_trials_trial_yards) (t1 := xv_trials_trial_tents) (t2 := xv_trials_trial_said) (t3 := xv_trials_trial_wall) (t4 := xv_trials_trial_bridge) (t5 := xv_trials_trial_counted) (t6 := xv_trials_trial_day) (t7 := xv_trials_trial_z) hn hN hw1 hb1 hC1
        obtain ⟨hct2, hYt, _, _, _, _, _, _⟩ := CR_parts hN b2
        obtain ⟨g2, h2, n2, c1, c2, c3, c4⟩ := tryMove_s (kinds := tk) (hears := h') (near := n') (v := 12 * y + x) hn hN hct hw1 hb1 hYt (by omega) ht1 b5
        have hC3 := CR_yard (t := t) (y := 12 * y + x) (by omega) (by omega) b2
        obtain ⟨mb, m1, m2, k1, k2⟩ := kh_C (mh := mf_hears) (mn := mf_near) (hb := mf_heardNow) hn hN hw1 hb1 b2
        obtain ⟨m3, m4, k3⟩ := mho_C (mh := m1) (mn := m2) hn hN hw1 hb1 hC3 k2
        have hx : F_X6_changed n0 xv_camp_tents xv_camp_said xv_camp_wall xv_camp_bridge xv_camp_counted xv_camp_day xv_camp_z xf_found xf_camp_kinds xf_camp_spots xf_camp_yards xf_trials_heardBefore xv_trials_trial_tents xv_trials_trial_said xv_trials_trial_wall xv_trials_trial_bridge xv_trials_trial_counted xv_trials_trial_day xv_trials_trial_z xf_trials_ears_gaps xf_trials_ears_hears xf_trials_ears_near xf_trials_trial_kinds xf_trials_trial_spots xf_trials_trial_yards (nI t) (nI x) (nI y) = some (clrB (bsF (dfB (hH tk N w br xv_camp_counted (upd ty t (nI (12 * y + x)))) (hH tk N w br xv_camp_counted ty)) N) t, xf_found, hb, nI N, xv_camp_said, nI w, nI br, xv_camp_counted, xv_camp_day, xv_camp_z, g2, h2, n2, tk, ts, upd ty t (nI (12 * y + x))) := by
          unfold F_X6_changed
          rw [h0, hw2, hb2, has_t hN ht, isYard_t hy.1 hy.2]
          simp only [bd1, one0, F_X6_yardOf, nm]
          rw [yard_nI, mayStand_t hn hN hm]
          simp only [one0]
          unfold F_X4_changedBy
          rw [b1]
          simp only [bd14]
          rw [c1]
          simp only [bd4]
          rw [ho_s hn hN c3 b6]
          rfl
        have hJ : J_X7_changed_52 n0 (-1) mf_d mf_heardNow mf_hears mf_near (nI t) (nI y) (nI x) mf_found = some (clrB (bsF (dfB (hH tk N w br xv_camp_counted (upd ty t (nI (12 * y + x)))) (hH tk N w br xv_camp_counted ty)) N) t, mf_d, mf_found, mb, m3, m4) := by
          unfold J_X7_changed_52
          rw [k1]
          simp only [bd3]
          rw [mYd (by omega)]
          simp only [bd1, nm]
          rw [yard_nI, wrt_l (20 + t) (a20 t) (by omega) (by decide), k3]
          simp only []
          rw [wrt_l (20 + t) (a20 t) (by omega) (by decide), upd_upd, upd_same rfl]
          rfl
        have hm' : F_X7_changed n0 mv_gone mf_d mf_found mf_heardNow mf_hears mf_near (nI t) (nI x) (nI y) = some (clrB (bsF (dfB (hH tk N w br xv_camp_counted (upd ty t (nI (12 * y + x)))) (hH tk N w br xv_camp_counted ty)) N) t, mf_d, mf_found, mb, m3, m4) := by
          unfold F_X7_changed
          rw [hG, mT_t hN hd0 ht, mYard_t hy.1 hy.2]
          simp only [bd1, one0, nm]
          rw [yard_nI, whoIs_s hn hN hd0 (fun i hi => (hA i hi).2.1)]
          simp only []
          by_cases h1 : whoR xf_camp_yards (nI (12 * y + x)) N 0 = -1
          · rw [if_pos h1]
            exact hJ
          · rw [if_neg h1, if_pos (hm.resolve_left h1)]
            exact hJ
        exact ⟨_, _, _, _, _, _, _, _, _, _, _, _, _, _, _, _, _, _, _, _, _, hx, hm', hC0, hK1, hK2, hK3, hF, hT, hS0, hS1, hS2, hS3, hG⟩
      · have hx : F_X6_changed n0 xv_camp_tents xv_camp_said xv_camp_wall xv_camp_bridge xv_camp_counted xv_camp_day xv_camp_z xf_found xf_camp_kinds xf_camp_spots xf_camp_yards xf_trials_heardBefore xv_trials_trial_tents xv_trials_trial_said xv_trials_trial_wall xv_trials_trial_bridge xv_trials_trial_counted xv_trials_trial_day xv_trials_trial_z xf_trials_ears_gaps xf_trials_ears_hears xf_trials_ears_near xf_trials_trial_kinds xf_trials_trial_spots xf_trials_trial_yards p1 p2 p3 = some (-1000005, upd xf_found 4 (xf_found 4 + 1), xf_trials_heardBefore, xv_trials_trial_tents, xv_trials_trial_said, xv_trials_trial_wall, xv_trials_trial_bridge, xv_trials_trial_counted, xv_trials_trial_day, xv_trials_trial_z, xf_trials_ears_gaps, xf_trials_ears_hears, xf_trials_ears_near, xf_trials_trial_kinds, xf_trials_trial_spots, xf_trials_trial_yards) := by
          unfold F_X6_changed
          rw [h0, has_t hN ht, isYard_t hy.1 hy.2]
          simp only [bd1, one0, F_X6_yardOf, nm]
          rw [mayStand_f hn hN hm]
          rfl
        have hm' : F_X7_changed n0 mv_gone mf_d mf_found mf_heardNow mf_hears mf_near p1 p2 p3 = some (-1000005, mf_d, upd mf_found 4 (mf_found 4 + 1), mf_heardNow, mf_hears, mf_near) := by
          unfold F_X7_changed
          rw [mT_t hN hd0 ht, mYard_t hy.1 hy.2]
          simp only [bd1, one0, nm]
          rw [whoIs_s hn hN hd0 (fun i hi => (hA i hi).2.1)]
          simp only []
          rw [if_neg (fun h1 => hm (Or.inl h1)), if_neg (fun h1 => hm (Or.inr h1))]
          rfl
        exact ⟨_, _, _, _, _, _, _, _, _, _, _, _, _, _, _, _, _, _, _, _, _, hx, hm', hC0, hK1, hK2, hK3, fnd_u hF 4 (by decide), hT, hS0, hS1, hS2, hS3, hG⟩
    · have hx : F_X6_changed n0 xv_camp_tents xv_camp_said xv_camp_wall xv_camp_bridge xv_camp_counted xv_camp_day xv_camp_z xf_found xf_camp_kinds xf_camp_spots xf_camp_yards xf_trials_heardBefore xv_trials_trial_tents xv_trials_trial_said xv_trials_trial_wall xv_trials_trial_bridge xv_trials_trial_counted xv_trials_trial_day xv_trials_trial_z xf_trials_ears_gaps xf_trials_ears_hears xf_trials_ears_near xf_trials_trial_kinds xf_trials_trial_spots xf_trials_trial_yards p1 p2 p3 = some (-1000001, upd xf_found 0 (xf_found 0 + 1), xf_trials_heardBefore, xv_trials_trial_tents, xv_trials_trial_said, xv_trials_trial_wall, xv_trials_trial_bridge, xv_trials_trial_counted, xv_trials_trial_day, xv_trials_trial_z, xf_trials_ears_gaps, xf_trials_ears_hears, xf_trials_ears_near, xf_trials_trial_kinds, xf_trials_trial_spots, xf_trials_trial_yards) := by
        unfold F_X6_changed
        rw [h0, has_t hN ht, isYard_f hy]
        rfl
      have hm' : F_X7_changed n0 mv_gone mf_d mf_found mf_heardNow mf_hears mf_near p1 p2 p3 = some (-1000001, mf_d, upd mf_found 0 (mf_found 0 + 1), mf_heardNow, mf_hears, mf_near) := by
        unfold F_X7_changed
        rw [mT_t hN hd0 ht, mYard_f hy]
        rfl
      exact ⟨_, _, _, _, _, _, _, _, _, _, _, _, _, _, _, _, _, _, _, _, _, hx, hm', hC0, hK1, hK2, hK3, fnd_u hF 0 (by decide), hT, hS0, hS1, hS2, hS3, hG⟩
  · have hx : F_X6_changed n0 xv_camp_tents xv_camp_said xv_camp_wall xv_camp_bridge xv_camp_counted xv_camp_day xv_camp_z xf_found xf_camp_kinds xf_camp_spots xf_camp_yards xf_trials_heardBefore xv_trials_trial_tents xv_trials_trial_said xv_trials_trial_wall xv_trials_trial_bridge xv_trials_trial_counted xv_trials_trial_day xv_trials_trial_z xf_trials_ears_gaps xf_trials_ears_hears xf_trials_ears_near xf_trials_trial_kinds xf_trials_trial_spots xf_trials_trial_yards p1 p2 p3 = some (-1000001, upd xf_found 0 (xf_found 0 + 1), xf_trials_heardBefore, xv_trials_trial_tents, xv_trials_trial_said, xv_trials_trial_wall, xv_trials_trial_bridge, xv_trials_trial_counted, xv_trials_trial_day, xv_trials_trial_z, xf_trials_ears_gaps, xf_trials_ears_hears, xf_trials_ears_near, xf_trials_trial_kinds, xf_trials_trial_spots, xf_trials_trial_yards) := by
      unfold F_X6_changed
      rw [h0, has_f hN ht]
      rfl
    have hm' : F_X7_changed n0 mv_gone mf_d mf_found mf_heardNow mf_hears mf_near p1 p2 p3 = some (-1000001, mf_d, upd mf_found 0 (mf_found 0 + 1), mf_heardNow, mf_hears, mf_near) := by
      unfold F_X7_changed
      rw [mT_f hN hd0 ht]
      rfl
    exact ⟨_, _, _, _, _, _, _, _, _, _, _, _, _, _, _, _, _, _, _, _, _, hx, hm', hC0, hK1, hK2, hK3, fnd_u hF 0 (by decide), hT, hS0, hS1, hS2, hS3, hG⟩
def stB (yards tk ty : Nat → Int32) (N w br : Nat) (c : Int32) (t v : Nat) : Bool := decide (whoR yards (nI v) N 0 = -1) && decide (bsF (dfB (hH tk N w br c (upd ty t (nI v))) (hH tk N w br c ty)) N = 0)
theorem cnt_s {P : Nat → Bool} {k i a : Nat} : cntF P (k + 1) i a = cntF P k (i + 1) (a + (P i).toNat) := rfl
theorem still_r {n0 N w br t : Nat} {yards tk ty ts hb : Nat → Int32} {said c day z : Int32} (hn : 2000000 ≤ n0) (hN : N ≤ 10) (hct : c = 0 ∨ c = 1) (hw : w < 12) (hbr : br < 12) (hYt : yrdOK ty) (ht : t < N) (h4 : HR N hb (hH tk N w br c ty)) : ∀ (k i n a v : Nat) (g h n' : Nat → Int32), i + k = 144 → k < n → v < 144 → gapOK N w br c g (upd ty t (nI v)) → ∃ g' h' n'' Y' : Nat → Int32, L_X4_stillYards_8 hb (nI N) said (nI w) (nI br) c day z tk ts n0 (nI N) yards (nI t) n (nI a) (nI i) g h n' (upd ty t (nI v)) = some (nI (cntF (stB yards tk ty N w br c t) k i a), hb, nI N, said, nI w, nI br, c, day, z, g', h', n'', tk, ts, Y') := by
  intro k
  induction k with
  | zero =>
    intro i n a v g h n' h1 h2 hv hg
    obtain ⟨n, rfl⟩ : ∃ q, n = q + 1 := ⟨n - 1, by omega⟩
    rw [L_X4_stillYards_8_u, if_pos (show (144 : Int32) ≤ nI i from nI_le (a := 144) (by omega) (by omega))]
    exact ⟨_, _, _, _, rfl⟩
  | succ k ih =>
    intro i n a v g h n' h1 h2 hv hg
    obtain ⟨n, rfl⟩ : ∃ q, n = q + 1 := ⟨n - 1, by omega⟩
    rw [L_X4_stillYards_8_u, if_neg (show ¬ (144 : Int32) ≤ nI i from nI_ge (b := 144) (by omega) (by decide)), tentOn_s hn hN, cnt_s]
    simp only [bd1, nm]
    rw [nI_1 i]
    by_cases hf : whoR yards (nI i) N 0 = -1
    · obtain ⟨g1, h3, n1, e1, e2, e3, e4⟩ := tryMove_s (kinds := tk) (hears := h) (near := n') (v := i) hn hN hct hw hbr (yrd_upd (t := t) hYt hv) (by omega) ht hg
      rw [upd_upd] at e1 e2 e3 e4
      rw [if_pos hf, e1]
      simp only [bd4]
      rw [ho_s hn hN e3 h4]
      simp only []
      by_cases hq : bsF (dfB (hH tk N w br c (upd ty t (nI i))) (hH tk N w br c ty)) N = 0
      · have hP : stB yards tk ty N w br c t i = true := by
          unfold stB
          rw [decide_eq_true hf, decide_eq_true hq]
          rfl
        rw [if_pos hq, hP, nI_1 a]
        exact ih (i + 1) n (a + 1) i g1 h3 n1 (by omega) (by omega) (by omega) e2
      · have hP : stB yards tk ty N w br c t i = false := by
          unfold stB
          rw [decide_eq_true hf, decide_eq_false hq]
          rfl
        rw [if_neg hq, hP]
        exact ih (i + 1) n a i g1 h3 n1 (by omega) (by omega) (by omega) e2
    · have hP : stB yards tk ty N w br c t i = false := by
        unfold stB
        rw [decide_eq_false hf]
        rfl
      rw [if_neg hf, hP]
      exact ih (i + 1) n a v g h n' (by omega) (by omega) hv hg
theorem mstill_r {n0 N w br t : Nat} {yards tk ty ts d hb found : Nat → Int32} {said c day z : Int32} (hn : 2000000 ≤ n0) (hN : N ≤ 10) (hw : w < 12) (hbr : br < 12) (hC : CR tk ty ts (nI N) said (nI w) (nI br) c day z d) (hyd : ∀ i : Nat, i < 10 → d (20 + i) = yards i) (ht : t < N) (h4 : HR N hb (hH tk N w br c ty)) : ∀ (k i n a : Nat) (h n' : Nat → Int32), i + k = 144 → k < n → ∃ h' n'' : Nat → Int32, L_X7_still_29 found hb n0 (nI t) (-1) (d (20 + t)) n (nI a) (nI i) d h n' = some (nI (cntF (stB yards tk ty N w br c t) k i a), d, found, hb, h', n'') := by
  obtain ⟨hd0, _, _⟩ := CR_N hN hC
  intro k
  induction k with
  | zero =>
    intro i n a h n' h1 h2
    obtain ⟨n, rfl⟩ : ∃ q, n = q + 1 := ⟨n - 1, by omega⟩
    rw [L_X7_still_29_u, if_pos (show (144 : Int32) ≤ nI i from nI_le (a := 144) (by omega) (by omega))]
    exact ⟨_, _, rfl⟩
  | succ k ih =>
    intro i n a h n' h1 h2
    obtain ⟨n, rfl⟩ : ∃ q, n = q + 1 := ⟨n - 1, by omega⟩
    rw [L_X7_still_29_u, if_neg (show ¬ (144 : Int32) ≤ nI i from nI_ge (b := 144) (by omega) (by decide)), whoIs_s hn hN hd0 hyd, cnt_s]
    simp only [bd1, nm]
    by_cases hf : whoR yards (nI i) N 0 = -1
    · obtain ⟨m3, m4, k3⟩ := mho_C (mh := h) (mn := n') hn hN hw hbr (CR_yard (t := t) (y := i) (by omega) (by omega) hC) h4
      rw [if_pos hf, wrt_l (20 + t) (a20 t) (by omega) (by decide), k3]
      simp only [bd3]
      unfold J_X7_still_74
      simp only [nm]
      rw [wrt_l (20 + t) (a20 t) (by omega) (by decide), wrt_l (20 + t) (a20 t) (by omega) (by decide), upd_upd, upd_same rfl, nI_1 i]
      by_cases hq : bsF (dfB (hH tk N w br c (upd ty t (nI i))) (hH tk N w br c ty)) N = 0
      · have hP : stB yards tk ty N w br c t i = true := by
          unfold stB
          rw [decide_eq_true hf, decide_eq_true hq]
          rfl
        rw [if_pos hq, hP, nI_1 a]
        exact ih (i + 1) n (a + 1) m3 m4 (by omega) (by omega)
      · have hP : stB yards tk ty N w br c t i = false := by
          unfold stB
          rw [decide_eq_true hf, decide_eq_false hq]
          rfl
        rw [if_neg hq, hP, Int32.add_zero]
        exact ih (i + 1) n a m3 m4 (by omega) (by omega)
    · have hP : stB yards tk ty N w br c t i = false := by
        unfold stB
        rw [decide_eq_false hf]
        rfl
      rw [if_neg hf, hP, nI_1 i]
      exact ih (i + 1) n a h n' (by omega) (by omega)
theorem st_still {n0 : Nat} (hn : 2000000 ≤ n0) : St_still n0 := by
  intro xv_isKept xf_found xv_camp_tents xv_camp_said xv_camp_wall xv_camp_bridge xv_camp_counted xv_camp_day xv_camp_z xf_camp_kinds xf_camp_yards xf_camp_spots xv_kept_tents xv_kept_said xv_kept_wall xv_kept_bridge xv_kept_counted xv_kept_day xv_kept_z xf_kept_kinds xf_kept_yards xf_kept_spots xf_trials_heardBefore xv_trials_trial_tents xv_trials_trial_said xv_trials_trial_wall xv_trials_trial_bridge xv_trials_trial_counted xv_trials_trial_day xv_trials_trial_z xf_trials_trial_kinds xf_trials_trial_yards xf_trials_trial_spots xf_trials_ears_hears xf_trials_ears_near xf_trials_ears_gaps xv_tape_size xf_tape_bytes xv_sheets_0_bits xv_sheets_0_size xf_sheets_0_numbers xv_sheets_1_bits xv_sheets_1_size xf_sheets_1_numbers xv_sheets_2_bits xv_sheets_2_size xf_sheets_2_numbers xv_sheets_3_bits xv_sheets_3_size xf_sheets_3_numbers mv_isKept mv_taped mv_gone mf_d mf_kept mf_found mf_tape mf_hears mf_near mf_heardNow mf_bitsOf mf_sizeOf mf_number hI p1
  obtain ⟨hC, hK1, hK2, hK3, hF, hT, hS0, hS1, hS2, hS3, hG⟩ := hI
  have hC0 := hC
  obtain ⟨N, hN, h0, hd0, hd1, hd2, hd3, hd4, hd5, hd6, hct, hwl, hbr, hdy, hsa, hA, hKi, hYa, hSp⟩ := hC
  obtain ⟨w, hw1, hw2⟩ := hwl
  obtain ⟨br, hb1, hb2⟩ := hbr
  have hC1 := hC0
  rw [h0, hw2, hb2] at hC1
  by_cases ht : isT N p1
  · obtain ⟨t, ht1, rfl⟩ := isT_nI ht
    obtain ⟨hb, g', h', n', tk, ts, ty, b1, b2, b3, b4, b5, b6, b7, b8⟩ := begin_s (hb0 := xf_trials_heardBefore) (xg := xf_trials_ears_gaps) (xh := xf_trials_ears_hears) (xn := xf_trials_ears_near) (tk0 := xf_trials_trial_kinds) (ts0 := xf_trials_trial_spots) (ty0 := xf_trials_trial_yards) (t1 := xv_trials_trial_tents) (t2 := xv_trials_trial_said) (t3 := xv_trials_trial_wall) (t4 := xv_trials_trial_bridge) (t5 := xv_trials_trial_counted) (t6 := xv_trials_trial_day) (t7 := xv_trials_trial_z) hn hN hw1 hb1 hC1
    obtain ⟨hct2, hYt, _, _, _, _, _, _⟩ := CR_parts hN b2
    obtain ⟨v, hv1, hv2⟩ := hYt t (by omega)
    obtain ⟨mb, m1, m2, k1, k2⟩ := kh_C (mh := mf_hears) (mn := mf_near) (hb := mf_heardNow) hn hN hw1 hb1 b2
    obtain ⟨g2, h2, n2, Y2, c1⟩ := still_r (ts := ts) (said := xv_camp_said) (day := xv_camp_day) (z := xv_camp_z) (yards := xf_camp_yards) hn hN hct hw1 hb1 hYt ht1 b6 144 0 n0 0 v g' h' n' (by omega) (by omega) hv1 (by rw [upd_same hv2]; exact b5)
    obtain ⟨m3, m4, c2⟩ := mstill_r (found := mf_found) (yards := xf_camp_yards) hn hN hw1 hb1 b2 (fun i hi => (hA i hi).2.1) ht1 k2 144 0 n0 0 m1 m2 (by omega) (by omega)
    rw [nI_0] at c1 c2
    rw [upd_same hv2] at c1
    have hx : F_X6_still n0 xv_camp_tents xv_camp_said xv_camp_wall xv_camp_bridge xv_camp_counted xv_camp_day xv_camp_z xf_found xf_camp_kinds xf_camp_spots xf_camp_yards xf_trials_heardBefore xv_trials_trial_tents xv_trials_trial_said xv_trials_trial_wall xv_trials_trial_bridge xv_trials_trial_counted xv_trials_trial_day xv_trials_trial_z xf_trials_ears_gaps xf_trials_ears_hears xf_trials_ears_near xf_trials_trial_kinds xf_trials_trial_spots xf_trials_trial_yards (nI t) = some (nI (cntF (stB xf_camp_yards tk ty N w br xv_camp_counted t) 144 0 0), xf_found, hb, nI N, xv_camp_said, nI w, nI br, xv_camp_counted, xv_camp_day, xv_camp_z, g2, h2, n2, tk, ts, Y2) := by
      unfold F_X6_still
      rw [h0, hw2, hb2, has_t hN ht]
      simp only [bd1, one0]
      unfold F_X4_stillYards
      rw [b1]
      simp only [bd14]
      rw [c1]
      rfl
    have hm : F_X7_still n0 mv_gone mf_d mf_found mf_heardNow mf_hears mf_near (nI t) = some (nI (cntF (stB xf_camp_yards tk ty N w br xv_camp_counted t) 144 0 0), mf_d, mf_found, mb, m3, m4) := by
      unfold F_X7_still
      rw [hG, mT_t hN hd0 ht]
      simp only [bd1, one0]
      rw [k1]
      simp only [bd3]
      rw [mYd (by omega)]
      exact c2
    exact ⟨_, _, _, _, _, _, _, _, _, _, _, _, _, _, _, _, _, _, _, _, _, hx, hm, hC0, hK1, hK2, hK3, hF, hT, hS0, hS1, hS2, hS3, hG⟩
  · have hx : F_X6_still n0 xv_camp_tents xv_camp_said xv_camp_wall xv_camp_bridge xv_camp_counted xv_camp_day xv_camp_z xf_found xf_camp_kinds xf_camp_spots xf_camp_yards xf_trials_heardBefore xv_trials_trial_tents xv_trials_trial_said xv_trials_trial_wall xv_trials_trial_bridge xv_trials_trial_counted xv_trials_trial_day xv_trials_trial_z xf_trials_ears_gaps xf_trials_ears_hears xf_trials_ears_near xf_trials_trial_kinds xf_trials_trial_spots xf_trials_trial_yards p1 = some (-1000001, upd xf_found 0 (xf_found 0 + 1), xf_trials_heardBefore, xv_trials_trial_tents, xv_trials_trial_said, xv_trials_trial_wall, xv_trials_trial_bridge, xv_trials_trial_counted, xv_trials_trial_day, xv_trials_trial_z, xf_trials_ears_gaps, xf_trials_ears_hears, xf_trials_ears_near, xf_trials_trial_kinds, xf_trials_trial_spots, xf_trials_trial_yards) := by
      unfold F_X6_still
      rw [h0, has_f hN ht]
      rfl
    have hm : F_X7_still n0 mv_gone mf_d mf_found mf_heardNow mf_hears mf_near p1 = some (-1000001, mf_d, upd mf_found 0 (mf_found 0 + 1), mf_heardNow, mf_hears, mf_near) := by
      unfold F_X7_still
      rw [mT_f hN hd0 ht]
      rfl
    exact ⟨_, _, _, _, _, _, _, _, _, _, _, _, _, _, _, _, _, _, _, _, _, hx, hm, hC0, hK1, hK2, hK3, fnd_u hF 0 (by decide), hT, hS0, hS1, hS2, hS3, hG⟩
