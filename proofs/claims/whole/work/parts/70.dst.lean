/-! days, says, saying, settles, circle, mind -/
theorem inR_nI1 {lo hi : Nat} {p : Int32} (h : inR lo hi p) : ∃ k : Nat, lo ≤ k ∧ k ≤ hi ∧ p = nI k := by
  obtain ⟨h1, h2⟩ := h
  have h3 : ¬ p < 0 := by
    rw [Int32.lt_iff_toInt_lt]
    have a3 : (0 : Int32).toInt = 0 := rfl
    omega
  obtain ⟨j, hj, rfl⟩ := nI_of h3
  rw [nI_toInt hj] at h1 h2
  exact ⟨j, by omega, by omega, rfl⟩
theorem next_O {n0 N : Nat} {kinds hears near : Nat → Int32} {H M : Nat → Option Nat} {s : Int32} (hn : 2000000 ≤ n0) (hN : N ≤ 10) (h1 : HR N hears H) (h2 : HR N near M) : F_X1_nextSaid n0 (nI N) hears near kinds s = some (nxO kinds H M N s) := next_s hn hN (HR_hh h1 h2)
theorem mnext_O {n0 N : Nat} {d kinds hears near : Nat → Int32} {H M : Nat → Option Nat} {s : Int32} (hn : 2000000 ≤ n0) (hN : N ≤ 10) (hd : d 0 = nI N) (hk : ∀ i : Nat, i < 10 → d (10 + i) = kinds i) (h1 : HR N hears H) (h2 : HR N near M) : F_X7_nextOf n0 d hears near s = some (nxO kinds H M N s) := mnext_s hn hN hd hk (HR_hh h1 h2)
theorem said_O {n0 N p : Nat} {kinds hears near : Nat → Int32} {H M : Nat → Option Nat} {s : Int32} (hn : 2000000 ≤ n0) (hN : N ≤ 10) (h1 : HR N hears H) (h2 : HR N near M) (hp : p ≤ 999999) : F_X1_saidAfter n0 (nI N) hears near kinds s (nI p) = some (itS (nxO kinds H M N) p s) := said_s hn hN (HR_hh h1 h2) hp
theorem ahead_O {n0 N p : Nat} {d kinds hears near : Nat → Int32} {H M : Nat → Option Nat} {s : Int32} (hn : 2000000 ≤ n0) (hN : N ≤ 10) (hd : d 0 = nI N) (hk : ∀ i : Nat, i < 10 → d (10 + i) = kinds i) (h1 : HR N hears H) (h2 : HR N near M) (hp : p < 1000000) : F_X7_ahead n0 d hears near s (nI p) = some (itS (nxO kinds H M N) p s) := ahead_s hn hN hd hk (HR_hh h1 h2) hp
theorem gt_O {n0 N m : Nat} {d kinds hears near daily fd : Nat → Int32} {vb vr : Int32} {H M : Nat → Option Nat} (hn : 2000000 ≤ n0) (hN : N ≤ 10) (hd : d 0 = nI N) (hk : ∀ i : Nat, i < 10 → d (10 + i) = kinds i) (h1 : HR N hears H) (h2 : HR N near M) (hm : m < 2 ^ N) {B R : Nat} (hR : Rho (fun k => itS (nxO kinds H M N) k (nI m)) B R) : ∃ daily' fd' : Nat → Int32, F_X7_goThrough n0 vb vr d daily fd hears near (nI m) = some (nI B, nI R, daily', fd') ∧ ∀ i : Nat, i < B + R → daily' i = itS (nxO kinds H M N) i (nI m) := gt_s hn hN hd hk (HR_hh h1 h2) (seq_rg2 hN hm) hR
theorem wk_O {n0 N m : Nat} {kinds yards xg xh xn g' h' n' dayOf : Nat → Int32} {wall bridge counted vs vr vl : Int32} {H M : Nat → Option Nat} (hn : 2000000 ≤ n0) (hN : N ≤ 10) (hl : F_X1_listen n0 (nI N) wall bridge counted xg xh xn kinds yards = some (g', h', n')) (h1 : HR N h' H) (h2 : HR N n' M) (hm : m < 2 ^ N) {B R : Nat} (hR : Rho (fun k => itS (nxO kinds H M N) k (nI m)) B R) : ∃ dy' : Nat → Int32, F_X5_go n0 vs vr vl dayOf (nI N) (nI m) wall bridge counted xg xh xn kinds yards = some (nI B, nI R, nI (lmN (mxB (fun k => itS (nxO kinds H M N) k (nI m)) N) (B + R)) - 1, dy', g', h', n') := by
  unfold F_X5_go
  rw [hl]
  simp only [bd3]
  rw [fill_all (N := 1024) (by decide) (by omega)]
  simp only [bd1]
  have hr1 := hR.2.1
  have e := wk_r (gaps := g') hn hN (HR_hh h1 h2) (seq_rg2 hN hm) hR (B + R) 0 n0 (fun j => if j < 1024 then -1 else dayOf j) (by omega) (by omega) ⟨fun i hi => absurd hi (Nat.not_lt_zero i), fun q hq _ => if_pos hq⟩
  rw [nI_0] at e
  exact e
theorem CR_day {kinds yards spots d : Nat → Int32} {w : Nat} {tents said wall bridge counted day z : Int32} (hw : w ≤ 999999999) (hC : CR kinds yards spots tents said wall bridge counted day z d) : CR kinds yards spots tents said wall bridge counted (nI w) z (upd d 1 (nI w)) := by
  obtain ⟨M, hM, h0, hd0, hd1, hd2, hd3, hd4, hd5, hd6, hct, hwl, hbr, hdy, hsa, hA, hKi, hYa, hSp⟩ := hC
  have un : ∀ j : Nat, j ≠ 1 → upd d 1 (nI w) j = d j := fun j h2 => pk_un h2
  exact ⟨M, hM, h0, by rw [un 0 (by decide)]; exact hd0, pk_us, by rw [un 2 (by decide)]; exact hd2, by rw [un 3 (by decide)]; exact hd3, by rw [un 4 (by decide)]; exact hd4, by rw [un 5 (by decide)]; exact hd5, by rw [un 6 (by decide)]; exact hd6, hct, hwl, hbr, ⟨w, hw, rfl⟩, hsa, fun i hi => by rw [un (10 + i) (by omega), un (20 + i) (by omega), un (30 + i) (by omega)]; exact hA i hi, hKi, hYa, hSp⟩
theorem st_saying {n0 : Nat} (hn : 2000000 ≤ n0) : St_saying n0 := by
  intro xv_isKept xf_found xv_camp_tents xv_camp_said xv_camp_wall xv_camp_bridge xv_camp_counted xv_camp_day xv_camp_z xf_camp_kinds xf_camp_yards xf_camp_spots xv_kept_tents xv_kept_said xv_kept_wall xv_kept_bridge xv_kept_counted xv_kept_day xv_kept_z xf_kept_kinds xf_kept_yards xf_kept_spots xf_ears_hears xf_ears_near xf_ears_gaps xv_tape_size xf_tape_bytes xv_sheets_0_bits xv_sheets_0_size xf_sheets_0_numbers xv_sheets_1_bits xv_sheets_1_size xf_sheets_1_numbers xv_sheets_2_bits xv_sheets_2_size xf_sheets_2_numbers xv_sheets_3_bits xv_sheets_3_size xf_sheets_3_numbers mv_isKept mv_taped mv_gone mv_begin mv_round mf_d mf_kept mf_found mf_tape mf_hears mf_near mf_firstDay mf_daily mf_bitsOf mf_sizeOf mf_number hI p1
  obtain ⟨hC, hK1, hK2, hK3, hF, hT, hS0, hS1, hS2, hS3, hG⟩ := hI
  have hC0 := hC
  obtain ⟨N, hN, h0, hd0, hd1, hd2, hd3, hd4, hd5, hd6, hct, hwl, hbr, hdy, hsa, hA, hKi, hYa, hSp⟩ := hC
  have hC1 := hC0
  rw [h0] at hC1
  obtain ⟨H, M, g', h', n', mh', mn', j1, j2, j3, j4, j5, j6, j7, j8⟩ := both_listen (xg := xf_ears_gaps) (xh := xf_ears_hears) (xn := xf_ears_near) (mh := mf_hears) (mn := mf_near) hn hN hC1
  obtain ⟨m, hm0, hsa⟩ := hsa
  by_cases hr : inR 0 999999 p1
  · obtain ⟨p, hp1, hp2⟩ := inR_nI (hi := 999999) hr
    obtain ⟨B, R, hR⟩ := rho_ex (seq_rg2 (kinds := xf_camp_kinds) (H := H) (M := M) hN hm0)
    obtain ⟨dl, fd, e1, e2⟩ := gt_O (daily := mf_daily) (fd := mf_firstDay) (vb := mv_begin) (vr := mv_round) hn hN hd0 (fun i hi => (hA i hi).1) j5 j6 hm0 hR
    have hx : F_X6_saying n0 xv_camp_tents xv_camp_said xv_camp_wall xv_camp_bridge xv_camp_counted xf_found xf_camp_kinds xf_camp_yards xf_ears_gaps xf_ears_hears xf_ears_near p1 = some (itS (nxO xf_camp_kinds H M N) p xv_camp_said, xf_found, g', h', n') := by
      unfold F_X6_saying
      rw [isFrom_t (a := 0) (b := 999999) hr]
      simp only [bd1, one0]
      rw [h0, j1]
      simp only [bd3]
      rw [hp2, said_O hn hN j3 j4 hp1]
    have hm : F_X7_saying n0 mv_gone mv_begin mv_round mf_d mf_daily mf_firstDay mf_found mf_hears mf_near p1 = some (itS (nxO xf_camp_kinds H M N) p xv_camp_said, nI B, nI R, dl, fd, mf_found, mh', mn') := by
      unfold F_X7_saying
      simp only [nm]
      rw [hG, in_t (a := 0) (b := 999999) hr]
      simp only [bd1, one0]
      rw [j2]
      simp only [bd2]
      rw [rd_l 6 l6 (by decide) (by decide), hd6, hsa, e1]
      simp only [bd4]
      rw [hp2, sb_s hR e2 hp1]
    exact ⟨_, _, _, _, _, _, _, _, _, _, _, _, hx, hm, hC0, hK1, hK2, hK3, hF, hT, hS0, hS1, hS2, hS3, hG⟩
  · have hx : F_X6_saying n0 xv_camp_tents xv_camp_said xv_camp_wall xv_camp_bridge xv_camp_counted xf_found xf_camp_kinds xf_camp_yards xf_ears_gaps xf_ears_hears xf_ears_near p1 = some (-1000001, upd xf_found 0 (xf_found 0 + 1), xf_ears_gaps, xf_ears_hears, xf_ears_near) := by
      unfold F_X6_saying
      rw [isFrom_f (a := 0) (b := 999999) hr]
      rfl
    have hm : F_X7_saying n0 mv_gone mv_begin mv_round mf_d mf_daily mf_firstDay mf_found mf_hears mf_near p1 = some (-1000001, mv_begin, mv_round, mf_daily, mf_firstDay, upd mf_found 0 (mf_found 0 + 1), mf_hears, mf_near) := by
      unfold F_X7_saying
      simp only [nm]
      rw [in_f (a := 0) (b := 999999) hr]
      rfl
    exact ⟨_, _, _, _, _, _, _, _, _, _, _, _, hx, hm, hC0, hK1, hK2, hK3, fnd_u hF 0 (by decide), hT, hS0, hS1, hS2, hS3, hG⟩
theorem st_says {n0 : Nat} (hn : 2000000 ≤ n0) : St_says n0 := by
  intro xv_isKept xf_found xv_camp_tents xv_camp_said xv_camp_wall xv_camp_bridge xv_camp_counted xv_camp_day xv_camp_z xf_camp_kinds xf_camp_yards xf_camp_spots xv_kept_tents xv_kept_said xv_kept_wall xv_kept_bridge xv_kept_counted xv_kept_day xv_kept_z xf_kept_kinds xf_kept_yards xf_kept_spots xf_ears_hears xf_ears_near xf_ears_gaps xv_tape_size xf_tape_bytes xv_sheets_0_bits xv_sheets_0_size xf_sheets_0_numbers xv_sheets_1_bits xv_sheets_1_size xf_sheets_1_numbers xv_sheets_2_bits xv_sheets_2_size xf_sheets_2_numbers xv_sheets_3_bits xv_sheets_3_size xf_sheets_3_numbers mv_isKept mv_taped mv_gone mv_begin mv_round mf_d mf_kept mf_found mf_tape mf_hears mf_near mf_firstDay mf_daily mf_bitsOf mf_sizeOf mf_number hI p1 p2
  obtain ⟨hC, hK1, hK2, hK3, hF, hT, hS0, hS1, hS2, hS3, hG⟩ := hI
  have hC0 := hC
  obtain ⟨N, hN, h0, hd0, hd1, hd2, hd3, hd4, hd5, hd6, hct, hwl, hbr, hdy, hsa, hA, hKi, hYa, hSp⟩ := hC
  have hC1 := hC0
  rw [h0] at hC1
  obtain ⟨H, M, g', h', n', mh', mn', j1, j2, j3, j4, j5, j6, j7, j8⟩ := both_listen (xg := xf_ears_gaps) (xh := xf_ears_hears) (xn := xf_ears_near) (mh := mf_hears) (mn := mf_near) hn hN hC1
  obtain ⟨m, hm0, hsa⟩ := hsa
  by_cases ht : isT N p1
  · by_cases hr : inR 0 999999 p2
    · obtain ⟨p, hp1, hp2⟩ := inR_nI (hi := 999999) hr
      obtain ⟨B, R, hR⟩ := rho_ex (seq_rg2 (kinds := xf_camp_kinds) (H := H) (M := M) hN hm0)
      obtain ⟨dl, fd, e1, e2⟩ := gt_O (daily := mf_daily) (fd := mf_firstDay) (vb := mv_begin) (vr := mv_round) hn hN hd0 (fun i hi => (hA i hi).1) j5 j6 hm0 hR
      have hx : F_X6_says n0 xv_camp_tents xv_camp_said xv_camp_wall xv_camp_bridge xv_camp_counted xf_found xf_camp_kinds xf_camp_yards xf_ears_gaps xf_ears_hears xf_ears_near p1 p2 = some ((itS (nxO xf_camp_kinds H M N) p xv_camp_said >>> (p1 &&& 31)) &&& 1, xf_found, g', h', n') := by
        unfold F_X6_says
        rw [h0, has_t hN ht, isFrom_t (a := 0) (b := 999999) hr]
        simp only [bd1, one0, nm]
        rw [j1]
        simp only [bd3]
        rw [hp2, said_O hn hN j3 j4 hp1]
      have hm : F_X7_says n0 mv_gone mv_begin mv_round mf_d mf_daily mf_firstDay mf_found mf_hears mf_near p1 p2 = some ((itS (nxO xf_camp_kinds H M N) p xv_camp_said >>> (p1 &&& 31)) &&& 1, nI B, nI R, dl, fd, mf_found, mh', mn') := by
        unfold F_X7_says F_X7_saying
        simp only [nm]
        rw [hG, mT_t hN hd0 ht, in_t (a := 0) (b := 999999) hr]
        simp only [bd1, one0]
        rw [j2]
        simp only [bd2]
        rw [rd_l 6 l6 (by decide) (by decide), hd6, hsa, e1]
        simp only [bd4]
        rw [hp2, sb_s hR e2 hp1]
        rfl
      exact ⟨_, _, _, _, _, _, _, _, _, _, _, _, hx, hm, hC0, hK1, hK2, hK3, hF, hT, hS0, hS1, hS2, hS3, hG⟩
    · have hx : F_X6_says n0 xv_camp_tents xv_camp_said xv_camp_wall xv_camp_bridge xv_camp_counted xf_found xf_camp_kinds xf_camp_yards xf_ears_gaps xf_ears_hears xf_ears_near p1 p2 = some (-1000001, upd xf_found 0 (xf_found 0 + 1), xf_ears_gaps, xf_ears_hears, xf_ears_near) := by
        unfold F_X6_says
        rw [h0, has_t hN ht, isFrom_f (a := 0) (b := 999999) hr]
        rfl
      have hm : F_X7_says n0 mv_gone mv_begin mv_round mf_d mf_daily mf_firstDay mf_found mf_hears mf_near p1 p2 = some (-1000001, mv_begin, mv_round, mf_daily, mf_firstDay, upd mf_found 0 (mf_found 0 + 1), mf_hears, mf_near) := by
        unfold F_X7_says
        simp only [nm]
        rw [mT_t hN hd0 ht, in_f (a := 0) (b := 999999) hr]
        rfl
      exact ⟨_, _, _, _, _, _, _, _, _, _, _, _, hx, hm, hC0, hK1, hK2, hK3, fnd_u hF 0 (by decide), hT, hS0, hS1, hS2, hS3, hG⟩
  · have hx : F_X6_says n0 xv_camp_tents xv_camp_said xv_camp_wall xv_camp_bridge xv_camp_counted xf_found xf_camp_kinds xf_camp_yards xf_ears_gaps xf_ears_hears xf_ears_near p1 p2 = some (-1000001, upd xf_found 0 (xf_found 0 + 1), xf_ears_gaps, xf_ears_hears, xf_ears_near) := by
      unfold F_X6_says
      rw [h0, has_f hN ht]
      rfl
    have hm : F_X7_says n0 mv_gone mv_begin mv_round mf_d mf_daily mf_firstDay mf_found mf_hears mf_near p1 p2 = some (-1000001, mv_begin, mv_round, mf_daily, mf_firstDay, upd mf_found 0 (mf_found 0 + 1), mf_hears, mf_near) := by
      unfold F_X7_says
      rw [mT_f hN hd0 ht]
      rfl
    exact ⟨_, _, _, _, _, _, _, _, _, _, _, _, hx, hm, hC0, hK1, hK2, hK3, fnd_u hF 0 (by decide), hT, hS0, hS1, hS2, hS3, hG⟩
theorem st_settles {n0 : Nat} (hn : 2000000 ≤ n0) : St_settles n0 := by
  intro xv_isKept xf_found xv_camp_tents xv_camp_said xv_camp_wall xv_camp_bridge xv_camp_counted xv_camp_day xv_camp_z xf_camp_kinds xf_camp_yards xf_camp_spots xv_kept_tents xv_kept_said xv_kept_wall xv_kept_bridge xv_kept_counted xv_kept_day xv_kept_z xf_kept_kinds xf_kept_yards xf_kept_spots xf_ears_hears xf_ears_near xf_ears_gaps xv_walk_settled xv_walk_round xv_walk_lastMixed xf_walk_dayOf xv_tape_size xf_tape_bytes xv_sheets_0_bits xv_sheets_0_size xf_sheets_0_numbers xv_sheets_1_bits xv_sheets_1_size xf_sheets_1_numbers xv_sheets_2_bits xv_sheets_2_size xf_sheets_2_numbers xv_sheets_3_bits xv_sheets_3_size xf_sheets_3_numbers mv_isKept mv_taped mv_gone mv_begin mv_round mf_d mf_kept mf_found mf_tape mf_hears mf_near mf_firstDay mf_daily mf_bitsOf mf_sizeOf mf_number hI
  obtain ⟨hC, hK1, hK2, hK3, hF, hT, hS0, hS1, hS2, hS3, hG⟩ := hI
  have hC0 := hC
  obtain ⟨N, hN, h0, hd0, hd1, hd2, hd3, hd4, hd5, hd6, hct, hwl, hbr, hdy, hsa, hA, hKi, hYa, hSp⟩ := hC
  have hC1 := hC0
  rw [h0] at hC1
  obtain ⟨H, M, g', h', n', mh', mn', j1, j2, j3, j4, j5, j6, j7, j8⟩ := both_listen (xg := xf_ears_gaps) (xh := xf_ears_hears) (xn := xf_ears_near) (mh := mf_hears) (mn := mf_near) hn hN hC1
  obtain ⟨m, hm0, hsa⟩ := hsa
  obtain ⟨B, R, hR⟩ := rho_ex (seq_rg2 (kinds := xf_camp_kinds) (H := H) (M := M) hN hm0)
  obtain ⟨dl, fd, e1, e2⟩ := gt_O (daily := mf_daily) (fd := mf_firstDay) (vb := mv_begin) (vr := mv_round) hn hN hd0 (fun i hi => (hA i hi).1) j5 j6 hm0 hR
  obtain ⟨dy, e3⟩ := wk_O (dayOf := xf_walk_dayOf) (vs := xv_walk_settled) (vr := xv_walk_round) (vl := xv_walk_lastMixed) hn hN j1 j3 j4 hm0 hR
  have hx : F_X6_settles n0 xv_camp_tents xv_camp_said xv_camp_wall xv_camp_bridge xv_camp_counted xv_walk_settled xv_walk_round xv_walk_lastMixed xf_camp_kinds xf_camp_yards xf_ears_gaps xf_ears_hears xf_ears_near xf_walk_dayOf = some (nI B, nI B, nI R, nI (lmN (mxB (fun k => itS (nxO xf_camp_kinds H M N) k (nI m)) N) (B + R)) - 1, g', h', n', dy) := by
    unfold F_X6_settles
    rw [h0, hsa, e3]
    rfl
  have hm : F_X7_settles n0 mv_gone mv_begin mv_round mf_d mf_daily mf_firstDay mf_hears mf_near = some (nI B, nI B, nI R, dl, fd, mh', mn') := by
    unfold F_X7_settles
    rw [hG, j2]
    simp only [bd2]
    rw [rd_l 6 l6 (by decide) (by decide), hd6, hsa, e1]
    rfl
  exact ⟨_, _, _, _, _, _, _, _, _, _, _, _, _, _, hx, hm, hC0, hK1, hK2, hK3, hF, hT, hS0, hS1, hS2, hS3, hG⟩
theorem st_circle {n0 : Nat} (hn : 2000000 ≤ n0) : St_circle n0 := by
  intro xv_isKept xf_found xv_camp_tents xv_camp_said xv_camp_wall xv_camp_bridge xv_camp_counted xv_camp_day xv_camp_z xf_camp_kinds xf_camp_yards xf_camp_spots xv_kept_tents xv_kept_said xv_kept_wall xv_kept_bridge xv_kept_counted xv_kept_day xv_kept_z xf_kept_kinds xf_kept_yards xf_kept_spots xf_ears_hears xf_ears_near xf_ears_gaps xv_walk_settled xv_walk_round xv_walk_lastMixed xf_walk_dayOf xv_tape_size xf_tape_bytes xv_sheets_0_bits xv_sheets_0_size xf_sheets_0_numbers xv_sheets_1_bits xv_sheets_1_size xf_sheets_1_numbers xv_sheets_2_bits xv_sheets_2_size xf_sheets_2_numbers xv_sheets_3_bits xv_sheets_3_size xf_sheets_3_numbers mv_isKept mv_taped mv_gone mv_begin mv_round mf_d mf_kept mf_found mf_tape mf_hears mf_near mf_firstDay mf_daily mf_bitsOf mf_sizeOf mf_number hI
  obtain ⟨hC, hK1, hK2, hK3, hF, hT, hS0, hS1, hS2, hS3, hG⟩ := hI
  have hC0 := hC
  obtain ⟨N, hN, h0, hd0, hd1, hd2, hd3, hd4, hd5, hd6, hct, hwl, hbr, hdy, hsa, hA, hKi, hYa, hSp⟩ := hC
  have hC1 := hC0
  rw [h0] at hC1
  obtain ⟨H, M, g', h', n', mh', mn', j1, j2, j3, j4, j5, j6, j7, j8⟩ := both_listen (xg := xf_ears_gaps) (xh := xf_ears_hears) (xn := xf_ears_near) (mh := mf_hears) (mn := mf_near) hn hN hC1
  obtain ⟨m, hm0, hsa⟩ := hsa
  obtain ⟨B, R, hR⟩ := rho_ex (seq_rg2 (kinds := xf_camp_kinds) (H := H) (M := M) hN hm0)
  obtain ⟨dl, fd, e1, e2⟩ := gt_O (daily := mf_daily) (fd := mf_firstDay) (vb := mv_begin) (vr := mv_round) hn hN hd0 (fun i hi => (hA i hi).1) j5 j6 hm0 hR
  obtain ⟨dy, e3⟩ := wk_O (dayOf := xf_walk_dayOf) (vs := xv_walk_settled) (vr := xv_walk_round) (vl := xv_walk_lastMixed) hn hN j1 j3 j4 hm0 hR
  have hx : F_X6_circle n0 xv_camp_tents xv_camp_said xv_camp_wall xv_camp_bridge xv_camp_counted xv_walk_settled xv_walk_round xv_walk_lastMixed xf_camp_kinds xf_camp_yards xf_ears_gaps xf_ears_hears xf_ears_near xf_walk_dayOf = some (nI R, nI B, nI R, nI (lmN (mxB (fun k => itS (nxO xf_camp_kinds H M N) k (nI m)) N) (B + R)) - 1, g', h', n', dy) := by
    unfold F_X6_circle
    rw [h0, hsa, e3]
    rfl
  have hm : F_X7_circle n0 mv_gone mv_begin mv_round mf_d mf_daily mf_firstDay mf_hears mf_near = some (nI R, nI B, nI R, dl, fd, mh', mn') := by
    unfold F_X7_circle
    rw [hG, j2]
    simp only [bd2]
    rw [rd_l 6 l6 (by decide) (by decide), hd6, hsa, e1]
    rfl
  exact ⟨_, _, _, _, _, _, _, _, _, _, _, _, _, _, hx, hm, hC0, hK1, hK2, hK3, hF, hT, hS0, hS1, hS2, hS3, hG⟩
/-- the reference goes back from the end to the last day of two minds -/
theorem mi_r {n0 N D : Nat} {s : Nat → Int32} {d found g6 g7 g1 g2 : Nat → Int32} {x4 x5 : Int32} (hD : D ≤ 1024) (hdl : ∀ i : Nat, i < D → g6 i = s i) : ∀ (q n : Nat), q ≤ D → q < n → lmN (mxB s N) q = lmN (mxB s N) D → L_X7_mind_36 d n0 found x4 x5 g6 g7 g1 g2 (allI N) n (nI q) = J_X7_mind_69 d n0 found x4 x5 g6 g7 g1 g2 (nI (lmN (mxB s N) D)) := by
  intro q
  induction q with
  | zero =>
    intro n h1 h2 h3
    obtain ⟨n, rfl⟩ : ∃ q, n = q + 1 := ⟨n - 1, by omega⟩
    rw [L_X7_mind_36_u, if_pos (show nI 0 ≤ 0 from by decide), ← h3]
    rfl
  | succ q ih =>
    intro n h1 h2 h3
    obtain ⟨n, rfl⟩ : ∃ q, n = q + 1 := ⟨n - 1, by omega⟩
    rw [L_X7_mind_36_u, if_neg (nI_nle (by omega) (by omega))]
    simp only [nm]
    rw [nI_pred, pk_m1, rd_nI (by omega) (by decide), rd_nI (by omega) (by decide), hdl q (by omega)]
    have h4 : lmN (mxB s N) (q + 1) = if mxB s N q = true then q + 1 else lmN (mxB s N) q := rfl
    by_cases z0 : s q = 0
    · rw [if_pos z0]
      refine ih n (by omega) (by omega) ?_
      rw [← h3, h4, if_neg (show ¬ mxB s N q = true from by unfold mxB; rw [decide_eq_true z0]; exact Bool.false_ne_true)]
    · rw [if_neg z0]
      by_cases z1 : s q = allI N
      · rw [if_pos z1]
        refine ih n (by omega) (by omega) ?_
        rw [← h3, h4, if_neg (show ¬ mxB s N q = true from by unfold mxB; rw [decide_eq_true z1, Bool.not_true, Bool.and_false]; decide)]
      · rw [if_neg z1, ← h3, h4, if_pos (show mxB s N q = true from by unfold mxB; rw [decide_eq_false z0, decide_eq_false z1]; rfl)]
theorem st_mind {n0 : Nat} (hn : 2000000 ≤ n0) : St_mind n0 := by
  intro xv_isKept xf_found xv_camp_tents xv_camp_said xv_camp_wall xv_camp_bridge xv_camp_counted xv_camp_day xv_camp_z xf_camp_kinds xf_camp_yards xf_camp_spots xv_kept_tents xv_kept_said xv_kept_wall xv_kept_bridge xv_kept_counted xv_kept_day xv_kept_z xf_kept_kinds xf_kept_yards xf_kept_spots xf_ears_hears xf_ears_near xf_ears_gaps xv_walk_settled xv_walk_round xv_walk_lastMixed xf_walk_dayOf xv_tape_size xf_tape_bytes xv_sheets_0_bits xv_sheets_0_size xf_sheets_0_numbers xv_sheets_1_bits xv_sheets_1_size xf_sheets_1_numbers xv_sheets_2_bits xv_sheets_2_size xf_sheets_2_numbers xv_sheets_3_bits xv_sheets_3_size xf_sheets_3_numbers mv_isKept mv_taped mv_gone mv_begin mv_round mf_d mf_kept mf_found mf_tape mf_hears mf_near mf_firstDay mf_daily mf_bitsOf mf_sizeOf mf_number hI
  obtain ⟨hC, hK1, hK2, hK3, hF, hT, hS0, hS1, hS2, hS3, hG⟩ := hI
  have hC0 := hC
  obtain ⟨N, hN, h0, hd0, hd1, hd2, hd3, hd4, hd5, hd6, hct, hwl, hbr, hdy, hsa, hA, hKi, hYa, hSp⟩ := hC
  have hC1 := hC0
  rw [h0] at hC1
  obtain ⟨H, M, g', h', n', mh', mn', j1, j2, j3, j4, j5, j6, j7, j8⟩ := both_listen (xg := xf_ears_gaps) (xh := xf_ears_hears) (xn := xf_ears_near) (mh := mf_hears) (mn := mf_near) hn hN hC1
  obtain ⟨m, hm0, hsa⟩ := hsa
  obtain ⟨B, R, hR⟩ := rho_ex (seq_rg2 (kinds := xf_camp_kinds) (H := H) (M := M) hN hm0)
  obtain ⟨dl, fd, e1, e2⟩ := gt_O (daily := mf_daily) (fd := mf_firstDay) (vb := mv_begin) (vr := mv_round) hn hN hd0 (fun i hi => (hA i hi).1) j5 j6 hm0 hR
  obtain ⟨dy, e3⟩ := wk_O (dayOf := xf_walk_dayOf) (vs := xv_walk_settled) (vr := xv_walk_round) (vl := xv_walk_lastMixed) hn hN j1 j3 j4 hm0 hR
  have hr1 := hR.2.1
  have hle := lmN_le (mxB (fun k => itS (nxO xf_camp_kinds H M N) k (nI m)) N) (B + R)
  have hm0 : F_X7_mind n0 mv_gone mv_begin mv_round mf_d mf_daily mf_firstDay mf_found mf_hears mf_near = J_X7_mind_69 mf_d n0 mf_found (nI B) (nI R) dl fd mh' mn' (nI (lmN (mxB (fun k => itS (nxO xf_camp_kinds H M N) k (nI m)) N) (B + R))) := by
    unfold F_X7_mind
    rw [hG, j2]
    simp only [bd2]
    rw [rd_l 6 l6 (by decide) (by decide), hd6, hsa, e1]
    simp only [bd4]
    rw [rd_l 0 l0 (by decide) (by decide), hd0]
    simp only [nm]
    rw [nI_add]
    exact mi_r hr1 e2 (B + R) n0 (Nat.le_refl _) (by omega) rfl
  have hx0 : F_X6_mind n0 xv_camp_tents xv_camp_said xv_camp_wall xv_camp_bridge xv_camp_counted xf_found xv_walk_settled xv_walk_round xv_walk_lastMixed xf_camp_kinds xf_camp_yards xf_ears_gaps xf_ears_hears xf_ears_near xf_walk_dayOf = (if nI N = 0 then some (-1000004, upd xf_found 3 (xf_found 3 + 1), nI B, nI R, nI (lmN (mxB (fun k => itS (nxO xf_camp_kinds H M N) k (nI m)) N) (B + R)) - 1, g', h', n', dy) else if nI (lmN (mxB (fun k => itS (nxO xf_camp_kinds H M N) k (nI m)) N) (B + R)) - 1 < nI B then some (nI (lmN (mxB (fun k => itS (nxO xf_camp_kinds H M N) k (nI m)) N) (B + R)), xf_found, nI B, nI R, nI (lmN (mxB (fun k => itS (nxO xf_camp_kinds H M N) k (nI m)) N) (B + R)) - 1, g', h', n', dy) else some (-1000004, upd xf_found 3 (xf_found 3 + 1), nI B, nI R, nI (lmN (mxB (fun k => itS (nxO xf_camp_kinds H M N) k (nI m)) N) (B + R)) - 1, g', h', n', dy)) := by
    unfold F_X6_mind
    rw [h0, hsa, e3]
    simp only [bd7, nm]
    rw [Int32.sub_add_cancel]
    rfl
  generalize lmN (mxB (fun k => itS (nxO xf_camp_kinds H M N) k (nI m)) N) (B + R) = q at *
  unfold J_X7_mind_69 at hm0
  rw [rd_l 0 l0 (by decide) (by decide), hd0] at hm0
  have hlt : nI q - 1 < nI B ↔ q ≤ B := by
    rw [Int32.lt_iff_toInt_lt, nI_toInt (by omega)]
    have := pk_sub_toInt (a := q) (b := 1) (by omega) (by decide)
    have e9 : nI q - 1 = nI q - nI 1 := rfl
    rw [e9, this]
    omega
  by_cases hz : nI N = 0
  · rw [if_pos hz] at hx0 hm0
    exact ⟨_, _, _, _, _, _, _, _, _, _, _, _, _, _, _, _, hx0, hm0, hC0, hK1, hK2, hK3, fnd_u hF 3 (by decide), hT, hS0, hS1, hS2, hS3, hG⟩
  · rw [if_neg hz] at hx0 hm0
    by_cases hq : q ≤ B
    · rw [if_pos (hlt.mpr hq)] at hx0
      rw [if_pos (nI_le hq (by omega))] at hm0
      exact ⟨_, _, _, _, _, _, _, _, _, _, _, _, _, _, _, _, hx0, hm0, hC0, hK1, hK2, hK3, hF, hT, hS0, hS1, hS2, hS3, hG⟩
    · rw [if_neg (fun h => hq (hlt.mp h))] at hx0
      rw [if_neg (nI_ge (by omega) (by omega))] at hm0
      exact ⟨_, _, _, _, _, _, _, _, _, _, _, _, _, _, _, _, hx0, hm0, hC0, hK1, hK2, hK3, fnd_u hF 3 (by decide), hT, hS0, hS1, hS2, hS3, hG⟩
