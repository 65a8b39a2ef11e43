/-! draws; strew -/
theorem upd_same {f : Nat → Int32} {k : Nat} {x : Int32} (h : f k = x) : upd f k x = f := by
  funext j
  by_cases hj : j = k
  · subst hj; rw [pk_us, h]
  · rw [pk_un hj]
theorem upd_upd {f : Nat → Int32} {k : Nat} {x y : Int32} : upd (upd f k x) k y = upd f k y := by
  funext j
  by_cases hj : j = k
  · subst hj; rw [pk_us, pk_us]
  · rw [pk_un hj, pk_un hj, pk_un hj]
theorem upd_comm {f : Nat → Int32} {k l : Nat} {x y : Int32} (h : k ≠ l) : upd (upd f k x) l y = upd (upd f l y) k x := by
  funext j
  by_cases hj : j = k
  · subst hj; rw [pk_un h, pk_us, pk_us]
  · by_cases hl : j = l
    · subst hl; rw [pk_us, pk_un hj, pk_us]
    · rw [pk_un hl, pk_un hj, pk_un hj, pk_un hl]
def drZ (z : Int32) : Int32 := z * 1103515245 + 12345
def drN (z : Int32) : Int32 := (Int32.toUInt32 (drZ z) >>> (Int32.toUInt32 8 &&& Int32.toUInt32 31)).toInt32
theorem draw_s {n0 : Nat} {z : Int32} : F_X0_draw n0 z = some (drN z, drZ z) := rfl
theorem nI_bv (y : Int32) : y = nI y.toBitVec.toNat := by
  apply Int32.toBitVec_inj.1
  apply BitVec.eq_of_toNat_eq
  rw [pk_tn y.toBitVec.isLt]
theorem drN_rg (z : Int32) : ∃ q : Nat, q < 2 ^ 24 ∧ drN z = nI q := by
  have h := pk_ushr (drZ z) 8 8 (by decide)
  have h2 := nI_bv (drN z)
  have h3 : (drN z).toBitVec.toNat = (drZ z).toBitVec.toNat / 2 ^ 8 := h
  have h4 := (drZ z).toBitVec.isLt
  exact ⟨(drN z).toBitVec.toNat, by omega, h2⟩
theorem drawn_s {n0 : Nat} {d : Nat → Int32} {z : Int32} (h : d 2 = z) : F_X7_drawn n0 d = some (drN z, upd d 2 (drZ z)) := by
  unfold F_X7_drawn
  rw [rd_l 2 l2 (by decide) (by decide), h]
  simp only [nm]
  rw [wrt_l 2 l2 (by decide) (by decide), rd_l 2 l2 (by decide) (by decide), pk_us]
  rfl
theorem CR_z {kinds yards spots d : Nat → Int32} {tents said wall bridge counted day z z' : Int32} (hC : CR kinds yards spots tents said wall bridge counted day z d) : CR kinds yards spots tents said wall bridge counted day z' (upd d 2 z') := by
  obtain ⟨M, hM, h0, hd0, hd1, hd2, hd3, hd4, hd5, hd6, hct, hwl, hbr, hdy, hsa, hA, hKi, hYa, hSp⟩ := hC
  have un : ∀ j : Nat, j ≠ 2 → upd d 2 z' j = d j := fun j h2 => pk_un h2
  exact ⟨M, hM, h0, by rw [un 0 (by decide)]; exact hd0, by rw [un 1 (by decide)]; exact hd1, pk_us, by rw [un 3 (by decide)]; exact hd3, by rw [un 4 (by decide)]; exact hd4, by rw [un 5 (by decide)]; exact hd5, by rw [un 6 (by decide)]; exact hd6, hct, hwl, hbr, hdy, hsa, fun i hi => by rw [un (10 + i) (by omega), un (20 + i) (by omega), un (30 + i) (by omega)]; exact hA i hi, hKi, hYa, hSp⟩
theorem draw_ex (n0 : Nat) (z : Int32) : ∃ (q : Nat) (z1 : Int32), q < 2 ^ 24 ∧ F_X0_draw n0 z = some (nI q, z1) ∧ ∀ d : Nat → Int32, d 2 = z → F_X7_drawn n0 d = some (nI q, upd d 2 z1) := by
  obtain ⟨q, h1, h2⟩ := drN_rg z
  refine ⟨q, drZ z, h1, ?_, fun d hd => ?_⟩
  · rw [draw_s, h2]
  · rw [drawn_s hd, h2]
/-- where one goes that would go to yard y -/
def goY (yards : Nat → Int32) (N t y : Nat) : Nat → Int32 := if whoR yards (nI y) N 0 = -1 then upd yards t (nI y) else yards
def goD (d yards : Nat → Int32) (N t y : Nat) : Nat → Int32 := if whoR yards (nI y) N 0 = -1 then upd d (20 + t) (nI y) else d
theorem stray_s {n0 N t q : Nat} {yards : Nat → Int32} {z z1 : Int32} (hn : 2000000 ≤ n0) (hN : N ≤ 10) (ht : t < N) (hq : q < 2 ^ 24) (he : F_X0_draw n0 z = some (nI q, z1)) : F_X0_stray n0 (nI N) z yards (nI t) = some (z1, goY yards N t (q % 144)) := by
  have hit : isT N (nI t) := ⟨by rw [nI_toInt (by omega)]; omega, by rw [nI_toInt (by omega)]; omega⟩
  unfold F_X0_stray goY
  rw [he]
  simp only [bd2]
  rw [dv144, show nI q - nI q / 144 * 144 = nI (q % 144) from pk_rem (a := q) (d := 144) (by omega) (by decide) (by decide), has_t hN hit]
  simp only [bd1, one0]
  by_cases h1 : whoR yards (nI (q % 144)) N 0 = -1
  · rw [mayStand_t hn hN (Or.inl h1), if_pos h1]
    simp only [one0]
    rw [wrt_nI (by omega) (by decide)]
  · rw [if_neg h1]
    by_cases h2 : whoR yards (nI (q % 144)) N 0 = nI t
    · rw [mayStand_t hn hN (Or.inr h2)]
      simp only [one0]
      rw [wrt_nI (by omega) (by decide)]
      rcases whoR_or yards (nI (q % 144)) N 0 with h3 | ⟨j, a1, a2, a3, a4⟩
      · exact absurd h3 h1
      · have e : j = t := (nI_eq (by omega) (by omega)).mp (a3.symm.trans h2)
        subst e
        rw [upd_same a4]
    · rw [mayStand_f hn hN (fun h => h.elim h1 h2)]
      simp only [zero0, if_true]
theorem goes_s {n0 N t y : Nat} {d yards : Nat → Int32} (hn : 2000000 ≤ n0) (hN : N ≤ 10) (hd : d 0 = nI N) (hy : ∀ i : Nat, i < 10 → d (20 + i) = yards i) (ht : t < 10) : F_X7_goes n0 d (nI t) (nI y) = some (goD d yards N t y) := by
  unfold F_X7_goes goD
  simp only [nm]
  rw [whoIs_s hn hN hd hy]
  simp only [bd1]
  by_cases h1 : whoR yards (nI y) N 0 = -1
  · rw [if_pos h1, if_pos h1, wrt_l (20 + t) (a20 t) (by omega) (by decide)]
  · rw [if_neg h1, if_neg h1, rd_l (20 + t) (a20 t) (by omega) (by decide), wrt_l (20 + t) (a20 t) (by omega) (by decide), upd_same rfl]
theorem CR_go {kinds yards spots d : Nat → Int32} {N t y : Nat} {tents said wall bridge counted day z : Int32} (ht : t < 10) (hy : y < 144) (hC : CR kinds yards spots tents said wall bridge counted day z d) : CR kinds (goY yards N t y) spots tents said wall bridge counted day z (goD d yards N t y) := by
  unfold goY goD
  by_cases h : whoR yards (nI y) N 0 = -1
  · rw [if_pos h, if_pos h]
    exact CR_yard ht hy hC
  · rw [if_neg h, if_neg h]
    exact hC
theorem CR_N {kinds yards spots d : Nat → Int32} {N : Nat} {said wall bridge counted day z : Int32} (hN : N ≤ 10) (hC : CR kinds yards spots (nI N) said wall bridge counted day z d) : d 0 = nI N ∧ d 2 = z ∧ ∀ i : Nat, i < 10 → d (20 + i) = yards i := by
  obtain ⟨M, hM, h0, hd0, hd1, hd2, hd3, hd4, hd5, hd6, hct, hwl, hbr, hdy, hsa, hA, hKi, hYa, hSp⟩ := hC
  exact ⟨hd0.trans h0.symm, hd2, fun i hi => (hA i hi).2.1⟩
theorem strew_r {n0 N p : Nat} {kinds spots xg xh xn mh mn found mfound : Nat → Int32} {said wall bridge counted day : Int32} (hn : 2000000 ≤ n0) (hN : N ≤ 10) (hN0 : 0 < N) (hp : p ≤ 12) : ∀ (k i n : Nat) (yards d : Nat → Int32) (z : Int32), i + k = p → k < n → CR kinds yards spots (nI N) said wall bridge counted day z d → ∃ (r z' : Int32) (yards' g' h' n' d' mh' mn' : Nat → Int32), L_X6_strew_36 (nI p) n0 (nI N) wall bridge counted xg xh xn kinds found n (nI i) yards z = some (r, z', found, yards', g', h', n') ∧ L_X7_strew_35 (nI p) n0 (-1) mh mn mfound n (nI i) d = some (r, d', mfound, mh', mn') ∧ CR kinds yards' spots (nI N) said wall bridge counted day z' d' := by
  intro k
  induction k with
  | zero =>
    intro i n yards d z h1 h2 hC
    obtain ⟨n, rfl⟩ : ∃ q, n = q + 1 := ⟨n - 1, by omega⟩
    obtain ⟨H, M, g', h', n', mh', mn', j1, j2, j3, j4, j5, j6, j7, j8⟩ := both_listen (xg := xg) (xh := xh) (xn := xn) (mh := mh) (mn := mn) hn hN hC
    obtain ⟨hd0, _, _⟩ := CR_N hN hC
    refine ⟨nI (cntF (pgB H) N 0 0), z, yards, g', h', n', d, mh', mn', ?_, ?_, hC⟩
    · rw [L_X6_strew_36_u, if_pos (nI_le (by omega) (by omega)), j1]
      simp only [bd3]
      rw [cp_s hn hN j3 j7]
      rfl
    · rw [L_X7_strew_35_u, if_pos (nI_le (by omega) (by omega)), j2]
      simp only [bd2]
      rw [mps_s hn hN hd0 j5]
      rfl
  | succ k ih =>
    intro i n yards d z h1 h2 hC
    obtain ⟨n, rfl⟩ : ∃ q, n = q + 1 := ⟨n - 1, by omega⟩
    obtain ⟨q, z1, hq, he, hed⟩ := draw_ex n0 z
    obtain ⟨q2, z2, hq2, he2, hed2⟩ := draw_ex n0 z1
    have ht : q % N < N := Nat.mod_lt _ hN0
    have hy : q2 % 144 < 144 := Nat.mod_lt _ (by decide)
    have hC1 : CR kinds yards spots (nI N) said wall bridge counted day z1 (upd d 2 z1) := CR_z hC
    have hC2 : CR kinds yards spots (nI N) said wall bridge counted day z2 (upd (upd d 2 z1) 2 z2) := CR_z hC1
    obtain ⟨hd0, hd2, hdy⟩ := CR_N hN hC
    obtain ⟨hd0', hd2', hdy'⟩ := CR_N hN hC1
    obtain ⟨hd0'', hd2'', hdy''⟩ := CR_N hN hC2
    have hC3 := CR_go (N := N) (t := q % N) (y := q2 % 144) (by omega) hy hC2
    obtain ⟨r, z', yards', g', h', n', d', mh', mn', e1, e2, e3⟩ := ih (i + 1) n _ _ _ (by omega) (by omega) hC3
    refine ⟨r, z', yards', g', h', n', d', mh', mn', ?_, ?_, e3⟩
    · rw [L_X6_strew_36_u, if_neg (nI_ge (by omega) (by omega)), he]
      simp only [bd2, nm]
      rw [dvn_k (nI_ne0 hN0 (by omega)), pk_rem (by omega) hN0 (by omega), stray_s hn hN ht hq2 he2]
      simp only []
      rw [nI_1]
      exact e1
    · rw [L_X7_strew_35_u, if_neg (nI_ge (by omega) (by omega)), hed d hd2]
      simp only [bd2, nm]
      rw [rd_l 0 l0 (by decide) (by decide), hd0', dvn_k (nI_ne0 hN0 (by omega)), pk_rem (by omega) hN0 (by omega), hed2 _ hd2']
      simp only []
      rw [dv144, show nI q2 - nI q2 / 144 * 144 = nI (q2 % 144) from pk_rem (a := q2) (d := 144) (by omega) (by decide) (by decide), goes_s hn hN hd0'' hdy'' (by omega)]
      simp only [bd1]
      rw [nI_1]
      exact e2
theorem st_strew {n0 : Nat} (hn : 2000000 ≤ n0) : St_strew n0 := by
  intro xv_isKept xf_found xv_camp_tents xv_camp_said xv_camp_wall xv_camp_bridge xv_camp_counted xv_camp_day xv_camp_z xf_camp_kinds xf_camp_yards xf_camp_spots xv_kept_tents xv_kept_said xv_kept_wall xv_kept_bridge xv_kept_counted xv_kept_day xv_kept_z xf_kept_kinds xf_kept_yards xf_kept_spots xf_ears_hears xf_ears_near xf_ears_gaps xv_tape_size xf_tape_bytes xv_sheets_0_bits xv_sheets_0_size xf_sheets_0_numbers xv_sheets_1_bits xv_sheets_1_size xf_sheets_1_numbers xv_sheets_2_bits xv_sheets_2_size xf_sheets_2_numbers xv_sheets_3_bits xv_sheets_3_size xf_sheets_3_numbers mv_isKept mv_taped mv_gone mf_d mf_kept mf_found mf_tape mf_hears mf_near mf_bitsOf mf_sizeOf mf_number hI p1
  obtain ⟨hC, hK1, hK2, hK3, hF, hT, hS0, hS1, hS2, hS3, hG⟩ := hI
  have hC0 := hC
  obtain ⟨N, hN, h0, hd0, hd1, hd2, hd3, hd4, hd5, hd6, hct, hwl, hbr, hdy, hsa, hA, hKi, hYa, hSp⟩ := hC
  have hC1 := hC0
  rw [h0] at hC1
  by_cases hr : inR 1 12 p1
  · obtain ⟨p, hp0, hp1, hp2⟩ := inR_nI1 (lo := 1) (hi := 12) hr
    by_cases hz : N = 0
    · subst hz
      have hx : F_X6_strew n0 xv_camp_tents xv_camp_wall xv_camp_bridge xv_camp_counted xv_camp_z xf_found xf_camp_kinds xf_camp_yards xf_ears_gaps xf_ears_hears xf_ears_near p1 = some (-1000005, xv_camp_z, upd xf_found 4 (xf_found 4 + 1), xf_camp_yards, xf_ears_gaps, xf_ears_hears, xf_ears_near) := by
        unfold F_X6_strew
        rw [isFrom_t (a := 1) (b := 12) hr]
        simp only [bd1, one0]
        rw [h0, if_pos (show nI 0 = 0 from rfl)]
        rfl
      have hm : F_X7_strew n0 mv_gone mf_d mf_found mf_hears mf_near p1 = some (-1000005, mf_d, upd mf_found 4 (mf_found 4 + 1), mf_hears, mf_near) := by
        unfold F_X7_strew
        simp only [nm]
        rw [in_t (a := 1) (b := 12) hr]
        simp only [bd1, one0]
        rw [rd_l 0 l0 (by decide) (by decide), hd0, if_pos (show nI 0 = 0 from rfl)]
        rfl
      exact ⟨_, _, _, _, _, _, _, _, _, _, _, hx, hm, hC0, hK1, hK2, hK3, fnd_u hF 4 (by decide), hT, hS0, hS1, hS2, hS3, hG⟩
    · obtain ⟨r, z', yards', g', h', n', d', mh', mn', e1, e2, e3⟩ := strew_r (xg := xf_ears_gaps) (xh := xf_ears_hears) (xn := xf_ears_near) (mh := mf_hears) (mn := mf_near) (found := xf_found) (mfound := mf_found) hn hN (by omega) hp1 p 0 n0 xf_camp_yards mf_d xv_camp_z (by omega) (by omega) hC1
      rw [nI_0] at e1 e2
      have hx : F_X6_strew n0 xv_camp_tents xv_camp_wall xv_camp_bridge xv_camp_counted xv_camp_z xf_found xf_camp_kinds xf_camp_yards xf_ears_gaps xf_ears_hears xf_ears_near p1 = some (r, z', xf_found, yards', g', h', n') := by
        unfold F_X6_strew
        rw [isFrom_t (a := 1) (b := 12) hr]
        simp only [bd1, one0]
        rw [h0, if_neg (fun h => hz ((nI_z hN).mp h)), hp2]
        exact e1
      have hm : F_X7_strew n0 mv_gone mf_d mf_found mf_hears mf_near p1 = some (r, d', mf_found, mh', mn') := by
        unfold F_X7_strew
        simp only [nm]
        rw [in_t (a := 1) (b := 12) hr]
        simp only [bd1, one0]
        rw [rd_l 0 l0 (by decide) (by decide), hd0, if_neg (fun h => hz ((nI_z hN).mp h)), hp2, hG]
        exact e2
      rw [← h0] at e3
      exact ⟨_, _, _, _, _, _, _, _, _, _, _, hx, hm, e3, hK1, hK2, hK3, hF, hT, hS0, hS1, hS2, hS3, hG⟩
  · have hx : F_X6_strew n0 xv_camp_tents xv_camp_wall xv_camp_bridge xv_camp_counted xv_camp_z xf_found xf_camp_kinds xf_camp_yards xf_ears_gaps xf_ears_hears xf_ears_near p1 = some (-1000001, xv_camp_z, upd xf_found 0 (xf_found 0 + 1), xf_camp_yards, xf_ears_gaps, xf_ears_hears, xf_ears_near) := by
      unfold F_X6_strew
      rw [isFrom_f (a := 1) (b := 12) hr]
      rfl
    have hm : F_X7_strew n0 mv_gone mf_d mf_found mf_hears mf_near p1 = some (-1000001, mf_d, upd mf_found 0 (mf_found 0 + 1), mf_hears, mf_near) := by
      unfold F_X7_strew
      simp only [nm]
      rw [in_f (a := 1) (b := 12) hr]
      rfl
    exact ⟨_, _, _, _, _, _, _, _, _, _, _, hx, hm, hC0, hK1, hK2, hK3, fnd_u hF 0 (by decide), hT, hS0, hS1, hS2, hS3, hG⟩
