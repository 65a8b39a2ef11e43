def cutB (bits v : Int32) : Int32 := if bits = 8 then v.toInt8.toInt32 else if bits = 16 then v.toInt16.toInt32 else v
theorem why_t {n0 k : Nat} {bitsOf : Nat → Int32} (hk : k < 4) (hs : inR 0 3 (nI k)) (h : ¬ bitsOf k = 0) : F_X7_whyNone n0 bitsOf (nI k) = some (-1) := by
  unfold F_X7_whyNone
  rw [mSheet_t hs]
  simp only [bd1, one0]
  rw [rd_nI hk (by decide), if_neg h]
theorem why_5 {n0 k : Nat} {bitsOf : Nat → Int32} (hk : k < 4) (hs : inR 0 3 (nI k)) (h : bitsOf k = 0) : F_X7_whyNone n0 bitsOf (nI k) = some 5 := by
  unfold F_X7_whyNone
  rw [mSheet_t hs]
  simp only [bd1, one0]
  rw [rd_nI hk (by decide), if_pos h]
theorem why_0 {n0 : Nat} {p : Int32} {bitsOf : Nat → Int32} (hs : ¬ inR 0 3 p) : F_X7_whyNone n0 bitsOf p = some 0 := by
  unfold F_X7_whyNone
  rw [mSheet_f hs]
  rfl
theorem miss_t {n0 : Nat} {b : Int32} (h : b = 0) : F_X2_isMissing n0 b = some 1 := if_pos h
theorem miss_f {n0 : Nat} {b : Int32} (h : ¬ b = 0) : F_X2_isMissing n0 b = some 0 := if_neg h
theorem write_core {n0 k : Nat} (hn : 2000000 ≤ n0) (hk4 : k < 4) {bits size p1 p2 p3 : Int32} {numbers found mfound bitsOf sizeOf number : Nat → Int32} (hk : ixb p1 4 = true → p1 = nI k) (hF : ∀ i : Nat, i < 7 → mfound i = found i) (hS : SR k numbers bits size bitsOf sizeOf number) : ∃ (r : Int32) (o0 o1 w0 w1 : Nat → Int32), F_X6_write n0 found bits size numbers p1 p2 p3 = some (r, o0, o1) ∧ F_X7_write n0 bitsOf mfound number sizeOf p1 p2 p3 = some (r, w0, w1) ∧ (∀ i : Nat, i < 7 → w0 i = o0 i) ∧ SR k o1 bits size bitsOf sizeOf w1 ∧ ∀ j : Nat, j < 4 → j ≠ k → ∀ (nb : Nat → Int32) (b s : Int32), SR j nb b s bitsOf sizeOf number → SR j nb b s bitsOf sizeOf w1 := by
  have hS0 := hS
  obtain ⟨hb, hz, hb4, ⟨z, hz1, hz2, hz3⟩, hnu⟩ := hS
  by_cases hs : inR 0 3 p1
  · have e := hk (ixb_r.mpr hs)
    subst e
    by_cases h0 : bits = 0
    · have hx : F_X6_write n0 found bits size numbers (nI k) p2 p3 = some (-1000006, upd found 5 (found 5 + 1), numbers) := by
        unfold F_X6_write
        rw [isSheet_t hs]
        simp only [bd1, one0]
        rw [ixq_t hk4, miss_t h0]
        rfl
      have hm : F_X7_write n0 bitsOf mfound number sizeOf (nI k) p2 p3 = some (-1000006, upd mfound 5 (mfound 5 + 1), number) := by
        unfold F_X7_write
        rw [why_5 hk4 hs (hb.trans h0)]
        rfl
      exact ⟨_, _, _, _, _, hx, hm, fnd_u hF 5 (by decide), hS0, fun _ _ _ _ _ _ h => h⟩
    · have hmT : (nI z - 1).toInt64.toInt = (z : Int) - 1 := by
        rw [Int32.toInt_toInt64]
        exact pk_sub_toInt (a := z) (b := 1) (by omega) (by decide)
      by_cases hi : inR 0 (z - 1) p2
      · have hlt : ¬ p2 < 0 := by
          rw [Int32.lt_iff_toInt_lt]
          have := hi.1
          have a3 : (0 : Int32).toInt = 0 := rfl
          omega
        obtain ⟨i, hi1, rfl⟩ := nI_of hlt
        have hiz : i < z := by
          have := hi.2
          rw [nI_toInt hi1] at this
          omega
        have hset : F_X2_set n0 bits size numbers (nI i) p3 = some (upd numbers i (cutB bits p3)) := by
          unfold F_X2_set cutB
          rw [if_neg hlt, hz2, if_neg (nI_ge hiz (by omega)), if_pos (show nI i < 40 from nI_lt (b := 40) (by omega) (by decide))]
          simp only [nm]
          by_cases h8 : bits = 8
          · rw [if_pos h8, if_pos h8, wrt_nI (by omega) (by decide)]
          · rw [if_neg h8, if_neg h8]
            by_cases h16 : bits = 16
            · rw [if_pos h16, if_pos h16, wrt_nI (by omega) (by decide)]
            · rw [if_neg h16, if_neg h16, wrt_nI (by omega) (by decide)]
        have hx : F_X6_write n0 found bits size numbers (nI k) (nI i) p3 = some (1, found, upd numbers i (cutB bits p3)) := by
          unfold F_X6_write
          rw [isSheet_t hs]
          simp only [bd1, one0]
          rw [ixq_t hk4, miss_f h0]
          simp only [zero0]
          rw [if_neg hlt, ixq_t hk4, if_pos (show nI i < size from by rw [hz2]; exact nI_lt hiz (by omega)), ixq_t hk4, hset]
          rfl
        have hm : F_X7_write n0 bitsOf mfound number sizeOf (nI k) (nI i) p3 = some (1, mfound, upd number (40 * k + i) (cutB bits p3)) := by
          unfold F_X7_write
          rw [why_t hk4 hs (by rw [hb]; exact h0)]
          simp only [bd1]
          rw [if_neg (by decide)]
          simp only [nm]
          rw [rd_nI hk4 (by decide), hz, hz2, in_t (a := 0) (b := (nI z - 1).toInt64) ⟨hi.1, by rw [hmT]; exact hi.2⟩]
          simp only [one0]
          unfold J_X7_write_34 J_X7_write_36 cutB
          simp only [nm]
          rw [if_pos (by decide), num_ix, rd_nI hk4 (by decide), hb]
          by_cases h8 : bits = 8
          · rw [if_pos h8, if_pos h8, wrt_nI (by omega) (by decide)]
          · rw [if_neg h8, if_neg h8, rd_nI hk4 (by decide), hb]
            by_cases h16 : bits = 16
            · rw [if_pos h16, if_pos h16, wrt_nI (by omega) (by decide)]
            · rw [if_neg h16, if_neg h16, wrt_nI (by omega) (by decide)]
        refine ⟨_, _, _, _, _, hx, hm, hF, ⟨hb, hz, hb4, ⟨z, hz1, hz2, hz3⟩, fun q hq => ?_⟩, fun j hj hjk nb b s h => SR_of h rfl rfl (fun q hq => pk_un (by omega))⟩
        by_cases h : q = i
        · subst h; rw [pk_us, pk_us]
        · rw [pk_un (by omega), pk_un h]; exact hnu q hq
      · have hx : F_X6_write n0 found bits size numbers (nI k) p2 p3 = some (-1000001, upd found 0 (found 0 + 1), numbers) := by
          unfold F_X6_write
          rw [isSheet_t hs]
          simp only [bd1, one0]
          rw [ixq_t hk4, miss_f h0]
          simp only [zero0]
          by_cases hlt : p2 < 0
          · rw [if_pos hlt]
            rfl
          · have hge : ¬ p2 < size := fun h => by
              obtain ⟨i, hi1, rfl⟩ := nI_of hlt
              rw [hz2, nI_ltI hi1 (by omega)] at h
              exact hi ⟨by rw [nI_toInt hi1]; omega, by rw [nI_toInt hi1]; omega⟩
            rw [if_neg hlt, ixq_t hk4, if_neg hge]
            rfl
        have hm : F_X7_write n0 bitsOf mfound number sizeOf (nI k) p2 p3 = some (-1000001, upd mfound 0 (mfound 0 + 1), number) := by
          unfold F_X7_write
          rw [why_t hk4 hs (by rw [hb]; exact h0)]
          simp only [bd1]
          rw [if_neg (by decide)]
          simp only [nm]
          rw [rd_nI hk4 (by decide), hz, hz2, in_f (a := 0) (b := (nI z - 1).toInt64) (fun h => hi ⟨h.1, by have := h.2; rw [hmT] at this; exact this⟩)]
          rfl
        exact ⟨_, _, _, _, _, hx, hm, fnd_u hF 0 (by decide), hS0, fun _ _ _ _ _ _ h => h⟩
  · have hx : F_X6_write n0 found bits size numbers p1 p2 p3 = some (-1000001, upd found 0 (found 0 + 1), numbers) := by
      unfold F_X6_write
      rw [isSheet_f hs]
      rfl
    have hm : F_X7_write n0 bitsOf mfound number sizeOf p1 p2 p3 = some (-1000001, upd mfound 0 (mfound 0 + 1), number) := by
      unfold F_X7_write
      rw [why_0 hs]
      rfl
    exact ⟨_, _, _, _, _, hx, hm, fnd_u hF 0 (by decide), hS0, fun _ _ _ _ _ _ h => h⟩
theorem st_write_0 {n0 : Nat} (hn : 2000000 ≤ n0) : St_write_0 n0 := by
  intro xv_isKept xf_found xv_camp_tents xv_camp_said xv_camp_wall xv_camp_bridge xv_camp_counted xv_camp_day xv_camp_z xf_camp_kinds xf_camp_yards xf_camp_spots xv_kept_tents xv_kept_said xv_kept_wall xv_kept_bridge xv_kept_counted xv_kept_day xv_kept_z xf_kept_kinds xf_kept_yards xf_kept_spots xv_tape_size xf_tape_bytes xv_sheets_0_bits xv_sheets_0_size xf_sheets_0_numbers xv_sheets_1_bits xv_sheets_1_size xf_sheets_1_numbers xv_sheets_2_bits xv_sheets_2_size xf_sheets_2_numbers xv_sheets_3_bits xv_sheets_3_size xf_sheets_3_numbers mv_isKept mv_taped mv_gone mf_d mf_kept mf_found mf_tape mf_bitsOf mf_sizeOf mf_number hI p1 p2 p3 hk1
  obtain ⟨hC, hK1, hK2, hK3, hF, hT, hS0, hS1, hS2, hS3, hG⟩ := hI
  obtain ⟨r, o0, o1, w0, w1, hx, hm, h1, h2, h3⟩ := write_core (p2 := p2) (p3 := p3) hn (by decide) hk1 hF hS0
  exact ⟨r, o0, o1, w0, w1, hx, hm, hC, hK1, hK2, hK3, h1, hT, h2, h3 1 (by decide) (by decide) _ _ _ hS1, h3 2 (by decide) (by decide) _ _ _ hS2, h3 3 (by decide) (by decide) _ _ _ hS3, hG⟩
theorem st_write_1 {n0 : Nat} (hn : 2000000 ≤ n0) : St_write_1 n0 := by
  intro xv_isKept xf_found xv_camp_tents xv_camp_said xv_camp_wall xv_camp_bridge xv_camp_counted xv_camp_day xv_camp_z xf_camp_kinds xf_camp_yards xf_camp_spots xv_kept_tents xv_kept_said xv_kept_wall xv_kept_bridge xv_kept_counted xv_kept_day xv_kept_z xf_kept_kinds xf_kept_yards xf_kept_spots xv_tape_size xf_tape_bytes xv_sheets_0_bits xv_sheets_0_size xf_sheets_0_numbers xv_sheets_1_bits xv_sheets_1_size xf_sheets_1_numbers xv_sheets_2_bits xv_sheets_2_size xf_sheets_2_numbers xv_sheets_3_bits xv_sheets_3_size xf_sheets_3_numbers mv_isKept mv_taped mv_gone mf_d mf_kept mf_found mf_tape mf_bitsOf mf_sizeOf mf_number hI p1 p2 p3 hk1
  obtain ⟨hC, hK1, hK2, hK3, hF, hT, hS0, hS1, hS2, hS3, hG⟩ := hI
  obtain ⟨r, o0, o1, w0, w1, hx, hm, h1, h2, h3⟩ := write_core (p2 := p2) (p3 := p3) hn (by decide) hk1 hF hS1
  exact ⟨r, o0, o1, w0, w1, hx, hm, hC, hK1, hK2, hK3, h1, hT, h3 0 (by decide) (by decide) _ _ _ hS0, h2, h3 2 (by decide) (by decide) _ _ _ hS2, h3 3 (by decide) (by decide) _ _ _ hS3, hG⟩
theorem st_write_2 {n0 : Nat} (hn : 2000000 ≤ n0) : St_write_2 n0 := by
  intro xv_isKept xf_found xv_camp_tents xv_camp_said xv_camp_wall xv_camp_bridge xv_camp_counted xv_camp_day xv_camp_z xf_camp_kinds xf_camp_yards xf_camp_spots xv_kept_tents xv_kept_said xv_kept_wall xv_kept_bridge xv_kept_counted xv_kept_day xv_kept_z xf_kept_kinds xf_kept_yards xf_kept_spots xv_tape_size xf_tape_bytes xv_sheets_0_bits xv_sheets_0_size xf_sheets_0_numbers xv_sheets_1_bits xv_sheets_1_size xf_sheets_1_numbers xv_sheets_2_bits xv_sheets_2_size xf_sheets_2_numbers xv_sheets_3_bits xv_sheets_3_size xf_sheets_3_numbers mv_isKept mv_taped mv_gone mf_d mf_kept mf_found mf_tape mf_bitsOf mf_sizeOf mf_number hI p1 p2 p3 hk1
  obtain ⟨hC, hK1, hK2, hK3, hF, hT, hS0, hS1, hS2, hS3, hG⟩ := hI
  obtain ⟨r, o0, o1, w0, w1, hx, hm, h1, h2, h3⟩ := write_core (p2 := p2) (p3 := p3) hn (by decide) hk1 hF hS2
  exact ⟨r, o0, o1, w0, w1, hx, hm, hC, hK1, hK2, hK3, h1, hT, h3 0 (by decide) (by decide) _ _ _ hS0, h3 1 (by decide) (by decide) _ _ _ hS1, h2, h3 3 (by decide) (by decide) _ _ _ hS3, hG⟩
theorem st_write_3 {n0 : Nat} (hn : 2000000 ≤ n0) : St_write_3 n0 := by
  intro xv_isKept xf_found xv_camp_tents xv_camp_said xv_camp_wall xv_camp_bridge xv_camp_counted xv_camp_day xv_camp_z xf_camp_kinds xf_camp_yards xf_camp_spots xv_kept_tents xv_kept_said xv_kept_wall xv_kept_bridge xv_kept_counted xv_kept_day xv_kept_z xf_kept_kinds xf_kept_yards xf_kept_spots xv_tape_size xf_tape_bytes xv_sheets_0_bits xv_sheets_0_size xf_sheets_0_numbers xv_sheets_1_bits xv_sheets_1_size xf_sheets_1_numbers xv_sheets_2_bits xv_sheets_2_size xf_sheets_2_numbers xv_sheets_3_bits xv_sheets_3_size xf_sheets_3_numbers mv_isKept mv_taped mv_gone mf_d mf_kept mf_found mf_tape mf_bitsOf mf_sizeOf mf_number hI p1 p2 p3 hk1
  obtain ⟨hC, hK1, hK2, hK3, hF, hT, hS0, hS1, hS2, hS3, hG⟩ := hI
  obtain ⟨r, o0, o1, w0, w1, hx, hm, h1, h2, h3⟩ := write_core (p2 := p2) (p3 := p3) hn (by decide) hk1 hF hS3
  exact ⟨r, o0, o1, w0, w1, hx, hm, hC, hK1, hK2, hK3, h1, hT, h3 0 (by decide) (by decide) _ _ _ hS0, h3 1 (by decide) (by decide) _ _ _ hS1, h3 2 (by decide) (by decide) _ _ _ hS2, h2, hG⟩
/-- load: the two loops together -/
theorem load_r {n0 k z N : Nat} (hk4 : k < 4) (hz : z ≤ 40) (hN : N ≤ 10) {kinds yards spots numbers number found mfound sizeOf : Nat → Int32} {wall bridge counted day zz : Int32} (hsz : sizeOf k = nI z) (hnu : ∀ i : Nat, i < 40 → number (40 * k + i) = numbers i) : ∀ (c i n : Nat) (m : Nat) (d : Nat → Int32), i + c = 41 → c < n → m < 2 ^ N → CR kinds yards spots (nI N) (nI m) wall bridge counted day zz d → ∃ (r : Int32) (m' : Nat) (d' : Nat → Int32), L_X6_load_36 (nI k) (nI z) found (nI N) numbers n0 n (nI i) (nI m) = some (r, nI m', found) ∧ L_X7_load_18 sizeOf (nI k) mfound number n0 n (nI i) d = some (r, d', mfound) ∧ m' < 2 ^ N ∧ CR kinds yards spots (nI N) (nI m') wall bridge counted day zz d' := by
  intro c
  induction c with
  | zero =>
    intro i n m d h1 h2 hm hC
    obtain ⟨n, rfl⟩ : ∃ q, n = q + 1 := ⟨n - 1, by omega⟩
    refine ⟨nI i, m, d, ?_, ?_, hm, hC⟩
    · rw [L_X6_load_36_u, ixq_t hk4, if_pos (nI_le (by omega) (by omega))]
    · rw [L_X7_load_18_u, rd_nI hk4 (by decide), hsz, if_pos (nI_le (by omega) (by omega))]
  | succ c ih =>
    intro i n m d h1 h2 hm hC
    obtain ⟨n, rfl⟩ : ∃ q, n = q + 1 := ⟨n - 1, by omega⟩
    rw [L_X6_load_36_u, ixq_t hk4, L_X7_load_18_u, rd_nI hk4 (by decide), hsz]
    by_cases hzi : z ≤ i
    · rw [if_pos (nI_le hzi (by omega)), if_pos (nI_le hzi (by omega))]
      exact ⟨nI i, m, d, rfl, rfl, hm, hC⟩
    · have hd0 : d 0 = nI N := by
        obtain ⟨M, hM, h0, hd0, _⟩ := hC
        rw [hd0, h0]
      have hd6 : d 6 = nI m := by
        obtain ⟨M, hM, h0, hd0, hd1, hd2, hd3, hd4, hd5, hd6, _⟩ := hC
        exact hd6
      have hzn : ¬ nI z ≤ nI i := nI_ge (by omega) (by omega)
      rw [if_neg hzn, if_neg hzn, rd_l 0 l0 (by decide) (by decide), hd0]
      by_cases hNi : N ≤ i
      · rw [if_pos (nI_le hNi (by omega)), if_pos (nI_le hNi (by omega))]
        exact ⟨nI i, m, d, rfl, rfl, hm, hC⟩
      · have hNn : ¬ nI N ≤ nI i := nI_ge (by omega) (by omega)
        rw [if_neg hNn, if_neg hNn, ixq_t hk4, rd_nI (by omega) (by decide)]
        simp only [nm]
        rw [num_ix, rd_nI (by omega) (by decide), rd_nI (by omega) (by decide), hnu i (by omega)]
        by_cases hb : inR 0 1 (numbers i)
        · rw [isBit_t hb, in_t (a := 0) (b := 1) hb]
          simp only [bd1, one0]
          rw [ixq_t hk4, giveWord_s, rd_nI (by omega) (by decide), hnu i (by omega), nI_1]
          obtain ⟨v, hv, hv2⟩ := inR_nI (hi := 1) hb
          rw [hv2]
          rcases (show v = 0 ∨ v = 1 by omega) with rfl | rfl
          · rw [show nI 0 = (0 : Int32) from rfl, sayOf_0, gw_0, hd6]
            obtain ⟨w, hw1, hw2⟩ := clr_rg hN hm (t := i) (by omega)
            simp only []
            rw [hw2]
            exact ih (i + 1) n w _ (by omega) (by omega) hw1 (CR_said hN hw1 hC)
          · rw [show nI 1 = (1 : Int32) from rfl, sayOf_1, clr_set i (by omega) m (by have := pow10 hN; omega), hd6]
            obtain ⟨w, hw1, hw2⟩ := set_rg hN hm (t := i) (by omega)
            simp only []
            rw [hw2]
            exact ih (i + 1) n w _ (by omega) (by omega) hw1 (CR_said hN hw1 hC)
        · rw [isBit_f hb, in_f (a := 0) (b := 1) hb]
          exact ⟨nI i, m, d, rfl, rfl, hm, hC⟩
theorem load_core {n0 k : Nat} (hn : 2000000 ≤ n0) (hk4 : k < 4) {bits size p1 tents said wall bridge counted day zz : Int32} {kinds yards spots d numbers found mfound bitsOf sizeOf number : Nat → Int32} (hk : ixb p1 4 = true → p1 = nI k) (hF : ∀ i : Nat, i < 7 → mfound i = found i) (hS : SR k numbers bits size bitsOf sizeOf number) (hC : CR kinds yards spots tents said wall bridge counted day zz d) : ∃ (r o0 : Int32) (o1 w0 w1 : Nat → Int32), F_X6_load n0 tents said found bits size numbers p1 = some (r, o0, o1) ∧ F_X7_load n0 bitsOf d mfound number sizeOf p1 = some (r, w0, w1) ∧ (∀ i : Nat, i < 7 → w1 i = o1 i) ∧ CR kinds yards spots tents o0 wall bridge counted day zz w0 := by
  have hC0 := hC
  obtain ⟨N, hN, h0, hd0, hd1, hd2, hd3, hd4, hd5, hd6, hct, hwl, hbr, hdy, ⟨m, hm, hsa⟩, _⟩ := hC
  obtain ⟨hb, hz, hb4, ⟨z, hz1, hz2, hz3⟩, hnu⟩ := hS
  by_cases hs : inR 0 3 p1
  · have e := hk (ixb_r.mpr hs)
    subst e
    by_cases hb0 : bits = 0
    · have hx : F_X6_load n0 tents said found bits size numbers (nI k) = some (-1000006, said, upd found 5 (found 5 + 1)) := by
        unfold F_X6_load
        rw [isSheet_t hs]
        simp only [bd1, one0]
        rw [ixq_t hk4, miss_t hb0]
        rfl
      have hm' : F_X7_load n0 bitsOf d mfound number sizeOf (nI k) = some (-1000006, d, upd mfound 5 (mfound 5 + 1)) := by
        unfold F_X7_load
        rw [why_5 hk4 hs (hb.trans hb0)]
        rfl
      exact ⟨_, _, _, _, _, hx, hm', fnd_u hF 5 (by decide), hC0⟩
    · rw [h0, hsa] at hC0
      obtain ⟨r, m', d', e1, e2, e3, e4⟩ := load_r (n0 := n0) (found := found) (mfound := mfound) hk4 hz1 hN (hz.trans hz2) hnu 41 0 n0 m d (by omega) (by omega) hm hC0
      have hx : F_X6_load n0 tents said found bits size numbers (nI k) = some (r, nI m', found) := by
        unfold F_X6_load
        rw [isSheet_t hs]
        simp only [bd1, one0]
        rw [ixq_t hk4, miss_f hb0]
        simp only [zero0]
        rw [hz2, h0, hsa]
        exact e1
      have hm' : F_X7_load n0 bitsOf d mfound number sizeOf (nI k) = some (r, d', mfound) := by
        unfold F_X7_load
        rw [why_t hk4 hs (by rw [hb]; exact hb0)]
        simp only [bd1]
        rw [if_pos (by decide)]
        exact e2
      rw [h0] at hx ⊢
      exact ⟨_, _, _, _, _, hx, hm', hF, e4⟩
  · have hx : F_X6_load n0 tents said found bits size numbers p1 = some (-1000001, said, upd found 0 (found 0 + 1)) := by
      unfold F_X6_load
      rw [isSheet_f hs]
      rfl
    have hm' : F_X7_load n0 bitsOf d mfound number sizeOf p1 = some (-1000001, d, upd mfound 0 (mfound 0 + 1)) := by
      unfold F_X7_load
      rw [why_0 hs]
      rfl
    exact ⟨_, _, _, _, _, hx, hm', fnd_u hF 0 (by decide), hC0⟩
theorem st_load_0 {n0 : Nat} (hn : 2000000 ≤ n0) : St_load_0 n0 := by
  intro xv_isKept xf_found xv_camp_tents xv_camp_said xv_camp_wall xv_camp_bridge xv_camp_counted xv_camp_day xv_camp_z xf_camp_kinds xf_camp_yards xf_camp_spots xv_kept_tents xv_kept_said xv_kept_wall xv_kept_bridge xv_kept_counted xv_kept_day xv_kept_z xf_kept_kinds xf_kept_yards xf_kept_spots xv_tape_size xf_tape_bytes xv_sheets_0_bits xv_sheets_0_size xf_sheets_0_numbers xv_sheets_1_bits xv_sheets_1_size xf_sheets_1_numbers xv_sheets_2_bits xv_sheets_2_size xf_sheets_2_numbers xv_sheets_3_bits xv_sheets_3_size xf_sheets_3_numbers mv_isKept mv_taped mv_gone mf_d mf_kept mf_found mf_tape mf_bitsOf mf_sizeOf mf_number hI p1 hk1
  obtain ⟨hC, hK1, hK2, hK3, hF, hT, hS0, hS1, hS2, hS3, hG⟩ := hI
  obtain ⟨r, o0, o1, w0, w1, hx, hm, h1, h2⟩ := load_core hn (by decide) hk1 hF hS0 hC
  exact ⟨r, o0, o1, w0, w1, hx, hm, h2, hK1, hK2, hK3, h1, hT, hS0, hS1, hS2, hS3, hG⟩
theorem st_load_1 {n0 : Nat} (hn : 2000000 ≤ n0) : St_load_1 n0 := by
  intro xv_isKept xf_found xv_camp_tents xv_camp_said xv_camp_wall xv_camp_bridge xv_camp_counted xv_camp_day xv_camp_z xf_camp_kinds xf_camp_yards xf_camp_spots xv_kept_tents xv_kept_said xv_kept_wall xv_kept_bridge xv_kept_counted xv_kept_day xv_kept_z xf_kept_kinds xf_kept_yards xf_kept_spots xv_tape_size xf_tape_bytes xv_sheets_0_bits xv_sheets_0_size xf_sheets_0_numbers xv_sheets_1_bits xv_sheets_1_size xf_sheets_1_numbers xv_sheets_2_bits xv_sheets_2_size xf_sheets_2_numbers xv_sheets_3_bits xv_sheets_3_size xf_sheets_3_numbers mv_isKept mv_taped mv_gone mf_d mf_kept mf_found mf_tape mf_bitsOf mf_sizeOf mf_number hI p1 hk1
  obtain ⟨hC, hK1, hK2, hK3, hF, hT, hS0, hS1, hS2, hS3, hG⟩ := hI
  obtain ⟨r, o0, o1, w0, w1, hx, hm, h1, h2⟩ := load_core hn (by decide) hk1 hF hS1 hC
  exact ⟨r, o0, o1, w0, w1, hx, hm, h2, hK1, hK2, hK3, h1, hT, hS0, hS1, hS2, hS3, hG⟩
theorem st_load_2 {n0 : Nat} (hn : 2000000 ≤ n0) : St_load_2 n0 := by
  intro xv_isKept xf_found xv_camp_tents xv_camp_said xv_camp_wall xv_camp_bridge xv_camp_counted xv_camp_day xv_camp_z xf_camp_kinds xf_camp_yards xf_camp_spots xv_kept_tents xv_kept_said xv_kept_wall xv_kept_bridge xv_kept_counted xv_kept_day xv_kept_z xf_kept_kinds xf_kept_yards xf_kept_spots xv_tape_size xf_tape_bytes xv_sheets_0_bits xv_sheets_0_size xf_sheets_0_numbers xv_sheets_1_bits xv_sheets_1_size xf_sheets_1_numbers xv_sheets_2_bits xv_sheets_2_size xf_sheets_2_numbers xv_sheets_3_bits xv_sheets_3_size xf_sheets_3_numbers mv_isKept mv_taped mv_gone mf_d mf_kept mf_found mf_tape mf_bitsOf mf_sizeOf mf_number hI p1 hk1
  obtain ⟨hC, hK1, hK2, hK3, hF, hT, hS0, hS1, hS2, hS3, hG⟩ := hI
  obtain ⟨r, o0, o1, w0, w1, hx, hm, h1, h2⟩ := load_core hn (by decide) hk1 hF hS2 hC
  exact ⟨r, o0, o1, w0, w1, hx, hm, h2, hK1, hK2, hK3, h1, hT, hS0, hS1, hS2, hS3, hG⟩
theorem st_load_3 {n0 : Nat} (hn : 2000000 ≤ n0) : St_load_3 n0 := by
  intro xv_isKept xf_found xv_camp_tents xv_camp_said xv_camp_wall xv_camp_bridge xv_camp_counted xv_camp_day xv_camp_z xf_camp_kinds xf_camp_yards xf_camp_spots xv_kept_tents xv_kept_said xv_kept_wall xv_kept_bridge xv_kept_counted xv_kept_day xv_kept_z xf_kept_kinds xf_kept_yards xf_kept_spots xv_tape_size xf_tape_bytes xv_sheets_0_bits xv_sheets_0_size xf_sheets_0_numbers xv_sheets_1_bits xv_sheets_1_size xf_sheets_1_numbers xv_sheets_2_bits xv_sheets_2_size xf_sheets_2_numbers xv_sheets_3_bits xv_sheets_3_size xf_sheets_3_numbers mv_isKept mv_taped mv_gone mf_d mf_kept mf_found mf_tape mf_bitsOf mf_sizeOf mf_number hI p1 hk1
  obtain ⟨hC, hK1, hK2, hK3, hF, hT, hS0, hS1, hS2, hS3, hG⟩ := hI
  obtain ⟨r, o0, o1, w0, w1, hx, hm, h1, h2⟩ := load_core hn (by decide) hk1 hF hS3 hC
  exact ⟨r, o0, o1, w0, w1, hx, hm, h2, hK1, hK2, hK3, h1, hT, hS0, hS1, hS2, hS3, hG⟩
