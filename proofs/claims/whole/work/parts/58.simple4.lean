theorem mayStand_t {n0 N : Nat} {yards : Nat → Int32} {p y : Int32} (hn : 2000000 ≤ n0) (hN : N ≤ 10) (h : whoR yards y N 0 = -1 ∨ whoR yards y N 0 = p) : F_X0_mayStand n0 (nI N) yards p y = some 1 := by
  unfold F_X0_mayStand
  rw [tentOn_s hn hN]
  simp only [bd1]
  by_cases h1 : whoR yards y N 0 = -1
  · rw [if_pos h1]
  · rw [if_neg h1, if_pos (h.resolve_left h1)]
theorem mayStand_f {n0 N : Nat} {yards : Nat → Int32} {p y : Int32} (hn : 2000000 ≤ n0) (hN : N ≤ 10) (h : ¬ (whoR yards y N 0 = -1 ∨ whoR yards y N 0 = p)) : F_X0_mayStand n0 (nI N) yards p y = some 0 := by
  unfold F_X0_mayStand
  rw [tentOn_s hn hN]
  simp only [bd1]
  rw [if_neg (fun h1 => h (Or.inl h1)), if_neg (fun h1 => h (Or.inr h1))]
theorem st_move {n0 : Nat} (hn : 2000000 ≤ n0) : St_move n0 := by
  intro xv_isKept xf_found xv_camp_tents xv_camp_said xv_camp_wall xv_camp_bridge xv_camp_counted xv_camp_day xv_camp_z xf_camp_kinds xf_camp_yards xf_camp_spots xv_kept_tents xv_kept_said xv_kept_wall xv_kept_bridge xv_kept_counted xv_kept_day xv_kept_z xf_kept_kinds xf_kept_yards xf_kept_spots xv_tape_size xf_tape_bytes xv_sheets_0_bits xv_sheets_0_size xf_sheets_0_numbers xv_sheets_1_bits xv_sheets_1_size xf_sheets_1_numbers xv_sheets_2_bits xv_sheets_2_size xf_sheets_2_numbers xv_sheets_3_bits xv_sheets_3_size xf_sheets_3_numbers mv_isKept mv_taped mv_gone mf_d mf_kept mf_found mf_tape mf_bitsOf mf_sizeOf mf_number hI p1 p2 p3
  obtain ⟨hC, hK1, hK2, hK3, hF, hT, hS0, hS1, hS2, hS3, hG⟩ := hI
  have hC0 := hC
  obtain ⟨N, hN, h0, hd0, hd1, hd2, hd3, hd4, hd5, hd6, hct, hwl, hbr, hdy, hsa, hA, hKi, hYa, hSp⟩ := hC
  obtain ⟨w, hw1, hw2⟩ := hwl
  obtain ⟨br, hb1, hb2⟩ := hbr
  by_cases ht : isT N p1
  · by_cases hy : inR 0 11 p2 ∧ inR 0 11 p3
    · by_cases hm : whoR xf_camp_yards (12 * p3 + p2) N 0 = -1 ∨ whoR xf_camp_yards (12 * p3 + p2) N 0 = p1
      · obtain ⟨t, ht1, rfl⟩ := isT_nI ht
        obtain ⟨x, hx1, rfl⟩ := inR_nI (hi := 11) hy.1
        obtain ⟨y, hy1, rfl⟩ := inR_nI (hi := 11) hy.2
        obtain ⟨a, ha1, ha2⟩ := hYa t (by omega)
        rw [yard_nI] at hm
        have hx : F_X6_move n0 xv_camp_tents xv_camp_wall xv_camp_bridge xv_camp_counted xf_found xf_camp_yards (nI t) (nI x) (nI y) = some (nI (farN w br (decide (xv_camp_counted = 1)) a (12 * y + x)), xf_found, upd xf_camp_yards t (nI (12 * y + x))) := by
          unfold F_X6_move
          rw [h0, has_t hN ht, isYard_t hy.1 hy.2]
          simp only [bd1, one0, F_X6_yardOf, nm]
          rw [yard_nI, mayStand_t hn hN hm]
          simp only [one0]
          rw [rd_nI (by omega) (by decide), ha2, hw2, hb2, apart_s hct hw1 hb1 ha1 (by omega)]
          simp only []
          rw [wrt_nI (by omega) (by decide)]
        have hJ : J_X7_move_52 n0 mf_d (nI t) (nI y) (nI x) mf_found = some (nI (farN w br (decide (xv_camp_counted = 1)) a (12 * y + x)), upd mf_d (20 + t) (nI (12 * y + x)), mf_found) := by
          unfold J_X7_move_52
          rw [mYd (by omega)]
          simp only [bd1, nm]
          rw [yard_nI, (hA t (by omega)).2.1, ha2, farOf_s hct (hd3.trans hw2) (hd4.trans hb2) hd5 hw1 hb1 ha1 (by omega)]
          simp only []
          rw [wrt_l (20 + t) (a20 t) (by omega) (by decide)]
        have hm' : F_X7_move n0 mf_d mf_found (nI t) (nI x) (nI y) = some (nI (farN w br (decide (xv_camp_counted = 1)) a (12 * y + x)), upd mf_d (20 + t) (nI (12 * y + x)), mf_found) := by
          unfold F_X7_move
          rw [mT_t hN hd0 ht, mYard_t hy.1 hy.2]
          simp only [bd1, one0, nm]
          rw [yard_nI, whoIs_s hn hN hd0 (fun i hi => (hA i hi).2.1)]
          simp only []
          by_cases h1 : whoR xf_camp_yards (nI (12 * y + x)) N 0 = -1
          · rw [if_pos h1]
            exact hJ
          · rw [if_neg h1, if_pos (hm.resolve_left h1)]
            exact hJ
        exact ⟨_, _, _, _, _, hx, hm', CR_yard (by omega) (by omega) hC0, hK1, hK2, hK3, hF, hT, hS0, hS1, hS2, hS3, hG⟩
      · have hx : F_X6_move n0 xv_camp_tents xv_camp_wall xv_camp_bridge xv_camp_counted xf_found xf_camp_yards p1 p2 p3 = some (-1000005, upd xf_found 4 (xf_found 4 + 1), xf_camp_yards) := by
          unfold F_X6_move
          rw [h0, has_t hN ht, isYard_t hy.1 hy.2]
          simp only [bd1, one0, F_X6_yardOf, nm]
          rw [mayStand_f hn hN hm]
          rfl
        have hm' : F_X7_move n0 mf_d mf_found p1 p2 p3 = some (-1000005, mf_d, upd mf_found 4 (mf_found 4 + 1)) := by
          unfold F_X7_move
          rw [mT_t hN hd0 ht, mYard_t hy.1 hy.2]
          simp only [bd1, one0, nm]
          rw [whoIs_s hn hN hd0 (fun i hi => (hA i hi).2.1)]
          simp only []
          rw [if_neg (fun h1 => hm (Or.inl h1)), if_neg (fun h1 => hm (Or.inr h1))]
          rfl
        exact ⟨_, _, _, _, _, hx, hm', hC0, hK1, hK2, hK3, fnd_u hF 4 (by decide), hT, hS0, hS1, hS2, hS3, hG⟩
    · have hx : F_X6_move n0 xv_camp_tents xv_camp_wall xv_camp_bridge xv_camp_counted xf_found xf_camp_yards p1 p2 p3 = some (-1000001, upd xf_found 0 (xf_found 0 + 1), xf_camp_yards) := by
        unfold F_X6_move
        rw [h0, has_t hN ht, isYard_f hy]
        rfl
      have hm' : F_X7_move n0 mf_d mf_found p1 p2 p3 = some (-1000001, mf_d, upd mf_found 0 (mf_found 0 + 1)) := by
        unfold F_X7_move
        rw [mT_t hN hd0 ht, mYard_f hy]
        rfl
      exact ⟨_, _, _, _, _, hx, hm', hC0, hK1, hK2, hK3, fnd_u hF 0 (by decide), hT, hS0, hS1, hS2, hS3, hG⟩
  · have hx : F_X6_move n0 xv_camp_tents xv_camp_wall xv_camp_bridge xv_camp_counted xf_found xf_camp_yards p1 p2 p3 = some (-1000001, upd xf_found 0 (xf_found 0 + 1), xf_camp_yards) := by
      unfold F_X6_move
      rw [h0, has_f hN ht]
      rfl
    have hm' : F_X7_move n0 mf_d mf_found p1 p2 p3 = some (-1000001, mf_d, upd mf_found 0 (mf_found 0 + 1)) := by
      unfold F_X7_move
      rw [mT_f hN hd0 ht]
      rfl
    exact ⟨_, _, _, _, _, hx, hm', hC0, hK1, hK2, hK3, fnd_u hF 0 (by decide), hT, hS0, hS1, hS2, hS3, hG⟩
/-- sums of seven, counts of ten -/
def sumF (f : Nat → Int32) : Nat → Nat → Int32 → Int32
  | 0, _, s => s
  | k + 1, i, s => sumF f k (i + 1) (s + f i)
theorem sumF_eq {f m : Nat → Int32} (h : ∀ i : Nat, i < 7 → m i = f i) : ∀ (k i : Nat) (s : Int32), i + k = 7 → sumF m k i s = sumF f k i s := by
  intro k
  induction k with
  | zero => intro i s _; rfl
  | succ k ih => intro i s h1; unfold sumF; rw [h i (by omega), ih (i + 1) _ (by omega)]
theorem stat_r {f : Nat → Int32} : ∀ (k i n : Nat) (s : Int32), i + k = 7 → k < n → L_X6_status_9 f n s (nI i) = some (sumF f k i s, f) := by
  intro k
  induction k with
  | zero =>
    intro i n s h1 h2
    obtain ⟨n, rfl⟩ : ∃ q, n = q + 1 := ⟨n - 1, by omega⟩
    rw [L_X6_status_9_u, if_pos (show (7 : Int32) ≤ nI i from nI_le (a := 7) (by omega) (by omega))]
    rfl
  | succ k ih =>
    intro i n s h1 h2
    obtain ⟨n, rfl⟩ : ∃ q, n = q + 1 := ⟨n - 1, by omega⟩
    rw [L_X6_status_9_u, if_neg (show ¬ (7 : Int32) ≤ nI i from nI_ge (b := 7) (by omega) (by decide)), rd_nI (by omega) (by decide)]
    simp only [nm]
    rw [nI_1, ih (i + 1) n _ (by omega) (by omega)]
    rfl
theorem mstat_r {f : Nat → Int32} {p : Int32} : ∀ (k i n : Nat) (s : Int32), i + k = 7 → k < n → L_X7_status_24 p f n s (nI i) = (if 0 ≤ p then rd f 7 p (fun x => some (x, f)) else some (sumF f k i s, f)) := by
  intro k
  induction k with
  | zero =>
    intro i n s h1 h2
    obtain ⟨n, rfl⟩ : ∃ q, n = q + 1 := ⟨n - 1, by omega⟩
    rw [L_X7_status_24_u, if_pos (show (7 : Int32) ≤ nI i from nI_le (a := 7) (by omega) (by omega))]
    rfl
  | succ k ih =>
    intro i n s h1 h2
    obtain ⟨n, rfl⟩ : ∃ q, n = q + 1 := ⟨n - 1, by omega⟩
    rw [L_X7_status_24_u, if_neg (show ¬ (7 : Int32) ≤ nI i from nI_ge (b := 7) (by omega) (by decide)), rd_nI (by omega) (by decide)]
    simp only [nm]
    rw [nI_1, ih (i + 1) n _ (by omega) (by omega)]
    rfl
theorem st_status {n0 : Nat} (hn : 2000000 ≤ n0) : St_status n0 := by
  intro xv_isKept xf_found xv_camp_tents xv_camp_said xv_camp_wall xv_camp_bridge xv_camp_counted xv_camp_day xv_camp_z xf_camp_kinds xf_camp_yards xf_camp_spots xv_kept_tents xv_kept_said xv_kept_wall xv_kept_bridge xv_kept_counted xv_kept_day xv_kept_z xf_kept_kinds xf_kept_yards xf_kept_spots xv_tape_size xf_tape_bytes xv_sheets_0_bits xv_sheets_0_size xf_sheets_0_numbers xv_sheets_1_bits xv_sheets_1_size xf_sheets_1_numbers xv_sheets_2_bits xv_sheets_2_size xf_sheets_2_numbers xv_sheets_3_bits xv_sheets_3_size xf_sheets_3_numbers mv_isKept mv_taped mv_gone mf_d mf_kept mf_found mf_tape mf_bitsOf mf_sizeOf mf_number hI p1
  obtain ⟨hC, hK1, hK2, hK3, hF, hT, hS0, hS1, hS2, hS3, hG⟩ := hI
  by_cases hm1 : p1 = -1
  · subst hm1
    have hx : F_X6_status n0 xf_found (-1) = some (sumF xf_found 7 0 0, xf_found) := by
      unfold F_X6_status
      rw [if_pos rfl, ← nI_0]
      exact stat_r 7 0 n0 _ (by omega) (by omega)
    have hm : F_X7_status n0 mf_found (-1) = some (sumF xf_found 7 0 0, mf_found) := by
      unfold F_X7_status
      simp only [nm]
      rw [in_t (a := -1) (b := 6) (p := -1) (by constructor <;> decide)]
      simp only [bd1, one0]
      rw [← nI_0, mstat_r 7 0 n0 _ (by omega) (by omega), if_neg (by decide), sumF_eq hF 7 0 _ (by omega)]
    exact ⟨_, _, _, hx, hm, hC, hK1, hK2, hK3, hF, hT, hS0, hS1, hS2, hS3, hG⟩
  · by_cases hr : inR 0 6 p1
    · obtain ⟨k, hk, rfl⟩ := inR_nI (hi := 6) hr
      have hx : F_X6_status n0 xf_found (nI k) = some (xf_found k, xf_found) := by
        unfold F_X6_status
        rw [if_neg hm1, isFrom_t (a := 0) (b := 6) hr]
        simp only [bd1, one0]
        rw [rd_nI (by omega) (by decide)]
      have hm : F_X7_status n0 mf_found (nI k) = some (xf_found k, mf_found) := by
        unfold F_X7_status
        simp only [nm]
        rw [in_t (a := -1) (b := 6) ⟨by have := hr.1; have a3 : (-1 : Int64).toInt = -1 := rfl; omega, hr.2⟩]
        simp only [bd1, one0]
        rw [← nI_0, mstat_r 7 0 n0 _ (by omega) (by omega), if_pos (nI_pos' (by omega)), rd_nI (by omega) (by decide), hF k (by omega)]
      exact ⟨_, _, _, hx, hm, hC, hK1, hK2, hK3, hF, hT, hS0, hS1, hS2, hS3, hG⟩
    · have hx : F_X6_status n0 xf_found p1 = some (-1000001, upd xf_found 0 (xf_found 0 + 1)) := by
        unfold F_X6_status
        rw [if_neg hm1, isFrom_f (a := 0) (b := 6) hr]
        rfl
      have hm : F_X7_status n0 mf_found p1 = some (-1000001, upd mf_found 0 (mf_found 0 + 1)) := by
        unfold F_X7_status
        simp only [nm]
        rw [in_f (a := -1) (b := 6) (fun h => hr ⟨?_, h.2⟩)]
        · rfl
        · have h1 := h.1
          have a3 : (-1 : Int64).toInt = -1 := rfl
          by_cases h2 : p1.toInt = -1
          · exact absurd (Int32.toInt_inj.mp h2) hm1
          · omega
      exact ⟨_, _, _, hx, hm, hC, hK1, hK2, hK3, fnd_u hF 0 (by decide), hT, hS0, hS1, hS2, hS3, hG⟩
def hcF (b : Nat → Bool) : Nat → Nat → Int32 → Int32
  | 0, _, a => a
  | k + 1, i, a => hcF b k (i + 1) (if b i = true then a + 1 else a)
theorem hold_r {spots : Nat → Int32} : ∀ (k i n : Nat) (a : Int32), i + k = 10 → k < n → L_X0_countHolding_4 spots n a (nI i) = some (hcF (fun i => decide (¬ spots i = -1)) k i a) := by
  intro k
  induction k with
  | zero =>
    intro i n a h1 h2
    obtain ⟨n, rfl⟩ : ∃ q, n = q + 1 := ⟨n - 1, by omega⟩
    rw [L_X0_countHolding_4_u, if_pos (show (10 : Int32) ≤ nI i from nI_le (a := 10) (by omega) (by omega))]
    rfl
  | succ k ih =>
    intro i n a h1 h2
    obtain ⟨n, rfl⟩ : ∃ q, n = q + 1 := ⟨n - 1, by omega⟩
    rw [L_X0_countHolding_4_u, if_neg (show ¬ (10 : Int32) ≤ nI i from nI_ge (b := 10) (by omega) (by decide)), rd_nI (by omega) (by decide)]
    simp only [nm]
    unfold hcF
    by_cases h : spots i = -1
    · rw [if_pos h, nI_1, ih (i + 1) n _ (by omega) (by omega), if_neg (by simp [h])]
    · rw [if_neg h, nI_1, ih (i + 1) n _ (by omega) (by omega), if_pos (decide_eq_true h)]
theorem mhold_r {d spots : Nat → Int32} {N : Nat} (hN : N ≤ 10) (hd : ∀ i : Nat, i < 10 → d (30 + i) = spots i + 1) (hs : ∀ i : Nat, i < 10 → ∃ w : Nat, w ≤ N ∧ spots i + 1 = nI w) : ∀ (k i n : Nat) (a : Int32), i + k = 10 → k < n → L_X7_holding_4 d n a (nI i) = some (hcF (fun i => decide (¬ spots i = -1)) k i a) := by
  intro k
  induction k with
  | zero =>
    intro i n a h1 h2
    obtain ⟨n, rfl⟩ : ∃ q, n = q + 1 := ⟨n - 1, by omega⟩
    rw [L_X7_holding_4_u, if_pos (show (10 : Int32) ≤ nI i from nI_le (a := 10) (by omega) (by omega))]
    rfl
  | succ k ih =>
    intro i n a h1 h2
    obtain ⟨n, rfl⟩ : ∃ q, n = q + 1 := ⟨n - 1, by omega⟩
    rw [L_X7_holding_4_u, if_neg (show ¬ (10 : Int32) ≤ nI i from nI_ge (b := 10) (by omega) (by decide))]
    simp only [nm]
    rw [rd_l (30 + i) (a30 i) (by omega) (by decide), hd i (by omega)]
    unfold hcF
    obtain ⟨w, hw, e⟩ := hs i (by omega)
    have e2 : spots i = nI w - 1 := by rw [← e, Int32.add_sub_cancel]
    by_cases h : w = 0
    · have h3 : spots i = -1 := by rw [e2, h]; rfl
      rw [if_pos (by rw [e, h]; decide), Int32.add_zero, nI_1, ih (i + 1) n _ (by omega) (by omega), if_neg (by simp [h3])]
    · have h3 : ¬ spots i = -1 := fun h4 => by
        rw [h4] at e
        have e3 : nI w = 0 := e.symm.trans (by decide)
        exact nI_ne0 (by omega) (by omega) e3
      rw [if_neg (by rw [e]; exact nI_nle (by omega) (by omega)), nI_1, ih (i + 1) n _ (by omega) (by omega), if_pos (decide_eq_true h3)]
theorem st_count {n0 : Nat} (hn : 2000000 ≤ n0) : St_count n0 := by
  intro xv_isKept xf_found xv_camp_tents xv_camp_said xv_camp_wall xv_camp_bridge xv_camp_counted xv_camp_day xv_camp_z xf_camp_kinds xf_camp_yards xf_camp_spots xv_kept_tents xv_kept_said xv_kept_wall xv_kept_bridge xv_kept_counted xv_kept_day xv_kept_z xf_kept_kinds xf_kept_yards xf_kept_spots xv_tape_size xf_tape_bytes xv_sheets_0_bits xv_sheets_0_size xf_sheets_0_numbers xv_sheets_1_bits xv_sheets_1_size xf_sheets_1_numbers xv_sheets_2_bits xv_sheets_2_size xf_sheets_2_numbers xv_sheets_3_bits xv_sheets_3_size xf_sheets_3_numbers mv_isKept mv_taped mv_gone mf_d mf_kept mf_found mf_tape mf_bitsOf mf_sizeOf mf_number hI p1
  obtain ⟨hC, hK1, hK2, hK3, hF, hT, hS0, hS1, hS2, hS3, hG⟩ := hI
  have hC0 := hC
  obtain ⟨N, hN, h0, hd0, hd1, hd2, hd3, hd4, hd5, hd6, hct, hwl, hbr, hdy, hsa, hA, hKi, hYa, hSp⟩ := hC
  obtain ⟨m, hm0, hsa⟩ := hsa
  obtain ⟨T, hT0, hT1, hT2, hT3⟩ := id hT
  have fin : ∀ r : Int32, F_X6_count n0 xv_camp_tents xv_camp_said xv_camp_wall xv_camp_bridge xv_camp_day xv_camp_z xf_found xv_tape_size xf_camp_spots p1 = some (r, xf_found) → F_X7_count n0 mv_taped mf_d mf_found p1 = some (r, mf_found) → ∃ (r : Int32) (o0 w0 : Nat → Int32), F_X6_count n0 xv_camp_tents xv_camp_said xv_camp_wall xv_camp_bridge xv_camp_day xv_camp_z xf_found xv_tape_size xf_camp_spots p1 = some (r, o0) ∧ F_X7_count n0 mv_taped mf_d mf_found p1 = some (r, w0) ∧ Inv xf_camp_kinds xf_camp_yards xf_camp_spots xv_camp_tents xv_camp_said xv_camp_wall xv_camp_bridge xv_camp_counted xv_camp_day xv_camp_z xf_kept_kinds xf_kept_yards xf_kept_spots xv_kept_tents xv_kept_said xv_kept_wall xv_kept_bridge xv_kept_counted xv_kept_day xv_kept_z xv_isKept o0 xv_tape_size xf_tape_bytes xf_sheets_0_numbers xv_sheets_0_bits xv_sheets_0_size xf_sheets_1_numbers xv_sheets_1_bits xv_sheets_1_size xf_sheets_2_numbers xv_sheets_2_bits xv_sheets_2_size xf_sheets_3_numbers xv_sheets_3_bits xv_sheets_3_size mf_d mf_kept mv_isKept w0 mf_tape mv_taped mv_gone mf_bitsOf mf_sizeOf mf_number := fun r h1 h2 => ⟨r, _, _, h1, h2, hC0, hK1, hK2, hK3, hF, hT, hS0, hS1, hS2, hS3, hG⟩
  by_cases q0 : p1 = 0
  · exact fin xv_camp_day (by unfold F_X6_count; rw [if_pos q0]) (by unfold F_X7_count; rw [if_pos q0, rd_l 1 l1 (by decide) (by decide), hd1])
  by_cases q1 : p1 = 1
  · exact fin (nI N) (by unfold F_X6_count; rw [if_neg q0, if_pos q1, h0]) (by unfold F_X7_count; rw [if_neg q0, if_pos q1, rd_l 0 l0 (by decide) (by decide), hd0])
  by_cases q2 : p1 = 2
  · exact fin (onesE xv_camp_said) (by unfold F_X6_count; rw [if_neg q0, if_neg q1, if_pos q2, vote_s, hsa, pop_eq m (by have := pow10 hN; omega)]; rfl) (by unfold F_X7_count; rw [if_neg q0, if_neg q1, if_pos q2, rd_l 6 l6 (by decide) (by decide), hd6, ones_s hn]; rfl)
  by_cases q3 : p1 = 3
  · exact fin xv_camp_wall (by unfold F_X6_count; rw [if_neg q0, if_neg q1, if_neg q2, if_pos q3]) (by unfold F_X7_count; rw [if_neg q0, if_neg q1, if_neg q2, if_pos q3, rd_l 3 l3 (by decide) (by decide), hd3])
  by_cases q4 : p1 = 4
  · exact fin xv_camp_bridge (by unfold F_X6_count; rw [if_neg q0, if_neg q1, if_neg q2, if_neg q3, if_pos q4]) (by unfold F_X7_count; rw [if_neg q0, if_neg q1, if_neg q2, if_neg q3, if_pos q4, rd_l 4 l4 (by decide) (by decide), hd4])
  by_cases q5 : p1 = 5
  · exact fin (nI T) (by unfold F_X6_count; rw [if_neg q0, if_neg q1, if_neg q2, if_neg q3, if_neg q4, if_pos q5, hT1]) (by unfold F_X7_count; rw [if_neg q0, if_neg q1, if_neg q2, if_neg q3, if_neg q4, if_pos q5, hT2])
  by_cases q6 : p1 = 6
  · exact fin xv_camp_z (by unfold F_X6_count; rw [if_neg q0, if_neg q1, if_neg q2, if_neg q3, if_neg q4, if_neg q5, if_pos q6]) (by unfold F_X7_count; rw [if_neg q0, if_neg q1, if_neg q2, if_neg q3, if_neg q4, if_neg q5, if_pos q6, rd_l 2 l2 (by decide) (by decide), hd2])
  by_cases q7 : p1 = 7
  · refine fin (hcF (fun i => decide (¬ xf_camp_spots i = -1)) 10 0 0) ?_ ?_
    · unfold F_X6_count F_X0_countHolding
      rw [if_neg q0, if_neg q1, if_neg q2, if_neg q3, if_neg q4, if_neg q5, if_neg q6, if_pos q7, ← nI_0, hold_r 10 0 n0 _ (by omega) (by omega)]
      rfl
    · unfold F_X7_count F_X7_holding
      rw [if_neg q0, if_neg q1, if_neg q2, if_neg q3, if_neg q4, if_neg q5, if_neg q6, if_pos q7, ← nI_0, mhold_r hN (fun i hi => (hA i hi).2.2) hSp 10 0 n0 _ (by omega) (by omega)]
      rfl
  · have hx : F_X6_count n0 xv_camp_tents xv_camp_said xv_camp_wall xv_camp_bridge xv_camp_day xv_camp_z xf_found xv_tape_size xf_camp_spots p1 = some (-1000001, upd xf_found 0 (xf_found 0 + 1)) := by
      unfold F_X6_count
      rw [if_neg q0, if_neg q1, if_neg q2, if_neg q3, if_neg q4, if_neg q5, if_neg q6, if_neg q7]
      rfl
    have hm : F_X7_count n0 mv_taped mf_d mf_found p1 = some (-1000001, upd mf_found 0 (mf_found 0 + 1)) := by
      unfold F_X7_count
      rw [if_neg q0, if_neg q1, if_neg q2, if_neg q3, if_neg q4, if_neg q5, if_neg q6, if_neg q7]
      rfl
    exact ⟨_, _, _, hx, hm, hC0, hK1, hK2, hK3, fnd_u hF 0 (by decide), hT, hS0, hS1, hS2, hS3, hG⟩
theorem byte_of (v : Int32) : ∃ w : Nat, w < 256 ∧ v &&& 255 = nI w ∧ vp_nar .byte v.toInt8.toInt32 = (nI w).toInt8.toInt32 := by
  obtain ⟨w, hw, e⟩ := pk_andE v (m := 255) 8 (by decide)
  refine ⟨w, hw, e, ?_⟩
  rw [pk_vb, ← e, Int32.toInt8_and, show (255 : Int32).toInt8 = -1 from rfl, Int8.and_neg_one]
theorem feed_r {p : Int32} {found : Nat → Int32} : ∀ (j n T : Nat) (g t : Nat → Int32), T + j ≤ 120 → j < n → TR (nI T) g t (nI T) → ∃ (g' t' : Nat → Int32), L_X3_put_4 p n (nI j - 1) g (nI T) = some (nI (T + j), g') ∧ L_X7_feed_39 found p n (nI j - 1) t (nI T) = some (nI (T + j), nI (T + j), found, t') ∧ TR (nI (T + j)) g' t' (nI (T + j)) := by
  intro j
  induction j with
  | zero =>
    intro n T g t h1 h2 hR
    obtain ⟨n, rfl⟩ : ∃ q, n = q + 1 := ⟨n - 1, by omega⟩
    refine ⟨g, t, ?_, ?_, hR⟩
    · rw [L_X3_put_4_u, if_pos (by decide)]
      rfl
    · rw [L_X7_feed_39_u, if_pos (by decide)]
      rfl
  | succ j ih =>
    intro n T g t h1 h2 hR
    obtain ⟨n, rfl⟩ : ∃ q, n = q + 1 := ⟨n - 1, by omega⟩
    rw [nI_pred, L_X3_put_4_u, L_X7_feed_39_u, if_neg (nI_pos (by omega)), if_neg (nI_pos (by omega)), if_neg (show ¬ (120 : Int32) ≤ nI T from nI_ge (b := 120) (by omega) (by decide))]
    simp only [nm]
    rw [wrt_nI (by omega) (by decide), wrt_nI (by omega) (by decide), nI_1, ← Int32.sub_eq_add_neg]
    obtain ⟨w, hw, e1, e2⟩ := byte_of (p >>> ((8 * nI j) &&& 31))
    rw [e1, e2]
    have hR' : TR (nI (T + 1)) (upd g T (nI w)) (upd t T ((nI w).toInt8.toInt32)) (nI (T + 1)) := by
      obtain ⟨U, hU, u1, u2, u3⟩ := hR
      have e : T = U := (nI_eq (by omega) (by omega)).mp u1
      subst e
      refine ⟨T + 1, by omega, rfl, rfl, fun i hi => ?_⟩
      by_cases h : i = T
      · subst h; exact ⟨w, hw, pk_us, pk_us⟩
      · rw [pk_un h, pk_un h]; exact u3 i (by omega)
    obtain ⟨g', t', a1, a2, a3⟩ := ih n (T + 1) _ _ (by omega) (by omega) hR'
    rw [show T + 1 + j = T + (j + 1) by omega] at a1 a2 a3
    exact ⟨g', t', a1, a2, a3⟩
theorem st_feed {n0 : Nat} (hn : 2000000 ≤ n0) : St_feed n0 := by
  intro xv_isKept xf_found xv_camp_tents xv_camp_said xv_camp_wall xv_camp_bridge xv_camp_counted xv_camp_day xv_camp_z xf_camp_kinds xf_camp_yards xf_camp_spots xv_kept_tents xv_kept_said xv_kept_wall xv_kept_bridge xv_kept_counted xv_kept_day xv_kept_z xf_kept_kinds xf_kept_yards xf_kept_spots xv_tape_size xf_tape_bytes xv_sheets_0_bits xv_sheets_0_size xf_sheets_0_numbers xv_sheets_1_bits xv_sheets_1_size xf_sheets_1_numbers xv_sheets_2_bits xv_sheets_2_size xf_sheets_2_numbers xv_sheets_3_bits xv_sheets_3_size xf_sheets_3_numbers mv_isKept mv_taped mv_gone mf_d mf_kept mf_found mf_tape mf_bitsOf mf_sizeOf mf_number hI p1 p2
  obtain ⟨hC, hK1, hK2, hK3, hF, hT, hS0, hS1, hS2, hS3, hG⟩ := hI
  have hT0 := hT
  obtain ⟨T, hTl, hT1, hT2, hT3⟩ := hT
  by_cases hr : inR 1 4 p2
  · have hlt : ¬ p2 < 0 := by
      rw [Int32.lt_iff_toInt_lt]
      have := hr.1
      have a3 : (0 : Int32).toInt = 0 := rfl
      omega
    obtain ⟨k, hk, rfl⟩ := nI_of hlt
    have hk1 : 1 ≤ k ∧ k ≤ 4 := by
      obtain ⟨a, b⟩ := hr
      rw [nI_toInt hk] at a b
      omega
    by_cases hfull : T + k ≤ 120
    · rw [hT1, hT2] at hT0
      obtain ⟨g', t', a1, a2, a3⟩ := feed_r (p := p1) (found := mf_found) k n0 T xf_tape_bytes mf_tape hfull (by omega) hT0
      have hx : F_X6_feed n0 xf_found xv_tape_size xf_tape_bytes p1 (nI k) = some (nI (T + k), xf_found, nI (T + k), g') := by
        unfold F_X6_feed F_X3_put
        rw [isFrom_t (a := 1) (b := 4) hr]
        simp only [bd1, one0, nm]
        rw [hT1, if_pos, a1]
        · rfl
        · rw [show (120 : Int32) = nI 120 from rfl, pk_sub hTl]
          exact nI_le (by omega) (by omega)
      have hm : F_X7_feed n0 mv_taped mf_found mf_tape p1 (nI k) = some (nI (T + k), nI (T + k), mf_found, t') := by
        unfold F_X7_feed
        simp only [nm]
        rw [in_t (a := 1) (b := 4) hr]
        simp only [bd1, one0]
        rw [hT2, nI_add, if_pos (show nI (T + k) ≤ 120 from nI_le (b := 120) (by omega) (by decide))]
        exact a2
      exact ⟨_, _, _, _, _, _, _, hx, hm, hC, hK1, hK2, hK3, hF, a3, hS0, hS1, hS2, hS3, hG⟩
    · have hx : F_X6_feed n0 xf_found xv_tape_size xf_tape_bytes p1 (nI k) = some (-1000002, upd xf_found 1 (xf_found 1 + 1), xv_tape_size, xf_tape_bytes) := by
        unfold F_X6_feed
        rw [isFrom_t (a := 1) (b := 4) hr]
        simp only [bd1, one0, nm]
        rw [if_neg]
        · rfl
        · rw [hT1, show (120 : Int32) = nI 120 from rfl, pk_sub hTl]
          exact nI_ge (by omega) (by omega)
      have hm : F_X7_feed n0 mv_taped mf_found mf_tape p1 (nI k) = some (-1000002, mv_taped, upd mf_found 1 (mf_found 1 + 1), mf_tape) := by
        unfold F_X7_feed
        simp only [nm]
        rw [in_t (a := 1) (b := 4) hr]
        simp only [bd1, one0]
        rw [if_neg]
        · rfl
        · rw [hT2, nI_add]
          exact (show ¬ nI (T + k) ≤ 120 from nI_ge (a := 120) (by omega) (by omega))
      exact ⟨_, _, _, _, _, _, _, hx, hm, hC, hK1, hK2, hK3, fnd_u hF 1 (by decide), hT0, hS0, hS1, hS2, hS3, hG⟩
  · have hx : F_X6_feed n0 xf_found xv_tape_size xf_tape_bytes p1 p2 = some (-1000001, upd xf_found 0 (xf_found 0 + 1), xv_tape_size, xf_tape_bytes) := by
      unfold F_X6_feed
      rw [isFrom_f (a := 1) (b := 4) hr]
      rfl
    have hm : F_X7_feed n0 mv_taped mf_found mf_tape p1 p2 = some (-1000001, mv_taped, upd mf_found 0 (mf_found 0 + 1), mf_tape) := by
      unfold F_X7_feed
      simp only [nm]
      rw [in_f (a := 1) (b := 4) hr]
      rfl
    exact ⟨_, _, _, _, _, _, _, hx, hm, hC, hK1, hK2, hK3, fnd_u hF 0 (by decide), hT0, hS0, hS1, hS2, hS3, hG⟩
