theorem ixb_r {p : Int32} : ixb p 4 = true ↔ inR 0 3 p := by
  simp only [ixb, Bool.and_eq_true, decide_eq_true_eq, inR]
  omega
theorem ixq_t {Ro : Type} {k : Nat} {q : Option Ro} (h : k < 4) : ixq (nI k) 4 q = q := if_pos (ixb_nI h (by decide))
theorem num_ix {k i : Nat} : (40 : Int32) * nI k + nI i = nI (40 * k + i) := by
  rw [show (40 : Int32) = nI 40 from rfl, pk_mul, nI_add]
theorem SR_of {j : Nat} {nb : Nat → Int32} {b s : Int32} {bO sO nu bO' sO' nu' : Nat → Int32} (h : SR j nb b s bO sO nu) (h1 : bO' j = bO j) (h2 : sO' j = sO j) (h3 : ∀ i, i < 40 → nu' (40 * j + i) = nu (40 * j + i)) : SR j nb b s bO' sO' nu' :=
  ⟨h1.trans h.1, h2.trans h.2.1, h.2.2.1, h.2.2.2.1, fun i hi => (h3 i hi).trans (h.2.2.2.2 i hi)⟩
theorem clrN_r {k : Nat} (hk : k < 4) {g4 g5 found : Nat → Int32} : ∀ (c i n : Nat) (t : Nat → Int32), i + c = 40 → c < n → L_X7_sheet_83 g5 (nI k) g4 found n (nI i) t = some (g5 k, g4, found, (fun j => if 40 * k + i ≤ j ∧ j < 40 * k + 40 then 0 else t j), g5) := by
  intro c
  induction c with
  | zero =>
    intro i n t h1 h2
    obtain ⟨n, rfl⟩ : ∃ q, n = q + 1 := ⟨n - 1, by omega⟩
    rw [L_X7_sheet_83_u, if_pos (show (40 : Int32) ≤ nI i from nI_le (a := 40) (by omega) (by omega)), rd_nI hk (by decide)]
    have e : (fun j => if 40 * k + i ≤ j ∧ j < 40 * k + 40 then 0 else t j) = t := funext fun j => if_neg (by omega)
    rw [e]
  | succ c ih =>
    intro i n t h1 h2
    obtain ⟨n, rfl⟩ : ∃ q, n = q + 1 := ⟨n - 1, by omega⟩
    rw [L_X7_sheet_83_u, if_neg (show ¬ (40 : Int32) ≤ nI i from nI_ge (b := 40) (by omega) (by decide))]
    simp only [nm]
    rw [num_ix, wrt_nI (by omega) (by decide), nI_1, ih (i + 1) n _ (by omega) (by omega)]
    have e : (fun j => if 40 * k + (i + 1) ≤ j ∧ j < 40 * k + 40 then 0 else upd t (40 * k + i) 0 j) = (fun j => if 40 * k + i ≤ j ∧ j < 40 * k + 40 then 0 else t j) := funext fun j => by
      by_cases h3 : 40 * k + (i + 1) ≤ j ∧ j < 40 * k + 40
      · rw [if_pos h3, if_pos (by omega)]
      · rw [if_neg h3]
        by_cases h4 : j = 40 * k + i
        · subst h4; rw [pk_us, if_pos (by omega)]
        · rw [pk_un h4, if_neg (by omega)]
    rw [e]
theorem clrN_r' {k : Nat} (hk : k < 4) {g4 g5 found : Nat → Int32} : ∀ (c i n : Nat) (t : Nat → Int32), i + c = 40 → c < n → L_X7_sheet_83' g5 (nI k) g4 found n (nI i) t = some (g5 k, g4, found, (fun j => if 40 * k + i ≤ j ∧ j < 40 * k + 40 then 0 else t j), g5) := by
  intro c i n t h1 h2
  exact clrN_r hk c i n t h1 h2
theorem sheet_core {n0 k : Nat} (hn : 2000000 ≤ n0) (hk4 : k < 4) {bits size p1 p2 p3 : Int32} {numbers found mfound bitsOf sizeOf number : Nat → Int32} (hk : ixb p1 4 = true → p1 = nI k) (hF : ∀ i : Nat, i < 7 → mfound i = found i) (hS : SR k numbers bits size bitsOf sizeOf number) : ∃ (r : Int32) (o0 : Nat → Int32) (o1 o2 : Int32) (o3 w0 w1 w2 w3 : Nat → Int32), F_X6_sheet n0 found bits size numbers p1 p2 p3 = some (r, o0, o1, o2, o3) ∧ F_X7_sheet n0 bitsOf mfound number sizeOf p1 p2 p3 = some (r, w0, w1, w2, w3) ∧ (∀ i : Nat, i < 7 → w1 i = o0 i) ∧ SR k o3 o1 o2 w0 w3 w2 ∧ ∀ j : Nat, j < 4 → j ≠ k → ∀ (nb : Nat → Int32) (b s : Int32), SR j nb b s bitsOf sizeOf number → SR j nb b s w0 w3 w2 := by
  by_cases hs : inR 0 3 p1
  · have e := hk (ixb_r.mpr hs)
    subst e
    by_cases hb : p2 = 0 ∨ p2 = 8 ∨ p2 = 16 ∨ p2 = 32
    · have e1 : F_X6_sheet n0 found bits size numbers (nI k) p2 p3 = J_X6_sheet_36 p3 (nI k) n0 bits size numbers p2 found := by
        unfold F_X6_sheet
        rw [isSheet_t hs]
        rcases hb with h | h | h | h <;> subst h <;> rfl
      have e2 : F_X7_sheet n0 bitsOf mfound number sizeOf (nI k) p2 p3 = J_X7_sheet_35 p3 bitsOf (nI k) p2 sizeOf mfound n0 number := by
        unfold F_X7_sheet
        rw [mSheet_t hs]
        rcases hb with h | h | h | h <;> subst h <;> rfl
      by_cases h3 : 0 ≤ p3
      · by_cases h4 : p3 ≤ 40
        · have h5 : ¬ p3 < 0 := by
            rw [Int32.le_iff_toInt_le] at h3
            rw [Int32.lt_iff_toInt_lt]
            omega
          obtain ⟨z, hz, rfl⟩ := nI_of2 (M := 40) (n := 40) rfl h5 h4
          have hfill := fill_all (N := 40) (n0 := n0) (v := 0) (f := numbers) (by decide) (by omega)
          by_cases hz0 : p2 = 0
          · subst hz0
            have hx : F_X6_sheet n0 found bits size numbers (nI k) 0 (nI z) = some (0, found, 0, 0, fun j => if j < 40 then 0 else numbers j) := by
              rw [e1]
              unfold J_X6_sheet_36 F_X2_layOut
              rw [if_pos h3, if_pos h4, ixq_t hk4, if_pos rfl, hfill]
              simp only [bd1, bd3]
              rw [ixq_t hk4]
            have hm : F_X7_sheet n0 bitsOf mfound number sizeOf (nI k) 0 (nI z) = some (0, upd bitsOf k 0, mfound, (fun j => if 40 * k + 0 ≤ j ∧ j < 40 * k + 40 then 0 else number j), upd sizeOf k 0) := by
              rw [e2]
              unfold J_X7_sheet_35
              rw [if_pos h3, if_pos h4, wrt_nI hk4 (by decide), if_pos rfl, wrt_nI hk4 (by decide), ← nI_0, clrN_r' hk4 40 0 n0 number (by omega) (by omega), pk_us]
              rfl
            refine ⟨_, _, _, _, _, _, _, _, _, hx, hm, hF, ⟨pk_us, pk_us, Or.inl rfl, ⟨0, by decide, rfl, fun _ => rfl⟩, fun i hi => ?_⟩, fun j hj hjk nb b s h => SR_of h (pk_un hjk) (pk_un hjk) (fun i hi => if_neg (by omega))⟩
            simp only []
            rw [if_pos (by omega), if_pos hi]
          · have hx : F_X6_sheet n0 found bits size numbers (nI k) p2 (nI z) = some (nI z, found, p2, nI z, fun j => if j < 40 then 0 else numbers j) := by
              rw [e1]
              unfold J_X6_sheet_36 F_X2_layOut
              rw [if_pos h3, if_pos h4, ixq_t hk4, if_neg hz0, hfill]
              simp only [bd1, bd3]
              rw [ixq_t hk4]
            have hm : F_X7_sheet n0 bitsOf mfound number sizeOf (nI k) p2 (nI z) = some (nI z, upd bitsOf k p2, mfound, (fun j => if 40 * k + 0 ≤ j ∧ j < 40 * k + 40 then 0 else number j), upd sizeOf k (nI z)) := by
              rw [e2]
              unfold J_X7_sheet_35
              rw [if_pos h3, if_pos h4, wrt_nI hk4 (by decide), if_neg hz0, wrt_nI hk4 (by decide), ← nI_0, clrN_r hk4 40 0 n0 number (by omega) (by omega), pk_us]
              rfl
            refine ⟨_, _, _, _, _, _, _, _, _, hx, hm, hF, ⟨pk_us, pk_us, hb, ⟨z, hz, rfl, fun h => absurd h hz0⟩, fun i hi => ?_⟩, fun j hj hjk nb b s h => SR_of h (pk_un hjk) (pk_un hjk) (fun i hi => if_neg (by omega))⟩
            simp only []
            rw [if_pos (by omega), if_pos hi]
        · have hx : F_X6_sheet n0 found bits size numbers (nI k) p2 p3 = some (-1000001, upd found 0 (found 0 + 1), bits, size, numbers) := by
            rw [e1]
            unfold J_X6_sheet_36
            rw [if_pos h3, if_neg h4]
            rfl
          have hm : F_X7_sheet n0 bitsOf mfound number sizeOf (nI k) p2 p3 = some (-1000001, bitsOf, upd mfound 0 (mfound 0 + 1), number, sizeOf) := by
            rw [e2]
            unfold J_X7_sheet_35
            rw [if_pos h3, if_neg h4]
            rfl
          exact ⟨_, _, _, _, _, _, _, _, _, hx, hm, fnd_u hF 0 (by decide), hS, fun _ _ _ _ _ _ h => h⟩
      · have hx : F_X6_sheet n0 found bits size numbers (nI k) p2 p3 = some (-1000007, upd found 6 (found 6 + 1), bits, size, numbers) := by
          rw [e1]
          unfold J_X6_sheet_36
          rw [if_neg h3]
          rfl
        have hm : F_X7_sheet n0 bitsOf mfound number sizeOf (nI k) p2 p3 = some (-1000007, bitsOf, upd mfound 6 (mfound 6 + 1), number, sizeOf) := by
          rw [e2]
          unfold J_X7_sheet_35
          rw [if_neg h3]
          rfl
        exact ⟨_, _, _, _, _, _, _, _, _, hx, hm, fnd_u hF 6 (by decide), hS, fun _ _ _ _ _ _ h => h⟩
    · have hx : F_X6_sheet n0 found bits size numbers (nI k) p2 p3 = some (-1000001, upd found 0 (found 0 + 1), bits, size, numbers) := by
        unfold F_X6_sheet
        rw [isSheet_t hs]
        simp only [bd1, one0]
        rw [if_neg (fun h => hb (Or.inl h)), if_neg (fun h => hb (Or.inr (Or.inl h))), if_neg (fun h => hb (Or.inr (Or.inr (Or.inl h)))), if_neg (fun h => hb (Or.inr (Or.inr (Or.inr h))))]
        rfl
      have hm : F_X7_sheet n0 bitsOf mfound number sizeOf (nI k) p2 p3 = some (-1000001, bitsOf, upd mfound 0 (mfound 0 + 1), number, sizeOf) := by
        unfold F_X7_sheet
        rw [mSheet_t hs]
        simp only [bd1, one0]
        rw [if_neg (fun h => hb (Or.inl h)), if_neg (fun h => hb (Or.inr (Or.inl h))), if_neg (fun h => hb (Or.inr (Or.inr (Or.inl h)))), if_neg (fun h => hb (Or.inr (Or.inr (Or.inr h))))]
        rfl
      exact ⟨_, _, _, _, _, _, _, _, _, hx, hm, fnd_u hF 0 (by decide), hS, fun _ _ _ _ _ _ h => h⟩
  · have hx : F_X6_sheet n0 found bits size numbers p1 p2 p3 = some (-1000001, upd found 0 (found 0 + 1), bits, size, numbers) := by
      unfold F_X6_sheet
      rw [isSheet_f hs]
      rfl
    have hm : F_X7_sheet n0 bitsOf mfound number sizeOf p1 p2 p3 = some (-1000001, bitsOf, upd mfound 0 (mfound 0 + 1), number, sizeOf) := by
      unfold F_X7_sheet
      rw [mSheet_f hs]
      rfl
    exact ⟨_, _, _, _, _, _, _, _, _, hx, hm, fnd_u hF 0 (by decide), hS, fun _ _ _ _ _ _ h => h⟩
theorem st_sheet_0 {n0 : Nat} (hn : 2000000 ≤ n0) : St_sheet_0 n0 := by
  intro xv_isKept xf_found xv_camp_tents xv_camp_said xv_camp_wall xv_camp_bridge xv_camp_counted xv_camp_day xv_camp_z xf_camp_kinds xf_camp_yards xf_camp_spots xv_kept_tents xv_kept_said xv_kept_wall xv_kept_bridge xv_kept_counted xv_kept_day xv_kept_z xf_kept_kinds xf_kept_yards xf_kept_spots xv_tape_size xf_tape_bytes xv_sheets_0_bits xv_sheets_0_size xf_sheets_0_numbers xv_sheets_1_bits xv_sheets_1_size xf_sheets_1_numbers xv_sheets_2_bits xv_sheets_2_size xf_sheets_2_numbers xv_sheets_3_bits xv_sheets_3_size xf_sheets_3_numbers mv_isKept mv_taped mv_gone mf_d mf_kept mf_found mf_tape mf_bitsOf mf_sizeOf mf_number hI p1 p2 p3 hk1
  obtain ⟨hC, hK1, hK2, hK3, hF, hT, hS0, hS1, hS2, hS3, hG⟩ := hI
  obtain ⟨r, o0, o1, o2, o3, w0, w1, w2, w3, hx, hm, h1, h2, h3⟩ := sheet_core (p2 := p2) (p3 := p3) hn (by decide) hk1 hF hS0
  exact ⟨r, o0, o1, o2, o3, w0, w1, w2, w3, hx, hm, hC, hK1, hK2, hK3, h1, hT, h2, h3 1 (by decide) (by decide) _ _ _ hS1, h3 2 (by decide) (by decide) _ _ _ hS2, h3 3 (by decide) (by decide) _ _ _ hS3, hG⟩
theorem st_sheet_1 {n0 : Nat} (hn : 2000000 ≤ n0) : St_sheet_1 n0 := by
  intro xv_isKept xf_found xv_camp_tents xv_camp_said xv_camp_wall xv_camp_bridge xv_camp_counted xv_camp_day xv_camp_z xf_camp_kinds xf_camp_yards xf_camp_spots xv_kept_tents xv_kept_said xv_kept_wall xv_kept_bridge xv_kept_counted xv_kept_day xv_kept_z xf_kept_kinds xf_kept_yards xf_kept_spots xv_tape_size xf_tape_bytes xv_sheets_0_bits xv_sheets_0_size xf_sheets_0_numbers xv_sheets_1_bits xv_sheets_1_size xf_sheets_1_numbers xv_sheets_2_bits xv_sheets_2_size xf_sheets_2_numbers xv_sheets_3_bits xv_sheets_3_size xf_sheets_3_numbers mv_isKept mv_taped mv_gone mf_d mf_kept mf_found mf_tape mf_bitsOf mf_sizeOf mf_number hI p1 p2 p3 hk1
  obtain ⟨hC, hK1, hK2, hK3, hF, hT, hS0, hS1, hS2, hS3, hG⟩ := hI
  obtain ⟨r, o0, o1, o2, o3, w0, w1, w2, w3, hx, hm, h1, h2, h3⟩ := sheet_core (p2 := p2) (p3 := p3) hn (by decide) hk1 hF hS1
  exact ⟨r, o0, o1, o2, o3, w0, w1, w2, w3, hx, hm, hC, hK1, hK2, hK3, h1, hT, h3 0 (by decide) (by decide) _ _ _ hS0, h2, h3 2 (by decide) (by decide) _ _ _ hS2, h3 3 (by decide) (by decide) _ _ _ hS3, hG⟩
theorem st_sheet_2 {n0 : Nat} (hn : 2000000 ≤ n0) : St_sheet_2 n0 := by
  intro xv_isKept xf_found xv_camp_tents xv_camp_said xv_camp_wall xv_camp_bridge xv_camp_counted xv_camp_day xv_camp_z xf_camp_kinds xf_camp_yards xf_camp_spots xv_kept_tents xv_kept_said xv_kept_wall xv_kept_bridge xv_kept_counted xv_kept_day xv_kept_z xf_kept_kinds xf_kept_yards xf_kept_spots xv_tape_size xf_tape_bytes xv_sheets_0_bits xv_sheets_0_size xf_sheets_0_numbers xv_sheets_1_bits xv_sheets_1_size xf_sheets_1_numbers xv_sheets_2_bits xv_sheets_2_size xf_sheets_2_numbers xv_sheets_3_bits xv_sheets_3_size xf_sheets_3_numbers mv_isKept mv_taped mv_gone mf_d mf_kept mf_found mf_tape mf_bitsOf mf_sizeOf mf_number hI p1 p2 p3 hk1
  obtain ⟨hC, hK1, hK2, hK3, hF, hT, hS0, hS1, hS2, hS3, hG⟩ := hI
  obtain ⟨r, o0, o1, o2, o3, w0, w1, w2, w3, hx, hm, h1, h2, h3⟩ := sheet_core (p2 := p2) (p3 := p3) hn (by decide) hk1 hF hS2
  exact ⟨r, o0, o1, o2, o3, w0, w1, w2, w3, hx, hm, hC, hK1, hK2, hK3, h1, hT, h3 0 (by decide) (by decide) _ _ _ hS0, h3 1 (by decide) (by decide) _ _ _ hS1, h2, h3 3 (by decide) (by decide) _ _ _ hS3, hG⟩
theorem st_sheet_3 {n0 : Nat} (hn : 2000000 ≤ n0) : St_sheet_3 n0 := by
  intro xv_isKept xf_found xv_camp_tents xv_camp_said xv_camp_wall xv_camp_bridge xv_camp_counted xv_camp_day xv_camp_z xf_camp_kinds xf_camp_yards xf_camp_spots xv_kept_tents xv_kept_said xv_kept_wall xv_kept_bridge xv_kept_counted xv_kept_day xv_kept_z xf_kept_kinds xf_kept_yards xf_kept_spots xv_tape_size xf_tape_bytes xv_sheets_0_bits xv_sheets_0_size xf_sheets_0_numbers xv_sheets_1_bits xv_sheets_1_size xf_sheets_1_numbers xv_sheets_2_bits xv_sheets_2_size xf_sheets_2_numbers xv_sheets_3_bits xv_sheets_3_size xf_sheets_3_numbers mv_isKept mv_taped mv_gone mf_d mf_kept mf_found mf_tape mf_bitsOf mf_sizeOf mf_number hI p1 p2 p3 hk1
  obtain ⟨hC, hK1, hK2, hK3, hF, hT, hS0, hS1, hS2, hS3, hG⟩ := hI
  obtain ⟨r, o0, o1, o2, o3, w0, w1, w2, w3, hx, hm, h1, h2, h3⟩ := sheet_core (p2 := p2) (p3 := p3) hn (by decide) hk1 hF hS3
  exact ⟨r, o0, o1, o2, o3, w0, w1, w2, w3, hx, hm, hC, hK1, hK2, hK3, h1, hT, h3 0 (by decide) (by decide) _ _ _ hS0, h3 1 (by decide) (by decide) _ _ _ hS1, h3 2 (by decide) (by decide) _ _ _ hS2, h2, hG⟩
