theorem CR_wall {kinds yards spots d : Nat → Int32} {w : Nat} {tents said wall bridge counted day z : Int32} (hw : w < 12) (hC : CR kinds yards spots tents said wall bridge counted day z d) : CR kinds yards spots tents said (nI w) bridge counted day z (upd d 3 (nI w)) := by
  obtain ⟨M, hM, h0, hd0, hd1, hd2, hd3, hd4, hd5, hd6, hct, hwl, hbr, hdy, hsa, hA, hKi, hYa, hSp⟩ := hC
  have un : ∀ j : Nat, j ≠ 3 → upd d 3 (nI w) j = d j := fun j h2 => pk_un h2
  exact ⟨M, hM, h0, by rw [un 0 (by decide)]; exact hd0, by rw [un 1 (by decide)]; exact hd1, by rw [un 2 (by decide)]; exact hd2, pk_us, by rw [un 4 (by decide)]; exact hd4, by rw [un 5 (by decide)]; exact hd5, by rw [un 6 (by decide)]; exact hd6, hct, ⟨w, hw, rfl⟩, hbr, hdy, hsa, fun i hi => by rw [un (10 + i) (by omega), un (20 + i) (by omega), un (30 + i) (by omega)]; exact hA i hi, hKi, hYa, hSp⟩
theorem CR_bridge {kinds yards spots d : Nat → Int32} {w : Nat} {tents said wall bridge counted day z : Int32} (hw : w < 12) (hC : CR kinds yards spots tents said wall bridge counted day z d) : CR kinds yards spots tents said wall (nI w) counted day z (upd d 4 (nI w)) := by
  obtain ⟨M, hM, h0, hd0, hd1, hd2, hd3, hd4, hd5, hd6, hct, hwl, hbr, hdy, hsa, hA, hKi, hYa, hSp⟩ := hC
  have un : ∀ j : Nat, j ≠ 4 → upd d 4 (nI w) j = d j := fun j h2 => pk_un h2
  exact ⟨M, hM, h0, by rw [un 0 (by decide)]; exact hd0, by rw [un 1 (by decide)]; exact hd1, by rw [un 2 (by decide)]; exact hd2, by rw [un 3 (by decide)]; exact hd3, pk_us, by rw [un 5 (by decide)]; exact hd5, by rw [un 6 (by decide)]; exact hd6, hct, hwl, ⟨w, hw, rfl⟩, hdy, hsa, fun i hi => by rw [un (10 + i) (by omega), un (20 + i) (by omega), un (30 + i) (by omega)]; exact hA i hi, hKi, hYa, hSp⟩
theorem CR_counted {kinds yards spots d : Nat → Int32} {v : Int32} {tents said wall bridge counted day z : Int32} (hw : v = 0 ∨ v = 1) (hC : CR kinds yards spots tents said wall bridge counted day z d) : CR kinds yards spots tents said wall bridge v day z (upd d 5 v) := by
  obtain ⟨M, hM, h0, hd0, hd1, hd2, hd3, hd4, hd5, hd6, hct, hwl, hbr, hdy, hsa, hA, hKi, hYa, hSp⟩ := hC
  have un : ∀ j : Nat, j ≠ 5 → upd d 5 v j = d j := fun j h2 => pk_un h2
  exact ⟨M, hM, h0, by rw [un 0 (by decide)]; exact hd0, by rw [un 1 (by decide)]; exact hd1, by rw [un 2 (by decide)]; exact hd2, by rw [un 3 (by decide)]; exact hd3, by rw [un 4 (by decide)]; exact hd4, pk_us, by rw [un 6 (by decide)]; exact hd6, hw, hwl, hbr, hdy, hsa, fun i hi => by rw [un (10 + i) (by omega), un (20 + i) (by omega), un (30 + i) (by omega)]; exact hA i hi, hKi, hYa, hSp⟩
theorem st_wall {n0 : Nat} (hn : 2000000 ≤ n0) : St_wall n0 := by
  intro xv_isKept xf_found xv_camp_tents xv_camp_said xv_camp_wall xv_camp_bridge xv_camp_counted xv_camp_day xv_camp_z xf_camp_kinds xf_camp_yards xf_camp_spots xv_kept_tents xv_kept_said xv_kept_wall xv_kept_bridge xv_kept_counted xv_kept_day xv_kept_z xf_kept_kinds xf_kept_yards xf_kept_spots xv_tape_size xf_tape_bytes xv_sheets_0_bits xv_sheets_0_size xf_sheets_0_numbers xv_sheets_1_bits xv_sheets_1_size xf_sheets_1_numbers xv_sheets_2_bits xv_sheets_2_size xf_sheets_2_numbers xv_sheets_3_bits xv_sheets_3_size xf_sheets_3_numbers mv_isKept mv_taped mv_gone mf_d mf_kept mf_found mf_tape mf_bitsOf mf_sizeOf mf_number hI p1 p2
  obtain ⟨hC, hK1, hK2, hK3, hF, hT, hS0, hS1, hS2, hS3, hG⟩ := hI
  have hC0 := hC
  obtain ⟨N, hN, h0, hd0, hd1, hd2, hd3, hd4, hd5, hd6, hct, hwl, hbr, hdy, hsa, hA, hKi, hYa, hSp⟩ := hC
  by_cases ha : p1 = 0 ∧ inR 0 11 p2
  · obtain ⟨hp, hs⟩ := ha
    subst hp
    obtain ⟨w, hw, rfl⟩ := inR_nI (hi := 11) hs
    have hx : F_X6_wall n0 xv_camp_wall xv_camp_bridge xv_camp_counted xf_found 0 (nI w) = some (xv_camp_wall, nI w, xv_camp_bridge, xv_camp_counted, xf_found) := by
      unfold F_X6_wall
      rw [if_pos rfl, isSide_t hs]
      rfl
    have hm : F_X7_wall n0 mf_d mf_found 0 (nI w) = some (xv_camp_wall, upd mf_d 3 (nI w), mf_found) := by
      unfold F_X7_wall J_X7_wall_27
      simp only [nm]
      rw [in_t (a := 0) (b := 2) (p := 0) (by constructor <;> decide)]
      simp only [bd1, one0]
      rw [if_neg (by decide), in_t (a := 0) (b := 11) hs]
      simp only [one0]
      rw [show (3 : Int32) + 0 = 3 from rfl, rd_l 3 l3 (by decide) (by decide), wrt_l 3 l3 (by decide) (by decide), hd3]
    exact ⟨_, _, _, _, _, _, _, hx, hm, CR_wall (by omega) hC0, hK1, hK2, hK3, hF, hT, hS0, hS1, hS2, hS3, hG⟩
  · by_cases hb : p1 = 1 ∧ inR 0 11 p2
    · obtain ⟨hp, hs⟩ := hb
      subst hp
      obtain ⟨w, hw, rfl⟩ := inR_nI (hi := 11) hs
      have hx : F_X6_wall n0 xv_camp_wall xv_camp_bridge xv_camp_counted xf_found 1 (nI w) = some (xv_camp_bridge, xv_camp_wall, nI w, xv_camp_counted, xf_found) := by
        unfold F_X6_wall J_X6_wall_29
        rw [if_neg (by decide), if_pos rfl, isSide_t hs]
        rfl
      have hm : F_X7_wall n0 mf_d mf_found 1 (nI w) = some (xv_camp_bridge, upd mf_d 4 (nI w), mf_found) := by
        unfold F_X7_wall J_X7_wall_27
        simp only [nm]
        rw [in_t (a := 0) (b := 2) (p := 1) (by constructor <;> decide)]
        simp only [bd1, one0]
        rw [if_neg (by decide), in_t (a := 0) (b := 11) hs]
        simp only [one0]
        rw [show (3 : Int32) + 1 = 4 from rfl, rd_l 4 l4 (by decide) (by decide), wrt_l 4 l4 (by decide) (by decide), hd4]
      exact ⟨_, _, _, _, _, _, _, hx, hm, CR_bridge (by omega) hC0, hK1, hK2, hK3, hF, hT, hS0, hS1, hS2, hS3, hG⟩
    · by_cases hc : p1 = 2 ∧ inR 0 1 p2
      · obtain ⟨hp, hs⟩ := hc
        obtain ⟨w, hw, rfl⟩ := inR_nI (hi := 1) hs
        have hx : F_X6_wall n0 xv_camp_wall xv_camp_bridge xv_camp_counted xf_found p1 (nI w) = some (xv_camp_counted, xv_camp_wall, xv_camp_bridge, nI w, xf_found) := by
          unfold F_X6_wall J_X6_wall_29 J_X6_wall_59 J_X6_wall_86
          rw [if_neg (show ¬ p1 = 0 from by rw [hp]; decide), if_neg (show ¬ p1 = 1 from by rw [hp]; decide), if_pos hp, isBit_t hs]
          simp only [bd1, one0]
          rcases hct with h | h <;> rw [h] <;> rcases (show w = 0 ∨ w = 1 by omega) with rfl | rfl <;> rfl
        have hm : F_X7_wall n0 mf_d mf_found p1 (nI w) = some (xv_camp_counted, upd mf_d 5 (nI w), mf_found) := by
          unfold F_X7_wall J_X7_wall_27
          simp only [nm]
          rw [in_t (a := 0) (b := 2) (p := p1) (by rw [hp]; constructor <;> decide)]
          simp only [bd1, one0]
          rw [if_pos hp, in_t (a := 0) (b := 1) hs]
          simp only [one0]
          rw [hp, show (3 : Int32) + 2 = 5 from rfl, rd_l 5 l5 (by decide) (by decide), wrt_l 5 l5 (by decide) (by decide), hd5]
        exact ⟨_, _, _, _, _, _, _, hx, hm, CR_counted (by rcases (show w = 0 ∨ w = 1 by omega) with rfl | rfl; exact Or.inl rfl; exact Or.inr rfl) hC0, hK1, hK2, hK3, hF, hT, hS0, hS1, hS2, hS3, hG⟩
      · have hJ : J_X6_wall_59 p1 n0 p2 xf_found xv_camp_wall xv_camp_bridge xv_camp_counted = some (-1000001, xv_camp_wall, xv_camp_bridge, xv_camp_counted, upd xf_found 0 (xf_found 0 + 1)) := by
          unfold J_X6_wall_59
          by_cases h2 : p1 = 2
          · rw [if_pos h2, isBit_f (fun h => hc ⟨h2, h⟩)]
            rfl
          · rw [if_neg h2]
            rfl
        have hJ2 : J_X6_wall_29 p1 n0 p2 xf_found xv_camp_wall xv_camp_bridge xv_camp_counted = some (-1000001, xv_camp_wall, xv_camp_bridge, xv_camp_counted, upd xf_found 0 (xf_found 0 + 1)) := by
          unfold J_X6_wall_29
          by_cases h1 : p1 = 1
          · rw [if_pos h1, isSide_f (fun h => hb ⟨h1, h⟩)]
            simp only [bd1, zero0]
            exact hJ
          · rw [if_neg h1]
            exact hJ
        have hx : F_X6_wall n0 xv_camp_wall xv_camp_bridge xv_camp_counted xf_found p1 p2 = some (-1000001, xv_camp_wall, xv_camp_bridge, xv_camp_counted, upd xf_found 0 (xf_found 0 + 1)) := by
          unfold F_X6_wall
          by_cases h1 : p1 = 0
          · rw [if_pos h1, isSide_f (fun h => ha ⟨h1, h⟩)]
            simp only [bd1, zero0]
            exact hJ2
          · rw [if_neg h1]
            exact hJ2
        have hm : F_X7_wall n0 mf_d mf_found p1 p2 = some (-1000001, mf_d, upd mf_found 0 (mf_found 0 + 1)) := by
          unfold F_X7_wall J_X7_wall_27
          simp only [nm]
          by_cases hr : inR 0 2 p1
          · rw [in_t (a := 0) (b := 2) hr]
            simp only [bd1, one0]
            by_cases h2 : p1 = 2
            · rw [if_pos h2, in_f (a := 0) (b := 1) (fun h => hc ⟨h2, h⟩)]
              rfl
            · rw [if_neg h2, in_f (a := 0) (b := 11) (fun h => ?_)]
              · rfl
              · obtain ⟨k, hk, rfl⟩ := inR_nI (hi := 2) hr
                rcases (show k = 0 ∨ k = 1 ∨ k = 2 by omega) with rfl | rfl | rfl
                · exact ha ⟨rfl, h⟩
                · exact hb ⟨rfl, h⟩
                · exact h2 rfl
          · rw [in_f (a := 0) (b := 2) hr]
            rfl
        exact ⟨_, _, _, _, _, _, _, hx, hm, hC0, hK1, hK2, hK3, fnd_u hF 0 (by decide), hT, hS0, hS1, hS2, hS3, hG⟩
/-- copying forty numbers -/
theorem copies_r {N1 N2 : Nat} {f : Nat → Int32} (h1 : 40 ≤ N1) (h2 : 40 ≤ N2) (h3 : N1 < 2 ^ 31) (h4 : N2 < 2 ^ 31) : ∀ (k i n : Nat) (g : Nat → Int32), i + k = 40 → k < n → L_X7_copies_2 f N1 N2 n (nI i) g = some (fun j => if i ≤ j ∧ j < 40 then f j else g j) := by
  intro k
  induction k with
  | zero =>
    intro i n g e1 e2
    obtain ⟨n, rfl⟩ : ∃ q, n = q + 1 := ⟨n - 1, by omega⟩
    rw [L_X7_copies_2_u, if_pos (show (40 : Int32) ≤ nI i from nI_le (a := 40) (by omega) (by omega))]
    refine congrArg some (funext fun j => ?_)
    rw [if_neg (by omega)]
  | succ k ih =>
    intro i n g e1 e2
    obtain ⟨n, rfl⟩ : ∃ q, n = q + 1 := ⟨n - 1, by omega⟩
    rw [L_X7_copies_2_u, if_neg (show ¬ (40 : Int32) ≤ nI i from nI_ge (b := 40) (by omega) (by decide)), rd_nI (by omega) h3, wrt_nI (by omega) h4, nm, nI_1, ih (i + 1) n _ (by omega) (by omega)]
    refine congrArg some (funext fun j => ?_)
    by_cases h5 : i + 1 ≤ j ∧ j < 40
    · rw [if_pos h5, if_pos (by omega)]
    · rw [if_neg h5]
      by_cases h6 : j = i
      · subst h6; rw [if_pos (by omega), pk_us]
      · rw [if_neg (by omega), pk_un h6]
theorem copies_s {n0 : Nat} {f g : Nat → Int32} (hn : 2000000 ≤ n0) : F_X7_copies n0 40 40 f g = some (fun j => if j < 40 then f j else g j) := by
  unfold F_X7_copies
  rw [← nI_0, copies_r (by decide) (by decide) (by decide) (by decide) 40 0 n0 g (by omega) (by omega)]
  refine congrArg some (funext fun j => ?_)
  by_cases h : j < 40
  · rw [if_pos h, if_pos (by omega)]
  · rw [if_neg h, if_neg (by omega)]
/-- a camp becomes another one -/
theorem bz_t {Ro : Type} {v : Int32} {k : Option Ro} (h : v = 0 ∨ v = 1) : bz v k = k := if_pos h
theorem become_s {n0 : Nat} {t1 s1 w1 b1 c1 d1 z1 t2 s2 w2 b2 c2 d2 z2 : Int32} {k1 p1 y1 k2 p2 y2 : Nat → Int32} (h : c2 = 0 ∨ c2 = 1) : F_X0_become n0 t1 s1 w1 b1 c1 d1 z1 k1 p1 y1 t2 s2 w2 b2 c2 d2 z2 k2 p2 y2 = some (t2, s2, w2, b2, c2, d2, z2, va_cpy k2 k1 0 0 10, va_cpy p2 p1 0 0 10, va_cpy y2 y1 0 0 10) := by
  have e : F_X0_become n0 t1 s1 w1 b1 c1 d1 z1 k1 p1 y1 t2 s2 w2 b2 c2 d2 z2 k2 p2 y2 = bz c2 (some (t2, s2, w2, b2, c2, d2, z2, va_cpy k2 k1 0 0 10, va_cpy p2 p1 0 0 10, va_cpy y2 y1 0 0 10)) := rfl
  rw [e, bz_t h]
theorem cpy10 {f g : Nat → Int32} {i : Nat} (h : i < 10) : va_cpy f g 0 0 10 i = f i := by
  rw [pk_cpy_in (by omega) (by omega)]
  congr 1
  omega
theorem CR_copy {kinds yards spots d k1 y1 s1 e : Nat → Int32} {tents said wall bridge counted day z : Int32} (hC : CR kinds yards spots tents said wall bridge counted day z d) (hk : ∀ i, i < 10 → k1 i = kinds i) (hy : ∀ i, i < 10 → y1 i = yards i) (hs : ∀ i, i < 10 → s1 i = spots i) (hd : ∀ j, j < 40 → e j = d j) : CR k1 y1 s1 tents said wall bridge counted day z e := by
  obtain ⟨M, hM, h0, hd0, hd1, hd2, hd3, hd4, hd5, hd6, hct, hwl, hbr, hdy, hsa, hA, hKi, hYa, hSp⟩ := hC
  exact ⟨M, hM, h0, by rw [hd 0 (by decide)]; exact hd0, by rw [hd 1 (by decide)]; exact hd1, by rw [hd 2 (by decide)]; exact hd2, by rw [hd 3 (by decide)]; exact hd3, by rw [hd 4 (by decide)]; exact hd4, by rw [hd 5 (by decide)]; exact hd5, by rw [hd 6 (by decide)]; exact hd6, hct, hwl, hbr, hdy, hsa, fun i hi => by rw [hd (10 + i) (by omega), hd (20 + i) (by omega), hd (30 + i) (by omega), hk i hi, hy i hi, hs i hi]; exact hA i hi, fun i hi => by rw [hk i hi]; exact hKi i hi, fun i hi => by rw [hy i hi]; exact hYa i hi, fun i hi => by rw [hs i hi]; exact hSp i hi⟩
theorem st_image {n0 : Nat} (hn : 2000000 ≤ n0) : St_image n0 := by
  intro xv_isKept xf_found xv_camp_tents xv_camp_said xv_camp_wall xv_camp_bridge xv_camp_counted xv_camp_day xv_camp_z xf_camp_kinds xf_camp_yards xf_camp_spots xv_kept_tents xv_kept_said xv_kept_wall xv_kept_bridge xv_kept_counted xv_kept_day xv_kept_z xf_kept_kinds xf_kept_yards xf_kept_spots xv_tape_size xf_tape_bytes xv_sheets_0_bits xv_sheets_0_size xf_sheets_0_numbers xv_sheets_1_bits xv_sheets_1_size xf_sheets_1_numbers xv_sheets_2_bits xv_sheets_2_size xf_sheets_2_numbers xv_sheets_3_bits xv_sheets_3_size xf_sheets_3_numbers mv_isKept mv_taped mv_gone mf_d mf_kept mf_found mf_tape mf_bitsOf mf_sizeOf mf_number hI
  obtain ⟨hC, hK1, hK2, hK3, hF, hT, hS0, hS1, hS2, hS3, hG⟩ := hI
  have hC0 := hC
  obtain ⟨N, hN, h0, hd0, hd1, hd2, hd3, hd4, hd5, hd6, hct, hwl, hbr, hdy, hsa, hA, hKi, hYa, hSp⟩ := hC
  have hx : F_X6_image n0 xv_isKept xv_camp_tents xv_camp_said xv_camp_wall xv_camp_bridge xv_camp_counted xv_camp_day xv_camp_z xv_kept_tents xv_kept_said xv_kept_wall xv_kept_bridge xv_kept_counted xv_kept_day xv_kept_z xf_camp_kinds xf_camp_spots xf_camp_yards xf_kept_kinds xf_kept_spots xf_kept_yards = some (1, 1, xv_camp_tents, xv_camp_said, xv_camp_wall, xv_camp_bridge, xv_camp_counted, xv_camp_day, xv_camp_z, va_cpy xf_camp_kinds xf_kept_kinds 0 0 10, va_cpy xf_camp_spots xf_kept_spots 0 0 10, va_cpy xf_camp_yards xf_kept_yards 0 0 10) := by
    unfold F_X6_image
    rw [become_s hct]
    rfl
  have hm : F_X7_image n0 mv_isKept mf_d mf_kept = some (1, 1, fun j => if j < 40 then mf_d j else mf_kept j) := by
    unfold F_X7_image
    rw [copies_s hn]
    rfl
  exact ⟨_, _, _, _, _, _, _, _, _, _, _, _, _, _, hx, hm, hC0, rfl, Or.inr rfl, fun _ => CR_copy hC0 (fun i hi => cpy10 hi) (fun i hi => cpy10 hi) (fun i hi => cpy10 hi) (fun j hj => if_pos hj), hF, hT, hS0, hS1, hS2, hS3, hG⟩
theorem st_undo {n0 : Nat} (hn : 2000000 ≤ n0) : St_undo n0 := by
  intro xv_isKept xf_found xv_camp_tents xv_camp_said xv_camp_wall xv_camp_bridge xv_camp_counted xv_camp_day xv_camp_z xf_camp_kinds xf_camp_yards xf_camp_spots xv_kept_tents xv_kept_said xv_kept_wall xv_kept_bridge xv_kept_counted xv_kept_day xv_kept_z xf_kept_kinds xf_kept_yards xf_kept_spots xv_tape_size xf_tape_bytes xv_sheets_0_bits xv_sheets_0_size xf_sheets_0_numbers xv_sheets_1_bits xv_sheets_1_size xf_sheets_1_numbers xv_sheets_2_bits xv_sheets_2_size xf_sheets_2_numbers xv_sheets_3_bits xv_sheets_3_size xf_sheets_3_numbers mv_isKept mv_taped mv_gone mf_d mf_kept mf_found mf_tape mf_bitsOf mf_sizeOf mf_number hI
  obtain ⟨hC, hK1, hK2, hK3, hF, hT, hS0, hS1, hS2, hS3, hG⟩ := hI
  rcases hK2 with h | h
  · have hx : F_X6_undo n0 xv_isKept xv_camp_tents xv_camp_said xv_camp_wall xv_camp_bridge xv_camp_counted xv_camp_day xv_camp_z xf_found xv_kept_tents xv_kept_said xv_kept_wall xv_kept_bridge xv_kept_counted xv_kept_day xv_kept_z xf_camp_kinds xf_camp_spots xf_camp_yards xf_kept_kinds xf_kept_spots xf_kept_yards = some (-1000004, xv_camp_tents, xv_camp_said, xv_camp_wall, xv_camp_bridge, xv_camp_counted, xv_camp_day, xv_camp_z, upd xf_found 3 (xf_found 3 + 1), xf_camp_kinds, xf_camp_spots, xf_camp_yards) := by
      unfold F_X6_undo
      rw [if_pos h]
      rfl
    have hm : F_X7_undo n0 mv_isKept mf_d mf_found mf_kept = some (-1000004, mf_d, upd mf_found 3 (mf_found 3 + 1)) := by
      unfold F_X7_undo
      rw [hK1, if_pos h]
      rfl
    exact ⟨_, _, _, _, _, _, _, _, _, _, _, _, _, _, hx, hm, hC, hK1, Or.inl h, hK3, fnd_u hF 3 (by decide), hT, hS0, hS1, hS2, hS3, hG⟩
  · have hk := hK3 h
    have h1 : ¬ xv_isKept = 0 := by rw [h]; decide
    have hct : xv_kept_counted = 0 ∨ xv_kept_counted = 1 := by
      obtain ⟨_, _, _, _, _, _, _, _, _, _, hct, _⟩ := hk
      exact hct
    have hx : F_X6_undo n0 xv_isKept xv_camp_tents xv_camp_said xv_camp_wall xv_camp_bridge xv_camp_counted xv_camp_day xv_camp_z xf_found xv_kept_tents xv_kept_said xv_kept_wall xv_kept_bridge xv_kept_counted xv_kept_day xv_kept_z xf_camp_kinds xf_camp_spots xf_camp_yards xf_kept_kinds xf_kept_spots xf_kept_yards = some (xv_kept_day, xv_kept_tents, xv_kept_said, xv_kept_wall, xv_kept_bridge, xv_kept_counted, xv_kept_day, xv_kept_z, xf_found, va_cpy xf_kept_kinds xf_camp_kinds 0 0 10, va_cpy xf_kept_spots xf_camp_spots 0 0 10, va_cpy xf_kept_yards xf_camp_yards 0 0 10) := by
      unfold F_X6_undo
      rw [if_neg h1, become_s hct]
      rfl
    have hd1 : mf_kept 1 = xv_kept_day := by
      obtain ⟨_, _, _, _, hd1, _⟩ := hk
      exact hd1
    have hm : F_X7_undo n0 mv_isKept mf_d mf_found mf_kept = some (xv_kept_day, fun j => if j < 40 then mf_kept j else mf_d j, mf_found) := by
      unfold F_X7_undo
      rw [hK1, if_neg h1, copies_s hn]
      simp only [bd1]
      rw [rd_l 1 l1 (by decide) (by decide), if_pos (by decide), hd1]
    exact ⟨_, _, _, _, _, _, _, _, _, _, _, _, _, _, hx, hm, CR_copy hk (fun i hi => cpy10 hi) (fun i hi => cpy10 hi) (fun i hi => cpy10 hi) (fun j hj => if_pos hj), hK1, Or.inr h, hK3, hF, hT, hS0, hS1, hS2, hS3, hG⟩
