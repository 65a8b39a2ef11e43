/-! how far two yards are -/
def dN (x y : Nat) : Nat := (x - y) + (y - x)
theorem dN_comm (x y : Nat) : dN x y = dN y x := Nat.add_comm _ _
def farN (w br : Nat) (c : Bool) (a b : Nat) : Nat := if c = true ∧ ¬ (decide (w ≤ a % 12) = decide (w ≤ b % 12)) then (dN (a % 12) (b % 12) + dN (a / 12) br + dN (b / 12) br) * (dN (a % 12) (b % 12) + dN (a / 12) br + dN (b / 12) br) else dN (a % 12) (b % 12) * dN (a % 12) (b % 12) + dN (a / 12) (b / 12) * dN (a / 12) (b / 12)
theorem sq_nI {x y : Nat} : (nI x - nI y) * (nI x - nI y) = nI (dN x y * dN x y) := by
  by_cases h : y ≤ x
  · rw [pk_sub h, pk_mul]
    have e : dN x y = x - y := by unfold dN; omega
    rw [e]
  · have e1 : nI x - nI y = -(nI (y - x)) := by rw [← pk_sub (by omega), Int32.neg_sub]
    rw [e1, Int32.neg_mul_neg, pk_mul]
    have e : dN x y = y - x := by unfold dN; omega
    rw [e]
theorem abs_nI {x y : Nat} (hx : x < 2 ^ 30) (hy : y < 2 ^ 30) : (if 0 ≤ nI x - nI y then nI x - nI y else 0 - (nI x - nI y)) = nI (dN x y) := by
  by_cases h : y ≤ x
  · have e : dN x y = x - y := by unfold dN; omega
    rw [pk_sub h, if_pos (nI_pos' (by omega)), e]
  · have e : dN x y = y - x := by unfold dN; omega
    have h2 : ¬ 0 ≤ nI x - nI y := by
      rw [Int32.le_iff_toInt_le, pk_sub_toInt hx hy]
      have a3 : (0 : Int32).toInt = 0 := rfl
      omega
    rw [if_neg h2, Int32.zero_sub, Int32.neg_sub, pk_sub (by omega), e]
theorem size_nI {n0 x y : Nat} (hx : x < 2 ^ 30) (hy : y < 2 ^ 30) : F_X7_size n0 (nI x - nI y) = some (nI (dN x y)) := by
  have h := abs_nI hx hy
  unfold F_X7_size
  simp only [nm]
  by_cases h1 : 0 ≤ nI x - nI y
  · rw [if_pos h1] at h ⊢
    rw [h]
  · rw [if_neg h1] at h ⊢
    rw [← h, Int32.zero_sub]
theorem dv12 {Ro : Type} {v : Int32} {k : Int32 → Option Ro} : dvn 12 v k = k v := if_neg (by decide)
theorem dv144 {Ro : Type} {v : Int32} {k : Int32 → Option Ro} : dvn 144 v k = k v := if_neg (by decide)
theorem rem12 {a : Nat} (h : a < 144) : nI a - nI a / 12 * 12 = nI (a % 12) := pk_rem (a := a) (d := 12) (by omega) (by decide) (by decide)
theorem div12 {a : Nat} (h : a < 144) : nI a / 12 = nI (a / 12) := pk_div (a := a) (d := 12) (by omega) (by decide) (by decide)
theorem far97 {n m x y : Nat} : J_X0_apart_97 (nI n) (nI m) (nI x) (nI y) = some (nI (dN n m * dN n m + dN x y * dN x y)) := by
  unfold J_X0_apart_97
  simp only [nm]
  rw [sq_nI, sq_nI, nI_add]
theorem far133 {n m x y : Nat} : J_X7_farOf_133 (nI n - nI m) (nI x - nI y) = some (nI (dN n m * dN n m + dN x y * dN x y)) := by
  unfold J_X7_farOf_133
  simp only [nm]
  rw [sq_nI, sq_nI, nI_add]
theorem far57 {n m x y br : Nat} (hn : n < 12) (hm : m < 12) (hx : x < 12) (hy : y < 12) (hb : br < 12) : ∀ k13 k14 : Int32, J_X0_apart_57 k14 k13 (nI n) (nI m) (nI x) (nI y) (nI br) = some (nI (if ¬ k14 = k13 then (dN n m + dN x br + dN y br) * (dN n m + dN x br + dN y br) else dN n m * dN n m + dN x y * dN x y)) := by
  intro k13 k14
  unfold J_X0_apart_57
  by_cases h : k14 = k13
  · rw [if_pos h, far97, if_neg (fun h2 => h2 h)]
  · rw [if_neg h, if_pos h]
    simp only [nm]
    rw [abs_nI (by omega) (by omega), abs_nI (by omega) (by omega), abs_nI (by omega) (by omega), nI_add, nI_add, pk_mul]
theorem apart_s {n0 w br a b : Nat} {c : Int32} (hc : c = 0 ∨ c = 1) (hw : w < 12) (hb : br < 12) (ha : a < 144) (hbb : b < 144) : F_X0_apart n0 (nI w) (nI br) c (nI a) (nI b) = some (nI (farN w br (decide (c = 1)) a b)) := by
  have a1 : a % 12 < 12 := Nat.mod_lt _ (by decide)
  have a2 : b % 12 < 12 := Nat.mod_lt _ (by decide)
  have a3 : a / 12 < 12 := by omega
  have a4 : b / 12 < 12 := by omega
  unfold F_X0_apart
  rw [dv12, rem12 ha, dv12, div12 ha, dv12, rem12 hbb, dv12, div12 hbb]
  rcases hc with rfl | rfl
  · rw [if_pos rfl, far97]
    unfold farN
    rw [if_neg (fun h => absurd h.1 (by decide))]
  · rw [if_neg (by decide)]
    unfold J_X0_apart_43 farN
    by_cases h1 : w ≤ a % 12
    · rw [if_pos (nI_le h1 (by omega))]
      by_cases h2 : w ≤ b % 12
      · rw [if_pos (nI_le h2 (by omega)), far57 a1 a2 a3 a4 hb, if_neg (fun h => h rfl), if_neg (fun h => h.2 (by rw [decide_eq_true h1, decide_eq_true h2]))]
      · rw [if_neg (nI_ge (by omega) (by omega)), far57 a1 a2 a3 a4 hb, if_pos (by decide), if_pos ⟨by decide, by rw [decide_eq_true h1, decide_eq_false h2]; decide⟩]
    · rw [if_neg (nI_ge (by omega) (by omega))]
      by_cases h2 : w ≤ b % 12
      · rw [if_pos (nI_le h2 (by omega)), far57 a1 a2 a3 a4 hb, if_pos (by decide), if_pos ⟨by decide, by rw [decide_eq_false h1, decide_eq_true h2]; decide⟩]
      · rw [if_neg (nI_ge (by omega) (by omega)), far57 a1 a2 a3 a4 hb, if_neg (fun h => h rfl), if_neg (fun h => h.2 (by rw [decide_eq_false h1, decide_eq_false h2]))]
theorem far65 {n0 w br a b : Nat} {d : Nat → Int32} {c k : Int32} (hc : c = 0 ∨ c = 1) (hk : k = 0 ∨ k = 1) (hd3 : d 3 = nI w) (hd4 : d 4 = nI br) (hd5 : d 5 = c) (hw : w < 12) (hb : br < 12) (ha : a < 144) (hbb : b < 144) : J_X7_farOf_65 d (nI (a % 12) - nI (b % 12)) (nI (a / 12) - nI (b / 12)) k n0 (nI a) (nI b) = some (nI (if c = 1 ∧ 0 < w ∧ k = 1 then (dN (a % 12) (b % 12) + dN (a / 12) br + dN (b / 12) br) * (dN (a % 12) (b % 12) + dN (a / 12) br + dN (b / 12) br) else dN (a % 12) (b % 12) * dN (a % 12) (b % 12) + dN (a / 12) (b / 12) * dN (a / 12) (b / 12))) := by
  unfold J_X7_farOf_65
  rw [rd_l 5 l5 (by decide) (by decide), hd5]
  by_cases h1 : c = 1
  · rw [if_pos h1, rd_l 3 l3 (by decide) (by decide), hd3]
    by_cases h2 : 0 < w
    · rw [if_neg (nI_nle h2 (by omega))]
      rcases hk with rfl | rfl
      · rw [if_pos rfl, far133, if_neg (fun h => absurd h.2.2 (by decide))]
      · rw [if_neg (by decide), size_nI (by omega) (by omega), if_pos ⟨h1, h2, rfl⟩]
        simp only [bd1, nm]
        rw [dv12, div12 ha, rd_l 4 l4 (by decide) (by decide), hd4, size_nI (by omega) (by omega)]
        simp only []
        rw [dv12, div12 hbb, rd_l 4 l4 (by decide) (by decide), hd4, size_nI (by omega) (by omega)]
        simp only []
        rw [nI_add, nI_add, pk_mul]
    · have e : w = 0 := by omega
      subst e
      rw [if_pos (by decide), far133, if_neg (fun h => absurd h.2.1 (by decide))]
  · rw [if_neg h1, far133, if_neg (fun h => h1 h.1)]
theorem farOf_s {n0 w br a b : Nat} {d : Nat → Int32} {c : Int32} (hc : c = 0 ∨ c = 1) (hd3 : d 3 = nI w) (hd4 : d 4 = nI br) (hd5 : d 5 = c) (hw : w < 12) (hb : br < 12) (ha : a < 144) (hbb : b < 144) : F_X7_farOf n0 d (nI a) (nI b) = some (nI (farN w br (decide (c = 1)) a b)) := by
  have a1 : a % 12 < 12 := Nat.mod_lt _ (by decide)
  have a2 : b % 12 < 12 := Nat.mod_lt _ (by decide)
  have key : ∀ k : Int32, (k = 0 ∨ k = 1) → (k = 1 ↔ ¬ (decide (w ≤ a % 12) = decide (w ≤ b % 12))) → J_X7_farOf_65 d (nI (a % 12) - nI (b % 12)) (nI (a / 12) - nI (b / 12)) k n0 (nI a) (nI b) = some (nI (farN w br (decide (c = 1)) a b)) := by
    intro k hk hk2
    rw [far65 hc hk hd3 hd4 hd5 hw hb ha hbb]
    unfold farN
    congr 2
    by_cases h1 : c = 1 ∧ 0 < w ∧ k = 1
    · rw [if_pos h1, if_pos ⟨decide_eq_true h1.1, hk2.mp h1.2.2⟩]
    · rw [if_neg h1, if_neg]
      intro h2
      have h3 := of_decide_eq_true h2.1
      have h4 := hk2.mpr h2.2
      by_cases h5 : 0 < w
      · exact h1 ⟨h3, h5, h4⟩
      · have e : w = 0 := by omega
        subst e
        exact h2.2 (by rw [decide_eq_true (Nat.zero_le _), decide_eq_true (Nat.zero_le _)])
  have key2 : ∀ k13 k12 : Int32, (k13 = k12 ↔ decide (w ≤ a % 12) = decide (w ≤ b % 12)) → J_X7_farOf_57 k13 k12 d (nI (a % 12) - nI (b % 12)) (nI (a / 12) - nI (b / 12)) n0 (nI a) (nI b) = some (nI (farN w br (decide (c = 1)) a b)) := by
    intro k13 k12 h
    unfold J_X7_farOf_57
    by_cases h1 : k13 = k12
    · rw [if_pos h1]
      exact key 0 (Or.inl rfl) ⟨fun h2 => absurd h2 (by decide), fun h2 => absurd (h.mp h1) h2⟩
    · rw [if_neg h1]
      exact key 1 (Or.inr rfl) ⟨fun _ h2 => h1 (h.mpr h2), fun _ => rfl⟩
  have n01 : ¬ (0 : Int32) = 1 := by decide
  have n10 : ¬ (1 : Int32) = 0 := by decide
  unfold F_X7_farOf
  rw [dv12, rem12 ha, dv12, rem12 hbb, nm, dv12, div12 ha, dv12, div12 hbb, nm, dv12, rd_l 3 l3 (by decide) (by decide), hd3]
  unfold J_X7_farOf_39
  by_cases h1 : w ≤ a % 12
  · rw [if_pos (nI_le h1 (by omega)), dv12, rem12 hbb, rd_l 3 l3 (by decide) (by decide), hd3]
    by_cases h2 : w ≤ b % 12
    · rw [if_pos (nI_le h2 (by omega))]
      exact key2 0 0 ⟨fun _ => by rw [decide_eq_true h1, decide_eq_true h2], fun _ => rfl⟩
    · rw [if_neg (nI_ge (by omega) (by omega))]
      exact key2 0 1 ⟨fun h => absurd h n01, fun h => by rw [decide_eq_true h1, decide_eq_false h2] at h; cases h⟩
  · rw [if_neg (nI_ge (by omega) (by omega)), dv12, rem12 hbb, rd_l 3 l3 (by decide) (by decide), hd3]
    by_cases h2 : w ≤ b % 12
    · rw [if_pos (nI_le h2 (by omega))]
      exact key2 1 0 ⟨fun h => absurd h n10, fun h => by rw [decide_eq_false h1, decide_eq_true h2] at h; cases h⟩
    · rw [if_neg (nI_ge (by omega) (by omega))]
      exact key2 1 1 ⟨fun _ => by rw [decide_eq_false h1, decide_eq_false h2], fun _ => rfl⟩
theorem farN_comm (w br : Nat) (c : Bool) (a b : Nat) : farN w br c a b = farN w br c b a := by
  unfold farN
  rw [dN_comm (a % 12) (b % 12), dN_comm (a / 12) (b / 12)]
  have e : dN (b % 12) (a % 12) + dN (a / 12) br + dN (b / 12) br = dN (b % 12) (a % 12) + dN (b / 12) br + dN (a / 12) br := by omega
  rw [e]
  by_cases h : c = true ∧ ¬ (decide (w ≤ a % 12) = decide (w ≤ b % 12))
  · rw [if_pos h, if_pos ⟨h.1, fun h2 => h.2 h2.symm⟩]
  · rw [if_neg h, if_neg (fun h2 => h ⟨h2.1, fun h3 => h2.2 h3.symm⟩)]
theorem farN_lt {w br a b : Nat} {c : Bool} (ha : a < 144) (hb : b < 144) (hbr : br < 12) : farN w br c a b < 1100 := by
  have h1 : dN (a % 12) (b % 12) ≤ 11 := by unfold dN; omega
  have h2 : dN (a / 12) (b / 12) ≤ 11 := by unfold dN; omega
  have h3 : dN (a / 12) br ≤ 11 := by unfold dN; omega
  have h4 : dN (b / 12) br ≤ 11 := by unfold dN; omega
  unfold farN
  split
  · have := Nat.mul_le_mul (show dN (a % 12) (b % 12) + dN (a / 12) br + dN (b / 12) br ≤ 33 by omega) (show dN (a % 12) (b % 12) + dN (a / 12) br + dN (b / 12) br ≤ 33 by omega)
    omega
  · have e1 := Nat.mul_le_mul h1 h1
    have e2 := Nat.mul_le_mul h2 h2
    omega
theorem farN_pos {w br a b : Nat} {c : Bool} (h : ¬ a = b) : 0 < farN w br c a b := by
  have h0 : ¬ (a % 12 = b % 12 ∧ a / 12 = b / 12) := fun h2 => h (by omega)
  unfold farN
  split
  · rename_i hc
    have h1 : ¬ a % 12 = b % 12 := fun h2 => hc.2 (by rw [h2])
    have h2 : 0 < dN (a % 12) (b % 12) := by unfold dN; omega
    exact Nat.mul_pos (by omega) (by omega)
  · by_cases h1 : a % 12 = b % 12
    · have h2 : 0 < dN (a / 12) (b / 12) := by unfold dN; omega
      have := Nat.mul_pos h2 h2
      omega
    · have h2 : 0 < dN (a % 12) (b % 12) := by unfold dN; omega
      have := Nat.mul_pos h2 h2
      omega
theorem st_far {n0 : Nat} (hn : 2000000 ≤ n0) : St_far n0 := by
  intro xv_isKept xf_found xv_camp_tents xv_camp_said xv_camp_wall xv_camp_bridge xv_camp_counted xv_camp_day xv_camp_z xf_camp_kinds xf_camp_yards xf_camp_spots xv_kept_tents xv_kept_said xv_kept_wall xv_kept_bridge xv_kept_counted xv_kept_day xv_kept_z xf_kept_kinds xf_kept_yards xf_kept_spots xv_tape_size xf_tape_bytes xv_sheets_0_bits xv_sheets_0_size xf_sheets_0_numbers xv_sheets_1_bits xv_sheets_1_size xf_sheets_1_numbers xv_sheets_2_bits xv_sheets_2_size xf_sheets_2_numbers xv_sheets_3_bits xv_sheets_3_size xf_sheets_3_numbers mv_isKept mv_taped mv_gone mf_d mf_kept mf_found mf_tape mf_bitsOf mf_sizeOf mf_number hI p1 p2
  obtain ⟨hC, hK1, hK2, hK3, hF, hT, hS0, hS1, hS2, hS3, hG⟩ := hI
  have hC0 := hC
  obtain ⟨N, hN, h0, hd0, hd1, hd2, hd3, hd4, hd5, hd6, hct, hwl, hbr, hdy, hsa, hA, hKi, hYa, hSp⟩ := hC
  obtain ⟨w, hw1, hw2⟩ := hwl
  obtain ⟨br, hb1, hb2⟩ := hbr
  by_cases ht : isT N p1
  · by_cases hu : isT N p2
    · obtain ⟨t, ht1, rfl⟩ := isT_nI ht
      obtain ⟨u, hu1, rfl⟩ := isT_nI hu
      obtain ⟨a, ha1, ha2⟩ := hYa t (by omega)
      obtain ⟨b, hbb1, hbb2⟩ := hYa u (by omega)
      have hx : F_X6_far n0 xv_camp_tents xv_camp_wall xv_camp_bridge xv_camp_counted xf_found xf_camp_yards (nI t) (nI u) = some (nI (farN w br (decide (xv_camp_counted = 1)) a b), xf_found) := by
        unfold F_X6_far
        rw [h0, has_t hN ht, has_t hN hu]
        simp only [bd1, one0]
        rw [rd_nI (by omega) (by decide), rd_nI (by omega) (by decide), ha2, hbb2, hw2, hb2, apart_s hct hw1 hb1 ha1 hbb1]
      have hm : F_X7_far n0 mf_d mf_found (nI t) (nI u) = some (nI (farN w br (decide (xv_camp_counted = 1)) a b), mf_found) := by
        unfold F_X7_far
        rw [mT_t hN hd0 ht, mT_t hN hd0 hu]
        simp only [bd1, one0]
        rw [mYd (by omega), mYd (by omega)]
        simp only []
        rw [(hA t (by omega)).2.1, (hA u (by omega)).2.1, ha2, hbb2, farOf_s hct (hd3.trans hw2) (hd4.trans hb2) hd5 hw1 hb1 ha1 hbb1]
      exact ⟨_, _, _, hx, hm, hC0, hK1, hK2, hK3, hF, hT, hS0, hS1, hS2, hS3, hG⟩
    · have hx : F_X6_far n0 xv_camp_tents xv_camp_wall xv_camp_bridge xv_camp_counted xf_found xf_camp_yards p1 p2 = some (-1000001, upd xf_found 0 (xf_found 0 + 1)) := by
        unfold F_X6_far
        rw [h0, has_t hN ht, has_f hN hu]
        rfl
      have hm : F_X7_far n0 mf_d mf_found p1 p2 = some (-1000001, upd mf_found 0 (mf_found 0 + 1)) := by
        unfold F_X7_far
        rw [mT_t hN hd0 ht, mT_f hN hd0 hu]
        rfl
      exact ⟨_, _, _, hx, hm, hC0, hK1, hK2, hK3, fnd_u hF 0 (by decide), hT, hS0, hS1, hS2, hS3, hG⟩
  · have hx : F_X6_far n0 xv_camp_tents xv_camp_wall xv_camp_bridge xv_camp_counted xf_found xf_camp_yards p1 p2 = some (-1000001, upd xf_found 0 (xf_found 0 + 1)) := by
      unfold F_X6_far
      rw [h0, has_f hN ht]
      rfl
    have hm : F_X7_far n0 mf_d mf_found p1 p2 = some (-1000001, upd mf_found 0 (mf_found 0 + 1)) := by
      unfold F_X7_far
      rw [mT_f hN hd0 ht]
      rfl
    exact ⟨_, _, _, hx, hm, hC0, hK1, hK2, hK3, fnd_u hF 0 (by decide), hT, hS0, hS1, hS2, hS3, hG⟩
