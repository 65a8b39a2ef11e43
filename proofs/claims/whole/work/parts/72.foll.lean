/-! follows, as, judge -/
theorem split_and (p a : Int32) : p = (p &&& a) ||| (p &&& (a ^^^ (-1))) := by
  apply Int32.toBitVec_inj.1
  show p.toBitVec = (p.toBitVec &&& a.toBitVec) ||| (p.toBitVec &&& (a.toBitVec ^^^ (-1 : Int32).toBitVec))
  rw [show (-1 : Int32).toBitVec = BitVec.allOnes 32 from by decide, BitVec.xor_allOnes]
  ext i hi
  simp only [BitVec.getElem_or, BitVec.getElem_and, BitVec.getElem_not]
  cases p.toBitVec[i] <;> cases a.toBitVec[i] <;> rfl
theorem all_n : ∀ N : Nat, N < 11 → (allI N).toBitVec.toNat = 2 ^ N - 1 := by decide +kernel
theorem all_t : ∀ N : Nat, N < 11 → (allI N).toInt = (2 ^ N : Nat) - 1 := by decide +kernel
theorem set_t : ∀ N : Nat, N < 11 → ∀ j : Nat, j < 2 ^ N → nI j &&& (allI N ^^^ (-1)) = 0 := by decide +kernel
/-- a set of tents -/
def isS (N : Nat) (p : Int32) : Prop := ∃ j : Nat, j < 2 ^ N ∧ p = nI j
theorem isS_and {N : Nat} {p : Int32} (hN : N ≤ 10) : p &&& (allI N ^^^ (-1)) = 0 ↔ isS N p := by
  constructor
  · intro h
    have h1 := split_and p (allI N)
    rw [h, Int32.or_zero, pk_and p N (all_n N (by omega))] at h1
    exact ⟨_, Nat.mod_lt _ (Nat.two_pow_pos N), h1⟩
  · rintro ⟨j, h1, rfl⟩
    exact set_t N (by omega) j h1
theorem isS_in {N : Nat} {p : Int32} (hN : N ≤ 10) : inR 0 ((allI N).toInt64.toInt) p ↔ isS N p := by
  rw [Int32.toInt_toInt64, all_t N (by omega)]
  constructor
  · intro h
    obtain ⟨w, h1, h2⟩ := nI_rg (n := 2 ^ N) h.1 (by have := h.2; omega)
    exact ⟨w, h1, h2⟩
  · rintro ⟨j, h1, rfl⟩
    have := pow10 hN
    exact ⟨by rw [nI_toInt (by omega)]; omega, by rw [nI_toInt (by omega)]; omega⟩
theorem isSet_t {n0 N : Nat} {p : Int32} (hN : N ≤ 10) (h : isS N p) : F_X0_isSet n0 (nI N) p = some 1 := by
  unfold F_X0_isSet
  rw [show F_X0_all n0 (nI N) = some (allI N) from rfl]
  simp only [bd1, nm]
  rw [if_pos ((isS_and hN).mpr h)]
theorem isSet_f {n0 N : Nat} {p : Int32} (hN : N ≤ 10) (h : ¬ isS N p) : F_X0_isSet n0 (nI N) p = some 0 := by
  unfold F_X0_isSet
  rw [show F_X0_all n0 (nI N) = some (allI N) from rfl]
  simp only [bd1, nm]
  rw [if_neg (fun h2 => h ((isS_and hN).mp h2))]
theorem areT_t {n0 N : Nat} {d : Nat → Int32} {p : Int32} (hN : N ≤ 10) (hd : d 0 = nI N) (h : isS N p) : F_X7_areTents n0 d p = some 1 := by
  unfold F_X7_areTents
  simp only [nm]
  rw [rd_l 0 l0 (by decide) (by decide), hd]
  have e : F_X7_in n0 p.toInt64 0 (((1 : Int32) <<< (nI N &&& 31)) - 1).toInt64 = some 1 := in_t (a := 0) (b := (allI N).toInt64) ((isS_in hN).mpr h)
  rw [e]
  rfl
theorem areT_f {n0 N : Nat} {d : Nat → Int32} {p : Int32} (hN : N ≤ 10) (hd : d 0 = nI N) (h : ¬ isS N p) : F_X7_areTents n0 d p = some 0 := by
  unfold F_X7_areTents
  simp only [nm]
  rw [rd_l 0 l0 (by decide) (by decide), hd]
  have e : F_X7_in n0 p.toInt64 0 (((1 : Int32) <<< (nI N &&& 31)) - 1).toInt64 = some 0 := in_f (a := 0) (b := (allI N).toInt64) (fun h2 => h ((isS_in hN).mp h2))
  rw [e]
  rfl
theorem st_follows {n0 : Nat} (hn : 2000000 ≤ n0) : St_follows n0 := by
  intro xv_isKept xf_found xv_camp_tents xv_camp_said xv_camp_wall xv_camp_bridge xv_camp_counted xv_camp_day xv_camp_z xf_camp_kinds xf_camp_yards xf_camp_spots xv_kept_tents xv_kept_said xv_kept_wall xv_kept_bridge xv_kept_counted xv_kept_day xv_kept_z xf_kept_kinds xf_kept_yards xf_kept_spots xv_tape_size xf_tape_bytes xv_sheets_0_bits xv_sheets_0_size xf_sheets_0_numbers xv_sheets_1_bits xv_sheets_1_size xf_sheets_1_numbers xv_sheets_2_bits xv_sheets_2_size xf_sheets_2_numbers xv_sheets_3_bits xv_sheets_3_size xf_sheets_3_numbers mv_isKept mv_taped mv_gone mf_d mf_kept mf_found mf_tape mf_bitsOf mf_sizeOf mf_number hI p1 p2
  obtain ⟨hC, hK1, hK2, hK3, hF, hT, hS0, hS1, hS2, hS3, hG⟩ := hI
  have hC0 := hC
  obtain ⟨N, hN, h0, hd0, hd1, hd2, hd3, hd4, hd5, hd6, hct, hwl, hbr, hdy, hsa, hA, hKi, hYa, hSp⟩ := hC
  by_cases ht : isT N p1
  · by_cases hs : isS N p2
    · obtain ⟨t, ht1, hp⟩ := isT_nI ht
      have hx0 : F_X6_follows n0 xv_camp_tents xv_camp_said xf_found p1 p2 = (if bitB xv_camp_said t = 1 then some (clrB p2 t, xf_found) else some (clrB (allI N &&& (p2 ^^^ (-1))) t, xf_found)) := by
        unfold F_X6_follows
        rw [h0, has_t hN ht]
        simp only [bd1, one0]
        rw [isSet_t hN hs]
        simp only [one0]
        rw [hp, wordOf_s]
        rfl
      have hm0 : F_X7_follows n0 mf_d mf_found p1 p2 = (if bitB xv_camp_said t = 1 then some (clrB p2 t, mf_found) else some (clrB (allI N &&& (p2 ^^^ (-1))) t, mf_found)) := by
        unfold F_X7_follows
        rw [mT_t hN hd0 ht]
        simp only [bd1, one0]
        rw [areT_t hN hd0 hs]
        simp only [one0, nm]
        rw [rd_l 0 l0 (by decide) (by decide), hd0, hp, saysNow_s, hd6]
        rfl
      by_cases hw : bitB xv_camp_said t = 1
      · rw [if_pos hw] at hx0 hm0
        exact ⟨_, _, _, hx0, hm0, hC0, hK1, hK2, hK3, hF, hT, hS0, hS1, hS2, hS3, hG⟩
      · rw [if_neg hw] at hx0 hm0
        exact ⟨_, _, _, hx0, hm0, hC0, hK1, hK2, hK3, hF, hT, hS0, hS1, hS2, hS3, hG⟩
    · have hx : F_X6_follows n0 xv_camp_tents xv_camp_said xf_found p1 p2 = some (-1000001, upd xf_found 0 (xf_found 0 + 1)) := by
        unfold F_X6_follows
        rw [h0, has_t hN ht]
        simp only [bd1, one0]
        rw [isSet_f hN hs]
        rfl
      have hm : F_X7_follows n0 mf_d mf_found p1 p2 = some (-1000001, upd mf_found 0 (mf_found 0 + 1)) := by
        unfold F_X7_follows
        rw [mT_t hN hd0 ht]
        simp only [bd1, one0]
        rw [areT_f hN hd0 hs]
        rfl
      exact ⟨_, _, _, hx, hm, hC0, hK1, hK2, hK3, fnd_u hF 0 (by decide), hT, hS0, hS1, hS2, hS3, hG⟩
  · have hx : F_X6_follows n0 xv_camp_tents xv_camp_said xf_found p1 p2 = some (-1000001, upd xf_found 0 (xf_found 0 + 1)) := by
      unfold F_X6_follows
      rw [h0, has_f hN ht]
      rfl
    have hm : F_X7_follows n0 mf_d mf_found p1 p2 = some (-1000001, upd mf_found 0 (mf_found 0 + 1)) := by
      unfold F_X7_follows
      rw [mT_f hN hd0 ht]
      rfl
    exact ⟨_, _, _, hx, hm, hC0, hK1, hK2, hK3, fnd_u hF 0 (by decide), hT, hS0, hS1, hS2, hS3, hG⟩
/-! as -/
def isuE (k q : Nat) : Int32 := (F_X6_isUnder 8 (nI k) (nI q)).getD 0
def abvE (k : Nat) : Int32 := (F_X7_above 0 (nI k)).getD 0
theorem isU_s {n0 k q : Nat} (hn : 2000000 ≤ n0) (hk : k < 7) (hq : q < 7) : F_X6_isUnder n0 (nI k) (nI q) = some (isuE k q) := by
  obtain ⟨j, rfl⟩ : ∃ j, n0 = j + 8 := ⟨n0 - 8, by omega⟩
  rcases (show k = 0 ∨ k = 1 ∨ k = 2 ∨ k = 3 ∨ k = 4 ∨ k = 5 ∨ k = 6 by omega) with rfl | rfl | rfl | rfl | rfl | rfl | rfl <;>
  rcases (show q = 0 ∨ q = 1 ∨ q = 2 ∨ q = 3 ∨ q = 4 ∨ q = 5 ∨ q = 6 by omega) with rfl | rfl | rfl | rfl | rfl | rfl | rfl <;> rfl
theorem abv_s {n0 k : Nat} (hk : k < 7) : F_X7_above n0 (nI k) = some (abvE k) := by
  rcases (show k = 0 ∨ k = 1 ∨ k = 2 ∨ k = 3 ∨ k = 4 ∨ k = 5 ∨ k = 6 by omega) with rfl | rfl | rfl | rfl | rfl | rfl | rfl <;> rfl
theorem isu_t : ∀ k : Nat, k < 7 → ∀ q : Nat, q < 7 → ((isuE k q = 0 ∨ isuE k q = 1) ∧ (isuE k q = 1 ↔ (nI q = 0 ∨ nI q = nI k ∨ nI q = abvE k))) := by decide +kernel
theorem st_as {n0 : Nat} (hn : 2000000 ≤ n0) : St_as n0 := by
  intro xv_isKept xf_found xv_camp_tents xv_camp_said xv_camp_wall xv_camp_bridge xv_camp_counted xv_camp_day xv_camp_z xf_camp_kinds xf_camp_yards xf_camp_spots xv_kept_tents xv_kept_said xv_kept_wall xv_kept_bridge xv_kept_counted xv_kept_day xv_kept_z xf_kept_kinds xf_kept_yards xf_kept_spots xv_tape_size xf_tape_bytes xv_sheets_0_bits xv_sheets_0_size xf_sheets_0_numbers xv_sheets_1_bits xv_sheets_1_size xf_sheets_1_numbers xv_sheets_2_bits xv_sheets_2_size xf_sheets_2_numbers xv_sheets_3_bits xv_sheets_3_size xf_sheets_3_numbers mv_isKept mv_taped mv_gone mf_d mf_kept mf_found mf_tape mf_bitsOf mf_sizeOf mf_number hI p1 p2
  obtain ⟨hC, hK1, hK2, hK3, hF, hT, hS0, hS1, hS2, hS3, hG⟩ := hI
  have hC0 := hC
  obtain ⟨N, hN, h0, hd0, hd1, hd2, hd3, hd4, hd5, hd6, hct, hwl, hbr, hdy, hsa, hA, hKi, hYa, hSp⟩ := hC
  by_cases hr : inR 0 9 p1
  · by_cases hq : inR 0 6 p2
    · obtain ⟨s, hs1, hs2⟩ := inR_nI (hi := 9) hr
      obtain ⟨q, hq1, hq2⟩ := inR_nI (hi := 6) hq
      obtain ⟨w, hw1, hw2⟩ := hSp s (by omega)
      have ea : (30 : Int32) + p1 = nI (30 + s) := by rw [hs2]; exact a30 s
      have hds : mf_d (30 + s) = nI w := by rw [(hA s (by omega)).2.2, hw2]
      by_cases hw0 : w = 0
      · subst hw0
        have hsp : xf_camp_spots s = -1 := by
          have e : xf_camp_spots s + 1 - 1 = nI 0 - 1 := by rw [hw2]
          rw [Int32.add_sub_cancel] at e
          exact e
        have hx : F_X6_as n0 xv_camp_tents xf_found xf_camp_kinds xf_camp_spots p1 p2 = some (-1000006, upd xf_found 5 (xf_found 5 + 1)) := by
          unfold F_X6_as
          rw [isSpot_t hr]
          simp only [bd1, one0]
          rw [isKind_t hq]
          simp only [one0]
          rw [rd_l s hs2 (by omega) (by decide), hsp, h0, has_f hN (fun h => absurd h.1 (by decide))]
          rfl
        have hm : F_X7_as n0 mf_d mf_found p1 p2 = some (-1000006, upd mf_found 5 (mf_found 5 + 1)) := by
          unfold F_X7_as
          simp only [nm]
          rw [in_t (a := 0) (b := 9) hr]
          simp only [bd1, one0]
          rw [in_t (a := 0) (b := 6) hq]
          simp only [one0]
          rw [rd_l (30 + s) ea (by omega) (by decide), hds, if_pos (show nI 0 = 0 from rfl)]
          rfl
        exact ⟨_, _, _, hx, hm, hC0, hK1, hK2, hK3, fnd_u hF 5 (by decide), hT, hS0, hS1, hS2, hS3, hG⟩
      · obtain ⟨t, rfl⟩ : ∃ t, w = t + 1 := ⟨w - 1, by omega⟩
        have hsp : xf_camp_spots s = nI t := by
          have e : xf_camp_spots s + 1 - 1 = nI (t + 1) - 1 := by rw [hw2]
          rw [Int32.add_sub_cancel, nI_pred] at e
          exact e
        obtain ⟨k, hk1, hk2⟩ := hKi t (by omega)
        have hit : isT N (nI t) := ⟨by rw [nI_toInt (by omega)]; omega, by rw [nI_toInt (by omega)]; omega⟩
        obtain ⟨hi1, hi2⟩ := isu_t k hk1 q (by omega)
        have hx0 : F_X6_as n0 xv_camp_tents xf_found xf_camp_kinds xf_camp_spots p1 p2 = (if isuE k q = 0 then some (-1000003, upd xf_found 2 (xf_found 2 + 1)) else some (nI t, xf_found)) := by
          unfold F_X6_as
          rw [isSpot_t hr]
          simp only [bd1, one0]
          rw [isKind_t hq]
          simp only [one0]
          rw [rd_l s hs2 (by omega) (by decide), hsp, h0, has_t hN hit]
          simp only [one0]
          rw [rd_nI (by omega) (by decide), hk2, hq2, isU_s hn hk1 (by omega)]
          rfl
        have hm0 : F_X7_as n0 mf_d mf_found p1 p2 = (if p2 = 0 then some (nI t, mf_found) else if p2 = nI k then some (nI t, mf_found) else if p2 = abvE k then some (nI t, mf_found) else some (-1000003, upd mf_found 2 (mf_found 2 + 1))) := by
          unfold F_X7_as
          simp only [nm]
          rw [in_t (a := 0) (b := 9) hr]
          simp only [bd1, one0]
          rw [in_t (a := 0) (b := 6) hq]
          simp only [one0]
          rw [rd_l (30 + s) ea (by omega) (by decide), hds, if_neg (nI_ne0 (by omega) (by omega)), rd_l (30 + s) ea (by omega) (by decide), hds, nI_pred, mKd (by omega), (hA t (by omega)).1, hk2]
          simp only []
          rw [abv_s hk1]
          rfl
        rw [hq2] at hm0
        rcases hi1 with hi | hi
        · rw [if_pos hi] at hx0
          have hno : ¬ (nI q = 0 ∨ nI q = nI k ∨ nI q = abvE k) := fun h => by rw [hi2.mpr h] at hi; exact absurd hi (by decide)
          rw [if_neg (fun h => hno (Or.inl h)), if_neg (fun h => hno (Or.inr (Or.inl h))), if_neg (fun h => hno (Or.inr (Or.inr h)))] at hm0
          rw [hq2] at hx0 ⊢
          exact ⟨_, _, _, hx0, hm0, hC0, hK1, hK2, hK3, fnd_u hF 2 (by decide), hT, hS0, hS1, hS2, hS3, hG⟩
        · rw [if_neg (by rw [hi]; decide)] at hx0
          have hm : F_X7_as n0 mf_d mf_found p1 (nI q) = some (nI t, mf_found) := by
            rw [hm0]
            rcases hi2.mp hi with h | h | h
            · rw [if_pos h]
            · rw [if_pos h]
              split
              · rfl
              · rfl
            · rw [if_pos h]
              split
              · rfl
              · split
                · rfl
                · rfl
          rw [hq2] at hx0 ⊢
          exact ⟨_, _, _, hx0, hm, hC0, hK1, hK2, hK3, hF, hT, hS0, hS1, hS2, hS3, hG⟩
    · have hx : F_X6_as n0 xv_camp_tents xf_found xf_camp_kinds xf_camp_spots p1 p2 = some (-1000001, upd xf_found 0 (xf_found 0 + 1)) := by
        unfold F_X6_as
        rw [isSpot_t hr]
        simp only [bd1, one0]
        rw [isKind_f hq]
        rfl
      have hm : F_X7_as n0 mf_d mf_found p1 p2 = some (-1000001, upd mf_found 0 (mf_found 0 + 1)) := by
        unfold F_X7_as
        simp only [nm]
        rw [in_t (a := 0) (b := 9) hr]
        simp only [bd1, one0]
        rw [in_f (a := 0) (b := 6) hq]
        rfl
      exact ⟨_, _, _, hx, hm, hC0, hK1, hK2, hK3, fnd_u hF 0 (by decide), hT, hS0, hS1, hS2, hS3, hG⟩
  · have hx : F_X6_as n0 xv_camp_tents xf_found xf_camp_kinds xf_camp_spots p1 p2 = some (-1000001, upd xf_found 0 (xf_found 0 + 1)) := by
      unfold F_X6_as
      rw [isSpot_f hr]
      rfl
    have hm : F_X7_as n0 mf_d mf_found p1 p2 = some (-1000001, upd mf_found 0 (mf_found 0 + 1)) := by
      unfold F_X7_as
      simp only [nm]
      rw [in_f (a := 0) (b := 9) hr]
      rfl
    exact ⟨_, _, _, hx, hm, hC0, hK1, hK2, hK3, fnd_u hF 0 (by decide), hT, hS0, hS1, hS2, hS3, hG⟩
/-! judge -/
def jdF (f : Int32 → Int32) (nums : Nat → Int32) : Nat → Nat → Int32 → Int32
  | 0, _, _ => 0
  | c + 1, i, s => if nums i = onesE (f s) then jdF f nums c (i + 1) (f s) else nI (1 + i)
theorem jd_r {n0 N k z : Nat} {kinds hears near gaps numbers found : Nat → Int32} {H M : Nat → Option Nat} (hn : 2000000 ≤ n0) (hN : N ≤ 10) (h3 : HR N hears H) (h4 : HR N near M) (hk4 : k < 4) (hz : z ≤ 40) : ∀ (c i n : Nat) (s : Int32), i + c = z → c < n → L_X6_judge_51 (nI k) (nI z) found gaps hears near n0 (nI N) kinds numbers n s (nI i) = some (jdF (nxO kinds H M N) numbers c i s, found, gaps, hears, near) := by
  intro c
  induction c with
  | zero =>
    intro i n s h1 h2
    obtain ⟨n, rfl⟩ : ∃ q, n = q + 1 := ⟨n - 1, by omega⟩
    rw [L_X6_judge_51_u, ixq_t hk4, if_pos (nI_le (by omega) (by omega))]
    rfl
  | succ c ih =>
    intro i n s h1 h2
    obtain ⟨n, rfl⟩ : ∃ q, n = q + 1 := ⟨n - 1, by omega⟩
    obtain ⟨m, m1, m2⟩ := nxS_rg (kinds := kinds) (H := fun j => cod (H j)) (M := fun j => cod (M j)) hN s
    have m2' : nxO kinds H M N s = nI m := m2
    have hm : m < 1024 := by have := pow10 hN; omega
    rw [L_X6_judge_51_u, ixq_t hk4, if_neg (nI_ge (by omega) (by omega)), next_O hn hN h3 h4]
    simp only [bd1]
    rw [ixq_t hk4, rd_nI (by omega) (by decide), bitC_s]
    simp only [nm]
    have e : bitE (nxO kinds H M N s) = onesE (nxO kinds H M N s) := by rw [m2']; exact pop_eq m hm
    rw [e]
    show _ = some ((if numbers i = onesE (nxO kinds H M N s) then jdF (nxO kinds H M N) numbers c (i + 1) (nxO kinds H M N s) else nI (1 + i)), found, gaps, hears, near)
    by_cases h : numbers i = onesE (nxO kinds H M N s)
    · rw [if_pos h, if_pos h, nI_1]
      exact ih (i + 1) n _ (by omega) (by omega)
    · rw [if_neg h, if_neg h, show (1 : Int32) + nI i = nI (1 + i) from nI_add 1 i]
theorem mjd_r {n0 N k z : Nat} {d kinds hears near number numbers sizeOf found : Nat → Int32} {H M : Nat → Option Nat} (hn : 2000000 ≤ n0) (hN : N ≤ 10) (hd : d 0 = nI N) (hk : ∀ i : Nat, i < 10 → d (10 + i) = kinds i) (h3 : HR N hears H) (h4 : HR N near M) (hk4 : k < 4) (hz : z ≤ 40) (hsz : sizeOf k = nI z) (hnu : ∀ i : Nat, i < 40 → number (40 * k + i) = numbers i) : ∀ (c i n : Nat) (s : Int32), i + c = z → c < n → L_X7_judge_31 sizeOf (nI k) found hears near n0 d number n s (nI i) = some (jdF (nxO kinds H M N) numbers c i s, found, hears, near) := by
  intro c
  induction c with
  | zero =>
    intro i n s h1 h2
    obtain ⟨n, rfl⟩ : ∃ q, n = q + 1 := ⟨n - 1, by omega⟩
    rw [L_X7_judge_31_u, rd_nI hk4 (by decide), hsz, if_pos (nI_le (by omega) (by omega))]
    rfl
  | succ c ih =>
    intro i n s h1 h2
    obtain ⟨n, rfl⟩ : ∃ q, n = q + 1 := ⟨n - 1, by omega⟩
    rw [L_X7_judge_31_u, rd_nI hk4 (by decide), hsz, if_neg (nI_ge (by omega) (by omega)), mnext_O hn hN hd hk h3 h4]
    simp only [bd1, nm]
    rw [num_ix, rd_nI (by omega) (by decide), hnu i (by omega), ones_s hn]
    simp only []
    show _ = some ((if numbers i = onesE (nxO kinds H M N s) then jdF (nxO kinds H M N) numbers c (i + 1) (nxO kinds H M N s) else nI (1 + i)), found, hears, near)
    by_cases h : numbers i = onesE (nxO kinds H M N s)
    · rw [if_pos h, if_pos h, nI_1]
      exact ih (i + 1) n _ (by omega) (by omega)
    · rw [if_neg h, if_neg h, show (1 : Int32) + nI i = nI (1 + i) from nI_add 1 i]
theorem judge_core {n0 k : Nat} (hn : 2000000 ≤ n0) (hk4 : k < 4) {bits size p1 tents said wall bridge counted day zz : Int32} {kinds yards spots d numbers found mfound bitsOf sizeOf number xg xh xn mh mn : Nat → Int32} (hk : ixb p1 4 = true → p1 = nI k) (hF : ∀ i : Nat, i < 7 → mfound i = found i) (hS : SR k numbers bits size bitsOf sizeOf number) (hC : CR kinds yards spots tents said wall bridge counted day zz d) : ∃ (r : Int32) (o0 o1 o2 o3 w0 w1 w2 : Nat → Int32), F_X6_judge n0 tents said wall bridge counted found kinds yards xg xh xn bits size numbers p1 = some (r, o0, o1, o2, o3) ∧ F_X7_judge n0 (-1) bitsOf d mfound mh mn number sizeOf p1 = some (r, w0, w1, w2) ∧ ∀ i : Nat, i < 7 → w0 i = o0 i := by
  have hC0 := hC
  obtain ⟨N, hN, h0, hd0, hd1, hd2, hd3, hd4, hd5, hd6, hct, hwl, hbr, hdy, ⟨m, hm, hsa⟩, hA, hKi, hYa, hSp⟩ := hC
  have hC1 := hC0
  rw [h0] at hC1
  obtain ⟨hb, hz, hbb, ⟨z, hz1, hz2, hz3⟩, hnu⟩ := hS
  obtain ⟨H, M, g', h', n', mh', mn', j1, j2, j3, j4, j5, j6, j7, j8⟩ := both_listen (xg := xg) (xh := xh) (xn := xn) (mh := mh) (mn := mn) hn hN hC1
  by_cases hs : inR 0 3 p1
  · have hp := hk (ixb_r.mpr hs)
    subst hp
    by_cases hb0 : bits = 0
    · have hx : F_X6_judge n0 tents said wall bridge counted found kinds yards xg xh xn bits size numbers (nI k) = some (-1000006, upd found 5 (found 5 + 1), xg, xh, xn) := by
        unfold F_X6_judge
        rw [isSheet_t hs]
        simp only [bd1, one0]
        rw [ixq_t hk4, miss_t hb0]
        rfl
      have hm' : F_X7_judge n0 (-1) bitsOf d mfound mh mn number sizeOf (nI k) = some (-1000006, upd mfound 5 (mfound 5 + 1), mh, mn) := by
        unfold F_X7_judge
        rw [why_5 hk4 hs (hb.trans hb0)]
        rfl
      exact ⟨_, _, _, _, _, _, _, _, hx, hm', fnd_u hF 5 (by decide)⟩
    · have hx : F_X6_judge n0 tents said wall bridge counted found kinds yards xg xh xn bits size numbers (nI k) = some (jdF (nxO kinds H M N) numbers z 0 said, found, g', h', n') := by
        unfold F_X6_judge
        rw [isSheet_t hs]
        simp only [bd1, one0]
        rw [ixq_t hk4, miss_f hb0]
        simp only [zero0]
        rw [hz2, h0, j1]
        simp only [bd3]
        have e := jd_r (found := found) (gaps := g') (kinds := kinds) (numbers := numbers) hn hN j3 j4 hk4 hz1 z 0 n0 said (by omega) (by omega)
        rw [nI_0] at e
        exact e
      have hm' : F_X7_judge n0 (-1) bitsOf d mfound mh mn number sizeOf (nI k) = some (jdF (nxO kinds H M N) numbers z 0 said, mfound, mh', mn') := by
        unfold F_X7_judge
        rw [why_t hk4 hs (by rw [hb]; exact hb0)]
        simp only [bd1]
        rw [if_pos (by decide), j2]
        simp only [bd2]
        rw [rd_l 6 l6 (by decide) (by decide), hd6]
        have e := mjd_r (found := mfound) (kinds := kinds) (numbers := numbers) hn hN hd0 (fun i hi => (hA i hi).1) j5 j6 hk4 hz1 (hz.trans hz2) hnu z 0 n0 said (by omega) (by omega)
        rw [nI_0] at e
        exact e
      exact ⟨_, _, _, _, _, _, _, _, hx, hm', hF⟩
  · have hx : F_X6_judge n0 tents said wall bridge counted found kinds yards xg xh xn bits size numbers p1 = some (-1000001, upd found 0 (found 0 + 1), xg, xh, xn) := by
      unfold F_X6_judge
      rw [isSheet_f hs]
      rfl
    have hm' : F_X7_judge n0 (-1) bitsOf d mfound mh mn number sizeOf p1 = some (-1000001, upd mfound 0 (mfound 0 + 1), mh, mn) := by
      unfold F_X7_judge
      rw [why_0 hs]
      rfl
    exact ⟨_, _, _, _, _, _, _, _, hx, hm', fnd_u hF 0 (by decide)⟩
theorem st_judge_0 {n0 : Nat} (hn : 2000000 ≤ n0) : St_judge_0 n0 := by
  intro xv_isKept xf_found xv_camp_tents xv_camp_said xv_camp_wall xv_camp_bridge xv_camp_counted xv_camp_day xv_camp_z xf_camp_kinds xf_camp_yards xf_camp_spots xv_kept_tents xv_kept_said xv_kept_wall xv_kept_bridge xv_kept_counted xv_kept_day xv_kept_z xf_kept_kinds xf_kept_yards xf_kept_spots xf_ears_hears xf_ears_near xf_ears_gaps xv_tape_size xf_tape_bytes xv_sheets_0_bits xv_sheets_0_size xf_sheets_0_numbers xv_sheets_1_bits xv_sheets_1_size xf_sheets_1_numbers xv_sheets_2_bits xv_sheets_2_size xf_sheets_2_numbers xv_sheets_3_bits xv_sheets_3_size xf_sheets_3_numbers mv_isKept mv_taped mv_gone mf_d mf_kept mf_found mf_tape mf_hears mf_near mf_bitsOf mf_sizeOf mf_number hI p1 hk1
  obtain ⟨hC, hK1, hK2, hK3, hF, hT, hS0, hS1, hS2, hS3, hG⟩ := hI
  obtain ⟨r, o0, o1, o2, o3, w0, w1, w2, hx, hm, h1⟩ := judge_core (xg := xf_ears_gaps) (xh := xf_ears_hears) (xn := xf_ears_near) (mh := mf_hears) (mn := mf_near) hn (by decide) hk1 hF hS0 hC
  rw [← hG] at hm
  exact ⟨r, o0, o1, o2, o3, w0, w1, w2, hx, hm, hC, hK1, hK2, hK3, h1, hT, hS0, hS1, hS2, hS3, hG⟩
theorem st_judge_1 {n0 : Nat} (hn : 2000000 ≤ n0) : St_judge_1 n0 := by
  intro xv_isKept xf_found xv_camp_tents xv_camp_said xv_camp_wall xv_camp_bridge xv_camp_counted xv_camp_day xv_camp_z xf_camp_kinds xf_camp_yards xf_camp_spots xv_kept_tents xv_kept_said xv_kept_wall xv_kept_bridge xv_kept_counted xv_kept_day xv_kept_z xf_kept_kinds xf_kept_yards xf_kept_spots xf_ears_hears xf_ears_near xf_ears_gaps xv_tape_size xf_tape_bytes xv_sheets_0_bits xv_sheets_0_size xf_sheets_0_numbers xv_sheets_1_bits xv_sheets_1_size xf_sheets_1_numbers xv_sheets_2_bits xv_sheets_2_size xf_sheets_2_numbers xv_sheets_3_bits xv_sheets_3_size xf_sheets_3_numbers mv_isKept mv_taped mv_gone mf_d mf_kept mf_found mf_tape mf_hears mf_near mf_bitsOf mf_sizeOf mf_number hI p1 hk1
  obtain ⟨hC, hK1, hK2, hK3, hF, hT, hS0, hS1, hS2, hS3, hG⟩ := hI
  obtain ⟨r, o0, o1, o2, o3, w0, w1, w2, hx, hm, h1⟩ := judge_core (xg := xf_ears_gaps) (xh := xf_ears_hears) (xn := xf_ears_near) (mh := mf_hears) (mn := mf_near) hn (by decide) hk1 hF hS1 hC
  rw [← hG] at hm
  exact ⟨r, o0, o1, o2, o3, w0, w1, w2, hx, hm, hC, hK1, hK2, hK3, h1, hT, hS0, hS1, hS2, hS3, hG⟩
theorem st_judge_2 {n0 : Nat} (hn : 2000000 ≤ n0) : St_judge_2 n0 := by
  intro xv_isKept xf_found xv_camp_tents xv_camp_said xv_camp_wall xv_camp_bridge xv_camp_counted xv_camp_day xv_camp_z xf_camp_kinds xf_camp_yards xf_camp_spots xv_kept_tents xv_kept_said xv_kept_wall xv_kept_bridge xv_kept_counted xv_kept_day xv_kept_z xf_kept_kinds xf_kept_yards xf_kept_spots xf_ears_hears xf_ears_near xf_ears_gaps xv_tape_size xf_tape_bytes xv_sheets_0_bits xv_sheets_0_size xf_sheets_0_numbers xv_sheets_1_bits xv_sheets_1_size xf_sheets_1_numbers xv_sheets_2_bits xv_sheets_2_size xf_sheets_2_numbers xv_sheets_3_bits xv_sheets_3_size xf_sheets_3_numbers mv_isKept mv_taped mv_gone mf_d mf_kept mf_found mf_tape mf_hears mf_near mf_bitsOf mf_sizeOf mf_number hI p1 hk1
  obtain ⟨hC, hK1, hK2, hK3, hF, hT, hS0, hS1, hS2, hS3, hG⟩ := hI
  obtain ⟨r, o0, o1, o2, o3, w0, w1, w2, hx, hm, h1⟩ := judge_core (xg := xf_ears_gaps) (xh := xf_ears_hears) (xn := xf_ears_near) (mh := mf_hears) (mn := mf_near) hn (by decide) hk1 hF hS2 hC
  rw [← hG] at hm
  exact ⟨r, o0, o1, o2, o3, w0, w1, w2, hx, hm, hC, hK1, hK2, hK3, h1, hT, hS0, hS1, hS2, hS3, hG⟩
theorem st_judge_3 {n0 : Nat} (hn : 2000000 ≤ n0) : St_judge_3 n0 := by
  intro xv_isKept xf_found xv_camp_tents xv_camp_said xv_camp_wall xv_camp_bridge xv_camp_counted xv_camp_day xv_camp_z xf_camp_kinds xf_camp_yards xf_camp_spots xv_kept_tents xv_kept_said xv_kept_wall xv_kept_bridge xv_kept_counted xv_kept_day xv_kept_z xf_kept_kinds xf_kept_yards xf_kept_spots xf_ears_hears xf_ears_near xf_ears_gaps xv_tape_size xf_tape_bytes xv_sheets_0_bits xv_sheets_0_size xf_sheets_0_numbers xv_sheets_1_bits xv_sheets_1_size xf_sheets_1_numbers xv_sheets_2_bits xv_sheets_2_size xf_sheets_2_numbers xv_sheets_3_bits xv_sheets_3_size xf_sheets_3_numbers mv_isKept mv_taped mv_gone mf_d mf_kept mf_found mf_tape mf_hears mf_near mf_bitsOf mf_sizeOf mf_number hI p1 hk1
  obtain ⟨hC, hK1, hK2, hK3, hF, hT, hS0, hS1, hS2, hS3, hG⟩ := hI
  obtain ⟨r, o0, o1, o2, o3, w0, w1, w2, hx, hm, h1⟩ := judge_core (xg := xf_ears_gaps) (xh := xf_ears_hears) (xn := xf_ears_near) (mh := mf_hears) (mn := mf_near) hn (by decide) hk1 hF hS3 hC
  rw [← hG] at hm
  exact ⟨r, o0, o1, o2, o3, w0, w1, w2, hx, hm, hC, hK1, hK2, hK3, h1, hT, hS0, hS1, hS2, hS3, hG⟩
