/-! bits of what is said, by tables -/
def onesE (x : Int32) : Int32 := (F_X7_ones 11 x).getD 0
def bitE (x : Int32) : Int32 := (F_J6_bitCount_0f7a4 0 x).getD 0
theorem ones_s {n0 : Nat} (hn : 2000000 ≤ n0) (x : Int32) : F_X7_ones n0 x = some (onesE x) := by
  obtain ⟨q, rfl⟩ : ∃ q, n0 = q + 11 := ⟨n0 - 11, by omega⟩
  rfl
theorem bitC_s {n0 : Nat} (x : Int32) : F_J6_bitCount_0f7a4 n0 x = some (bitE x) := rfl
theorem vote_s {n0 : Nat} (x : Int32) : F_X0_vote n0 x = some (bitE x) := rfl
theorem pop_eq : ∀ m : Nat, m < 1024 → bitE (nI m) = onesE (nI m) := by decide +kernel
def clrB (s : Int32) (t : Nat) : Int32 := s &&& ((1 <<< (nI t &&& 31)) ^^^ (-1))
def setB (s : Int32) (t : Nat) : Int32 := s ||| (1 <<< (nI t &&& 31))
def bitB (s : Int32) (t : Nat) : Int32 := (s >>> (nI t &&& 31)) &&& 1
theorem clr_set : ∀ t : Nat, t < 10 → ∀ m : Nat, m < 1024 → clrB (nI m) t ||| (1 <<< (nI t &&& 31)) = setB (nI m) t := by decide +kernel
theorem clr_rg0 : ∀ t : Nat, t < 10 → ∀ m : Nat, m < 1024 → 0 ≤ (clrB (nI m) t).toInt ∧ (clrB (nI m) t).toInt ≤ (m : Int) := by decide +kernel
theorem set_rg0 : ∀ N : Nat, N < 11 → ∀ t : Nat, t < N → ∀ m : Nat, m < 2 ^ N → 0 ≤ (setB (nI m) t).toInt ∧ (setB (nI m) t).toInt < (2 ^ N : Nat) := by decide +kernel
theorem bit_01 : ∀ t : Nat, t < 10 → ∀ m : Nat, m < 1024 → bitB (nI m) t = 0 ∨ bitB (nI m) t = 1 := by decide +kernel
theorem nI_rg {x : Int32} {n : Nat} (h0 : 0 ≤ x.toInt) (h1 : x.toInt < (n : Int)) : ∃ w : Nat, w < n ∧ x = nI w := by
  have h3 : ¬ x < 0 := by rw [Int32.lt_iff_toInt_lt]; simpa using h0
  obtain ⟨j, hj, rfl⟩ := nI_of h3
  rw [nI_toInt hj] at h1
  exact ⟨j, by omega, rfl⟩
theorem pow10 {N : Nat} (h : N ≤ 10) : 2 ^ N ≤ 1024 := Nat.pow_le_pow_right (by decide) h
theorem clr_rg {N m t : Nat} (hN : N ≤ 10) (hm : m < 2 ^ N) (ht : t < 10) : ∃ w : Nat, w < 2 ^ N ∧ clrB (nI m) t = nI w := by
  have h := clr_rg0 t ht m (by have := pow10 hN; omega)
  exact nI_rg h.1 (by have := h.2; omega)
theorem set_rg {N m t : Nat} (hN : N ≤ 10) (hm : m < 2 ^ N) (ht : t < N) : ∃ w : Nat, w < 2 ^ N ∧ setB (nI m) t = nI w := by
  have h := set_rg0 N (by omega) t ht m hm
  exact nI_rg h.1 h.2
theorem gw_0 (s : Int32) (t : Nat) : clrB s t ||| ((0 : Int32) <<< (nI t &&& 31)) = clrB s t := by rw [Int32.zero_shiftLeft, Int32.or_zero]
theorem giveWord_s {n0 t : Nat} {s v : Int32} : F_X0_giveWord n0 s (nI t) v = some (clrB s t ||| (v <<< (nI t &&& 31))) := rfl
theorem wordOf_s {n0 t : Nat} {s : Int32} : F_X0_wordOf n0 s (nI t) = some (bitB s t) := rfl
theorem saysNow_s {n0 t : Nat} {d : Nat → Int32} : F_X7_saysNow n0 d (nI t) = some (bitB (d 6) t) := by
  unfold F_X7_saysNow
  rw [rd_l 6 l6 (by decide) (by decide)]
  rfl
theorem sayOf_1 {n0 t : Nat} {d : Nat → Int32} : F_X7_sayOf n0 d (nI t) 1 = some (upd d 6 (setB (d 6) t)) := by
  unfold F_X7_sayOf
  rw [if_pos rfl, rd_l 6 l6 (by decide) (by decide)]
  simp only [nm]
  rw [wrt_l 6 l6 (by decide) (by decide)]
  rfl
theorem sayOf_0 {n0 t : Nat} {d : Nat → Int32} : F_X7_sayOf n0 d (nI t) 0 = some (upd d 6 (clrB (d 6) t)) := by
  unfold F_X7_sayOf
  rw [if_neg (by decide), rd_l 6 l6 (by decide) (by decide)]
  simp only [nm]
  rw [wrt_l 6 l6 (by decide) (by decide)]
  rfl
/-- a new tent -/
theorem pitch_s {n0 N : Nat} {said p1 p2 p3 : Int32} {kinds yards : Nat → Int32} (h : N < 10) : F_X0_pitch n0 (nI N) said kinds yards p1 p2 p3 = some (nI N, nI (N + 1), clrB said N ||| (p3 <<< (nI N &&& 31)), upd kinds N p1, upd yards N p2) := by
  unfold F_X0_pitch
  rw [if_pos (show nI N < 10 from nI_lt (b := 10) h (by decide))]
  simp only [nm]
  rw [wrt_nI h (by decide), wrt_nI h (by decide), nI_1]
  rfl
def comesD (d : Nat → Int32) (N : Nat) (p1 p2 : Int32) : Nat → Int32 := upd (upd (upd (upd d (10 + N) p1) (20 + N) p2) 6 (clrB (d 6) N)) 0 (nI N + 1)
theorem comes_s {n0 N : Nat} {d : Nat → Int32} {p1 p2 : Int32} (h : N < 10) (hd : d 0 = nI N) : F_X7_comes n0 d p1 p2 = some (nI N, comesD d N p1 p2) := by
  have e6 : (upd (upd d (10 + N) p1) (20 + N) p2) 6 = d 6 := by rw [pk_un (by omega), pk_un (by omega)]
  have e0 : ∀ x : Int32, (upd (upd (upd d (10 + N) p1) (20 + N) p2) 6 x) 0 = nI N := fun x => by rw [pk_un (by decide), pk_un (by omega), pk_un (by omega), hd]
  unfold F_X7_comes
  rw [rd_l 0 l0 (by decide) (by decide), hd]
  simp only [nm]
  rw [wrt_l (10 + N) (a10 N) (by omega) (by decide), wrt_l (20 + N) (a20 N) (by omega) (by decide), rd_l 6 l6 (by decide) (by decide), wrt_l 6 l6 (by decide) (by decide), rd_l 0 l0 (by decide) (by decide), wrt_l 0 l0 (by decide) (by decide), e6, e0]
  rfl
theorem CR_pitch {kinds yards spots d : Nat → Int32} {N k y : Nat} {said wall bridge counted day z : Int32} (hN : N < 10) (hk : k < 7) (hy : y < 144) (hC : CR kinds yards spots (nI N) said wall bridge counted day z d) : CR (upd kinds N (nI k)) (upd yards N (nI y)) spots (nI (N + 1)) (clrB said N) wall bridge counted day z (comesD d N (nI k) (nI y)) := by
  obtain ⟨M, hM, h0, hd0, hd1, hd2, hd3, hd4, hd5, hd6, hct, hwl, hbr, hdy, ⟨m, hm, hsa⟩, hA, hKi, hYa, hSp⟩ := hC
  have e : N = M := (nI_eq (by omega) (by omega)).mp h0
  subst e
  have un : ∀ j : Nat, 0 < j → j < 6 → comesD d N (nI k) (nI y) j = d j := fun j h1 h2 => by rw [comesD, pk_un (by omega), pk_un (by omega), pk_un (by omega), pk_un (by omega)]
  refine ⟨N + 1, by omega, rfl, ?_, ?_, ?_, ?_, ?_, ?_, ?_, hct, hwl, hbr, hdy, ?_, fun i hi => ⟨?_, ?_, ?_⟩, fun i hi => ?_, fun i hi => ?_, fun i hi => ?_⟩
  · rw [comesD, pk_us, nI_1]
  · rw [un 1 (by decide) (by decide)]; exact hd1
  · rw [un 2 (by decide) (by decide)]; exact hd2
  · rw [un 3 (by decide) (by decide)]; exact hd3
  · rw [un 4 (by decide) (by decide)]; exact hd4
  · rw [un 5 (by decide) (by decide)]; exact hd5
  · rw [comesD, pk_un (by decide), pk_us, hd6]
  · rw [hsa]
    obtain ⟨w, h1, h2⟩ := clr_rg (N := N) (by omega) hm (t := N) hN
    exact ⟨w, by rw [Nat.pow_succ]; omega, h2⟩
  · rw [comesD, pk_un (by omega), pk_un (by omega), pk_un (by omega)]
    by_cases h : i = N
    · subst h; rw [pk_us, pk_us]
    · rw [pk_un (by omega), pk_un h]; exact (hA i hi).1
  · rw [comesD, pk_un (by omega), pk_un (by omega)]
    by_cases h : i = N
    · subst h; rw [pk_us, pk_us]
    · rw [pk_un (by omega), pk_un (by omega), pk_un h]; exact (hA i hi).2.1
  · rw [comesD, pk_un (by omega), pk_un (by omega), pk_un (by omega), pk_un (by omega)]; exact (hA i hi).2.2
  · by_cases h : i = N
    · subst h; exact ⟨k, hk, pk_us⟩
    · rw [pk_un h]; exact hKi i hi
  · by_cases h : i = N
    · subst h; exact ⟨y, hy, pk_us⟩
    · rw [pk_un h]; exact hYa i hi
  · obtain ⟨w, h1, h2⟩ := hSp i hi
    exact ⟨w, by omega, h2⟩
