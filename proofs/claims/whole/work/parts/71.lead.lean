/-! leader, heard, follows, as, judge -/
theorem fart_some {g : Nat → Nat} : ∀ (k i : Nat) (b : Option Nat), (0 < k ∨ b ≠ none) → fartF g sk0 k i b ≠ none := by
  intro k
  induction k with
  | zero => intro i b h; exact h.elim (fun h => absurd h (Nat.lt_irrefl 0)) id
  | succ k ih =>
    intro i b _
    unfold fartF
    apply ih
    refine Or.inr ?_
    rw [if_neg (show ¬ sk0 i = true from Bool.false_ne_true)]
    cases b with
    | none => exact fun h => by cases h
    | some o =>
      show (if g i ≤ g o then some o else some i) ≠ none
      split
      · exact fun h => by cases h
      · exact fun h => by cases h
theorem fart_ex {g : Nat → Nat} {N : Nat} (h : 0 < N) : ∃ o : Nat, o < N ∧ fartF g sk0 N 0 none = some o := by
  have h1 := fart_some (g := g) N 0 none (Or.inl h)
  have h2 := fartF_ok g sk0 N 0 none trivial
  rw [Nat.zero_add] at h2
  cases hq : fartF g sk0 N 0 none with
  | none => exact absurd hq h1
  | some o => rw [hq] at h2; exact ⟨o, h2, rfl⟩
theorem nI_z {N : Nat} (hN : N ≤ 10) : nI N = 0 ↔ N = 0 := ⟨fun h => (nI_eq (a := N) (b := 0) (by omega) (by decide)).mp h, fun h => by rw [h]; rfl⟩
def ldR (found g1 g2 : Nat → Int32) (b : Option Nat) : Option (Int32 × (Nat → Int32) × (Nat → Int32) × (Nat → Int32)) := if cod b = -1 then some (-1000004, upd found 3 (found 3 + 1), g1, g2) else some (cod b, found, g1, g2)
theorem ml_r {n0 N : Nat} {d found g1 g2 : Nat → Int32} {H : Nat → Option Nat} (hn : 2000000 ≤ n0) (hN : N ≤ 10) (hd : d 0 = nI N) (hh : HR N g1 H) : ∀ (k i n : Nat) (b : Option Nat), i + k = N → k < n → okB i b → L_X7_leader_8 d n0 found g1 g2 n (cod b) (nI i) = ldR found g1 g2 (fartF (fwN H N) sk0 k i b) := by
  intro k
  induction k with
  | zero =>
    intro i n b h1 h2 hb
    obtain ⟨n, rfl⟩ : ∃ q, n = q + 1 := ⟨n - 1, by omega⟩
    rw [L_X7_leader_8_u, rd_l 0 l0 (by decide) (by decide), hd, if_pos (nI_le (by omega) (by omega))]
    rfl
  | succ k ih =>
    intro i n b h1 h2 hb
    obtain ⟨n, rfl⟩ : ∃ q, n = q + 1 := ⟨n - 1, by omega⟩
    rw [L_X7_leader_8_u, rd_l 0 l0 (by decide) (by decide), hd, if_neg (nI_ge (by omega) (by omega))]
    cases b with
    | none =>
      rw [if_pos (show cod none = -1 from rfl), nm, nI_1]
      exact ih (i + 1) n (some i) (by omega) (by omega) (Nat.lt_succ_self i)
    | some o =>
      have ho : o < i := hb
      obtain ⟨e1, _, e2⟩ := bsF_ones (P := folB H N i) hN
      obtain ⟨f1, _, f2⟩ := bsF_ones (P := folB H N o) hN
      rw [if_neg (cod_m1 (by omega)), mfol_s (t := i) hn hN hd hh (by omega), show cod (some o) = nI o from rfl, mfol_s (t := o) hn hN hd hh (by omega)]
      simp only [bd1, nm]
      rw [ones_s hn, ones_s hn]
      simp only []
      rw [e1, f1, nI_1]
      show _ = ldR found g1 g2 (fartF (fwN H N) sk0 k (i + 1) (if fwN H N i ≤ fwN H N o then some o else some i))
      by_cases h3 : fwN H N i ≤ fwN H N o
      · rw [if_pos h3, if_pos (show nI (pcN (bsF (folB H N i) N)) ≤ nI (pcN (bsF (folB H N o) N)) from nI_le h3 (by omega))]
        exact ih (i + 1) n (some o) (by omega) (by omega) (Nat.lt_succ_of_lt ho)
      · rw [if_neg h3, if_neg (show ¬ nI (pcN (bsF (folB H N i) N)) ≤ nI (pcN (bsF (folB H N o) N)) from nI_ge (Nat.lt_of_not_le h3) (by omega))]
        exact ih (i + 1) n (some i) (by omega) (by omega) (Nat.lt_succ_self i)
theorem st_leader {n0 : Nat} (hn : 2000000 ≤ n0) : St_leader n0 := by
  intro xv_isKept xf_found xv_camp_tents xv_camp_said xv_camp_wall xv_camp_bridge xv_camp_counted xv_camp_day xv_camp_z xf_camp_kinds xf_camp_yards xf_camp_spots xv_kept_tents xv_kept_said xv_kept_wall xv_kept_bridge xv_kept_counted xv_kept_day xv_kept_z xf_kept_kinds xf_kept_yards xf_kept_spots xf_ears_hears xf_ears_near xf_ears_gaps xv_tape_size xf_tape_bytes xv_sheets_0_bits xv_sheets_0_size xf_sheets_0_numbers xv_sheets_1_bits xv_sheets_1_size xf_sheets_1_numbers xv_sheets_2_bits xv_sheets_2_size xf_sheets_2_numbers xv_sheets_3_bits xv_sheets_3_size xf_sheets_3_numbers mv_isKept mv_taped mv_gone mf_d mf_kept mf_found mf_tape mf_hears mf_near mf_bitsOf mf_sizeOf mf_number hI
  obtain ⟨hC, hK1, hK2, hK3, hF, hT, hS0, hS1, hS2, hS3, hG⟩ := hI
  have hC0 := hC
  obtain ⟨N, hN, h0, hd0, hd1, hd2, hd3, hd4, hd5, hd6, hct, hwl, hbr, hdy, hsa, hA, hKi, hYa, hSp⟩ := hC
  have hC1 := hC0
  rw [h0] at hC1
  obtain ⟨H, M, g', h', n', mh', mn', j1, j2, j3, j4, j5, j6, j7, j8⟩ := both_listen (xg := xf_ears_gaps) (xh := xf_ears_hears) (xn := xf_ears_near) (mh := mf_hears) (mn := mf_near) hn hN hC1
  have hm1 : F_X7_leader n0 mv_gone mf_d mf_found mf_hears mf_near = ldR mf_found mh' mn' (fartF (fwN H N) sk0 N 0 none) := by
    unfold F_X7_leader
    rw [hG, j2]
    simp only [bd2]
    have := ml_r (found := mf_found) (g2 := mn') hn hN hd0 j5 N 0 n0 none (by omega) (by omega) trivial
    rw [nI_0] at this
    exact this
  by_cases hz : N = 0
  · subst hz
    have hx : F_X6_leader n0 xv_camp_tents xv_camp_wall xv_camp_bridge xv_camp_counted xf_found xf_camp_kinds xf_camp_yards xf_ears_gaps xf_ears_hears xf_ears_near = some (-1000004, upd xf_found 3 (xf_found 3 + 1), xf_ears_gaps, xf_ears_hears, xf_ears_near) := by
      unfold F_X6_leader
      rw [h0, if_pos (show nI 0 = 0 from rfl)]
      rfl
    have hm : F_X7_leader n0 mv_gone mf_d mf_found mf_hears mf_near = some (-1000004, upd mf_found 3 (mf_found 3 + 1), mh', mn') := hm1
    exact ⟨_, _, _, _, _, _, _, _, hx, hm, hC0, hK1, hK2, hK3, fnd_u hF 3 (by decide), hT, hS0, hS1, hS2, hS3, hG⟩
  · obtain ⟨o, ho1, ho2⟩ := fart_ex (g := fwN H N) (N := N) (by omega)
    have hx : F_X6_leader n0 xv_camp_tents xv_camp_wall xv_camp_bridge xv_camp_counted xf_found xf_camp_kinds xf_camp_yards xf_ears_gaps xf_ears_hears xf_ears_near = some (nI o, xf_found, g', h', n') := by
      unfold F_X6_leader
      rw [h0, if_neg (fun h => hz ((nI_z hN).mp h)), j1]
      simp only [bd3]
      rw [mf_s hn hN j3, ho2]
      rfl
    have hm : F_X7_leader n0 mv_gone mf_d mf_found mf_hears mf_near = some (nI o, mf_found, mh', mn') := by
      rw [hm1, ho2]
      unfold ldR
      rw [if_neg (cod_m1 (by omega))]
      rfl
    exact ⟨_, _, _, _, _, _, _, _, hx, hm, hC0, hK1, hK2, hK3, hF, hT, hS0, hS1, hS2, hS3, hG⟩
/-! heard -/
theorem xor_nI {a b : Nat} (ha : a < 1024) (hb : b < 1024) : nI a ^^^ nI b = nI (a ^^^ b) ∧ a ^^^ b < 1024 := by
  have h : a ^^^ b < 2 ^ 10 := Nat.xor_lt_two_pow ha hb
  refine ⟨?_, h⟩
  apply Int32.toBitVec_inj.1
  apply BitVec.eq_of_toNat_eq
  rw [show (nI a ^^^ nI b).toBitVec = (nI a).toBitVec ^^^ (nI b).toBitVec from rfl, BitVec.toNat_xor, pk_tn (by omega), pk_tn (by omega), pk_tn (by omega)]
def hdX (f : Int32 → Int32) (p : Nat) (s : Int32) (i : Nat) : Int32 := clrB (itS f p s ^^^ itS f p (s ^^^ (1 <<< (nI i &&& 31)))) i
def hdN (f : Int32 → Int32) (p : Nat) (s : Int32) (i : Nat) : Nat := pcN (hdX f p s i)
theorem it_rg {kinds : Nat → Int32} {H M : Nat → Option Nat} {N p : Nat} (hN : N ≤ 10) (hp : 0 < p) (s : Int32) : ∃ q : Nat, q < 2 ^ N ∧ itS (nxO kinds H M N) p s = nI q := by
  obtain ⟨p, rfl⟩ : ∃ q, p = q + 1 := ⟨p - 1, by omega⟩
  rw [itS_succ]
  exact nxS_rg hN _
theorem hd_v {kinds : Nat → Int32} {H M : Nat → Option Nat} {N p i : Nat} {s : Int32} (hN : N ≤ 10) (hp : 0 < p) (hi : i < 10) : bitE (hdX (nxO kinds H M N) p s i) = nI (hdN (nxO kinds H M N) p s i) ∧ onesE (hdX (nxO kinds H M N) p s i) = nI (hdN (nxO kinds H M N) p s i) ∧ hdN (nxO kinds H M N) p s i < 11 := by
  obtain ⟨a, a1, a2⟩ := it_rg (kinds := kinds) (H := H) (M := M) hN hp s
  obtain ⟨b, b1, b2⟩ := it_rg (kinds := kinds) (H := H) (M := M) hN hp (s ^^^ (1 <<< (nI i &&& 31)))
  have hp := pow10 hN
  obtain ⟨c1, c2⟩ := xor_nI (a := a) (b := b) (by omega) (by omega)
  obtain ⟨w, w1, w2⟩ := clr_rg (N := 10) (m := a ^^^ b) (t := i) (by omega) (by omega) hi
  have e : hdX (nxO kinds H M N) p s i = nI w := by
    unfold hdX
    rw [a2, b2, c1, w2]
  unfold hdN
  rw [e]
  exact ⟨by rw [pop_eq w (by omega)]; exact (pop_n w (by omega)).1, (pop_n w (by omega)).1, (pop_n w (by omega)).2⟩
theorem mh_r {n0 N p : Nat} {kinds hears near : Nat → Int32} {H M : Nat → Option Nat} {s : Int32} (hn : 2000000 ≤ n0) (hN : N ≤ 10) (h3 : HR N hears H) (h4 : HR N near M) (hp0 : 0 < p) (hp : p ≤ 60) : ∀ (k i n : Nat) (b : Option Nat), i + k = N → k < n → okB i b → L_X1_mostHeard_21 (nI N) s n0 hears near kinds (nI p) (itS (nxO kinds H M N) p s) n (cod b) (bgF (hdN (nxO kinds H M N) p s) b) (nI i) = some (cod (fartF (hdN (nxO kinds H M N) p s) sk0 k i b)) := by
  intro k
  induction k with
  | zero =>
    intro i n b h1 h2 hb
    obtain ⟨n, rfl⟩ : ∃ q, n = q + 1 := ⟨n - 1, by omega⟩
    rw [L_X1_mostHeard_21_u, if_pos (nI_le (by omega) (by omega))]
    rfl
  | succ k ih =>
    intro i n b h1 h2 hb
    obtain ⟨n, rfl⟩ : ∃ q, n = q + 1 := ⟨n - 1, by omega⟩
    rw [L_X1_mostHeard_21_u, if_neg (nI_ge (by omega) (by omega))]
    simp only [nm]
    rw [said_O hn hN h3 h4 (by omega)]
    simp only [bd1]
    rw [bitC_s]
    simp only []
    obtain ⟨e1, _, e2⟩ := hd_v (kinds := kinds) (H := H) (M := M) (s := s) hN hp0 (i := i) (by omega)
    have e1' : bitE ((itS (nxO kinds H M N) p s ^^^ itS (nxO kinds H M N) p (s ^^^ (1 <<< (nI i &&& 31)))) &&& ((1 <<< (nI i &&& 31)) ^^^ (-1))) = nI (hdN (nxO kinds H M N) p s i) := e1
    rw [e1', nI_1]
    cases b with
    | none =>
      have hq : ¬ nI (hdN (nxO kinds H M N) p s i) ≤ bgF (hdN (nxO kinds H M N) p s) none := by
        show ¬ nI (hdN (nxO kinds H M N) p s i) ≤ -1
        rw [Int32.le_iff_toInt_le, nI_toInt (by omega)]
        have a3 : (-1 : Int32).toInt = -1 := rfl
        omega
      rw [if_neg hq]
      exact ih (i + 1) n (some i) (by omega) (by omega) (Nat.lt_succ_self i)
    | some o =>
      have ho : o < i := hb
      obtain ⟨_, _, l2⟩ := hd_v (kinds := kinds) (H := H) (M := M) (s := s) hN hp0 (i := o) (by omega)
      show _ = some (cod (fartF (hdN (nxO kinds H M N) p s) sk0 k (i + 1) (if hdN (nxO kinds H M N) p s i ≤ hdN (nxO kinds H M N) p s o then some o else some i)))
      by_cases h5 : hdN (nxO kinds H M N) p s i ≤ hdN (nxO kinds H M N) p s o
      · rw [if_pos h5, if_pos (show nI (hdN (nxO kinds H M N) p s i) ≤ bgF (hdN (nxO kinds H M N) p s) (some o) from nI_le h5 (by omega))]
        exact ih (i + 1) n (some o) (by omega) (by omega) (Nat.lt_succ_of_lt ho)
      · rw [if_neg h5, if_neg (show ¬ nI (hdN (nxO kinds H M N) p s i) ≤ bgF (hdN (nxO kinds H M N) p s) (some o) from nI_ge (Nat.lt_of_not_le h5) (by omega))]
        exact ih (i + 1) n (some i) (by omega) (by omega) (Nat.lt_succ_self i)
def cod0 : Option Nat → Int32
  | none => 0
  | some o => nI o
theorem mmh_r {n0 N p : Nat} {d found kinds hears near : Nat → Int32} {H M : Nat → Option Nat} {s : Int32} (hn : 2000000 ≤ n0) (hN : N ≤ 10) (hd : d 0 = nI N) (hk : ∀ i : Nat, i < 10 → d (10 + i) = kinds i) (h6 : d 6 = s) (h3 : HR N hears H) (h4 : HR N near M) (hp0 : 0 < p) (hp : p ≤ 60) : ∀ (k i n : Nat) (b : Option Nat), i + k = N → k < n → okB i b → L_X7_heard_58 d found hears near n0 (nI p) (itS (nxO kinds H M N) p s) n (cod0 b) (bgF (hdN (nxO kinds H M N) p s) b) (nI i) = some (cod0 (fartF (hdN (nxO kinds H M N) p s) sk0 k i b), found, hears, near) := by
  intro k
  induction k with
  | zero =>
    intro i n b h1 h2 hb
    obtain ⟨n, rfl⟩ : ∃ q, n = q + 1 := ⟨n - 1, by omega⟩
    rw [L_X7_heard_58_u, rd_l 0 l0 (by decide) (by decide), hd, if_pos (nI_le (by omega) (by omega))]
    rfl
  | succ k ih =>
    intro i n b h1 h2 hb
    obtain ⟨n, rfl⟩ : ∃ q, n = q + 1 := ⟨n - 1, by omega⟩
    rw [L_X7_heard_58_u, rd_l 0 l0 (by decide) (by decide), hd, if_neg (nI_ge (by omega) (by omega)), rd_l 6 l6 (by decide) (by decide), h6]
    simp only [nm]
    rw [ahead_O hn hN hd hk h3 h4 (by omega)]
    simp only [bd1]
    rw [ones_s hn]
    simp only []
    unfold J_X7_heard_113
    obtain ⟨_, e1, e2⟩ := hd_v (kinds := kinds) (H := H) (M := M) (s := s) hN hp0 (i := i) (by omega)
    have e1' : onesE ((itS (nxO kinds H M N) p (s ^^^ (1 <<< (nI i &&& 31))) ^^^ itS (nxO kinds H M N) p s) &&& ((1 <<< (nI i &&& 31)) ^^^ (-1))) = nI (hdN (nxO kinds H M N) p s i) := by
      rw [Int32.xor_comm (itS (nxO kinds H M N) p (s ^^^ (1 <<< (nI i &&& 31))))]
      exact e1
    rw [e1']
    simp only [nm]
    rw [nI_1]
    cases b with
    | none =>
      have hq : ¬ nI (hdN (nxO kinds H M N) p s i) ≤ bgF (hdN (nxO kinds H M N) p s) none := by
        show ¬ nI (hdN (nxO kinds H M N) p s i) ≤ -1
        rw [Int32.le_iff_toInt_le, nI_toInt (by omega)]
        have a3 : (-1 : Int32).toInt = -1 := rfl
        omega
      rw [if_neg hq, if_neg hq]
      exact ih (i + 1) n (some i) (by omega) (by omega) (Nat.lt_succ_self i)
    | some o =>
      have ho : o < i := hb
      obtain ⟨_, _, l2⟩ := hd_v (kinds := kinds) (H := H) (M := M) (s := s) hN hp0 (i := o) (by omega)
      show _ = some (cod0 (fartF (hdN (nxO kinds H M N) p s) sk0 k (i + 1) (if hdN (nxO kinds H M N) p s i ≤ hdN (nxO kinds H M N) p s o then some o else some i)), found, hears, near)
      by_cases h5 : hdN (nxO kinds H M N) p s i ≤ hdN (nxO kinds H M N) p s o
      · have hq : nI (hdN (nxO kinds H M N) p s i) ≤ bgF (hdN (nxO kinds H M N) p s) (some o) := nI_le h5 (by omega)
        rw [if_pos h5, if_pos hq, if_pos hq]
        exact ih (i + 1) n (some o) (by omega) (by omega) (Nat.lt_succ_of_lt ho)
      · have hq : ¬ nI (hdN (nxO kinds H M N) p s i) ≤ bgF (hdN (nxO kinds H M N) p s) (some o) := nI_ge (Nat.lt_of_not_le h5) (by omega)
        rw [if_neg h5, if_neg hq, if_neg hq]
        exact ih (i + 1) n (some i) (by omega) (by omega) (Nat.lt_succ_self i)
theorem st_heard {n0 : Nat} (hn : 2000000 ≤ n0) : St_heard n0 := by
  intro xv_isKept xf_found xv_camp_tents xv_camp_said xv_camp_wall xv_camp_bridge xv_camp_counted xv_camp_day xv_camp_z xf_camp_kinds xf_camp_yards xf_camp_spots xv_kept_tents xv_kept_said xv_kept_wall xv_kept_bridge xv_kept_counted xv_kept_day xv_kept_z xf_kept_kinds xf_kept_yards xf_kept_spots xf_ears_hears xf_ears_near xf_ears_gaps xv_tape_size xf_tape_bytes xv_sheets_0_bits xv_sheets_0_size xf_sheets_0_numbers xv_sheets_1_bits xv_sheets_1_size xf_sheets_1_numbers xv_sheets_2_bits xv_sheets_2_size xf_sheets_2_numbers xv_sheets_3_bits xv_sheets_3_size xf_sheets_3_numbers mv_isKept mv_taped mv_gone mf_d mf_kept mf_found mf_tape mf_hears mf_near mf_bitsOf mf_sizeOf mf_number hI p1
  obtain ⟨hC, hK1, hK2, hK3, hF, hT, hS0, hS1, hS2, hS3, hG⟩ := hI
  have hC0 := hC
  obtain ⟨N, hN, h0, hd0, hd1, hd2, hd3, hd4, hd5, hd6, hct, hwl, hbr, hdy, hsa, hA, hKi, hYa, hSp⟩ := hC
  have hC1 := hC0
  rw [h0] at hC1
  obtain ⟨H, M, g', h', n', mh', mn', j1, j2, j3, j4, j5, j6, j7, j8⟩ := both_listen (xg := xf_ears_gaps) (xh := xf_ears_hears) (xn := xf_ears_near) (mh := mf_hears) (mn := mf_near) hn hN hC1
  obtain ⟨m, hm0, hsa⟩ := hsa
  by_cases hr : inR 1 60 p1
  · obtain ⟨p, hp0, hp1, hp2⟩ := inR_nI1 (lo := 1) (hi := 60) hr
    by_cases hz : N = 0
    · subst hz
      have hx : F_X6_heard n0 xv_camp_tents xv_camp_said xv_camp_wall xv_camp_bridge xv_camp_counted xf_found xf_camp_kinds xf_camp_yards xf_ears_gaps xf_ears_hears xf_ears_near p1 = some (-1000004, upd xf_found 3 (xf_found 3 + 1), xf_ears_gaps, xf_ears_hears, xf_ears_near) := by
        unfold F_X6_heard
        rw [isFrom_t (a := 1) (b := 60) hr]
        simp only [bd1, one0]
        rw [h0, if_pos (show nI 0 = 0 from rfl)]
        rfl
      have hm : F_X7_heard n0 mv_gone mf_d mf_found mf_hears mf_near p1 = some (-1000004, upd mf_found 3 (mf_found 3 + 1), mf_hears, mf_near) := by
        unfold F_X7_heard
        simp only [nm]
        rw [in_t (a := 1) (b := 60) hr]
        simp only [bd1, one0]
        rw [rd_l 0 l0 (by decide) (by decide), hd0, if_pos (show nI 0 = 0 from rfl)]
        rfl
      exact ⟨_, _, _, _, _, _, _, _, hx, hm, hC0, hK1, hK2, hK3, fnd_u hF 3 (by decide), hT, hS0, hS1, hS2, hS3, hG⟩
    · obtain ⟨o, ho1, ho2⟩ := fart_ex (g := hdN (nxO xf_camp_kinds H M N) p xv_camp_said) (N := N) (by omega)
      have hx : F_X6_heard n0 xv_camp_tents xv_camp_said xv_camp_wall xv_camp_bridge xv_camp_counted xf_found xf_camp_kinds xf_camp_yards xf_ears_gaps xf_ears_hears xf_ears_near p1 = some (nI o, xf_found, g', h', n') := by
        unfold F_X6_heard
        rw [isFrom_t (a := 1) (b := 60) hr]
        simp only [bd1, one0]
        rw [h0, if_neg (fun h => hz ((nI_z hN).mp h)), j1]
        simp only [bd3]
        unfold F_X1_mostHeard
        rw [hp2, said_O hn hN j3 j4 (by omega)]
        simp only [bd1]
        have e := mh_r (kinds := xf_camp_kinds) (s := xv_camp_said) hn hN j3 j4 (p := p) (by omega) (by omega) N 0 n0 none (by omega) (by omega) trivial
        rw [nI_0, ho2] at e
        have e' : L_X1_mostHeard_21 (nI N) xv_camp_said n0 h' n' xf_camp_kinds (nI p) (itS (nxO xf_camp_kinds H M N) p xv_camp_said) n0 (-1) (-1) 0 = some (nI o) := e
        rw [e']
      have hm : F_X7_heard n0 mv_gone mf_d mf_found mf_hears mf_near p1 = some (nI o, mf_found, mh', mn') := by
        unfold F_X7_heard
        simp only [nm]
        rw [in_t (a := 1) (b := 60) hr]
        simp only [bd1, one0]
        rw [rd_l 0 l0 (by decide) (by decide), hd0, if_neg (fun h => hz ((nI_z hN).mp h)), hG, j2]
        simp only [bd2]
        rw [rd_l 6 l6 (by decide) (by decide), hd6, hp2, ahead_O hn hN hd0 (fun i hi => (hA i hi).1) j5 j6 (by omega)]
        simp only []
        have e := mmh_r (found := mf_found) (kinds := xf_camp_kinds) (s := xv_camp_said) hn hN hd0 (fun i hi => (hA i hi).1) hd6 j5 j6 (p := p) (by omega) (by omega) N 0 n0 none (by omega) (by omega) trivial
        rw [nI_0, ho2] at e
        exact e
      exact ⟨_, _, _, _, _, _, _, _, hx, hm, hC0, hK1, hK2, hK3, hF, hT, hS0, hS1, hS2, hS3, hG⟩
  · have hx : F_X6_heard n0 xv_camp_tents xv_camp_said xv_camp_wall xv_camp_bridge xv_camp_counted xf_found xf_camp_kinds xf_camp_yards xf_ears_gaps xf_ears_hears xf_ears_near p1 = some (-1000001, upd xf_found 0 (xf_found 0 + 1), xf_ears_gaps, xf_ears_hears, xf_ears_near) := by
      unfold F_X6_heard
      rw [isFrom_f (a := 1) (b := 60) hr]
      rfl
    have hm : F_X7_heard n0 mv_gone mf_d mf_found mf_hears mf_near p1 = some (-1000001, upd mf_found 0 (mf_found 0 + 1), mf_hears, mf_near) := by
      unfold F_X7_heard
      simp only [nm]
      rw [in_f (a := 1) (b := 60) hr]
      rfl
    exact ⟨_, _, _, _, _, _, _, _, hx, hm, hC0, hK1, hK2, hK3, fnd_u hF 0 (by decide), hT, hS0, hS1, hS2, hS3, hG⟩
