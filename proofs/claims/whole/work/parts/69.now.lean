/-! now -/
theorem clr_or (a b : Int32) (t : Nat) : clrB (a ||| b) t = clrB a t ||| clrB b t := Int32.toBitVec_inj.1 BitVec.and_or_distrib_right
theorem clr_1 : ∀ i : Nat, i < 10 → ∀ t : Nat, t < 10 → clrB ((1 : Int32) <<< (nI i &&& 31)) t = (if i = t then (0 : Int32) else (1 : Int32) <<< (nI i &&& 31)) := by decide +kernel
theorem clr_bits {P : Nat → Bool} {t : Nat} (ht : t < 10) : ∀ (k i : Nat) (a : Int32), i + k ≤ 10 → clrB (bitsF (fun j => bI (P j)) k i a) t = bitsF (fun j => bI (P j && !decide (j = t))) k i (clrB a t) := by
  intro k
  induction k with
  | zero => intro i a _; rfl
  | succ k ih =>
    intro i a h
    show clrB (bitsF (fun j => bI (P j)) k (i + 1) (a ||| (bI (P i) <<< (nI i &&& 31)))) t = bitsF (fun j => bI (P j && !decide (j = t))) k (i + 1) (clrB a t ||| (bI (P i && !decide (i = t)) <<< (nI i &&& 31)))
    rw [ih (i + 1) _ (by omega)]
    cases hp : P i with
    | false =>
      show bitsF _ k (i + 1) (clrB (a ||| (bI false <<< (nI i &&& 31))) t) = bitsF _ k (i + 1) (clrB a t ||| (bI false <<< (nI i &&& 31)))
      rw [or_f, or_f]
    | true =>
      have e : clrB (a ||| (bI true <<< (nI i &&& 31))) t = clrB a t ||| (bI (true && !decide (i = t)) <<< (nI i &&& 31)) := by
        show clrB (a ||| (1 <<< (nI i &&& 31))) t = _
        rw [clr_or, clr_1 i (by omega) t ht]
        by_cases h2 : i = t
        · rw [if_pos h2, decide_eq_true h2]
          show clrB a t ||| 0 = clrB a t ||| (bI false <<< (nI i &&& 31))
          rw [or_f, Int32.or_zero]
        · rw [if_neg h2, decide_eq_false h2]
          rfl
      rw [e]
theorem all_bits : ∀ N : Nat, N < 11 → allI N = bsF (fun _ => true) N := by decide +kernel
theorem clr_z : ∀ t : Nat, t < 10 → clrB 0 t = 0 := by decide +kernel
def anyB (H : Nat → Option Nat) : Nat → Nat → Bool
  | 0, _ => false
  | i + 1, t => anyB H i t || decide (H i = some t)
theorem uh_r {N : Nat} {hears : Nat → Int32} {H : Nat → Option Nat} (hN : N ≤ 10) (hh : HR N hears H) : ∀ (k i n : Nat), i + k = N → k < n → L_X1_unheard_10 (nI N) hears n (bsF (fun t => !anyB H i t) N) (nI i) = some (bsF (fun t => !anyB H N t) N) := by
  intro k
  induction k with
  | zero =>
    intro i n h1 h2
    obtain ⟨n, rfl⟩ : ∃ q, n = q + 1 := ⟨n - 1, by omega⟩
    have e : i = N := by omega
    subst e
    rw [L_X1_unheard_10_u, if_pos (nI_le (by omega) (by omega))]
  | succ k ih =>
    intro i n h1 h2
    obtain ⟨n, rfl⟩ : ∃ q, n = q + 1 := ⟨n - 1, by omega⟩
    have hi : i < N := by omega
    have ho := (hh i hi).2
    rw [L_X1_unheard_10_u, if_neg (nI_ge (by omega) (by omega)), rd_nI (by omega) (by decide), (hh i hi).1]
    have e1 : (fun t => !anyB H (i + 1) t) = fun t => !(anyB H i t || decide (H i = some t)) := rfl
    cases hj : H i with
    | none =>
      rw [if_pos (show cod none = -1 from rfl), nm, nI_1, ← ih (i + 1) n (by omega) (by omega), e1]
      rw [bsF_congr (P := fun t => !anyB H i t) (Q := fun t => !(anyB H i t || decide (H i = some t))) (fun t _ => by
        show (!anyB H i t) = !(anyB H i t || decide (H i = some t))
        rw [hj, decide_eq_false (fun h => by cases h), Bool.or_false])]
    | some q =>
      rw [hj] at ho
      have hq : q < N := ho
      rw [if_neg (cod_m1 (by omega)), rd_nI (by omega) (by decide), (hh i hi).1, hj]
      simp only [nm]
      rw [nI_1]
      have e2 : bsF (fun t => !anyB H i t) N &&& ((1 <<< (cod (some q) &&& 31)) ^^^ (-1)) = bsF (fun t => !anyB H (i + 1) t) N := by
        have e3 : clrB (bsF (fun t => !anyB H i t) N) q = bsF (fun t => !anyB H (i + 1) t) N := by
          unfold bsF
          rw [clr_bits (t := q) (by omega) N 0 0 (by omega), clr_z q (by omega)]
          exact bsF_congr (P := fun j => !anyB H i j && !decide (j = q)) (fun t _ => by
            show (!anyB H i t && !decide (t = q)) = !(anyB H i t || decide (H i = some t))
            rw [hj, Bool.not_or]
            by_cases h : t = q
            · rw [decide_eq_true h, decide_eq_true (by rw [h])]
            · rw [decide_eq_false h, decide_eq_false (fun e => h (by cases e; rfl))])
        exact e3
      rw [e2, ih (i + 1) n (by omega) (by omega)]
theorem uh_s {n0 N : Nat} {hears : Nat → Int32} {H : Nat → Option Nat} (hn : 2000000 ≤ n0) (hN : N ≤ 10) (hh : HR N hears H) : F_X1_unheard n0 (nI N) hears = some (bsF (fun t => !anyB H N t) N) := by
  unfold F_X1_unheard
  rw [show F_X0_all n0 (nI N) = some (allI N) from rfl, all_bits N (by omega)]
  simp only [bd1]
  have := uh_r hN hh N 0 n0 (by omega) (by omega)
  rw [nI_0] at this
  exact this
theorem mui_r {N t : Nat} {d hears : Nat → Int32} {H : Nat → Option Nat} {a : Int32} {kk : Int32 → Int32 → Option Int32} (hN : N ≤ 10) (hd : d 0 = nI N) (hh : HR N hears H) (ht : t < 10) : ∀ (k o n : Nat), o + k = N → k < n → L_X7_unheard_19 d (nI t) a kk hears n (bI (anyB H o t)) (nI o) = kk (a ||| (bI (!anyB H N t) <<< (nI t &&& 31))) (nI (t + 1)) := by
  intro k
  induction k with
  | zero =>
    intro o n h1 h2
    obtain ⟨n, rfl⟩ : ∃ q, n = q + 1 := ⟨n - 1, by omega⟩
    have e : o = N := by omega
    subst e
    rw [L_X7_unheard_19_u, rd_l 0 l0 (by decide) (by decide), hd, if_pos (nI_le (by omega) (by omega))]
    simp only [nm]
    cases hp : anyB H o t with
    | false => rw [if_pos bI0, nI_1]; rfl
    | true =>
      rw [if_neg bI1, nI_1]
      show kk (a ||| 0) (nI (t + 1)) = kk (a ||| (bI false <<< (nI t &&& 31))) (nI (t + 1))
      rw [or_f, Int32.or_zero]
  | succ k ih =>
    intro o n h1 h2
    obtain ⟨n, rfl⟩ : ∃ q, n = q + 1 := ⟨n - 1, by omega⟩
    have ho : o < N := by omega
    rw [L_X7_unheard_19_u, rd_l 0 l0 (by decide) (by decide), hd, if_neg (nI_ge (by omega) (by omega)), ← ih (o + 1) n (by omega) (by omega)]
    simp only [nm]
    rw [nI_1]
    show _ = L_X7_unheard_19 d (nI t) a kk hears n (bI (anyB H o t || decide (H o = some t))) (nI (o + 1))
    cases hp : anyB H o t with
    | true => rw [if_neg bI1]; rfl
    | false =>
      rw [if_pos bI0, rd_nI (by omega) (by decide), (hh o ho).1]
      by_cases h : H o = some t
      · rw [if_pos ((cod_eq (okB_10 hN (hh o ho).2) ht).mpr h), decide_eq_true h]; rfl
      · rw [if_neg (fun h2 => h ((cod_eq (okB_10 hN (hh o ho).2) ht).mp h2)), decide_eq_false h]; rfl
theorem muh_r {n0 N : Nat} {d hears : Nat → Int32} {H : Nat → Option Nat} (hn : 2000000 ≤ n0) (hN : N ≤ 10) (hd : d 0 = nI N) (hh : HR N hears H) : ∀ (k i n : Nat) (a : Int32), i + k = N → k < n → L_X7_unheard_4 d hears n0 n a (nI i) = some (bitsF (fun t => bI (!anyB H N t)) k i a) := by
  intro k
  induction k with
  | zero =>
    intro i n a h1 h2
    obtain ⟨n, rfl⟩ : ∃ q, n = q + 1 := ⟨n - 1, by omega⟩
    rw [L_X7_unheard_4_u, rd_l 0 l0 (by decide) (by decide), hd, if_pos (nI_le (by omega) (by omega))]
    rfl
  | succ k ih =>
    intro i n a h1 h2
    obtain ⟨n, rfl⟩ : ∃ q, n = q + 1 := ⟨n - 1, by omega⟩
    rw [L_X7_unheard_4_u, rd_l 0 l0 (by decide) (by decide), hd, if_neg (nI_ge (by omega) (by omega))]
    have e := mui_r (t := i) (a := a) (kk := fun x y => L_X7_unheard_4 d hears n0 n x y) hN hd hh (by omega) N 0 n0 (by omega) (by omega)
    refine Eq.trans e ?_
    exact ih (i + 1) n _ (by omega) (by omega)
theorem muh_s {n0 N : Nat} {d hears : Nat → Int32} {H : Nat → Option Nat} (hn : 2000000 ≤ n0) (hN : N ≤ 10) (hd : d 0 = nI N) (hh : HR N hears H) : F_X7_unheard n0 d hears = some (bsF (fun t => !anyB H N t) N) := by
  unfold F_X7_unheard
  have := muh_r hn hN hd hh N 0 n0 0 (by omega) (by omega)
  rw [nI_0] at this
  exact this
def lgF (v : Nat → Int32) : Nat → Nat → Int32 → Int32
  | 0, _, a => a
  | k + 1, i, a => lgF v k (i + 1) (if a < v i then v i else a)
theorem lg_r {n0 N : Nat} {hears : Nat → Int32} {H : Nat → Option Nat} (hn : 2000000 ≤ n0) (hN : N ≤ 10) (hh : HR N hears H) : ∀ (k i n : Nat) (a : Int32), i + k = N → k < n → L_X1_longestLine_4 (nI N) n0 hears n a (nI i) = some (lgF (fun j => lineF H (N + 1) (some j) 0) k i a) := by
  intro k
  induction k with
  | zero =>
    intro i n a h1 h2
    obtain ⟨n, rfl⟩ : ∃ q, n = q + 1 := ⟨n - 1, by omega⟩
    rw [L_X1_longestLine_4_u, if_pos (nI_le (by omega) (by omega))]
    rfl
  | succ k ih =>
    intro i n a h1 h2
    obtain ⟨n, rfl⟩ : ∃ q, n = q + 1 := ⟨n - 1, by omega⟩
    rw [L_X1_longestLine_4_u, if_neg (nI_ge (by omega) (by omega)), line_s hn hN hh (by omega)]
    simp only [bd1, nm]
    rw [nI_1, ih (i + 1) n _ (by omega) (by omega)]
    rfl
theorem lg_s {n0 N : Nat} {hears : Nat → Int32} {H : Nat → Option Nat} (hn : 2000000 ≤ n0) (hN : N ≤ 10) (hh : HR N hears H) : F_X1_longestLine n0 (nI N) hears = some (lgF (fun j => lineF H (N + 1) (some j) 0) N 0 (-1)) := by
  unfold F_X1_longestLine
  have := lg_r hn hN hh N 0 n0 (-1) (by omega) (by omega)
  rw [nI_0] at this
  exact this
theorem now_r {n0 N : Nat} {p1 : Int32} {d found g3 g4 : Nat → Int32} {H : Nat → Option Nat} (hn : 2000000 ≤ n0) (hN : N ≤ 10) (hd : d 0 = nI N) (hh : HR N g3 H) : ∀ (k i n : Nat) (a l : Int32), i + k = N → k < n → L_X7_now_29 d p1 found g3 g4 n0 n a l (nI i) = L_X7_now_29 d p1 found g3 g4 n0 (0 + 1) (bitsF (fun j => bI (prB H j)) k i a) (lgF (fun j => lineF H (N + 1) (some j) 0) k i l) (nI N) := by
  intro k
  induction k with
  | zero =>
    intro i n a l h1 h2
    obtain ⟨n, rfl⟩ : ∃ q, n = q + 1 := ⟨n - 1, by omega⟩
    have e : i = N := by omega
    subst e
    rw [L_X7_now_29_u, L_X7_now_29_u, rd_l 0 l0 (by decide) (by decide), rd_l 0 l0 (by decide) (by decide), hd, if_pos (nI_le (Nat.le_refl i) (by omega)), if_pos (nI_le (Nat.le_refl i) (by omega))]
    rfl
  | succ k ih =>
    intro i n a l h1 h2
    obtain ⟨n, rfl⟩ : ∃ q, n = q + 1 := ⟨n - 1, by omega⟩
    have hJ : ∀ q : Int32, J_X7_now_58 a q n0 g3 (nI i) l (fun x y z => L_X7_now_29 d p1 found g3 g4 n0 n x y z) = L_X7_now_29 d p1 found g3 g4 n0 n (a ||| q) (if l < lineF H (N + 1) (some i) 0 then lineF H (N + 1) (some i) 0 else l) (nI (i + 1)) := by
      intro q
      unfold J_X7_now_58
      rw [mline_s hn hN hh (by omega)]
      simp only [bd1, nm]
      rw [nI_1]
      by_cases h : lineF H (N + 1) (some i) 0 ≤ l
      · rw [if_pos h, if_neg (Int32.not_lt.mpr h)]
      · rw [if_neg h, if_pos (Int32.not_le.mp h)]
    rw [L_X7_now_29_u (n := n), rd_l 0 l0 (by decide) (by decide), hd, if_neg (nI_ge (by omega) (by omega)), mpair_s hN hh (by omega)]
    simp only [bd1, nm]
    show _ = L_X7_now_29 d p1 found g3 g4 n0 (0 + 1) (bitsF (fun j => bI (prB H j)) k (i + 1) (a ||| (bI (prB H i) <<< (nI i &&& 31)))) (lgF (fun j => lineF H (N + 1) (some j) 0) k (i + 1) (if l < lineF H (N + 1) (some i) 0 then lineF H (N + 1) (some i) 0 else l)) (nI N)
    cases hp : prB H i with
    | false =>
      rw [if_pos bI0, or_f]
      refine Eq.trans (hJ 0) ?_
      rw [Int32.or_zero]
      exact ih (i + 1) n _ _ (by omega) (by omega)
    | true =>
      rw [if_neg bI1]
      refine Eq.trans (hJ _) ?_
      exact ih (i + 1) n _ _ (by omega) (by omega)
theorem st_now {n0 : Nat} (hn : 2000000 ≤ n0) : St_now n0 := by
  intro xv_isKept xf_found xv_camp_tents xv_camp_said xv_camp_wall xv_camp_bridge xv_camp_counted xv_camp_day xv_camp_z xf_camp_kinds xf_camp_yards xf_camp_spots xv_kept_tents xv_kept_said xv_kept_wall xv_kept_bridge xv_kept_counted xv_kept_day xv_kept_z xf_kept_kinds xf_kept_yards xf_kept_spots xf_ears_hears xf_ears_near xf_ears_gaps xv_tape_size xf_tape_bytes xv_sheets_0_bits xv_sheets_0_size xf_sheets_0_numbers xv_sheets_1_bits xv_sheets_1_size xf_sheets_1_numbers xv_sheets_2_bits xv_sheets_2_size xf_sheets_2_numbers xv_sheets_3_bits xv_sheets_3_size xf_sheets_3_numbers mv_isKept mv_taped mv_gone mf_d mf_kept mf_found mf_tape mf_hears mf_near mf_bitsOf mf_sizeOf mf_number hI p1
  obtain ⟨hC, hK1, hK2, hK3, hF, hT, hS0, hS1, hS2, hS3, hG⟩ := hI
  have hC0 := hC
  obtain ⟨N, hN, h0, hd0, hd1, hd2, hd3, hd4, hd5, hd6, hct, hwl, hbr, hdy, hsa, hA, hKi, hYa, hSp⟩ := hC
  have hC1 := hC0
  rw [h0] at hC1
  obtain ⟨H, M, g', h', n', mh', mn', j1, j2, j3, j4, j5, j6, j7, j8⟩ := both_listen (xg := xf_ears_gaps) (xh := xf_ears_hears) (xn := xf_ears_near) (mh := mf_hears) (mn := mf_near) hn hN hC1
  obtain ⟨m, hm0, hsa⟩ := hsa
  have hm1 : m < 1024 := by have := pow10 hN; omega
  by_cases hr : inR 0 6 p1
  · have hm0 : ∀ res : Int32, L_X7_now_29 mf_d p1 mf_found mh' mn' n0 (0 + 1) (bsF (prB H) N) (lgF (fun j => lineF H (N + 1) (some j) 0) N 0 (-1)) (nI N) = some (res, mf_found, mh', mn') → F_X7_now n0 mv_gone mf_d mf_found mf_hears mf_near p1 = some (res, mf_found, mh', mn') := by
      intro res hres
      unfold F_X7_now
      simp only [nm]
      rw [hG, in_t (a := 0) (b := 6) hr]
      simp only [bd1, one0]
      rw [j2]
      simp only [bd2]
      have e := now_r (p1 := p1) (found := mf_found) (g4 := mn') hn hN hd0 j5 N 0 n0 0 (-1) (by omega) (by omega)
      rw [nI_0] at e
      exact e.trans hres
    have hm1' : ∀ res : Option (Int32 × (Nat → Int32) × (Nat → Int32) × (Nat → Int32)), L_X7_now_29 mf_d p1 mf_found mh' mn' n0 (0 + 1) (bsF (prB H) N) (lgF (fun j => lineF H (N + 1) (some j) 0) N 0 (-1)) (nI N) = (if p1 = 0 then rd mf_d 40 1 (fun x9 => some (x9, mf_found, mh', mn')) else (if p1 = 1 then rd mf_d 40 6 (fun x10 => some (x10, mf_found, mh', mn')) else (if p1 = 2 then rd mf_d 40 6 (fun x11 => bd1 (F_X7_ones n0 x11) (fun x12 => some (x12, mf_found, mh', mn'))) else (if p1 = 3 then bd1 (F_X7_pairs n0 mf_d mh') (fun x13 => some (x13, mf_found, mh', mn')) else (if p1 = 4 then some (bsF (prB H) N, mf_found, mh', mn') else (if p1 = 5 then bd1 (F_X7_unheard n0 mf_d mh') (fun x14 => some (x14, mf_found, mh', mn')) else some (lgF (fun j => lineF H (N + 1) (some j) 0) N 0 (-1), mf_found, mh', mn'))))))) := by
      intro _
      rw [L_X7_now_29_u, rd_l 0 l0 (by decide) (by decide), hd0, if_pos (nI_le (Nat.le_refl N) (by omega))]
    obtain ⟨k, hk1, hk2⟩ := inR_nI (hi := 6) hr
    rcases (show k = 0 ∨ k = 1 ∨ k = 2 ∨ k = 3 ∨ k = 4 ∨ k = 5 ∨ k = 6 by omega) with hk | hk | hk | hk | hk | hk | hk
    · have hp : p1 = 0 := by rw [hk2, hk]; rfl
      have hx : F_X6_now n0 xv_camp_tents xv_camp_said xv_camp_wall xv_camp_bridge xv_camp_counted xv_camp_day xf_found xf_camp_kinds xf_camp_yards xf_ears_gaps xf_ears_hears xf_ears_near p1 = some (xv_camp_day, xf_found, g', h', n') := by
        unfold F_X6_now
        rw [h0, j1]
        simp only [bd3]
        rw [if_pos hp]
      have hm : F_X7_now n0 mv_gone mf_d mf_found mf_hears mf_near p1 = some (xv_camp_day, mf_found, mh', mn') := by
        refine hm0 _ ?_
        rw [hm1' none, if_pos hp, rd_l 1 l1 (by decide) (by decide), hd1]
      exact ⟨_, _, _, _, _, _, _, _, hx, hm, hC0, hK1, hK2, hK3, hF, hT, hS0, hS1, hS2, hS3, hG⟩
    · have hp : p1 = 1 := by rw [hk2, hk]; rfl
      have hx : F_X6_now n0 xv_camp_tents xv_camp_said xv_camp_wall xv_camp_bridge xv_camp_counted xv_camp_day xf_found xf_camp_kinds xf_camp_yards xf_ears_gaps xf_ears_hears xf_ears_near p1 = some (xv_camp_said, xf_found, g', h', n') := by
        unfold F_X6_now
        rw [h0, j1]
        simp only [bd3]
        rw [if_neg (show ¬ p1 = 0 from by rw [hp]; decide), if_pos hp]
      have hm : F_X7_now n0 mv_gone mf_d mf_found mf_hears mf_near p1 = some (xv_camp_said, mf_found, mh', mn') := by
        refine hm0 _ ?_
        rw [hm1' none, if_neg (show ¬ p1 = 0 from by rw [hp]; decide), if_pos hp, rd_l 6 l6 (by decide) (by decide), hd6]
      exact ⟨_, _, _, _, _, _, _, _, hx, hm, hC0, hK1, hK2, hK3, hF, hT, hS0, hS1, hS2, hS3, hG⟩
    · have hp : p1 = 2 := by rw [hk2, hk]; rfl
      have hx : F_X6_now n0 xv_camp_tents xv_camp_said xv_camp_wall xv_camp_bridge xv_camp_counted xv_camp_day xf_found xf_camp_kinds xf_camp_yards xf_ears_gaps xf_ears_hears xf_ears_near p1 = some (onesE xv_camp_said, xf_found, g', h', n') := by
        unfold F_X6_now
        rw [h0, j1]
        simp only [bd3]
        rw [if_neg (show ¬ p1 = 0 from by rw [hp]; decide), if_neg (show ¬ p1 = 1 from by rw [hp]; decide), if_pos hp, vote_s, hsa, pop_eq m hm1]
        simp only [bd1]
      have hm : F_X7_now n0 mv_gone mf_d mf_found mf_hears mf_near p1 = some (onesE xv_camp_said, mf_found, mh', mn') := by
        refine hm0 _ ?_
        rw [hm1' none, if_neg (show ¬ p1 = 0 from by rw [hp]; decide), if_neg (show ¬ p1 = 1 from by rw [hp]; decide), if_pos hp, rd_l 6 l6 (by decide) (by decide), hd6, ones_s hn]
        rfl
      exact ⟨_, _, _, _, _, _, _, _, hx, hm, hC0, hK1, hK2, hK3, hF, hT, hS0, hS1, hS2, hS3, hG⟩
    · have hp : p1 = 3 := by rw [hk2, hk]; rfl
      have hx : F_X6_now n0 xv_camp_tents xv_camp_said xv_camp_wall xv_camp_bridge xv_camp_counted xv_camp_day xf_found xf_camp_kinds xf_camp_yards xf_ears_gaps xf_ears_hears xf_ears_near p1 = some (nI (cntF (pgB H) N 0 0), xf_found, g', h', n') := by
        unfold F_X6_now
        rw [h0, j1]
        simp only [bd3]
        rw [if_neg (show ¬ p1 = 0 from by rw [hp]; decide), if_neg (show ¬ p1 = 1 from by rw [hp]; decide), if_neg (show ¬ p1 = 2 from by rw [hp]; decide), if_pos hp, cp_s hn hN j3 j7]
        rfl
      have hm : F_X7_now n0 mv_gone mf_d mf_found mf_hears mf_near p1 = some (nI (cntF (pgB H) N 0 0), mf_found, mh', mn') := by
        refine hm0 _ ?_
        rw [hm1' none, if_neg (show ¬ p1 = 0 from by rw [hp]; decide), if_neg (show ¬ p1 = 1 from by rw [hp]; decide), if_neg (show ¬ p1 = 2 from by rw [hp]; decide), if_pos hp, mps_s hn hN hd0 j5]
        rfl
      exact ⟨_, _, _, _, _, _, _, _, hx, hm, hC0, hK1, hK2, hK3, hF, hT, hS0, hS1, hS2, hS3, hG⟩
    · have hp : p1 = 4 := by rw [hk2, hk]; rfl
      have hx : F_X6_now n0 xv_camp_tents xv_camp_said xv_camp_wall xv_camp_bridge xv_camp_counted xv_camp_day xf_found xf_camp_kinds xf_camp_yards xf_ears_gaps xf_ears_hears xf_ears_near p1 = some (bsF (prB H) N, xf_found, g', h', n') := by
        unfold F_X6_now
        rw [h0, j1]
        simp only [bd3]
        rw [if_neg (show ¬ p1 = 0 from by rw [hp]; decide), if_neg (show ¬ p1 = 1 from by rw [hp]; decide), if_neg (show ¬ p1 = 2 from by rw [hp]; decide), if_neg (show ¬ p1 = 3 from by rw [hp]; decide), if_pos hp, ofp_s hn hN j3]
        rfl
      have hm : F_X7_now n0 mv_gone mf_d mf_found mf_hears mf_near p1 = some (bsF (prB H) N, mf_found, mh', mn') := by
        refine hm0 _ ?_
        rw [hm1' none, if_neg (show ¬ p1 = 0 from by rw [hp]; decide), if_neg (show ¬ p1 = 1 from by rw [hp]; decide), if_neg (show ¬ p1 = 2 from by rw [hp]; decide), if_neg (show ¬ p1 = 3 from by rw [hp]; decide), if_pos hp]
      exact ⟨_, _, _, _, _, _, _, _, hx, hm, hC0, hK1, hK2, hK3, hF, hT, hS0, hS1, hS2, hS3, hG⟩
    · have hp : p1 = 5 := by rw [hk2, hk]; rfl
      have hx : F_X6_now n0 xv_camp_tents xv_camp_said xv_camp_wall xv_camp_bridge xv_camp_counted xv_camp_day xf_found xf_camp_kinds xf_camp_yards xf_ears_gaps xf_ears_hears xf_ears_near p1 = some (bsF (fun t => !anyB H N t) N, xf_found, g', h', n') := by
        unfold F_X6_now
        rw [h0, j1]
        simp only [bd3]
        rw [if_neg (show ¬ p1 = 0 from by rw [hp]; decide), if_neg (show ¬ p1 = 1 from by rw [hp]; decide), if_neg (show ¬ p1 = 2 from by rw [hp]; decide), if_neg (show ¬ p1 = 3 from by rw [hp]; decide), if_neg (show ¬ p1 = 4 from by rw [hp]; decide), if_pos hp, uh_s hn hN j3]
        rfl
      have hm : F_X7_now n0 mv_gone mf_d mf_found mf_hears mf_near p1 = some (bsF (fun t => !anyB H N t) N, mf_found, mh', mn') := by
        refine hm0 _ ?_
        rw [hm1' none, if_neg (show ¬ p1 = 0 from by rw [hp]; decide), if_neg (show ¬ p1 = 1 from by rw [hp]; decide), if_neg (show ¬ p1 = 2 from by rw [hp]; decide), if_neg (show ¬ p1 = 3 from by rw [hp]; decide), if_neg (show ¬ p1 = 4 from by rw [hp]; decide), if_pos hp, muh_s hn hN hd0 j5]
        rfl
      exact ⟨_, _, _, _, _, _, _, _, hx, hm, hC0, hK1, hK2, hK3, hF, hT, hS0, hS1, hS2, hS3, hG⟩
    · have hp : p1 = 6 := by rw [hk2, hk]; rfl
      have hx : F_X6_now n0 xv_camp_tents xv_camp_said xv_camp_wall xv_camp_bridge xv_camp_counted xv_camp_day xf_found xf_camp_kinds xf_camp_yards xf_ears_gaps xf_ears_hears xf_ears_near p1 = some (lgF (fun j => lineF H (N + 1) (some j) 0) N 0 (-1), xf_found, g', h', n') := by
        unfold F_X6_now
        rw [h0, j1]
        simp only [bd3]
        rw [if_neg (show ¬ p1 = 0 from by rw [hp]; decide), if_neg (show ¬ p1 = 1 from by rw [hp]; decide), if_neg (show ¬ p1 = 2 from by rw [hp]; decide), if_neg (show ¬ p1 = 3 from by rw [hp]; decide), if_neg (show ¬ p1 = 4 from by rw [hp]; decide), if_neg (show ¬ p1 = 5 from by rw [hp]; decide), if_pos hp, lg_s hn hN j3]
        rfl
      have hm : F_X7_now n0 mv_gone mf_d mf_found mf_hears mf_near p1 = some (lgF (fun j => lineF H (N + 1) (some j) 0) N 0 (-1), mf_found, mh', mn') := by
        refine hm0 _ ?_
        rw [hm1' none, if_neg (show ¬ p1 = 0 from by rw [hp]; decide), if_neg (show ¬ p1 = 1 from by rw [hp]; decide), if_neg (show ¬ p1 = 2 from by rw [hp]; decide), if_neg (show ¬ p1 = 3 from by rw [hp]; decide), if_neg (show ¬ p1 = 4 from by rw [hp]; decide), if_neg (show ¬ p1 = 5 from by rw [hp]; decide)]
      exact ⟨_, _, _, _, _, _, _, _, hx, hm, hC0, hK1, hK2, hK3, hF, hT, hS0, hS1, hS2, hS3, hG⟩
  · have hn7 : ∀ c : Nat, c ≤ 6 → ¬ p1 = nI c := fun c hc he => hr (by rw [he]; exact ⟨by rw [nI_toInt (by omega)]; omega, by rw [nI_toInt (by omega)]; omega⟩)
    have hx : F_X6_now n0 xv_camp_tents xv_camp_said xv_camp_wall xv_camp_bridge xv_camp_counted xv_camp_day xf_found xf_camp_kinds xf_camp_yards xf_ears_gaps xf_ears_hears xf_ears_near p1 = some (-1000001, upd xf_found 0 (xf_found 0 + 1), g', h', n') := by
      unfold F_X6_now
      rw [h0, j1]
      simp only [bd3]
      rw [if_neg (show ¬ p1 = 0 from hn7 0 (by decide)), if_neg (show ¬ p1 = 1 from hn7 1 (by decide)), if_neg (show ¬ p1 = 2 from hn7 2 (by decide)), if_neg (show ¬ p1 = 3 from hn7 3 (by decide)), if_neg (show ¬ p1 = 4 from hn7 4 (by decide)), if_neg (show ¬ p1 = 5 from hn7 5 (by decide)), if_neg (show ¬ p1 = 6 from hn7 6 (by decide))]
      rfl
    have hm : F_X7_now n0 mv_gone mf_d mf_found mf_hears mf_near p1 = some (-1000001, upd mf_found 0 (mf_found 0 + 1), mf_hears, mf_near) := by
      unfold F_X7_now
      simp only [nm]
      rw [in_f (a := 0) (b := 6) hr]
      rfl
    exact ⟨_, _, _, _, _, _, _, _, hx, hm, hC0, hK1, hK2, hK3, fnd_u hF 0 (by decide), hT, hS0, hS1, hS2, hS3, hG⟩
