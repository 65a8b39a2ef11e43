/-! who hears whom, as numbers; both sides at once -/
def nO (G : Nat → Nat → Nat) (sk : Nat → Bool) (N t : Nat) : Option Nat := nearF (G t) (fun j => decide (j = t) || sk j) N 0 none
def hO (kinds : Nat → Int32) (G : Nat → Nat → Nat) (sk : Nat → Bool) (N t : Nat) : Option Nat := if kinds t = 1 ∨ kinds t = 4 then nO G sk t t else if kinds t = 6 then fartF (G t) (fun j => decide (j = t) || sk j) N 0 none else nO G sk N t
theorem hrS_O {kinds : Nat → Int32} {G : Nat → Nat → Nat} {sk : Nat → Bool} {N t : Nat} : hrS kinds G sk N t = cod (hO kinds G sk N t) := by
  unfold hrS hO
  by_cases h1 : kinds t = 1 ∨ kinds t = 4
  · rw [if_pos h1, if_pos h1]; rfl
  · rw [if_neg h1, if_neg h1]
    by_cases h2 : kinds t = 6
    · rw [if_pos h2, if_pos h2]
    · rw [if_neg h2, if_neg h2]; rfl
theorem okB_mono {a b : Nat} (h : a ≤ b) {x : Option Nat} (hx : okB a x) : okB b x := by
  cases x with
  | none => trivial
  | some v => exact Nat.lt_of_lt_of_le hx h
theorem nO_ok {G : Nat → Nat → Nat} {sk : Nat → Bool} {N t : Nat} : okB N (nO G sk N t) := by
  have := nearF_ok (G t) (fun j => decide (j = t) || sk j) N 0 none trivial
  rw [Nat.zero_add] at this
  exact this
theorem hO_ok {kinds : Nat → Int32} {G : Nat → Nat → Nat} {sk : Nat → Bool} {N t : Nat} (ht : t ≤ N) : okB N (hO kinds G sk N t) := by
  unfold hO
  split
  · exact okB_mono ht nO_ok
  · split
    · have := fartF_ok (G t) (fun j => decide (j = t) || sk j) N 0 none trivial
      rw [Nat.zero_add] at this
      exact this
    · exact nO_ok
theorem nearF_ne {g : Nat → Nat} {sk : Nat → Bool} {t : Nat} (hs : sk t = true) : ∀ (k i : Nat) (b : Option Nat), b ≠ some t → nearF g sk k i b ≠ some t := by
  intro k
  induction k with
  | zero => intro i b h; exact h
  | succ k ih =>
    intro i b h
    unfold nearF
    apply ih
    by_cases hi : sk i = true
    · rw [if_pos hi]; exact h
    · rw [if_neg hi]
      have hit : some i ≠ some t := fun e => by cases e; exact hi hs
      cases b with
      | none => exact hit
      | some o =>
        show (if g o ≤ g i then some o else some i) ≠ some t
        split
        · exact h
        · exact hit
theorem fartF_ne {g : Nat → Nat} {sk : Nat → Bool} {t : Nat} (hs : sk t = true) : ∀ (k i : Nat) (b : Option Nat), b ≠ some t → fartF g sk k i b ≠ some t := by
  intro k
  induction k with
  | zero => intro i b h; exact h
  | succ k ih =>
    intro i b h
    unfold fartF
    apply ih
    by_cases hi : sk i = true
    · rw [if_pos hi]; exact h
    · rw [if_neg hi]
      have hit : some i ≠ some t := fun e => by cases e; exact hi hs
      cases b with
      | none => exact hit
      | some o =>
        show (if g i ≤ g o then some o else some i) ≠ some t
        split
        · exact h
        · exact hit
theorem nO_ne {G : Nat → Nat → Nat} {sk : Nat → Bool} {N t : Nat} : nO G sk N t ≠ some t := nearF_ne (by show (decide (t = t) || sk t) = true; rw [decide_eq_true rfl]; rfl) N 0 none (fun h => by cases h)
theorem hO_ne {kinds : Nat → Int32} {G : Nat → Nat → Nat} {sk : Nat → Bool} {N t : Nat} : hO kinds G sk N t ≠ some t := by
  unfold hO
  split
  · exact nO_ne
  · split
    · exact fartF_ne (by show (decide (t = t) || sk t) = true; rw [decide_eq_true rfl]; rfl) N 0 none (fun h => by cases h)
    · exact nO_ne
theorem listen_H {n0 N w br : Nat} {c : Int32} {yards kinds hears near gaps : Nat → Int32} (hn : 2000000 ≤ n0) (hN : N ≤ 10) (hc : c = 0 ∨ c = 1) (hw : w < 12) (hb : br < 12) (hy : ∀ i : Nat, i < 10 → ∃ y : Nat, y < 144 ∧ yards i = nI y) : ∃ g' h' n' : Nat → Int32, F_X1_listen n0 (nI N) (nI w) (nI br) c gaps hears near kinds yards = some (g', h', n') ∧ (∀ a b : Nat, a < N → b < N → a ≠ b → g' (10 * a + b) = nI (GG w br c yards a b)) ∧ HR N h' (hO kinds (GG w br c yards) sk0 N) ∧ HR N n' (nO (GG w br c yards) sk0 N) := by
  obtain ⟨g', h', n', a1, a2, a3⟩ := listen_s (kinds := kinds) (hears := hears) (near := near) (gaps := gaps) hn hN hc hw hb hy
  exact ⟨g', h', n', a1, a2, fun j hj => ⟨by rw [(a3 j hj).1, hrS_O], hO_ok (by omega)⟩, fun j hj => ⟨(a3 j hj).2, nO_ok⟩⟩
theorem mlisten_H {n0 N w br : Nat} {c : Int32} {d yards kinds hears near : Nat → Int32} (hn : 2000000 ≤ n0) (hM : MC d yards N w br c) (hk : ∀ i : Nat, i < 10 → d (10 + i) = kinds i) : ∃ h' n' : Nat → Int32, F_X7_listen n0 (-1) d hears near = some (h', n') ∧ HR N h' (hO kinds (GG w br c yards) sk0 N) ∧ HR N n' (nO (GG w br c yards) sk0 N) := by
  obtain ⟨h', n', a1, a2⟩ := mlisten_0 (hears := hears) (near := near) hn hM hk
  exact ⟨h', n', a1, fun j hj => ⟨by rw [(a2 j hj).1, hrS_O], hO_ok (by omega)⟩, fun j hj => ⟨(a2 j hj).2, nO_ok⟩⟩
/-- both listen, and hear alike -/
theorem both_listen {n0 N : Nat} {kinds yards spots d xg xh xn mh mn : Nat → Int32} {said wall bridge counted day z : Int32} (hn : 2000000 ≤ n0) (hN : N ≤ 10) (hC : CR kinds yards spots (nI N) said wall bridge counted day z d) : ∃ (H M : Nat → Option Nat) (g' h' n' mh' mn' : Nat → Int32), F_X1_listen n0 (nI N) wall bridge counted xg xh xn kinds yards = some (g', h', n') ∧ F_X7_listen n0 (-1) d mh mn = some (mh', mn') ∧ HR N h' H ∧ HR N n' M ∧ HR N mh' H ∧ HR N mn' M ∧ (∀ j : Nat, j < N → H j ≠ some j) ∧ (∀ t : Nat, t < 10 → F_X7_nearestOf n0 (-1) d (nI t) (nI N) = some (cod (M t))) := by
  obtain ⟨N', w, br, hN', e1, e2, e3, hM, hk⟩ := MC_of hC
  have e : N = N' := (nI_eq (by omega) (by omega)).mp e1
  subst e
  subst e2
  subst e3
  obtain ⟨m1, m2, m3, m4, m5, m6, m7, m8, m9, m10⟩ := hM
  obtain ⟨g', h', n', a1, a2, a3, a4⟩ := listen_H (kinds := kinds) (hears := xh) (near := xn) (gaps := xg) hn hN m6 m7 m8 m10
  obtain ⟨mh', mn', b1, b2, b3⟩ := mlisten_H (hears := mh) (near := mn) hn ⟨m1, m2, m3, m4, m5, m6, m7, m8, m9, m10⟩ hk
  refine ⟨_, _, g', h', n', mh', mn', a1, b1, a3, a4, b2, b3, fun j _ => hO_ne, fun t ht => ?_⟩
  rw [mnear_s hn ⟨m1, m2, m3, m4, m5, m6, m7, m8, m9, m10⟩ ht hN]
  exact congrArg some (nrS_g (t := t) hN)
theorem HR_hh {N : Nat} {hears near : Nat → Int32} {H M : Nat → Option Nat} (h1 : HR N hears H) (h2 : HR N near M) : ∀ j : Nat, j < N → hears j = (fun j => cod (H j)) j ∧ near j = (fun j => cod (M j)) j := fun j hj => ⟨(h1 j hj).1, (h2 j hj).1⟩
/-- what is said next, those heard being H, the nearest M -/
def nxO (kinds : Nat → Int32) (H M : Nat → Option Nat) (N : Nat) : Int32 → Int32 := nxS kinds (fun j => cod (H j)) (fun j => cod (M j)) N
theorem seq_rg {kinds : Nat → Int32} {H M : Nat → Option Nat} {N m : Nat} (hN : N ≤ 10) (hm : m < 2 ^ N) : ∀ k : Nat, ∃ q : Nat, q < 2 ^ N ∧ itS (nxO kinds H M N) k (nI m) = nI q := by
  intro k
  cases k with
  | zero => exact ⟨m, hm, rfl⟩
  | succ k =>
    rw [itS_succ]
    exact nxS_rg hN _
theorem seq_rg2 {kinds : Nat → Int32} {H M : Nat → Option Nat} {N m : Nat} (hN : N ≤ 10) (hm : m < 2 ^ N) : ∀ k : Nat, ∃ q : Nat, q < 1024 ∧ itS (nxO kinds H M N) k (nI m) = nI q := fun k => by
  obtain ⟨q, h1, h2⟩ := seq_rg (kinds := kinds) (H := H) (M := M) hN hm k
  exact ⟨q, by have := pow10 hN; omega, h2⟩
theorem st_nearest {n0 : Nat} (hn : 2000000 ≤ n0) : St_nearest n0 := by
  intro xv_isKept xf_found xv_camp_tents xv_camp_said xv_camp_wall xv_camp_bridge xv_camp_counted xv_camp_day xv_camp_z xf_camp_kinds xf_camp_yards xf_camp_spots xv_kept_tents xv_kept_said xv_kept_wall xv_kept_bridge xv_kept_counted xv_kept_day xv_kept_z xf_kept_kinds xf_kept_yards xf_kept_spots xf_ears_hears xf_ears_near xf_ears_gaps xv_tape_size xf_tape_bytes xv_sheets_0_bits xv_sheets_0_size xf_sheets_0_numbers xv_sheets_1_bits xv_sheets_1_size xf_sheets_1_numbers xv_sheets_2_bits xv_sheets_2_size xf_sheets_2_numbers xv_sheets_3_bits xv_sheets_3_size xf_sheets_3_numbers mv_isKept mv_taped mv_gone mf_d mf_kept mf_found mf_tape mf_bitsOf mf_sizeOf mf_number hI p1
  obtain ⟨hC, hK1, hK2, hK3, hF, hT, hS0, hS1, hS2, hS3, hG⟩ := hI
  have hC0 := hC
  obtain ⟨N, hN, h0, hd0, hd1, hd2, hd3, hd4, hd5, hd6, hct, hwl, hbr, hdy, hsa, hA, hKi, hYa, hSp⟩ := hC
  have hC1 := hC0
  rw [h0] at hC1
  by_cases ht : isT N p1
  · obtain ⟨t, ht1, hp⟩ := isT_nI ht
    obtain ⟨H, M, g', h', n', mh', mn', l1, l2, l3, l4, l5, l6, l7, l8⟩ := both_listen (xg := xf_ears_gaps) (xh := xf_ears_hears) (xn := xf_ears_near) (mh := mf_d) (mn := mf_d) hn hN hC1
    have hx0 : F_X6_nearest n0 xv_camp_tents xv_camp_wall xv_camp_bridge xv_camp_counted xf_found xf_camp_kinds xf_camp_yards xf_ears_gaps xf_ears_hears xf_ears_near p1 = (if cod (M t) = -1 then some (-1000004, upd xf_found 3 (xf_found 3 + 1), g', h', n') else some (cod (M t), xf_found, g', h', n')) := by
      unfold F_X6_nearest
      rw [h0, has_t hN ht]
      simp only [bd1, one0]
      rw [l1]
      simp only [bd3]
      rw [hp, rd_nI (by omega) (by decide), rd_nI (by omega) (by decide), (l4 t ht1).1]
      rfl
    have hm0 : F_X7_nearest n0 mv_gone mf_d mf_found p1 = (if cod (M t) = -1 then some (-1000004, upd mf_found 3 (mf_found 3 + 1)) else some (cod (M t), mf_found)) := by
      unfold F_X7_nearest
      rw [hG]
      rw [mT_t hN hd0 ht]
      simp only [bd1, one0]
      rw [rd_l 0 l0 (by decide) (by decide), hd0, hp, l8 t (by omega)]
      rfl
    by_cases h : cod (M t) = -1
    · rw [if_pos h] at hx0 hm0
      exact ⟨_, _, _, _, _, _, hx0, hm0, hC0, hK1, hK2, hK3, fnd_u hF 3 (by decide), hT, hS0, hS1, hS2, hS3, hG⟩
    · rw [if_neg h] at hx0 hm0
      exact ⟨_, _, _, _, _, _, hx0, hm0, hC0, hK1, hK2, hK3, hF, hT, hS0, hS1, hS2, hS3, hG⟩
  · have hx : F_X6_nearest n0 xv_camp_tents xv_camp_wall xv_camp_bridge xv_camp_counted xf_found xf_camp_kinds xf_camp_yards xf_ears_gaps xf_ears_hears xf_ears_near p1 = some (-1000001, upd xf_found 0 (xf_found 0 + 1), xf_ears_gaps, xf_ears_hears, xf_ears_near) := by
      unfold F_X6_nearest
      rw [h0, has_f hN ht]
      rfl
    have hm : F_X7_nearest n0 mv_gone mf_d mf_found p1 = some (-1000001, upd mf_found 0 (mf_found 0 + 1)) := by
      unfold F_X7_nearest
      rw [mT_f hN hd0 ht]
      rfl
    exact ⟨_, _, _, _, _, _, hx, hm, hC0, hK1, hK2, hK3, fnd_u hF 0 (by decide), hT, hS0, hS1, hS2, hS3, hG⟩
theorem st_hearing {n0 : Nat} (hn : 2000000 ≤ n0) : St_hearing n0 := by
  intro xv_isKept xf_found xv_camp_tents xv_camp_said xv_camp_wall xv_camp_bridge xv_camp_counted xv_camp_day xv_camp_z xf_camp_kinds xf_camp_yards xf_camp_spots xv_kept_tents xv_kept_said xv_kept_wall xv_kept_bridge xv_kept_counted xv_kept_day xv_kept_z xf_kept_kinds xf_kept_yards xf_kept_spots xf_ears_hears xf_ears_near xf_ears_gaps xv_tape_size xf_tape_bytes xv_sheets_0_bits xv_sheets_0_size xf_sheets_0_numbers xv_sheets_1_bits xv_sheets_1_size xf_sheets_1_numbers xv_sheets_2_bits xv_sheets_2_size xf_sheets_2_numbers xv_sheets_3_bits xv_sheets_3_size xf_sheets_3_numbers mv_isKept mv_taped mv_gone mf_d mf_kept mf_found mf_tape mf_hears mf_near mf_bitsOf mf_sizeOf mf_number hI p1
  obtain ⟨hC, hK1, hK2, hK3, hF, hT, hS0, hS1, hS2, hS3, hG⟩ := hI
  have hC0 := hC
  obtain ⟨N, hN, h0, hd0, hd1, hd2, hd3, hd4, hd5, hd6, hct, hwl, hbr, hdy, hsa, hA, hKi, hYa, hSp⟩ := hC
  have hC1 := hC0
  rw [h0] at hC1
  by_cases ht : isT N p1
  · obtain ⟨t, ht1, hp⟩ := isT_nI ht
    obtain ⟨H, M, g', h', n', mh', mn', l1, l2, l3, l4, l5, l6, l7, l8⟩ := both_listen (xg := xf_ears_gaps) (xh := xf_ears_hears) (xn := xf_ears_near) (mh := mf_hears) (mn := mf_near) hn hN hC1
    have hx : F_X6_hearing n0 xv_camp_tents xv_camp_wall xv_camp_bridge xv_camp_counted xf_found xf_camp_kinds xf_camp_yards xf_ears_gaps xf_ears_hears xf_ears_near p1 = some (bsF (fun j => decide (H j = some t)) N, xf_found, g', h', n') := by
      unfold F_X6_hearing
      rw [h0, has_t hN ht]
      simp only [bd1, one0]
      rw [l1]
      simp only [bd3]
      rw [hp, hrs_s hn hN l3 (by omega)]
    have hm : F_X7_hearing n0 mv_gone mf_d mf_found mf_hears mf_near p1 = some (bsF (fun j => decide (H j = some t)) N, mf_found, mh', mn') := by
      unfold F_X7_hearing
      rw [hG]
      rw [mT_t hN hd0 ht]
      simp only [bd1, one0]
      rw [l2]
      simp only [bd2]
      rw [hp]
      have := mhrs_r (found := mf_found) (near := mn') hN hd0 l5 (t := t) (by omega) N 0 n0 0 (by omega) (by omega)
      rw [nI_0] at this
      exact this
    exact ⟨_, _, _, _, _, _, _, _, hx, hm, hC0, hK1, hK2, hK3, hF, hT, hS0, hS1, hS2, hS3, hG⟩
  · have hx : F_X6_hearing n0 xv_camp_tents xv_camp_wall xv_camp_bridge xv_camp_counted xf_found xf_camp_kinds xf_camp_yards xf_ears_gaps xf_ears_hears xf_ears_near p1 = some (-1000001, upd xf_found 0 (xf_found 0 + 1), xf_ears_gaps, xf_ears_hears, xf_ears_near) := by
      unfold F_X6_hearing
      rw [h0, has_f hN ht]
      rfl
    have hm : F_X7_hearing n0 mv_gone mf_d mf_found mf_hears mf_near p1 = some (-1000001, upd mf_found 0 (mf_found 0 + 1), mf_hears, mf_near) := by
      unfold F_X7_hearing
      rw [mT_f hN hd0 ht]
      rfl
    exact ⟨_, _, _, _, _, _, _, _, hx, hm, hC0, hK1, hK2, hK3, fnd_u hF 0 (by decide), hT, hS0, hS1, hS2, hS3, hG⟩
