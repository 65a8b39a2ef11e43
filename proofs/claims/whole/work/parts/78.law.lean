/-! law -/
theorem hO_kinds {k1 k2 : Nat → Int32} {G : Nat → Nat → Nat} {sk : Nat → Bool} {N t : Nat} (h : k1 t = k2 t) : hO k1 G sk N t = hO k2 G sk N t := by
  unfold hO
  rw [h]
theorem HR_kinds {k1 k2 f y : Nat → Int32} {N w br : Nat} {c : Int32} (h : ∀ j : Nat, j < N → k1 j = k2 j) (hr : HR N f (hH k1 N w br c y)) : HR N f (hH k2 N w br c y) := fun j hj => by
  have e : hH k2 N w br c y j = hH k1 N w br c y j := hO_kinds (h j hj).symm
  rw [e]
  exact hr j hj
theorem nxO_kinds {k1 k2 : Nat → Int32} {H M : Nat → Option Nat} {N : Nat} (h : ∀ j : Nat, j < N → k1 j = k2 j) : nxO k1 H M N = nxO k2 H M N := by
  funext s
  show bitsF _ N 0 0 = bitsF _ N 0 0
  refine bitsF_congr N 0 0 (fun j _ hj => ?_)
  unfold wS
  rw [h j (by omega)]
def kC (k : Nat) : Nat → Int32 := fun _ => nI k
def lwX (ty : Nat → Int32) (N w br : Nat) (c : Int32) (p : Nat) (s : Int32) (k : Nat) : Int32 := itS (nxO (kC k) (hH (kC k) N w br c ty) (hM N w br c ty) N) p s
def lwN (ty : Nat → Int32) (N w br : Nat) (c : Int32) (p : Nat) (s : Int32) (k : Nat) : Nat := pcN (lwX ty N w br c p s k)
theorem lw_v {ty : Nat → Int32} {N w br p k : Nat} {c s : Int32} (hN : N ≤ 10) (hp : 0 < p) : bitE (lwX ty N w br c p s k) = nI (lwN ty N w br c p s k) ∧ onesE (lwX ty N w br c p s k) = nI (lwN ty N w br c p s k) ∧ lwN ty N w br c p s k < 11 := by
  obtain ⟨a, a1, a2⟩ := it_rg (kinds := kC k) (H := hH (kC k) N w br c ty) (M := hM N w br c ty) hN hp s
  have hp := pow10 hN
  have e : lwX ty N w br c p s k = nI a := a2
  unfold lwN
  rw [e]
  exact ⟨by rw [pop_eq a (by omega)]; exact (pop_n a (by omega)).1, (pop_n a (by omega)).1, (pop_n a (by omega)).2⟩
theorem bk_r {n0 N w br p : Nat} {hb ts ty : Nat → Int32} {said c day z : Int32} (hn : 2000000 ≤ n0) (hN : N ≤ 10) (hct : c = 0 ∨ c = 1) (hw : w < 12) (hbr : br < 12) (hYt : yrdOK ty) (hp0 : 0 < p) (hp : p ≤ 60) : ∀ (k i n : Nat) (b : Option Nat) (g h n' K : Nat → Int32), i + k = 7 → k < n → okB i b → ∃ g' h' n'' K' : Nat → Int32, L_X4_bestKind_11 hb (nI N) said (nI w) (nI br) c day z ts ty n0 (nI p) n (cod0 b) (bgF (lwN ty N w br c p said) b) (nI i) g h n' K = some (cod0 (fartF (lwN ty N w br c p said) sk0 k i b), hb, nI N, said, nI w, nI br, c, day, z, g', h', n'', K', ts, ty) := by
  intro k
  induction k with
  | zero =>
    intro i n b g h n' K h1 h2 hb
    obtain ⟨n, rfl⟩ : ∃ q, n = q + 1 := ⟨n - 1, by omega⟩
    rw [L_X4_bestKind_11_u, if_pos (show (7 : Int32) ≤ nI i from nI_le (a := 7) (by omega) (by omega))]
    exact ⟨_, _, _, _, rfl⟩
  | succ k ih =>
    intro i n b g h n' K h1 h2 hb
    obtain ⟨n, rfl⟩ : ∃ q, n = q + 1 := ⟨n - 1, by omega⟩
    have hb' : okB (i + 1) b := okB_mono (by omega) hb
    obtain ⟨g1, h3, n1, e1, e2, e3, e4⟩ := listen_H (kinds := fun j => if j < 10 then nI i else K j) (gaps := g) (hears := h) (near := n') hn hN hct hw hbr hYt
    have hk : ∀ j : Nat, j < N → (fun j => if j < 10 then nI i else K j) j = kC i j := fun j hj => if_pos (by omega)
    have e3' : HR N h3 (hH (kC i) N w br c ty) := HR_kinds hk e3
    have e4' : HR N n1 (hM N w br c ty) := e4
    obtain ⟨q1, _, q2⟩ := lw_v (ty := ty) (w := w) (br := br) (c := c) (s := said) (k := i) hN hp0
    rw [L_X4_bestKind_11_u, if_neg (show ¬ (7 : Int32) ≤ nI i from nI_ge (b := 7) (by omega) (by decide)), fill_all (N := 10) (by decide) (by omega)]
    simp only [bd1]
    rw [e1]
    simp only [bd3]
    unfold F_X4_voteAfter
    rw [said_O hn hN e3' e4' (by omega), nxO_kinds hk]
    simp only [bd1]
    rw [bitC_s]
    simp only [nm]
    rw [show bitE (itS (nxO (kC i) (hH (kC i) N w br c ty) (hM N w br c ty) N) p said) = nI (lwN ty N w br c p said i) from q1, nI_1]
    cases b with
    | none =>
      have hq : ¬ nI (lwN ty N w br c p said i) ≤ bgF (lwN ty N w br c p said) none := by
        show ¬ nI (lwN ty N w br c p said i) ≤ -1
        rw [Int32.le_iff_toInt_le, nI_toInt (by omega)]
        have a3 : (-1 : Int32).toInt = -1 := rfl
        omega
      rw [if_neg hq]
      exact ih (i + 1) n (some i) _ _ _ _ (by omega) (by omega) (Nat.lt_succ_self i)
    | some o =>
      obtain ⟨_, _, l2⟩ := lw_v (ty := ty) (w := w) (br := br) (c := c) (s := said) (k := o) hN hp0
      unfold fartF
      rw [if_neg (show ¬ sk0 i = true from Bool.false_ne_true)]
      simp only []
      by_cases h5 : lwN ty N w br c p said i ≤ lwN ty N w br c p said o
      · rw [if_pos h5, if_pos (show nI (lwN ty N w br c p said i) ≤ bgF (lwN ty N w br c p said) (some o) from nI_le h5 (by omega))]
        exact ih (i + 1) n (some o) _ _ _ _ (by omega) (by omega) hb'
      · rw [if_neg h5, if_neg (show ¬ nI (lwN ty N w br c p said i) ≤ bgF (lwN ty N w br c p said) (some o) from nI_ge (Nat.lt_of_not_le h5) (by omega))]
        exact ih (i + 1) n (some i) _ _ _ _ (by omega) (by omega) (Nat.lt_succ_self i)
/-- the row is d but for the kinds of the tents -/
def lwD (N : Nat) (d t : Nat → Int32) : Prop := ∀ j : Nat, j < 40 → ¬ (10 ≤ j ∧ j < 10 + N) → t j = d j
theorem lw_i {n0 N : Nat} {d mh mn : Nat → Int32} {p1 s5 s6 s4 : Int32} {kk : Int32 → Int32 → Int32 → (Nat → Int32) → (Nat → Int32) → (Nat → Int32) → Option (Int32 × (Nat → Int32) × (Nat → Int32) × (Nat → Int32) × (Nat → Int32) × (Nat → Int32))} (hN : N ≤ 10) (hd0 : d 0 = nI N) : ∀ (k i n : Nat) (t : Nat → Int32), i + k = N → k < n → lwD N d t → (∀ j : Nat, j < i → t (10 + j) = s6) → ∃ t' : Nat → Int32, lwD N d t' ∧ (∀ j : Nat, j < N → t' (10 + j) = s6) ∧ L_X7_law_46 n0 (-1) mh mn p1 s5 s6 kk s4 n (nI i) t = L_X7_law_46 n0 (-1) mh mn p1 s5 s6 kk s4 (0 + 1) (nI N) t' := by
  intro k
  induction k with
  | zero =>
    intro i n t h1 h2 ht hk
    obtain ⟨n, rfl⟩ : ∃ q, n = q + 1 := ⟨n - 1, by omega⟩
    have e : i = N := by omega
    subst e
    refine ⟨t, ht, hk, ?_⟩
    have h9 : t 0 = nI i := (ht 0 (by omega) (by omega)).trans hd0
    rw [L_X7_law_46_u, L_X7_law_46_u, rd_l 0 l0 (by decide) (by decide), rd_l 0 l0 (by decide) (by decide), h9, if_pos (nI_le (Nat.le_refl i) (by omega)), if_pos (nI_le (Nat.le_refl i) (by omega))]
  | succ k ih =>
    intro i n t h1 h2 ht hk
    obtain ⟨n, rfl⟩ : ∃ q, n = q + 1 := ⟨n - 1, by omega⟩
    have h9 : t 0 = nI N := (ht 0 (by omega) (by omega)).trans hd0
    rw [L_X7_law_46_u (n := n), rd_l 0 l0 (by decide) (by decide), h9, if_neg (nI_ge (by omega) (by omega))]
    simp only [nm]
    rw [wrt_l (10 + i) (a10 i) (by omega) (by decide), nI_1]
    refine ih (i + 1) n _ (by omega) (by omega) (fun j hj h3 => ?_) (fun j hj => ?_)
    · rw [pk_un (fun e => h3 ⟨by omega, by omega⟩)]
      exact ht j hj h3
    · by_cases e : j = i
      · subst e; rw [pk_us]
      · rw [pk_un (by omega)]
        exact hk j (by omega)
theorem mbk_r {n0 N w br p : Nat} {tk ty ts d g3 found : Nat → Int32} {said c day z : Int32} (hn : 2000000 ≤ n0) (hN : N ≤ 10) (hw : w < 12) (hbr : br < 12) (hC : CR tk ty ts (nI N) said (nI w) (nI br) c day z d) (hp0 : 0 < p) (hp : p ≤ 60) : ∀ (k i n : Nat) (b : Option Nat) (t h n' : Nat → Int32), i + k = 7 → k < n → okB i b → lwD N d t → ∃ h' n'' d' : Nat → Int32, (∀ j : Nat, j < 40 → d' j = g3 j) ∧ L_X7_law_36 n0 g3 found (-1) (nI p) n (cod0 b) (bgF (lwN ty N w br c p said) b) (nI i) t h n' = some (cod0 (fartF (lwN ty N w br c p said) sk0 k i b), d', g3, found, h', n'') := by
  have hC0 := hC
  obtain ⟨N', w', br', hN', e1, e2, e3, hM, _⟩ := MC_of hC
  have e : N = N' := (nI_eq (by omega) (by omega)).mp e1
  have ew : w = w' := (nI_eq (by omega) (by have := hM.2.2.2.2.2.2.1; omega)).mp e2
  have eb : br = br' := (nI_eq (by omega) (by have := hM.2.2.2.2.2.2.2.1; omega)).mp e3
  subst e
  subst ew
  subst eb
  obtain ⟨m1, m2, m3, m4, m5, m6, m7, m8, m9, m10⟩ := hM
  obtain ⟨_, _, _, _, _, hd6, _, _⟩ := CR_parts hN hC0
  intro k
  induction k with
  | zero =>
    intro i n b t h n' h1 h2 hb ht
    obtain ⟨n, rfl⟩ : ∃ q, n = q + 1 := ⟨n - 1, by omega⟩
    rw [L_X7_law_36_u, if_pos (show (6 : Int32) < nI i from nI_lt (a := 6) (by omega) (by omega)), copies_s hn]
    exact ⟨h, n', _, fun j hj => if_pos hj, rfl⟩
  | succ k ih =>
    intro i n b t h n' h1 h2 hb ht
    obtain ⟨n, rfl⟩ : ∃ q, n = q + 1 := ⟨n - 1, by omega⟩
    have hb' : okB (i + 1) b := okB_mono (by omega) hb
    rw [L_X7_law_36_u, if_neg (show ¬ (6 : Int32) < nI i from nI_nlt (b := i) (a := 6) (by omega) (by decide))]
    obtain ⟨t', a1, a2, a3⟩ := lw_i (n0 := n0) (mh := h) (mn := n') (p1 := nI p) (s5 := bgF (lwN ty N w br c p said) b) (s6 := nI i) (s4 := cod0 b) (kk := L_X7_law_36 n0 g3 found (-1) (nI p) n) hN m2 N 0 n0 t (by omega) (by omega) ht (fun j hj => absurd hj (Nat.not_lt_zero j))
    rw [nI_0] at a3
    rw [a3]
    have q0 : t' 0 = nI N := (a1 0 (by omega) (by omega)).trans m2
    have hM' : MC t' ty N w br c := ⟨m1, q0, (a1 3 (by omega) (by omega)).trans m3, (a1 4 (by omega) (by omega)).trans m4, (a1 5 (by omega) (by omega)).trans m5, m6, m7, m8, fun j hj => (a1 (20 + j) (by omega) (by omega)).trans (m9 j hj), m10⟩
    obtain ⟨h', n'', b1, b2, b3⟩ := mlisten_H (kinds := fun j => t' (10 + j)) (hears := h) (near := n') hn hM' (fun _ _ => rfl)
    have hk : ∀ j : Nat, j < N → (fun j => t' (10 + j)) j = kC i j := fun j hj => a2 j hj
    have b2' : HR N h' (hH (kC i) N w br c ty) := HR_kinds hk b2
    have b3' : HR N n'' (hM N w br c ty) := b3
    obtain ⟨_, r1, r2⟩ := lw_v (ty := ty) (w := w) (br := br) (c := c) (s := said) (k := i) hN hp0
    rw [L_X7_law_46_u, rd_l 0 l0 (by decide) (by decide), q0, if_pos (nI_le (Nat.le_refl N) (by omega)), b1]
    simp only [bd2]
    rw [rd_l 6 l6 (by decide) (by decide), (a1 6 (by omega) (by omega)).trans hd6, ahead_O hn hN q0 (kinds := fun j => t' (10 + j)) (fun _ _ => rfl) b2' b3' (by omega), nxO_kinds hk]
    simp only [bd1]
    rw [ones_s hn]
    simp only []
    rw [show onesE (itS (nxO (kC i) (hH (kC i) N w br c ty) (hM N w br c ty) N) p said) = nI (lwN ty N w br c p said i) from r1]
    unfold J_X7_law_108
    simp only [nm]
    rw [nI_1]
    cases b with
    | none =>
      have hq : ¬ nI (lwN ty N w br c p said i) ≤ bgF (lwN ty N w br c p said) none := by
        show ¬ nI (lwN ty N w br c p said i) ≤ -1
        rw [Int32.le_iff_toInt_le, nI_toInt (by omega)]
        have a3 : (-1 : Int32).toInt = -1 := rfl
        omega
      rw [if_neg hq, if_neg hq]
      exact ih (i + 1) n (some i) t' _ _ (by omega) (by omega) (Nat.lt_succ_self i) a1
    | some o =>
      obtain ⟨_, _, l2⟩ := lw_v (ty := ty) (w := w) (br := br) (c := c) (s := said) (k := o) hN hp0
      unfold fartF
      rw [if_neg (show ¬ sk0 i = true from Bool.false_ne_true)]
      simp only []
      by_cases h5 : lwN ty N w br c p said i ≤ lwN ty N w br c p said o
      · have hq : nI (lwN ty N w br c p said i) ≤ bgF (lwN ty N w br c p said) (some o) := nI_le h5 (by omega)
        rw [if_pos h5, if_pos hq, if_pos hq]
        exact ih (i + 1) n (some o) t' _ _ (by omega) (by omega) hb' a1
      · have hq : ¬ nI (lwN ty N w br c p said i) ≤ bgF (lwN ty N w br c p said) (some o) := nI_ge (Nat.lt_of_not_le h5) (by omega)
        rw [if_neg h5, if_neg hq, if_neg hq]
        exact ih (i + 1) n (some i) t' _ _ (by omega) (by omega) (Nat.lt_succ_self i) a1
theorem st_law {n0 : Nat} (hn : 2000000 ≤ n0) : St_law n0 := by
  intro xv_isKept xf_found xv_camp_tents xv_camp_said xv_camp_wall xv_camp_bridge xv_camp_counted xv_camp_day xv_camp_z xf_camp_kinds xf_camp_yards xf_camp_spots xv_kept_tents xv_kept_said xv_kept_wall xv_kept_bridge xv_kept_counted xv_kept_day xv_kept_z xf_kept_kinds xf_kept_yards xf_kept_spots xf_trials_heardBefore xv_trials_trial_tents xv_trials_trial_said xv_trials_trial_wall xv_trials_trial_bridge xv_trials_trial_counted xv_trials_trial_day xv_trials_trial_z xf_trials_trial_kinds xf_trials_trial_yards xf_trials_trial_spots xf_trials_ears_hears xf_trials_ears_near xf_trials_ears_gaps xv_tape_size xf_tape_bytes xv_sheets_0_bits xv_sheets_0_size xf_sheets_0_numbers xv_sheets_1_bits xv_sheets_1_size xf_sheets_1_numbers xv_sheets_2_bits xv_sheets_2_size xf_sheets_2_numbers xv_sheets_3_bits xv_sheets_3_size xf_sheets_3_numbers mv_isKept mv_taped mv_gone mf_d mf_e mf_kept mf_found mf_tape mf_hears mf_near mf_bitsOf mf_sizeOf mf_number hI p1
  obtain ⟨hC, hK1, hK2, hK3, hF, hT, hS0, hS1, hS2, hS3, hG⟩ := hI
  have hC0 := hC
  obtain ⟨N, hN, h0, hd0, hd1, hd2, hd3, hd4, hd5, hd6, hct, hwl, hbr, hdy, hsa, hA, hKi, hYa, hSp⟩ := hC
  obtain ⟨w, hw1, hw2⟩ := hwl
  obtain ⟨br, hb1, hb2⟩ := hbr
  have hC1 := hC0
  rw [h0, hw2, hb2] at hC1
  by_cases hr : inR 1 60 p1
  · obtain ⟨p, hp0, hp1, hp2⟩ := inR_nI1 (lo := 1) (hi := 60) hr
    obtain ⟨hb, g', h', n', tk, ts, ty, b1, b2, b3, b4, b5, b6, b7, b8⟩ := begin_s (hb0 := xf_trials_heardBefore) (xg := xf_trials_ears_gaps) (xh := xf_trials_ears_hears) (xn := xf_trials_ears_near) (tk0 := xf_trials_trial_kinds) (ts0 := xf_trials_trial_spots) (ty0 := xf_trials_trial_yards) (t1 := xv_trials_trial_tents) (t2 := xv_trials_trial_said) (t3 := xv_trials_trial_wall) (t4 := xv_trials_trial_bridge) (t5 := xv_trials_trial_counted) (t6 := xv_trials_trial_day) (t7 := xv_trials_trial_z) hn hN hw1 hb1 hC1
    obtain ⟨_, hYt, _, _, _, _, _, _⟩ := CR_parts hN b2
    obtain ⟨g2, h2, n2, K2, c1⟩ := bk_r (hb := hb) (ts := ts) (ty := ty) (said := xv_camp_said) (day := xv_camp_day) (z := xv_camp_z) hn hN hct hw1 hb1 hYt (p := p) (by omega) hp1 7 0 n0 none g' h' n' tk (by omega) (by omega) trivial
    obtain ⟨m1, m2, d', f1, f2⟩ := mbk_r (g3 := fun j => if j < 40 then mf_d j else mf_e j) (found := mf_found) hn hN hw1 hb1 b2 (p := p) (by omega) hp1 7 0 n0 none mf_d mf_hears mf_near (by omega) (by omega) trivial (fun _ _ _ => rfl)
    rw [nI_0] at c1 f2
    have hx : F_X6_law n0 xv_camp_tents xv_camp_said xv_camp_wall xv_camp_bridge xv_camp_counted xv_camp_day xv_camp_z xf_found xf_camp_kinds xf_camp_spots xf_camp_yards xf_trials_heardBefore xv_trials_trial_tents xv_trials_trial_said xv_trials_trial_wall xv_trials_trial_bridge xv_trials_trial_counted xv_trials_trial_day xv_trials_trial_z xf_trials_ears_gaps xf_trials_ears_hears xf_trials_ears_near xf_trials_trial_kinds xf_trials_trial_spots xf_trials_trial_yards p1 = some (cod0 (fartF (lwN ty N w br xv_camp_counted p xv_camp_said) sk0 7 0 none), xf_found, hb, nI N, xv_camp_said, nI w, nI br, xv_camp_counted, xv_camp_day, xv_camp_z, g2, h2, n2, K2, ts, ty) := by
      unfold F_X6_law
      rw [h0, hw2, hb2, isFrom_t (a := 1) (b := 60) hr]
      simp only [bd1, one0]
      unfold F_X4_bestKind
      rw [b1]
      simp only [bd14]
      rw [hp2]
      have c1' : L_X4_bestKind_11 hb (nI N) xv_camp_said (nI w) (nI br) xv_camp_counted xv_camp_day xv_camp_z ts ty n0 (nI p) n0 0 (-1) 0 g' h' n' tk = some (cod0 (fartF (lwN ty N w br xv_camp_counted p xv_camp_said) sk0 7 0 none), hb, nI N, xv_camp_said, nI w, nI br, xv_camp_counted, xv_camp_day, xv_camp_z, g2, h2, n2, K2, ts, ty) := c1
      rw [c1']
      rfl
    have hm : F_X7_law n0 mv_gone mf_d mf_e mf_found mf_hears mf_near p1 = some (cod0 (fartF (lwN ty N w br xv_camp_counted p xv_camp_said) sk0 7 0 none), d', (fun j => if j < 40 then mf_d j else mf_e j), mf_found, m1, m2) := by
      unfold F_X7_law
      simp only [nm]
      rw [in_t (a := 1) (b := 60) hr]
      simp only [bd1, one0]
      rw [copies_s hn, hG, hp2]
      exact f2
    exact ⟨_, _, _, _, _, _, _, _, _, _, _, _, _, _, _, _, _, _, _, _, _, hx, hm, CR_copy hC0 (fun _ _ => rfl) (fun _ _ => rfl) (fun _ _ => rfl) (fun j hj => (f1 j hj).trans (if_pos hj)), hK1, hK2, hK3, hF, hT, hS0, hS1, hS2, hS3, hG⟩
  · have hx : F_X6_law n0 xv_camp_tents xv_camp_said xv_camp_wall xv_camp_bridge xv_camp_counted xv_camp_day xv_camp_z xf_found xf_camp_kinds xf_camp_spots xf_camp_yards xf_trials_heardBefore xv_trials_trial_tents xv_trials_trial_said xv_trials_trial_wall xv_trials_trial_bridge xv_trials_trial_counted xv_trials_trial_day xv_trials_trial_z xf_trials_ears_gaps xf_trials_ears_hears xf_trials_ears_near xf_trials_trial_kinds xf_trials_trial_spots xf_trials_trial_yards p1 = some (-1000001, upd xf_found 0 (xf_found 0 + 1), xf_trials_heardBefore, xv_trials_trial_tents, xv_trials_trial_said, xv_trials_trial_wall, xv_trials_trial_bridge, xv_trials_trial_counted, xv_trials_trial_day, xv_trials_trial_z, xf_trials_ears_gaps, xf_trials_ears_hears, xf_trials_ears_near, xf_trials_trial_kinds, xf_trials_trial_spots, xf_trials_trial_yards) := by
      unfold F_X6_law
      rw [isFrom_f (a := 1) (b := 60) hr]
      rfl
    have hm : F_X7_law n0 mv_gone mf_d mf_e mf_found mf_hears mf_near p1 = some (-1000001, mf_d, mf_e, upd mf_found 0 (mf_found 0 + 1), mf_hears, mf_near) := by
      unfold F_X7_law
      simp only [nm]
      rw [in_f (a := 1) (b := 60) hr]
      rfl
    exact ⟨_, _, _, _, _, _, _, _, _, _, _, _, _, _, _, _, _, _, _, _, _, hx, hm, hC0, hK1, hK2, hK3, fnd_u hF 0 (by decide), hT, hS0, hS1, hS2, hS3, hG⟩
