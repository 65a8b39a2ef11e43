/-! place, leads -/
theorem whoR_m1 {f : Nat → Int32} {y : Int32} : ∀ (k i : Nat), i + k ≤ 10 → (whoR f y k i = -1 ↔ ∀ j : Nat, i ≤ j → j < i + k → ¬ f j = y) := by
  intro k
  induction k with
  | zero => intro i _; exact ⟨fun _ j h1 h2 => absurd h2 (by omega), fun _ => rfl⟩
  | succ k ih =>
    intro i hi
    show (if f i = y then nI i else whoR f y k (i + 1)) = -1 ↔ _
    by_cases h : f i = y
    · rw [if_pos h]
      exact ⟨fun h2 => absurd h2 (nI_m1 (by omega)), fun h2 => absurd h (h2 i (by omega) (by omega))⟩
    · rw [if_neg h, ih (i + 1) (by omega)]
      constructor
      · intro h2 j h3 h4
        by_cases hj : j = i
        · subst hj; exact h
        · exact h2 j (by omega) (by omega)
      · intro h2 j h3 h4
        exact h2 j (by omega) (by omega)
/-- a yard is free -/
theorem free_ex {yards : Nat → Int32} {N : Nat} (hN : N < 10) : ∃ v : Nat, v < 144 ∧ whoR yards (nI v) N 0 = -1 := by
  by_cases h : ∃ v : Nat, v ≤ N ∧ whoR yards (nI v) N 0 = -1
  · obtain ⟨v, h1, h2⟩ := h
    exact ⟨v, by omega, h2⟩
  · exfalso
    have hx : ∀ v : Nat, v ≤ N → ∃ j : Nat, j < N ∧ whoR yards (nI v) N 0 = nI j ∧ yards j = nI v := fun v hv => by
      rcases whoR_or yards (nI v) N 0 with h1 | ⟨j, a1, a2, a3, a4⟩
      · exact absurd ⟨v, hv, h1⟩ h
      · exact ⟨j, by omega, a3, a4⟩
    obtain ⟨a, b, h1, h2, h3⟩ := php N (fun v => (whoR yards (nI v) N 0).toNatClampNeg) (fun v hv => by
      obtain ⟨j, a1, a2, a3⟩ := hx v hv
      show (whoR yards (nI v) N 0).toNatClampNeg < N
      rw [a2, nI_clamp (by omega)]
      exact a1)
    obtain ⟨j, a1, a2, a3⟩ := hx a (by omega)
    obtain ⟨l, b1, b2, b3⟩ := hx b h2
    have h4 : (whoR yards (nI a) N 0).toNatClampNeg = (whoR yards (nI b) N 0).toNatClampNeg := h3
    rw [a2, b2, nI_clamp (by omega), nI_clamp (by omega)] at h4
    subst h4
    have := (nI_eq (by omega) (by omega)).mp (a3.symm.trans b3)
    omega
theorem fart_some2 {g : Nat → Nat} {sk : Nat → Bool} : ∀ (k i : Nat) (b : Option Nat), ((∃ j : Nat, i ≤ j ∧ j < i + k ∧ sk j = false) ∨ b ≠ none) → fartF g sk k i b ≠ none := by
  intro k
  induction k with
  | zero => intro i b h; exact h.elim (fun ⟨j, h1, h2, _⟩ => absurd h2 (by omega)) id
  | succ k ih =>
    intro i b h
    unfold fartF
    apply ih
    by_cases hs : sk i = true
    · rw [if_pos hs]
      rcases h with ⟨j, h1, h2, h3⟩ | h
      · refine Or.inl ⟨j, ?_, by omega, h3⟩
        by_cases hj : j = i
        · subst hj; rw [hs] at h3; cases h3
        · omega
      · exact Or.inr h
    · rw [if_neg hs]
      refine Or.inr ?_
      cases b with
      | none => exact fun h => by cases h
      | some o =>
        show (if g i ≤ g o then some o else some i) ≠ none
        split
        · exact fun h => by cases h
        · exact fun h => by cases h
def tkn (yards : Nat → Int32) (N v : Nat) : Bool := !decide (whoR yards (nI v) N 0 = -1)
def plN (tk ty : Nat → Int32) (N w br : Nat) (c : Int32) (v : Nat) : Nat := fwN (hH tk (N + 1) w br c (upd ty N (nI v))) (N + 1) N
def bpV (g : Nat → Nat) (b : Option Nat) : Int32 := 1000 * (if bgF g b < 0 then 0 else bgF g b) + cod0 b
theorem bp_r {n0 N w br : Nat} {yards tk ty ts : Nat → Int32} {said c day z : Int32} (hn : 2000000 ≤ n0) (hN : N < 10) (hct : c = 0 ∨ c = 1) (hw : w < 12) (hbr : br < 12) (hYt : yrdOK ty) : ∀ (k i n v : Nat) (b : Option Nat) (g h n' : Nat → Int32), i + k = 144 → k < n → v < 144 → okB i b → gapOK (N + 1) w br c g (upd ty N (nI v)) → ∃ g' h' n'' Y' : Nat → Int32, L_X4_bestPlace_43 (nI (N + 1)) said (nI w) (nI br) c day z tk ts n0 (nI N) yards (nI N) n (cod0 b) (bgF (plN tk ty N w br c) b) (nI i) g h n' (upd ty N (nI v)) = some (bpV (plN tk ty N w br c) (fartF (plN tk ty N w br c) (tkn yards N) k i b), nI (N + 1), said, nI w, nI br, c, day, z, g', h', n'', tk, ts, Y') := by
  intro k
  induction k with
  | zero =>
    intro i n v b g h n' h1 h2 hv hb hg
    obtain ⟨n, rfl⟩ : ∃ q, n = q + 1 := ⟨n - 1, by omega⟩
    rw [L_X4_bestPlace_43_u, if_pos (show (144 : Int32) ≤ nI i from nI_le (a := 144) (by omega) (by omega))]
    exact ⟨_, _, _, _, rfl⟩
  | succ k ih =>
    intro i n v b g h n' h1 h2 hv hb hg
    obtain ⟨n, rfl⟩ : ∃ q, n = q + 1 := ⟨n - 1, by omega⟩
    have hb' : okB (i + 1) b := okB_mono (by omega) hb
    rw [L_X4_bestPlace_43_u, if_neg (show ¬ (144 : Int32) ≤ nI i from nI_ge (b := 144) (by omega) (by decide)), tentOn_s hn (by omega)]
    simp only [bd1, nm]
    rw [nI_1]
    unfold fartF
    by_cases hf : whoR yards (nI i) N 0 = -1
    · obtain ⟨g1, h3, n1, e1, e2, e3, e4⟩ := tryMove_s (N := N + 1) (kinds := tk) (hears := h) (near := n') (v := i) hn (by omega) hct hw hbr (yrd_upd (t := N) hYt hv) (by omega) (Nat.lt_succ_self N) hg
      rw [upd_upd] at e1 e2 e3 e4
      obtain ⟨_, q1, q2⟩ := bsF_ones (P := folB (hH tk (N + 1) w br c (upd ty N (nI i))) (N + 1) N) (N := N + 1) (by omega)
      have hl : plN tk ty N w br c i < 11 := q2
      have q1' : bitE (bsF (folB (hH tk (N + 1) w br c (upd ty N (nI i))) (N + 1) N) (N + 1)) = nI (plN tk ty N w br c i) := q1
      rw [if_pos hf, e1]
      simp only [bd4]
      rw [fol_s hn (by omega) e3 (by omega)]
      simp only []
      rw [bitC_s]
      simp only []
      rw [q1', if_neg (show ¬ tkn yards N i = true from by unfold tkn; rw [decide_eq_true hf]; decide)]
      cases b with
      | none =>
        have hq : ¬ nI (plN tk ty N w br c i) ≤ bgF (plN tk ty N w br c) none := by
          show ¬ nI (plN tk ty N w br c i) ≤ -1
          rw [Int32.le_iff_toInt_le, nI_toInt (by omega)]
          have a3 : (-1 : Int32).toInt = -1 := rfl
          omega
        rw [if_neg hq]
        exact ih (i + 1) n i (some i) g1 h3 n1 (by omega) (by omega) (by omega) (Nat.lt_succ_self i) e2
      | some o =>
        obtain ⟨_, _, p2⟩ := bsF_ones (P := folB (hH tk (N + 1) w br c (upd ty N (nI o))) (N + 1) N) (N := N + 1) (by omega)
        have hl2 : plN tk ty N w br c o < 11 := p2
        simp only []
        by_cases h5 : plN tk ty N w br c i ≤ plN tk ty N w br c o
        · rw [if_pos h5, if_pos (show nI (plN tk ty N w br c i) ≤ bgF (plN tk ty N w br c) (some o) from nI_le h5 (by omega))]
          exact ih (i + 1) n i (some o) g1 h3 n1 (by omega) (by omega) (by omega) hb' e2
        · rw [if_neg h5, if_neg (show ¬ nI (plN tk ty N w br c i) ≤ bgF (plN tk ty N w br c) (some o) from nI_ge (Nat.lt_of_not_le h5) (by omega))]
          exact ih (i + 1) n i (some i) g1 h3 n1 (by omega) (by omega) (by omega) (Nat.lt_succ_self i) e2
    · rw [if_neg hf, if_pos (show tkn yards N i = true from by unfold tkn; rw [decide_eq_false hf]; rfl)]
      exact ih (i + 1) n v b g h n' (by omega) (by omega) hv hb' hg
theorem mbp_r {n0 N w br : Nat} {yards tk ty ts D g1 : Nat → Int32} {said c day z : Int32} (hn : 2000000 ≤ n0) (hN : N < 10) (hw : w < 12) (hbr : br < 12) (hC : CR tk ty ts (nI (N + 1)) said (nI w) (nI br) c day z D) (hyd : ∀ i : Nat, i < N → ty i = yards i) : ∀ (k i n : Nat) (x : Int32) (b : Option Nat) (h n' : Nat → Int32), i + k = 144 → k < n → okB i b → ∃ h' n'' d' : Nat → Int32, (∀ j : Nat, j < 40 → d' j = g1 j) ∧ L_X7_findPlace_27 n0 g1 (nI N) (-1) n (cod0 b) (nI i) (upd D (20 + N) x) h n' (bgF (plN tk ty N w br c) b) = some (cod0 (fartF (plN tk ty N w br c) (tkn yards N) k i b), bgF (plN tk ty N w br c) (fartF (plN tk ty N w br c) (tkn yards N) k i b), d', g1, h', n'') := by
  obtain ⟨hd0, _, hdy⟩ := CR_N (by omega) hC
  intro k
  induction k with
  | zero =>
    intro i n x b h n' h1 h2 hb
    obtain ⟨n, rfl⟩ : ∃ q, n = q + 1 := ⟨n - 1, by omega⟩
    rw [L_X7_findPlace_27_u, if_pos (show (144 : Int32) ≤ nI i from nI_le (a := 144) (by omega) (by omega)), copies_s hn]
    exact ⟨h, n', _, fun j hj => if_pos hj, rfl⟩
  | succ k ih =>
    intro i n x b h n' h1 h2 hb
    obtain ⟨n, rfl⟩ : ∃ q, n = q + 1 := ⟨n - 1, by omega⟩
    have hb' : okB (i + 1) b := okB_mono (by omega) hb
    rw [L_X7_findPlace_27_u, if_neg (show ¬ (144 : Int32) ≤ nI i from nI_ge (b := 144) (by omega) (by decide))]
    simp only [nm]
    rw [wrt_l (20 + N) (a20 N) (by omega) (by decide), upd_upd, whoIs_s (N := N + 1) (yards := fun j => upd D (20 + N) 144 (20 + j)) hn (by omega) (by rw [pk_un (by omega)]; exact hd0) (fun _ _ => rfl)]
    simp only [bd1]
    have hwho : whoR (fun j => upd D (20 + N) 144 (20 + j)) (nI i) (N + 1) 0 = -1 ↔ whoR yards (nI i) N 0 = -1 := by
      rw [whoR_m1 (N + 1) 0 (by omega), whoR_m1 N 0 (by omega)]
      constructor
      · intro h3 j h4 h5
        have h6 := h3 j h4 (by omega)
        rw [pk_un (by omega), hdy j (by omega), hyd j (by omega)] at h6
        exact h6
      · intro h3 j h4 h5
        by_cases hj : j = N
        · subst hj
          rw [pk_us]
          exact fun h6 => by
            have := (nI_eq (a := 144) (b := i) (by decide) (by omega)).mp h6
            omega
        · rw [pk_un (by omega), hdy j (by omega), hyd j (by omega)]
          exact h3 j h4 (by omega)
    unfold fartF
    by_cases hf : whoR yards (nI i) N 0 = -1
    · obtain ⟨h', n'', a1, a2, a3⟩ := mlisten_C (mh := h) (mn := n') hn (by omega) hw hbr (CR_yard (t := N) (y := i) (by omega) (by omega) hC)
      obtain ⟨q1, _, q2⟩ := bsF_ones (P := folB (hH tk (N + 1) w br c (upd ty N (nI i))) (N + 1) N) (N := N + 1) (by omega)
      have hl : plN tk ty N w br c i < 11 := q2
      have q1' : onesE (bsF (folB (hH tk (N + 1) w br c (upd ty N (nI i))) (N + 1) N) (N + 1)) = nI (plN tk ty N w br c i) := q1
      rw [if_pos (hwho.mpr hf), wrt_l (20 + N) (a20 N) (by omega) (by decide), upd_upd, a1]
      simp only [bd2]
      rw [mfol_s hn (by omega) (by rw [pk_un (by omega)]; exact hd0) a2 (by omega)]
      simp only []
      rw [ones_s hn]
      simp only []
      rw [q1', if_neg (show ¬ tkn yards N i = true from by unfold tkn; rw [decide_eq_true hf]; decide)]
      unfold J_X7_findPlace_96
      simp only [nm]
      rw [nI_1]
      cases b with
      | none =>
        have hq : ¬ nI (plN tk ty N w br c i) ≤ bgF (plN tk ty N w br c) none := by
          show ¬ nI (plN tk ty N w br c i) ≤ -1
          rw [Int32.le_iff_toInt_le, nI_toInt (by omega)]
          have a3 : (-1 : Int32).toInt = -1 := rfl
          omega
        rw [if_neg hq, if_neg hq]
        exact ih (i + 1) n (nI i) (some i) h' n'' (by omega) (by omega) (Nat.lt_succ_self i)
      | some o =>
        obtain ⟨_, _, p2⟩ := bsF_ones (P := folB (hH tk (N + 1) w br c (upd ty N (nI o))) (N + 1) N) (N := N + 1) (by omega)
        have hl2 : plN tk ty N w br c o < 11 := p2
        simp only []
        by_cases h5 : plN tk ty N w br c i ≤ plN tk ty N w br c o
        · have hq : nI (plN tk ty N w br c i) ≤ bgF (plN tk ty N w br c) (some o) := nI_le h5 (by omega)
          rw [if_pos h5, if_pos hq, if_pos hq]
          exact ih (i + 1) n (nI i) (some o) h' n'' (by omega) (by omega) hb'
        · have hq : ¬ nI (plN tk ty N w br c i) ≤ bgF (plN tk ty N w br c) (some o) := nI_ge (Nat.lt_of_not_le h5) (by omega)
          rw [if_neg h5, if_neg hq, if_neg hq]
          exact ih (i + 1) n (nI i) (some i) h' n'' (by omega) (by omega) (Nat.lt_succ_self i)
    · rw [if_neg (fun h3 => hf (hwho.mp h3)), if_pos (show tkn yards N i = true from by unfold tkn; rw [decide_eq_false hf]; rfl), nI_1]
      exact ih (i + 1) n 144 b h n' (by omega) (by omega) hb'
/-- both look for the best place -/
theorem place_core {n0 N w br : Nat} {kinds yards spots d e xg xh xn tk0 ts0 ty0 mh mn : Nat → Int32} {said c day z t1 t2 t3 t4 t5 t6 t7 ml : Int32} (hn : 2000000 ≤ n0) (hN : N < 10) (hw : w < 12) (hbr : br < 12) (hC : CR kinds yards spots (nI N) said (nI w) (nI br) c day z d) : ∃ (o q : Nat) (sd : Int32) (g' h' n' tk ts Y d' e' m1 m2 : Nat → Int32), o < 144 ∧ q < 11 ∧ (∀ j : Nat, j < 40 → d' j = d j) ∧ F_X4_bestPlace n0 (nI N) said (nI w) (nI br) c day z t1 t2 t3 t4 t5 t6 t7 kinds spots yards xg xh xn tk0 ts0 ty0 = some (nI (1000 * q + o), nI (N + 1), sd, nI w, nI br, c, day, z, g', h', n', tk, ts, Y) ∧ F_X7_findPlace n0 (-1) ml d e mh mn = some (nI o, nI q, d', e', m1, m2) := by
  obtain ⟨hct, hYa, _, _, _, _, _, _⟩ := CR_parts (by omega) hC
  have hC2 : CR (va_cpy kinds tk0 0 0 10) (va_cpy yards ty0 0 0 10) (va_cpy spots ts0 0 0 10) (nI N) said (nI w) (nI br) c day z d := CR_copy hC (fun i hi => cpy10 hi) (fun i hi => cpy10 hi) (fun i hi => cpy10 hi) (fun _ _ => rfl)
  have hC3 := CR_pitch (k := 0) (y := 0) hN (by decide) (by decide) hC2
  obtain ⟨_, hYt, _, _, _, _, _, _⟩ := CR_parts (by omega) hC3
  obtain ⟨hd0, _, _⟩ := CR_N (by omega) hC
  obtain ⟨g1, h1, n1, a1, a2, a3, a4⟩ := listen_C (xg := xg) (xh := xh) (xn := xn) hn (by omega) hw hbr hC3
  generalize hty : upd (va_cpy yards ty0 0 0 10) N (nI 0) = ty at *
  generalize htk : upd (va_cpy kinds tk0 0 0 10) N (nI 0) = tk at *
  have htyN : ty N = nI 0 := by rw [← hty, pk_us]
  obtain ⟨v, hv1, hv2⟩ := free_ex (yards := yards) hN
  have hsome := fart_some2 (g := plN tk ty N w br c) (sk := tkn yards N) 144 0 none (Or.inl ⟨v, by omega, by omega, by unfold tkn; rw [decide_eq_true hv2]; rfl⟩)
  have hok := fartF_ok (plN tk ty N w br c) (tkn yards N) 144 0 none trivial
  obtain ⟨g2, h2, n2, Y2, c1⟩ := bp_r (said := clrB said N) (day := day) (z := z) (ts := va_cpy spots ts0 0 0 10) (yards := yards) (tk := tk) hn hN hct hw hbr hYt 144 0 n0 0 none g1 h1 n1 (by omega) (by omega) (by omega) trivial (by rw [upd_same htyN]; exact a2)
  obtain ⟨m3, m4, d', f1, f2⟩ := mbp_r (g1 := fun j => if j < 40 then d j else e j) (yards := yards) hn hN hw hbr hC3 (fun i hi => by rw [← hty, pk_un (by omega), cpy10 (by omega)]) 144 0 n0 (comesD d N (nI 0) (nI 0) (20 + N)) none mh mn (by omega) (by omega) trivial
  rw [upd_same htyN, nI_0] at c1
  rw [upd_same rfl, nI_0] at f2
  cases ho : fartF (plN tk ty N w br c) (tkn yards N) 144 0 none with
  | none => exact absurd ho hsome
  | some o =>
    rw [ho] at hok c1 f2
    have ho2 : o < 144 := by
      have h9 : o < 0 + 144 := hok
      omega
    have hq : plN tk ty N w br c o < 11 := (bsF_ones (P := folB (hH tk (N + 1) w br c (upd ty N (nI o))) (N + 1) N) (N := N + 1) (by omega)).2.2
    refine ⟨o, plN tk ty N w br c o, clrB said N, g2, h2, n2, tk, va_cpy spots ts0 0 0 10, Y2, d', (fun j => if j < 40 then d j else e j), m3, m4, ho2, hq, fun j hj => (f1 j hj).trans (if_pos hj), ?_, ?_⟩
    · unfold F_X4_bestPlace
      rw [become_s hct]
      simp only [bd10]
      rw [pitch_s hN]
      simp only [bd5]
      rw [if_neg (nI_m1 (by omega)), gw_0, show (0 : Int32) = nI 0 from rfl, hty, htk, a1]
      simp only [bd3]
      rw [nI_0]
      refine c1.trans ?_
      have e1 : bpV (plN tk ty N w br c) (some o) = nI (1000 * plN tk ty N w br c o + o) := by
        show 1000 * (if nI (plN tk ty N w br c o) < 0 then 0 else nI (plN tk ty N w br c o)) + nI o = _
        rw [if_neg (nI_pos (by omega)), show (1000 : Int32) = nI 1000 from rfl, pk_mul, nI_add]
      rw [e1]
    · unfold F_X7_findPlace
      rw [copies_s hn]
      simp only [bd1]
      rw [show (0 : Int32) = nI 0 from rfl, comes_s hN hd0]
      simp only [bd2]
      rw [nI_0]
      exact f2
theorem st_place {n0 : Nat} (hn : 2000000 ≤ n0) : St_place n0 := by
  intro xv_isKept xf_found xv_camp_tents xv_camp_said xv_camp_wall xv_camp_bridge xv_camp_counted xv_camp_day xv_camp_z xf_camp_kinds xf_camp_yards xf_camp_spots xv_kept_tents xv_kept_said xv_kept_wall xv_kept_bridge xv_kept_counted xv_kept_day xv_kept_z xf_kept_kinds xf_kept_yards xf_kept_spots xv_trials_trial_tents xv_trials_trial_said xv_trials_trial_wall xv_trials_trial_bridge xv_trials_trial_counted xv_trials_trial_day xv_trials_trial_z xf_trials_trial_kinds xf_trials_trial_yards xf_trials_trial_spots xf_trials_ears_hears xf_trials_ears_near xf_trials_ears_gaps xv_tape_size xf_tape_bytes xv_sheets_0_bits xv_sheets_0_size xf_sheets_0_numbers xv_sheets_1_bits xv_sheets_1_size xf_sheets_1_numbers xv_sheets_2_bits xv_sheets_2_size xf_sheets_2_numbers xv_sheets_3_bits xv_sheets_3_size xf_sheets_3_numbers mv_isKept mv_taped mv_gone mv_mostLed mf_d mf_e mf_kept mf_found mf_tape mf_hears mf_near mf_bitsOf mf_sizeOf mf_number hI
  obtain ⟨hC, hK1, hK2, hK3, hF, hT, hS0, hS1, hS2, hS3, hG⟩ := hI
  have hC0 := hC
  obtain ⟨N, hN, h0, hd0, hd1, hd2, hd3, hd4, hd5, hd6, hct, hwl, hbr, hdy, hsa, hA, hKi, hYa, hSp⟩ := hC
  obtain ⟨w, hw1, hw2⟩ := hwl
  obtain ⟨br, hb1, hb2⟩ := hbr
  have hC1 := hC0
  rw [h0, hw2, hb2] at hC1
  by_cases hz : N < 10
  · obtain ⟨o, q, sd, g', h', n', tk, ts, Y, d', e', m1, m2, ho, hq, hdd, f1, f2⟩ := place_core (e := mf_e) (xg := xf_trials_ears_gaps) (xh := xf_trials_ears_hears) (xn := xf_trials_ears_near) (tk0 := xf_trials_trial_kinds) (ts0 := xf_trials_trial_spots) (ty0 := xf_trials_trial_yards) (t1 := xv_trials_trial_tents) (t2 := xv_trials_trial_said) (t3 := xv_trials_trial_wall) (t4 := xv_trials_trial_bridge) (t5 := xv_trials_trial_counted) (t6 := xv_trials_trial_day) (t7 := xv_trials_trial_z) (mh := mf_hears) (mn := mf_near) (ml := mv_mostLed) hn hz hw1 hb1 hC1
    have hx : F_X6_place n0 xv_camp_tents xv_camp_said xv_camp_wall xv_camp_bridge xv_camp_counted xv_camp_day xv_camp_z xf_found xf_camp_kinds xf_camp_spots xf_camp_yards xv_trials_trial_tents xv_trials_trial_said xv_trials_trial_wall xv_trials_trial_bridge xv_trials_trial_counted xv_trials_trial_day xv_trials_trial_z xf_trials_ears_gaps xf_trials_ears_hears xf_trials_ears_near xf_trials_trial_kinds xf_trials_trial_spots xf_trials_trial_yards = some (nI o, xf_found, nI (N + 1), sd, nI w, nI br, xv_camp_counted, xv_camp_day, xv_camp_z, g', h', n', tk, ts, Y) := by
      unfold F_X6_place
      rw [h0, hw2, hb2, if_pos (show nI N < 10 from nI_lt (b := 10) hz (by decide)), f1]
      simp only [bd14]
      rw [dvn_k (by decide), show (1000 : Int32) = nI 1000 from rfl]
      first
        | rw [pk_rem (by omega) (by decide) (by decide), show (1000 * q + o) % 1000 = o by omega]
        | rw [pk_div (by omega) (by decide) (by decide), show (1000 * q + o) / 1000 = o by omega]
    have hm : F_X7_place n0 mv_gone mv_mostLed mf_d mf_e mf_found mf_hears mf_near = some (nI o, nI q, d', e', mf_found, m1, m2) := by
      unfold F_X7_place
      rw [rd_l 0 l0 (by decide) (by decide), hd0, if_neg (show ¬ nI N = 10 from fun h => by have := (nI_eq (a := N) (b := 10) (by omega) (by decide)).mp h; omega), hG, f2]
      rfl
    exact ⟨_, _, _, _, _, _, _, _, _, _, _, _, _, _, _, _, _, _, _, _, _, hx, hm, CR_copy hC0 (fun _ _ => rfl) (fun _ _ => rfl) (fun _ _ => rfl) hdd, hK1, hK2, hK3, hF, hT, hS0, hS1, hS2, hS3, hG⟩
  · have hx : F_X6_place n0 xv_camp_tents xv_camp_said xv_camp_wall xv_camp_bridge xv_camp_counted xv_camp_day xv_camp_z xf_found xf_camp_kinds xf_camp_spots xf_camp_yards xv_trials_trial_tents xv_trials_trial_said xv_trials_trial_wall xv_trials_trial_bridge xv_trials_trial_counted xv_trials_trial_day xv_trials_trial_z xf_trials_ears_gaps xf_trials_ears_hears xf_trials_ears_near xf_trials_trial_kinds xf_trials_trial_spots xf_trials_trial_yards = some (-1000005, upd xf_found 4 (xf_found 4 + 1), xv_trials_trial_tents, xv_trials_trial_said, xv_trials_trial_wall, xv_trials_trial_bridge, xv_trials_trial_counted, xv_trials_trial_day, xv_trials_trial_z, xf_trials_ears_gaps, xf_trials_ears_hears, xf_trials_ears_near, xf_trials_trial_kinds, xf_trials_trial_spots, xf_trials_trial_yards) := by
      unfold F_X6_place
      rw [h0, if_neg (show ¬ nI N < 10 from nI_nlt (b := 10) (by omega) (by omega))]
      rfl
    have hm : F_X7_place n0 mv_gone mv_mostLed mf_d mf_e mf_found mf_hears mf_near = some (-1000005, mv_mostLed, mf_d, mf_e, upd mf_found 4 (mf_found 4 + 1), mf_hears, mf_near) := by
      unfold F_X7_place
      rw [rd_l 0 l0 (by decide) (by decide), hd0, if_pos (show nI N = 10 from by rw [show N = 10 by omega]; rfl)]
      rfl
    exact ⟨_, _, _, _, _, _, _, _, _, _, _, _, _, _, _, _, _, _, _, _, _, hx, hm, hC0, hK1, hK2, hK3, fnd_u hF 4 (by decide), hT, hS0, hS1, hS2, hS3, hG⟩
theorem st_leads {n0 : Nat} (hn : 2000000 ≤ n0) : St_leads n0 := by
  intro xv_isKept xf_found xv_camp_tents xv_camp_said xv_camp_wall xv_camp_bridge xv_camp_counted xv_camp_day xv_camp_z xf_camp_kinds xf_camp_yards xf_camp_spots xv_kept_tents xv_kept_said xv_kept_wall xv_kept_bridge xv_kept_counted xv_kept_day xv_kept_z xf_kept_kinds xf_kept_yards xf_kept_spots xv_trials_trial_tents xv_trials_trial_said xv_trials_trial_wall xv_trials_trial_bridge xv_trials_trial_counted xv_trials_trial_day xv_trials_trial_z xf_trials_trial_kinds xf_trials_trial_yards xf_trials_trial_spots xf_trials_ears_hears xf_trials_ears_near xf_trials_ears_gaps xv_tape_size xf_tape_bytes xv_sheets_0_bits xv_sheets_0_size xf_sheets_0_numbers xv_sheets_1_bits xv_sheets_1_size xf_sheets_1_numbers xv_sheets_2_bits xv_sheets_2_size xf_sheets_2_numbers xv_sheets_3_bits xv_sheets_3_size xf_sheets_3_numbers mv_isKept mv_taped mv_gone mv_mostLed mf_d mf_e mf_kept mf_found mf_tape mf_hears mf_near mf_bitsOf mf_sizeOf mf_number hI
  obtain ⟨hC, hK1, hK2, hK3, hF, hT, hS0, hS1, hS2, hS3, hG⟩ := hI
  have hC0 := hC
  obtain ⟨N, hN, h0, hd0, hd1, hd2, hd3, hd4, hd5, hd6, hct, hwl, hbr, hdy, hsa, hA, hKi, hYa, hSp⟩ := hC
  obtain ⟨w, hw1, hw2⟩ := hwl
  obtain ⟨br, hb1, hb2⟩ := hbr
  have hC1 := hC0
  rw [h0, hw2, hb2] at hC1
  by_cases hz : N < 10
  · obtain ⟨o, q, sd, g', h', n', tk, ts, Y, d', e', m1, m2, ho, hq, hdd, f1, f2⟩ := place_core (e := mf_e) (xg := xf_trials_ears_gaps) (xh := xf_trials_ears_hears) (xn := xf_trials_ears_near) (tk0 := xf_trials_trial_kinds) (ts0 := xf_trials_trial_spots) (ty0 := xf_trials_trial_yards) (t1 := xv_trials_trial_tents) (t2 := xv_trials_trial_said) (t3 := xv_trials_trial_wall) (t4 := xv_trials_trial_bridge) (t5 := xv_trials_trial_counted) (t6 := xv_trials_trial_day) (t7 := xv_trials_trial_z) (mh := mf_hears) (mn := mf_near) (ml := mv_mostLed) hn hz hw1 hb1 hC1
    have hx : F_X6_leads n0 xv_camp_tents xv_camp_said xv_camp_wall xv_camp_bridge xv_camp_counted xv_camp_day xv_camp_z xf_found xf_camp_kinds xf_camp_spots xf_camp_yards xv_trials_trial_tents xv_trials_trial_said xv_trials_trial_wall xv_trials_trial_bridge xv_trials_trial_counted xv_trials_trial_day xv_trials_trial_z xf_trials_ears_gaps xf_trials_ears_hears xf_trials_ears_near xf_trials_trial_kinds xf_trials_trial_spots xf_trials_trial_yards = some (nI q, xf_found, nI (N + 1), sd, nI w, nI br, xv_camp_counted, xv_camp_day, xv_camp_z, g', h', n', tk, ts, Y) := by
      unfold F_X6_leads
      rw [h0, hw2, hb2, if_pos (show nI N < 10 from nI_lt (b := 10) hz (by decide)), f1]
      simp only [bd14]
      rw [dvn_k (by decide), show (1000 : Int32) = nI 1000 from rfl]
      first
        | rw [pk_rem (by omega) (by decide) (by decide), show (1000 * q + o) % 1000 = q by omega]
        | rw [pk_div (by omega) (by decide) (by decide), show (1000 * q + o) / 1000 = q by omega]
    have hm : F_X7_leads n0 mv_gone mv_mostLed mf_d mf_e mf_found mf_hears mf_near = some (nI q, nI q, d', e', mf_found, m1, m2) := by
      unfold F_X7_leads
      rw [rd_l 0 l0 (by decide) (by decide), hd0, if_neg (show ¬ nI N = 10 from fun h => by have := (nI_eq (a := N) (b := 10) (by omega) (by decide)).mp h; omega), hG, f2]
      rfl
    exact ⟨_, _, _, _, _, _, _, _, _, _, _, _, _, _, _, _, _, _, _, _, _, hx, hm, CR_copy hC0 (fun _ _ => rfl) (fun _ _ => rfl) (fun _ _ => rfl) hdd, hK1, hK2, hK3, hF, hT, hS0, hS1, hS2, hS3, hG⟩
  · have hx : F_X6_leads n0 xv_camp_tents xv_camp_said xv_camp_wall xv_camp_bridge xv_camp_counted xv_camp_day xv_camp_z xf_found xf_camp_kinds xf_camp_spots xf_camp_yards xv_trials_trial_tents xv_trials_trial_said xv_trials_trial_wall xv_trials_trial_bridge xv_trials_trial_counted xv_trials_trial_day xv_trials_trial_z xf_trials_ears_gaps xf_trials_ears_hears xf_trials_ears_near xf_trials_trial_kinds xf_trials_trial_spots xf_trials_trial_yards = some (-1000005, upd xf_found 4 (xf_found 4 + 1), xv_trials_trial_tents, xv_trials_trial_said, xv_trials_trial_wall, xv_trials_trial_bridge, xv_trials_trial_counted, xv_trials_trial_day, xv_trials_trial_z, xf_trials_ears_gaps, xf_trials_ears_hears, xf_trials_ears_near, xf_trials_trial_kinds, xf_trials_trial_spots, xf_trials_trial_yards) := by
      unfold F_X6_leads
      rw [h0, if_neg (show ¬ nI N < 10 from nI_nlt (b := 10) (by omega) (by omega))]
      rfl
    have hm : F_X7_leads n0 mv_gone mv_mostLed mf_d mf_e mf_found mf_hears mf_near = some (-1000005, mv_mostLed, mf_d, mf_e, upd mf_found 4 (mf_found 4 + 1), mf_hears, mf_near) := by
      unfold F_X7_leads
      rw [rd_l 0 l0 (by decide) (by decide), hd0, if_pos (show nI N = 10 from by rw [show N = 10 by omega]; rfl)]
      rfl
    exact ⟨_, _, _, _, _, _, _, _, _, _, _, _, _, _, _, _, _, _, _, _, _, hx, hm, hC0, hK1, hK2, hK3, fnd_u hF 4 (by decide), hT, hS0, hS1, hS2, hS3, hG⟩
