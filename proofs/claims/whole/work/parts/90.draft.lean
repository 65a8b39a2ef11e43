/-! == 77.place.tpl -/
/-! place, leads -/
theorem whoR_m1 {f : Nat → Int32} {y : Int32} : ∀ (k i : Nat), i + k ≤ 10 → (whoR f y k i = -1 ↔ ∀ j : Nat, i ≤ j → j < i + k → ¬ f j = y) := by
  intro k
  induction k with
  | zero => intro i _; exact ⟨fun _ j h1 h2 => absurd h2 (by omega), fun _ => rfl⟩
  | succ k ih =>
    intro i hi
    show (if f i = y then nI i else whoR f y k (i + 1)) = -1 ↔ _
    by_cases h : f i = y
    · rw [if_pos h]
      exact ⟨fun h2 => absurd h2 (nI_m1 (by omega)), fun h2 => absurd h (h2 i (by omega) (by omega))⟩
    · rw [if_neg h, ih (i + 1) (by omega)]
      constructor
      · intro h2 j h3 h4
        by_cases hj : j = i
        · subst hj; exact h
        · exact h2 j (by omega) (by omega)
      · intro h2 j h3 h4
        exact h2 j (by omega) (by omega)
/-- a yard is free -/
theorem free_ex {yards : Nat → Int32} {N : Nat} (hN : N < 10) : ∃ v : Nat, v < 144 ∧ whoR yards (nI v) N 0 = -1 := by
  by_cases h : ∃ v : Nat, v ≤ N ∧ whoR yards (nI v) N 0 = -1
  · obtain ⟨v, h1, h2⟩ := h
    exact ⟨v, by omega, h2⟩
  · exfalso
    have hx : ∀ v : Nat, v ≤ N → ∃ j : Nat, j < N ∧ whoR yards (nI v) N 0 = nI j ∧ yards j = nI v := fun v hv => by
      rcases whoR_or yards (nI v) N 0 with h1 | ⟨j, a1, a2, a3, a4⟩
      · exact absurd ⟨v, hv, h1⟩ h
      · exact ⟨j, by omega, a3, a4⟩
    obtain ⟨a, b, h1, h2, h3⟩ := php N (fun v => (whoR yards (nI v) N 0).toNatClampNeg) (fun v hv => by
      obtain ⟨j, a1, a2, a3⟩ := hx v hv
      show (whoR yards (nI v) N 0).toNatClampNeg < N
      rw [a2, nI_clamp (by omega)]
      exact a1)
    obtain ⟨j, a1, a2, a3⟩ := hx a (by omega)
    obtain ⟨l, b1, b2, b3⟩ := hx b h2
    have h4 : (whoR yards (nI a) N 0).toNatClampNeg = (whoR yards (nI b) N 0).toNatClampNeg := h3
    rw [a2, b2, nI_clamp (by omega), nI_clamp (by omega)] at h4
    subst h4
    have := (nI_eq (by omega) (by omega)).mp (a3.symm.trans b3)
    omega
theorem fart_some2 {g : Nat → Nat} {sk : Nat → Bool} : ∀ (k i : Nat) (b : Option Nat), ((∃ j : Nat, i ≤ j ∧ j < i + k ∧ sk j = false) ∨ b ≠ none) → fartF g sk k i b ≠ none := by
  intro k
  induction k with
  | zero => intro i b h; exact h.elim (fun ⟨j, h1, h2, _⟩ => absurd h2 (by omega)) id
  | succ k ih =>
    intro i b h
    unfold fartF
    apply ih
    by_cases hs : sk i = true
    · rw [if_pos hs]
      rcases h with ⟨j, h1, h2, h3⟩ | h
      · refine Or.inl ⟨j, ?_, by omega, h3⟩
        by_cases hj : j = i
        · subst hj; rw [hs] at h3; cases h3
        · omega
      · exact Or.inr h
    · rw [if_neg hs]
      refine Or.inr ?_
      cases b with
      | none => exact fun h => by cases h
      | some o =>
        show (if g i ≤ g o then some o else some i) ≠ none
        split
        · exact fun h => by cases h
        · exact fun h => by cases h
def tkn (yards : Nat → Int32) (N v : Nat) : Bool := !decide (whoR yards (nI v) N 0 = -1)
def plN (tk ty : Nat → Int32) (N w br : Nat) (c : Int32) (v : Nat) : Nat := fwN (hH tk (N + 1) w br c (upd ty N (nI v))) (N + 1) N
def bpV (g : Nat → Nat) (b : Option Nat) : Int32 := 1000 * (if bgF g b < 0 then 0 else bgF g b) + cod0 b
theorem bp_r {n0 N w br : Nat} {yards tk ty ts : Nat → Int32} {said c day z : Int32} (hn : 2000000 ≤ n0) (hN : N < 10) (hct : c = 0 ∨ c = 1) (hw : w < 12) (hbr : br < 12) (hYt : yrdOK ty) : ∀ (k i n v : Nat) (b : Option Nat) (g h n' : Nat → Int32), i + k = 144 → k < n → v < 144 → okB i b → gapOK (N + 1) w br c g (upd ty N (nI v)) → ∃ g' h' n'' Y' : Nat → Int32, L_X4_bestPlace_43 (nI (N + 1)) said (nI w) (nI br) c day z tk ts n0 (nI N) yards (nI N) n (cod0 b) (bgF (plN tk ty N w br c) b) (nI i) g h n' (upd ty N (nI v)) = some (bpV (plN tk ty N w br c) (fartF (plN tk ty N w br c) (tkn yards N) k i b), nI (N + 1), said, nI w, nI br, c, day, z, g', h', n'', tk, ts, Y') := by
  intro k
  induction k with
  | zero =>
    intro i n v b g h n' h1 h2 hv hb hg
    obtain ⟨n, rfl⟩ : ∃ q, n = q + 1 := ⟨n - 1, by omega⟩
    rw [L_X4_bestPlace_43_u, if_pos (show (144 : Int32) ≤ nI i from nI_le (a := 144) (by omega) (by omega))]
    exact ⟨_, _, _, _, rfl⟩
  | succ k ih =>
    intro i n v b g h n' h1 h2 hv hb hg
    obtain ⟨n, rfl⟩ : ∃ q, n = q + 1 := ⟨n - 1, by omega⟩
    have hb' : okB (i + 1) b := okB_mono (by omega) hb
    rw [L_X4_bestPlace_43_u, if_neg (show ¬ (144 : Int32) ≤ nI i from nI_ge (b := 144) (by omega) (by decide)), tentOn_s hn (by omega)]
    simp only [bd1, nm]
    rw [nI_1]
    unfold fartF
    by_cases hf : whoR yards (nI i) N 0 = -1
    · obtain ⟨g1, h3, n1, e1, e2, e3, e4⟩ := tryMove_s (N := N + 1) (kinds := tk) (hears := h) (near := n') (v := i) hn (by omega) hct hw hbr (yrd_upd (t := N) hYt hv) (by omega) (Nat.lt_succ_self N) hg
      rw [upd_upd] at e1 e2 e3 e4
      obtain ⟨_, q1, q2⟩ := bsF_ones (P := folB (hH tk (N + 1) w br c (upd ty N (nI i))) (N + 1) N) (N := N + 1) (by omega)
      have hl : plN tk ty N w br c i < 11 := q2
      have q1' : bitE (bsF (folB (hH tk (N + 1) w br c (upd ty N (nI i))) (N + 1) N) (N + 1)) = nI (plN tk ty N w br c i) := q1
      rw [if_pos hf, e1]
      simp only [bd4]
      rw [fol_s hn (by omega) e3 (by omega)]
      simp only []
      rw [bitC_s]
      simp only []
      rw [q1', if_neg (show ¬ tkn yards N i = true from by unfold tkn; rw [decide_eq_true hf]; decide)]
      cases b with
      | none =>
        have hq : ¬ nI (plN tk ty N w br c i) ≤ bgF (plN tk ty N w br c) none := by
          show ¬ nI (plN tk ty N w br c i) ≤ -1
          rw [Int32.le_iff_toInt_le, nI_toInt (by omega)]
          have a3 : (-1 : Int32).toInt = -1 := rfl
          omega
        rw [if_neg hq]
        exact ih (i + 1) n i (some i) g1 h3 n1 (by omega) (by omega) (by omega) (Nat.lt_succ_self i) e2
      | some o =>
        obtain ⟨_, _, p2⟩ := bsF_ones (P := folB (hH tk (N + 1) w br c (upd ty N (nI o))) (N + 1) N) (N := N + 1) (by omega)
        have hl2 : plN tk ty N w br c o < 11 := p2
        simp only []
        by_cases h5 : plN tk ty N w br c i ≤ plN tk ty N w br c o
        · rw [if_pos h5, if_pos (show nI (plN tk ty N w br c i) ≤ bgF (plN tk ty N w br c) (some o) from nI_le h5 (by omega))]
          exact ih (i + 1) n i (some o) g1 h3 n1 (by omega) (by omega) (by omega) hb' e2
        · rw [if_neg h5, if_neg (show ¬ nI (plN tk ty N w br c i) ≤ bgF (plN tk ty N w br c) (some o) from nI_ge (Nat.lt_of_not_le h5) (by omega))]
          exact ih (i + 1) n i (some i) g1 h3 n1 (by omega) (by omega) (by omega) (Nat.lt_succ_self i) e2
    · rw [if_neg hf, if_pos (show tkn yards N i = true from by unfold tkn; rw [decide_eq_false hf]; rfl)]
      exact ih (i + 1) n v b g h n' (by omega) (by omega) hv hb' hg
theorem mbp_r {n0 N w br : Nat} {yards tk ty ts D g1 : Nat → Int32} {said c day z : Int32} (hn : 2000000 ≤ n0) (hN : N < 10) (hw : w < 12) (hbr : br < 12) (hC : CR tk ty ts (nI (N + 1)) said (nI w) (nI br) c day z D) (hyd : ∀ i : Nat, i < N → ty i = yards i) : ∀ (k i n : Nat) (x : Int32) (b : Option Nat) (h n' : Nat → Int32), i + k = 144 → k < n → okB i b → ∃ h' n'' d' : Nat → Int32, (∀ j : Nat, j < 40 → d' j = g1 j) ∧ L_X7_findPlace_27 n0 g1 (nI N) (-1) n (cod0 b) (nI i) (upd D (20 + N) x) h n' (bgF (plN tk ty N w br c) b) = some (cod0 (fartF (plN tk ty N w br c) (tkn yards N) k i b), bgF (plN tk ty N w br c) (fartF (plN tk ty N w br c) (tkn yards N) k i b), d', g1, h', n'') := by
  obtain ⟨hd0, _, hdy⟩ := CR_N (by omega) hC
  intro k
  induction k with
  | zero =>
    intro i n x b h n' h1 h2 hb
    obtain ⟨n, rfl⟩ : ∃ q, n = q + 1 := ⟨n - 1, by omega⟩
    rw [L_X7_findPlace_27_u, if_pos (show (144 : Int32) ≤ nI i from nI_le (a := 144) (by omega) (by omega)), copies_s hn]
    exact ⟨h, n', _, fun j hj => if_pos hj, rfl⟩
  | succ k ih =>
    intro i n x b h n' h1 h2 hb
    obtain ⟨n, rfl⟩ : ∃ q, n = q + 1 := ⟨n - 1, by omega⟩
    have hb' : okB (i + 1) b := okB_mono (by omega) hb
    rw [L_X7_findPlace_27_u, if_neg (show ¬ (144 : Int32) ≤ nI i from nI_ge (b := 144) (by omega) (by decide))]
    simp only [nm]
    rw [wrt_l (20 + N) (a20 N) (by omega) (by decide), upd_upd, whoIs_s (N := N + 1) (yards := fun j => upd D (20 + N) 144 (20 + j)) hn (by omega) (by rw [pk_un (by omega)]; exact hd0) (fun _ _ => rfl)]
    simp only [bd1]
    have hwho : whoR (fun j => upd D (20 + N) 144 (20 + j)) (nI i) (N + 1) 0 = -1 ↔ whoR yards (nI i) N 0 = -1 := by
      rw [whoR_m1 (N + 1) 0 (by omega), whoR_m1 N 0 (by omega)]
      constructor
      · intro h3 j h4 h5
        have h6 := h3 j h4 (by omega)
        rw [pk_un (by omega), hdy j (by omega), hyd j (by omega)] at h6
        exact h6
      · intro h3 j h4 h5
        by_cases hj : j = N
        · subst hj
          rw [pk_us]
          exact fun h6 => by
            have := (nI_eq (a := 144) (b := i) (by decide) (by omega)).mp h6
            omega
        · rw [pk_un (by omega), hdy j (by omega), hyd j (by omega)]
          exact h3 j h4 (by omega)
    unfold fartF
    by_cases hf : whoR yards (nI i) N 0 = -1
    · obtain ⟨h', n'', a1, a2, a3⟩ := mlisten_C (mh := h) (mn := n') hn (by omega) hw hbr (CR_yard (t := N) (y := i) (by omega) (by omega) hC)
      obtain ⟨q1, _, q2⟩ := bsF_ones (P := folB (hH tk (N + 1) w br c (upd ty N (nI i))) (N + 1) N) (N := N + 1) (by omega)
      have hl : plN tk ty N w br c i < 11 := q2
      have q1' : onesE (bsF (folB (hH tk (N + 1) w br c (upd ty N (nI i))) (N + 1) N) (N + 1)) = nI (plN tk ty N w br c i) := q1
      rw [if_pos (hwho.mpr hf), wrt_l (20 + N) (a20 N) (by omega) (by decide), upd_upd, a1]
      simp only [bd2]
      rw [mfol_s hn (by omega) (by rw [pk_un (by omega)]; exact hd0) a2 (by omega)]
      simp only []
      rw [ones_s hn]
      simp only []
      rw [q1', if_neg (show ¬ tkn yards N i = true from by unfold tkn; rw [decide_eq_true hf]; decide)]
      unfold J_X7_findPlace_96
      simp only [nm]
      rw [nI_1]
      cases b with
      | none =>
        have hq : ¬ nI (plN tk ty N w br c i) ≤ bgF (plN tk ty N w br c) none := by
          show ¬ nI (plN tk ty N w br c i) ≤ -1
          rw [Int32.le_iff_toInt_le, nI_toInt (by omega)]
          have a3 : (-1 : Int32).toInt = -1 := rfl
          omega
        rw [if_neg hq, if_neg hq]
        exact ih (i + 1) n (nI i) (some i) h' n'' (by omega) (by omega) (Nat.lt_succ_self i)
      | some o =>
        obtain ⟨_, _, p2⟩ := bsF_ones (P := folB (hH tk (N + 1) w br c (upd ty N (nI o))) (N + 1) N) (N := N + 1) (by omega)
        have hl2 : plN tk ty N w br c o < 11 := p2
        simp only []
        by_cases h5 : plN tk ty N w br c i ≤ plN tk ty N w br c o
        · have hq : nI (plN tk ty N w br c i) ≤ bgF (plN tk ty N w br c) (some o) := nI_le h5 (by omega)
          rw [if_pos h5, if_pos hq, if_pos hq]
          exact ih (i + 1) n (nI i) (some o) h' n'' (by omega) (by omega) hb'
        · have hq : ¬ nI (plN tk ty N w br c i) ≤ bgF (plN tk ty N w br c) (some o) := nI_ge (Nat.lt_of_not_le h5) (by omega)
          rw [if_neg h5, if_neg hq, if_neg hq]
          exact ih (i + 1) n (nI i) (some i) h' n'' (by omega) (by omega) (Nat.lt_succ_self i)
    · rw [if_neg (fun h3 => hf (hwho.mp h3)), if_pos (show tkn yards N i = true from by unfold tkn; rw [decide_eq_false hf]; rfl), nI_1]
      exact ih (i + 1) n 144 b h n' (by omega) (by omega) hb'
/-- both look for the best place -/
theorem place_core {n0 N w br : Nat} {kinds yards spots d e xg xh xn tk0 ts0 ty0 mh mn : Nat → Int32} {said c day z t1 t2 t3 t4 t5 t6 t7 ml : Int32} (hn : 2000000 ≤ n0) (hN : N < 10) (hw : w < 12) (hbr : br < 12) (hC : CR kinds yards spots (nI N) said (nI w) (nI br) c day z d) : ∃ (o q : Nat) (sd : Int32) (g' h' n' tk ts Y d' e' m1 m2 : Nat → Int32), o < 144 ∧ q < 11 ∧ (∀ j : Nat, j < 40 → d' j = d j) ∧ F_X4_bestPlace n0 (nI N) said (nI w) (nI br) c day z t1 t2 t3 t4 t5 t6 t7 kinds spots yards xg xh xn tk0 ts0 ty0 = some (nI (1000 * q + o), nI (N + 1), sd, nI w, nI br, c, day, z, g', h', n', tk, ts, Y) ∧ F_X7_findPlace n0 (-1) ml d e mh mn = some (nI o, nI q, d', e', m1, m2) := by
  obtain ⟨hct, hYa, _, _, _, _, _, _⟩ := CR_parts (by omega) hC
  have hC2 : CR (va_cpy kinds tk0 0 0 10) (va_cpy yards ty0 0 0 10) (va_cpy spots ts0 0 0 10) (nI N) said (nI w) (nI br) c day z d := CR_copy hC (fun i hi => cpy10 hi) (fun i hi => cpy10 hi) (fun i hi => cpy10 hi) (fun _ _ => rfl)
  have hC3 := CR_pitch (k := 0) (y := 0) hN (by decide) (by decide) hC2
  obtain ⟨_, hYt, _, _, _, _, _, _⟩ := CR_parts (by omega) hC3
  obtain ⟨hd0, _, _⟩ := CR_N (by omega) hC
  obtain ⟨g1, h1, n1, a1, a2, a3, a4⟩ := listen_C (xg := xg) (xh := xh) (xn := xn) hn (by omega) hw hbr hC3
  generalize hty : upd (va_cpy yards ty0 0 0 10) N (nI 0) = ty at *
  generalize htk : upd (va_cpy kinds tk0 0 0 10) N (nI 0) = tk at *
  have htyN : ty N = nI 0 := by rw [← hty, pk_us]
  obtain ⟨v, hv1, hv2⟩ := free_ex (yards := yards) hN
  have hsome := fart_some2 (g := plN tk ty N w br c) (sk := tkn yards N) 144 0 none (Or.inl ⟨v, by omega, by omega, by unfold tkn; rw [decide_eq_true hv2]; rfl⟩)
  have hok := fartF_ok (plN tk ty N w br c) (tkn yards N) 144 0 none trivial
  obtain ⟨g2, h2, n2, Y2, c1⟩ := bp_r (said := clrB said N) (day := day) (z := z) (ts := va_cpy spots ts0 0 0 10) (yards := yards) (tk := tk) hn hN hct hw hbr hYt 144 0 n0 0 none g1 h1 n1 (by omega) (by omega) (by omega) trivial (by rw [upd_same htyN]; exact a2)
  obtain ⟨m3, m4, d', f1, f2⟩ := mbp_r (g1 := fun j => if j < 40 then d j else e j) (yards := yards) hn hN hw hbr hC3 (fun i hi => by rw [← hty, pk_un (by omega), cpy10 (by omega)]) 144 0 n0 (comesD d N (nI 0) (nI 0) (20 + N)) none mh mn (by omega) (by omega) trivial
  rw [upd_same htyN, nI_0] at c1
  rw [upd_same rfl, nI_0] at f2
  cases ho : fartF (plN tk ty N w br c) (tkn yards N) 144 0 none with
  | none => exact absurd ho hsome
  | some o =>
    rw [ho] at hok c1 f2
    have ho2 : o < 144 := by
      have h9 : o < 0 + 144 := hok
      omega
    have hq : plN tk ty N w br c o < 11 := (bsF_ones (P := folB (hH tk (N + 1) w br c (upd ty N (nI o))) (N + 1) N) (N := N + 1) (by omega)).2.2
    refine ⟨o, plN tk ty N w br c o, clrB said N, g2, h2, n2, tk, va_cpy spots ts0 0 0 10, Y2, d', (fun j => if j < 40 then d j else e j), m3, m4, ho2, hq, fun j hj => (f1 j hj).trans (if_pos hj), ?_, ?_⟩
    · unfold F_X4_bestPlace
      rw [become_s hct]
      simp only [bd10]
      rw [pitch_s hN]
      simp only [bd5]
      rw [if_neg (nI_m1 (by omega)), gw_0, show (0 : Int32) = nI 0 from rfl, hty, htk, a1]
      simp only [bd3]
      rw [nI_0]
      refine c1.trans ?_
      have e1 : bpV (plN tk ty N w br c) (some o) = nI (1000 * plN tk ty N w br c o + o) := by
        show 1000 * (if nI (plN tk ty N w br c o) < 0 then 0 else nI (plN tk ty N w br c o)) + nI o = _
        rw [if_neg (nI_pos (by omega)), show (1000 : Int32) = nI 1000 from rfl, pk_mul, nI_add]
      rw [e1]
    · unfold F_X7_findPlace
      rw [copies_s hn]
      simp only [bd1]
      rw [show (0 : Int32) = nI 0 from rfl, comes_s hN hd0]
      simp only [bd2]
      rw [nI_0]
      exact f2
theorem st_place {n0 : Nat} (hn : 2000000 ≤ n0) : St_place n0 := by
  intro xv_isKept xf_found xv_camp_tents xv_camp_said xv_camp_wall xv_camp_bridge xv_camp_counted xv_camp_day xv_camp_z xf_camp_kinds xf_camp_yards xf_camp_spots xv_kept_tents xv_kept_said xv_kept_wall xv_kept_bridge xv_kept_counted xv_kept_day xv_kept_z xf_kept_kinds xf_kept_yards xf_kept_spots xv_trials_trial_tents xv_trials_trial_said xv_trials_trial_wall xv_trials_trial_bridge xv_trials_trial_counted xv_trials_trial_day xv_trials_trial_z xf_trials_trial_kinds xf_trials_trial_yards xf_trials_trial_spots xf_trials_ears_hears xf_trials_ears_near xf_trials_ears_gaps xv_tape_size xf_tape_bytes xv_sheets_0_bits xv_sheets_0_size xf_sheets_0_numbers xv_sheets_1_bits xv_sheets_1_size xf_sheets_1_numbers xv_sheets_2_bits xv_sheets_2_size xf_sheets_2_numbers xv_sheets_3_bits xv_sheets_3_size xf_sheets_3_numbers mv_isKept mv_taped mv_gone mv_mostLed mf_d mf_e mf_kept mf_found mf_tape mf_hears mf_near mf_bitsOf mf_sizeOf mf_number hI
  obtain ⟨hC, hK1, hK2, hK3, hF, hT, hS0, hS1, hS2, hS3, hG⟩ := hI
  have hC0 := hC
  obtain ⟨N, hN, h0, hd0, hd1, hd2, hd3, hd4, hd5, hd6, hct, hwl, hbr, hdy, hsa, hA, hKi, hYa, hSp⟩ := hC
  obtain ⟨w, hw1, hw2⟩ := hwl
  obtain ⟨br, hb1, hb2⟩ := hbr
  have hC1 := hC0
  rw [h0, hw2, hb2] at hC1
  by_cases hz : N < 10
  · obtain ⟨o, q, sd, g', h', n', tk, ts, Y, d', e', m1, m2, ho, hq, hdd, f1, f2⟩ := place_core (e := mf_e) (xg := xf_trials_ears_gaps) (xh := xf_trials_ears_hears) (xn := xf_trials_ears_near) (tk0 := xf_trials_trial_kinds) (ts0 := xf_trials_trial_spots) (ty0 := xf_trials_trial_yards) (t1 := xv_trials_trial_tents) (t2 := xv_trials_trial_said) (t3 := xv_trials_trial_wall) (t4 := xv_trials_trial_bridge) (t5 := xv_trials_trial_counted) (t6 := xv_trials_trial_day) (t7 := xv_trials_trial_z) (mh := mf_hears) (mn := mf_near) (ml := mv_mostLed) hn hz hw1 hb1 hC1
    have hx : F_X6_place n0 xv_camp_tents xv_camp_said xv_camp_wall xv_camp_bridge xv_camp_counted xv_camp_day xv_camp_z xf_found xf_camp_kinds xf_camp_spots xf_camp_yards xv_trials_trial_tents xv_trials_trial_said xv_trials_trial_wall xv_trials_trial_bridge xv_trials_trial_counted xv_trials_trial_day xv_trials_trial_z xf_trials_ears_gaps xf_trials_ears_hears xf_trials_ears_near xf_trials_trial_kinds xf_trials_trial_spots xf_trials_trial_yards = some (nI o, xf_found, nI (N + 1), sd, nI w, nI br, xv_camp_counted, xv_camp_day, xv_camp_z, g', h', n', tk, ts, Y) := by
      unfold F_X6_place
      rw [h0, hw2, hb2, if_pos (show nI N < 10 from nI_lt (b := 10) hz (by decide)), f1]
      simp only [bd14]
      rw [dvn_k (by decide), show (1000 : Int32) = nI 1000 from rfl]
      first
        | rw [pk_rem (by omega) (by decide) (by decide), show (1000 * q + o) % 1000 = o by omega]
        | rw [pk_div (by omega) (by decide) (by decide), show (1000 * q + o) / 1000 = o by omega]
    have hm : F_X7_place n0 mv_gone mv_mostLed mf_d mf_e mf_found mf_hears mf_near = some (nI o, nI q, d', e', mf_found, m1, m2) := by
      unfold F_X7_place
      rw [rd_l 0 l0 (by decide) (by decide), hd0, if_neg (show ¬ nI N = 10 from fun h => by have := (nI_eq (a := N) (b := 10) (by omega) (by decide)).mp h; omega), hG, f2]
      rfl
    exact ⟨_, _, _, _, _, _, _, _, _, _, _, _, _, _, _, _, _, _, _, _, _, hx, hm, CR_copy hC0 (fun _ _ => rfl) (fun _ _ => rfl) (fun _ _ => rfl) hdd, hK1, hK2, hK3, hF, hT, hS0, hS1, hS2, hS3, hG⟩
  · have hx : F_X6_place n0 xv_camp_tents xv_camp_said xv_camp_wall xv_camp_bridge xv_camp_counted xv_camp_day xv_camp_z xf_found xf_camp_kinds xf_camp_spots xf_camp_yards xv_trials_trial_tents xv_trials_trial_said xv_trials_trial_wall xv_trials_trial_bridge xv_trials_trial_counted xv_trials_trial_day xv_trials_trial_z xf_trials_ears_gaps xf_trials_ears_hears xf_trials_ears_near xf_trials_trial_kinds xf_trials_trial_spots xf_trials_trial_yards = some (-1000005, upd xf_found 4 (xf_found 4 + 1), xv_trials_trial_tents, xv_trials_trial_said, xv_trials_trial_wall, xv_trials_trial_bridge, xv_trials_trial_counted, xv_trials_trial_day, xv_trials_trial_z, xf_trials_ears_gaps, xf_trials_ears_hears, xf_trials_ears_near, xf_trials_trial_kinds, xf_trials_trial_spots, xf_trials_trial_yards) := by
      unfold F_X6_place
      rw [h0, if_neg (show ¬ nI N < 10 from nI_nlt (b := 10) (by omega) (by omega))]
      rfl
    have hm : F_X7_place n0 mv_gone mv_mostLed mf_d mf_e mf_found mf_hears mf_near = some (-1000005, mv_mostLed, mf_d, mf_e, upd mf_found 4 (mf_found 4 + 1), mf_hears, mf_near) := by
      unfold F_X7_place
      rw [rd_l 0 l0 (by decide) (by decide), hd0, if_pos (show nI N = 10 from by rw [show N = 10 by omega]; rfl)]
      rfl
    exact ⟨_, _, _, _, _, _, _, _, _, _, _, _, _, _, _, _, _, _, _, _, _, hx, hm, hC0, hK1, hK2, hK3, fnd_u hF 4 (by decide), hT, hS0, hS1, hS2, hS3, hG⟩
theorem st_leads {n0 : Nat} (hn : 2000000 ≤ n0) : St_leads n0 := by
  intro xv_isKept xf_found xv_camp_tents xv_camp_said xv_camp_wall xv_camp_bridge xv_camp_counted xv_camp_day xv_camp_z xf_camp_kinds xf_camp_yards xf_camp_spots xv_kept_tents xv_kept_said xv_kept_wall xv_kept_bridge xv_kept_counted xv_kept_day xv_kept_z xf_kept_kinds xf_kept_yards xf_kept_spots xv_trials_trial_tents xv_trials_trial_said xv_trials_trial_wall xv_trials_trial_bridge xv_trials_trial_counted xv_trials_trial_day xv_trials_trial_z xf_trials_trial_kinds xf_trials_trial_yards xf_trials_trial_spots xf_trials_ears_hears xf_trials_ears_near xf_trials_ears_gaps xv_tape_size xf_tape_bytes xv_sheets_0_bits xv_sheets_0_size xf_sheets_0_numbers xv_sheets_1_bits xv_sheets_1_size xf_sheets_1_numbers xv_sheets_2_bits xv_sheets_2_size xf_sheets_2_numbers xv_sheets_3_bits xv_sheets_3_size xf_sheets_3_numbers mv_isKept mv_taped mv_gone mv_mostLed mf_d mf_e mf_kept mf_found mf_tape mf_hears mf_near mf_bitsOf mf_sizeOf mf_number hI
  obtain ⟨hC, hK1, hK2, hK3, hF, hT, hS0, hS1, hS2, hS3, hG⟩ := hI
  have hC0 := hC
  obtain ⟨N, hN, h0, hd0, hd1, hd2, hd3, hd4, hd5, hd6, hct, hwl, hbr, hdy, hsa, hA, hKi, hYa, hSp⟩ := hC
  obtain ⟨w, hw1, hw2⟩ := hwl
  obtain ⟨br, hb1, hb2⟩ := hbr
  have hC1 := hC0
  rw [h0, hw2, hb2] at hC1
  by_cases hz : N < 10
  · obtain ⟨o, q, sd, g', h', n', tk, ts, Y, d', e', m1, m2, ho, hq, hdd, f1, f2⟩ := place_core (e := mf_e) (xg := xf_trials_ears_gaps) (xh := xf_trials_ears_hears) (xn := xf_trials_ears_near) (tk0 := xf_trials_trial_kinds) (ts0 := xf_trials_trial_spots) (ty0 := xf_trials_trial_yards) (t1 := xv_trials_trial_tents) (t2 := xv_trials_trial_said) (t3 := xv_trials_trial_wall) (t4 := xv_trials_trial_bridge) (t5 := xv_trials_trial_counted) (t6 := xv_trials_trial_day) (t7 := xv_trials_trial_z) (mh := mf_hears) (mn := mf_near) (ml := mv_mostLed) hn hz hw1 hb1 hC1
    have hx : F_X6_leads n0 xv_camp_tents xv_camp_said xv_camp_wall xv_camp_bridge xv_camp_counted xv_camp_day xv_camp_z xf_found xf_camp_kinds xf_camp_spots xf_camp_yards xv_trials_trial_tents xv_trials_trial_said xv_trials_trial_wall xv_trials_trial_bridge xv_trials_trial_counted xv_trials_trial_day xv_trials_trial_z xf_trials_ears_gaps xf_trials_ears_hears xf_trials_ears_near xf_trials_trial_kinds xf_trials_trial_spots xf_trials_trial_yards = some (nI q, xf_found, nI (N + 1), sd, nI w, nI br, xv_camp_counted, xv_camp_day, xv_camp_z, g', h', n', tk, ts, Y) := by
      unfold F_X6_leads
      rw [h0, hw2, hb2, if_pos (show nI N < 10 from nI_lt (b := 10) hz (by decide)), f1]
      simp only [bd14]
      rw [dvn_k (by decide), show (1000 : Int32) = nI 1000 from rfl]
      first
        | rw [pk_rem (by omega) (by decide) (by decide), show (1000 * q + o) % 1000 = q by omega]
        | rw [pk_div (by omega) (by decide) (by decide), show (1000 * q + o) / 1000 = q by omega]
    have hm : F_X7_leads n0 mv_gone mv_mostLed mf_d mf_e mf_found mf_hears mf_near = some (nI q, nI q, d', e', mf_found, m1, m2) := by
      unfold F_X7_leads
      rw [rd_l 0 l0 (by decide) (by decide), hd0, if_neg (show ¬ nI N = 10 from fun h => by have := (nI_eq (a := N) (b := 10) (by omega) (by decide)).mp h; omega), hG, f2]
      rfl
    exact ⟨_, _, _, _, _, _, _, _, _, _, _, _, _, _, _, _, _, _, _, _, _, hx, hm, CR_copy hC0 (fun _ _ => rfl) (fun _ _ => rfl) (fun _ _ => rfl) hdd, hK1, hK2, hK3, hF, hT, hS0, hS1, hS2, hS3, hG⟩
  · have hx : F_X6_leads n0 xv_camp_tents xv_camp_said xv_camp_wall xv_camp_bridge xv_camp_counted xv_camp_day xv_camp_z xf_found xf_camp_kinds xf_camp_spots xf_camp_yards xv_trials_trial_tents xv_trials_trial_said xv_trials_trial_wall xv_trials_trial_bridge xv_trials_trial_counted xv_trials_trial_day xv_trials_trial_z xf_trials_ears_gaps xf_trials_ears_hears xf_trials_ears_near xf_trials_trial_kinds xf_trials_trial_spots xf_trials_trial_yards = some (-1000005, upd xf_found 4 (xf_found 4 + 1), xv_trials_trial_tents, xv_trials_trial_said, xv_trials_trial_wall, xv_trials_trial_bridge, xv_trials_trial_counted, xv_trials_trial_day, xv_trials_trial_z, xf_trials_ears_gaps, xf_trials_ears_hears, xf_trials_ears_near, xf_trials_trial_kinds, xf_trials_trial_spots, xf_trials_trial_yards) := by
      unfold F_X6_leads
      rw [h0, if_neg (show ¬ nI N < 10 from nI_nlt (b := 10) (by omega) (by omega))]
      rfl
    have hm : F_X7_leads n0 mv_gone mv_mostLed mf_d mf_e mf_found mf_hears mf_near = some (-1000005, mv_mostLed, mf_d, mf_e, upd mf_found 4 (mf_found 4 + 1), mf_hears, mf_near) := by
      unfold F_X7_leads
      rw [rd_l 0 l0 (by decide) (by decide), hd0, if_pos (show nI N = 10 from by rw [show N = 10 by omega]; rfl)]
      rfl
    exact ⟨_, _, _, _, _, _, _, _, _, _, _, _, _, _, _, _, _, _, _, _, _, hx, hm, hC0, hK1, hK2, hK3, fnd_u hF 4 (by decide), hT, hS0, hS1, hS2, hS3, hG⟩
/-! == 78.law.tpl -/
/-! law -/
theorem hO_kinds {k1 k2 : Nat → Int32} {G : Nat → Nat → Nat} {sk : Nat → Bool} {N t : Nat} (h : k1 t = k2 t) : hO k1 G sk N t = hO k2 G sk N t := by
  unfold hO
  rw [h]
theorem HR_kinds {k1 k2 f y : Nat → Int32} {N w br : Nat} {c : Int32} (h : ∀ j : Nat, j < N → k1 j = k2 j) (hr : HR N f (hH k1 N w br c y)) : HR N f (hH k2 N w br c y) := fun j hj => by
  have e : hH k2 N w br c y j = hH k1 N w br c y j := hO_kinds (h j hj).symm
  rw [e]
  exact hr j hj
theorem nxO_kinds {k1 k2 : Nat → Int32} {H M : Nat → Option Nat} {N : Nat} (h : ∀ j : Nat, j < N → k1 j = k2 j) : nxO k1 H M N = nxO k2 H M N := by
  funext s
  show bitsF _ N 0 0 = bitsF _ N 0 0
  refine bitsF_congr N 0 0 (fun j _ hj => ?_)
  unfold wS
  rw [h j (by omega)]
def kC (k : Nat) : Nat → Int32 := fun _ => nI k
def lwX (ty : Nat → Int32) (N w br : Nat) (c : Int32) (p : Nat) (s : Int32) (k : Nat) : Int32 := itS (nxO (kC k) (hH (kC k) N w br c ty) (hM N w br c ty) N) p s
def lwN (ty : Nat → Int32) (N w br : Nat) (c : Int32) (p : Nat) (s : Int32) (k : Nat) : Nat := pcN (lwX ty N w br c p s k)
theorem lw_v {ty : Nat → Int32} {N w br p k : Nat} {c s : Int32} (hN : N ≤ 10) (hp : 0 < p) : bitE (lwX ty N w br c p s k) = nI (lwN ty N w br c p s k) ∧ onesE (lwX ty N w br c p s k) = nI (lwN ty N w br c p s k) ∧ lwN ty N w br c p s k < 11 := by
  obtain ⟨a, a1, a2⟩ := it_rg (kinds := kC k) (H := hH (kC k) N w br c ty) (M := hM N w br c ty) hN hp s
  have hp := pow10 hN
  have e : lwX ty N w br c p s k = nI a := a2
  unfold lwN
  rw [e]
  exact ⟨by rw [pop_eq a (by omega)]; exact (pop_n a (by omega)).1, (pop_n a (by omega)).1, (pop_n a (by omega)).2⟩
theorem bk_r {n0 N w br p : Nat} {hb ts ty : Nat → Int32} {said c day z : Int32} (hn : 2000000 ≤ n0) (hN : N ≤ 10) (hct : c = 0 ∨ c = 1) (hw : w < 12) (hbr : br < 12) (hYt : yrdOK ty) (hp0 : 0 < p) (hp : p ≤ 60) : ∀ (k i n : Nat) (b : Option Nat) (g h n' K : Nat → Int32), i + k = 7 → k < n → okB i b → ∃ g' h' n'' K' : Nat → Int32, L_X4_bestKind_11 hb (nI N) said (nI w) (nI br) c day z ts ty n0 (nI p) n (cod0 b) (bgF (lwN ty N w br c p said) b) (nI i) g h n' K = some (cod0 (fartF (lwN ty N w br c p said) sk0 k i b), hb, nI N, said, nI w, nI br, c, day, z, g', h', n'', K', ts, ty) := by
  intro k
  induction k with
  | zero =>
    intro i n b g h n' K h1 h2 hb
    obtain ⟨n, rfl⟩ : ∃ q, n = q + 1 := ⟨n - 1, by omega⟩
    rw [L_X4_bestKind_11_u, if_pos (show (7 : Int32) ≤ nI i from nI_le (a := 7) (by omega) (by omega))]
    exact ⟨_, _, _, _, rfl⟩
  | succ k ih =>
    intro i n b g h n' K h1 h2 hb
    obtain ⟨n, rfl⟩ : ∃ q, n = q + 1 := ⟨n - 1, by omega⟩
    have hb' : okB (i + 1) b := okB_mono (by omega) hb
    obtain ⟨g1, h3, n1, e1, e2, e3, e4⟩ := listen_H (kinds := fun j => if j < 10 then nI i else K j) (gaps := g) (hears := h) (near := n') hn hN hct hw hbr hYt
    have hk : ∀ j : Nat, j < N → (fun j => if j < 10 then nI i else K j) j = kC i j := fun j hj => if_pos (by omega)
    have e3' : HR N h3 (hH (kC i) N w br c ty) := HR_kinds hk e3
    have e4' : HR N n1 (hM N w br c ty) := e4
    obtain ⟨q1, _, q2⟩ := lw_v (ty := ty) (w := w) (br := br) (c := c) (s := said) (k := i) hN hp0
    rw [L_X4_bestKind_11_u, if_neg (show ¬ (7 : Int32) ≤ nI i from nI_ge (b := 7) (by omega) (by decide)), fill_all (N := 10) (by decide) (by omega)]
    simp only [bd1]
    rw [e1]
    simp only [bd3]
    unfold F_X4_voteAfter
    rw [said_O hn hN e3' e4' (by omega), nxO_kinds hk]
    simp only [bd1]
    rw [bitC_s]
    simp only [nm]
    rw [show bitE (itS (nxO (kC i) (hH (kC i) N w br c ty) (hM N w br c ty) N) p said) = nI (lwN ty N w br c p said i) from q1, nI_1]
    cases b with
    | none =>
      have hq : ¬ nI (lwN ty N w br c p said i) ≤ bgF (lwN ty N w br c p said) none := by
        show ¬ nI (lwN ty N w br c p said i) ≤ -1
        rw [Int32.le_iff_toInt_le, nI_toInt (by omega)]
        have a3 : (-1 : Int32).toInt = -1 := rfl
        omega
      rw [if_neg hq]
      exact ih (i + 1) n (some i) _ _ _ _ (by omega) (by omega) (Nat.lt_succ_self i)
    | some o =>
      obtain ⟨_, _, l2⟩ := lw_v (ty := ty) (w := w) (br := br) (c := c) (s := said) (k := o) hN hp0
      unfold fartF
      rw [if_neg (show ¬ sk0 i = true from Bool.false_ne_true)]
      simp only []
      by_cases h5 : lwN ty N w br c p said i ≤ lwN ty N w br c p said o
      · rw [if_pos h5, if_pos (show nI (lwN ty N w br c p said i) ≤ bgF (lwN ty N w br c p said) (some o) from nI_le h5 (by omega))]
        exact ih (i + 1) n (some o) _ _ _ _ (by omega) (by omega) hb'
      · rw [if_neg h5, if_neg (show ¬ nI (lwN ty N w br c p said i) ≤ bgF (lwN ty N w br c p said) (some o) from nI_ge (Nat.lt_of_not_le h5) (by omega))]
        exact ih (i + 1) n (some i) _ _ _ _ (by omega) (by omega) (Nat.lt_succ_self i)
/-- the row is d but for the kinds of the tents -/
def lwD (N : Nat) (d t : Nat → Int32) : Prop := ∀ j : Nat, j < 40 → ¬ (10 ≤ j ∧ j < 10 + N) → t j = d j
theorem lw_i {n0 N : Nat} {d mh mn : Nat → Int32} {p1 s5 s6 s4 : Int32} {kk : Int32 → Int32 → Int32 → (Nat → Int32) → (Nat → Int32) → (Nat → Int32) → Option (Int32 × (Nat → Int32) × (Nat → Int32) × (Nat → Int32) × (Nat → Int32) × (Nat → Int32))} (hN : N ≤ 10) (hd0 : d 0 = nI N) : ∀ (k i n : Nat) (t : Nat → Int32), i + k = N → k < n → lwD N d t → (∀ j : Nat, j < i → t (10 + j) = s6) → ∃ t' : Nat → Int32, lwD N d t' ∧ (∀ j : Nat, j < N → t' (10 + j) = s6) ∧ L_X7_law_46 n0 (-1) mh mn p1 s5 s6 kk s4 n (nI i) t = L_X7_law_46 n0 (-1) mh mn p1 s5 s6 kk s4 (0 + 1) (nI N) t' := by
  intro k
  induction k with
  | zero =>
    intro i n t h1 h2 ht hk
    obtain ⟨n, rfl⟩ : ∃ q, n = q + 1 := ⟨n - 1, by omega⟩
    have e : i = N := by omega
    subst e
    refine ⟨t, ht, hk, ?_⟩
    have h9 : t 0 = nI i := (ht 0 (by omega) (by omega)).trans hd0
    rw [L_X7_law_46_u, L_X7_law_46_u, rd_l 0 l0 (by decide) (by decide), rd_l 0 l0 (by decide) (by decide), h9, if_pos (nI_le (Nat.le_refl i) (by omega)), if_pos (nI_le (Nat.le_refl i) (by omega))]
  | succ k ih =>
    intro i n t h1 h2 ht hk
    obtain ⟨n, rfl⟩ : ∃ q, n = q + 1 := ⟨n - 1, by omega⟩
    have h9 : t 0 = nI N := (ht 0 (by omega) (by omega)).trans hd0
    rw [L_X7_law_46_u (n := n), rd_l 0 l0 (by decide) (by decide), h9, if_neg (nI_ge (by omega) (by omega))]
    simp only [nm]
    rw [wrt_l (10 + i) (a10 i) (by omega) (by decide), nI_1]
    refine ih (i + 1) n _ (by omega) (by omega) (fun j hj h3 => ?_) (fun j hj => ?_)
    · rw [pk_un (fun e => h3 ⟨by omega, by omega⟩)]
      exact ht j hj h3
    · by_cases e : j = i
      · subst e; rw [pk_us]
      · rw [pk_un (by omega)]
        exact hk j (by omega)
theorem mbk_r {n0 N w br p : Nat} {tk ty ts d g3 found : Nat → Int32} {said c day z : Int32} (hn : 2000000 ≤ n0) (hN : N ≤ 10) (hw : w < 12) (hbr : br < 12) (hC : CR tk ty ts (nI N) said (nI w) (nI br) c day z d) (hp0 : 0 < p) (hp : p ≤ 60) : ∀ (k i n : Nat) (b : Option Nat) (t h n' : Nat → Int32), i + k = 7 → k < n → okB i b → lwD N d t → ∃ h' n'' d' : Nat → Int32, (∀ j : Nat, j < 40 → d' j = g3 j) ∧ L_X7_law_36 n0 g3 found (-1) (nI p) n (cod0 b) (bgF (lwN ty N w br c p said) b) (nI i) t h n' = some (cod0 (fartF (lwN ty N w br c p said) sk0 k i b), d', g3, found, h', n'') := by
  have hC0 := hC
  obtain ⟨N', w', br', hN', e1, e2, e3, hM, _⟩ := MC_of hC
  have e : N = N' := (nI_eq (by omega) (by omega)).mp e1
  have ew : w = w' := (nI_eq (by omega) (by have := hM.2.2.2.2.2.2.1; omega)).mp e2
  have eb : br = br' := (nI_eq (by omega) (by have := hM.2.2.2.2.2.2.2.1; omega)).mp e3
  subst e
  subst ew
  subst eb
  obtain ⟨m1, m2, m3, m4, m5, m6, m7, m8, m9, m10⟩ := hM
  obtain ⟨_, _, _, _, _, hd6, _, _⟩ := CR_parts hN hC0
  intro k
  induction k with
  | zero =>
    intro i n b t h n' h1 h2 hb ht
    obtain ⟨n, rfl⟩ : ∃ q, n = q + 1 := ⟨n - 1, by omega⟩
    rw [L_X7_law_36_u, if_pos (show (6 : Int32) < nI i from nI_lt (a := 6) (by omega) (by omega)), copies_s hn]
    exact ⟨h, n', _, fun j hj => if_pos hj, rfl⟩
  | succ k ih =>
    intro i n b t h n' h1 h2 hb ht
    obtain ⟨n, rfl⟩ : ∃ q, n = q + 1 := ⟨n - 1, by omega⟩
    have hb' : okB (i + 1) b := okB_mono (by omega) hb
    rw [L_X7_law_36_u, if_neg (show ¬ (6 : Int32) < nI i from nI_nlt (b := i) (a := 6) (by omega) (by decide))]
    obtain ⟨t', a1, a2, a3⟩ := lw_i (n0 := n0) (mh := h) (mn := n') (p1 := nI p) (s5 := bgF (lwN ty N w br c p said) b) (s6 := nI i) (s4 := cod0 b) (kk := L_X7_law_36 n0 g3 found (-1) (nI p) n) hN m2 N 0 n0 t (by omega) (by omega) ht (fun j hj => absurd hj (Nat.not_lt_zero j))
    rw [nI_0] at a3
    rw [a3]
    have q0 : t' 0 = nI N := (a1 0 (by omega) (by omega)).trans m2
    have hM' : MC t' ty N w br c := ⟨m1, q0, (a1 3 (by omega) (by omega)).trans m3, (a1 4 (by omega) (by omega)).trans m4, (a1 5 (by omega) (by omega)).trans m5, m6, m7, m8, fun j hj => (a1 (20 + j) (by omega) (by omega)).trans (m9 j hj), m10⟩
    obtain ⟨h', n'', b1, b2, b3⟩ := mlisten_H (kinds := fun j => t' (10 + j)) (hears := h) (near := n') hn hM' (fun _ _ => rfl)
    have hk : ∀ j : Nat, j < N → (fun j => t' (10 + j)) j = kC i j := fun j hj => a2 j hj
    have b2' : HR N h' (hH (kC i) N w br c ty) := HR_kinds hk b2
    have b3' : HR N n'' (hM N w br c ty) := b3
    obtain ⟨_, r1, r2⟩ := lw_v (ty := ty) (w := w) (br := br) (c := c) (s := said) (k := i) hN hp0
    rw [L_X7_law_46_u, rd_l 0 l0 (by decide) (by decide), q0, if_pos (nI_le (Nat.le_refl N) (by omega)), b1]
    simp only [bd2]
    rw [rd_l 6 l6 (by decide) (by decide), (a1 6 (by omega) (by omega)).trans hd6, ahead_O hn hN q0 (kinds := fun j => t' (10 + j)) (fun _ _ => rfl) b2' b3' (by omega), nxO_kinds hk]
    simp only [bd1]
    rw [ones_s hn]
    simp only []
    rw [show onesE (itS (nxO (kC i) (hH (kC i) N w br c ty) (hM N w br c ty) N) p said) = nI (lwN ty N w br c p said i) from r1]
    unfold J_X7_law_108
    simp only [nm]
    rw [nI_1]
    cases b with
    | none =>
      have hq : ¬ nI (lwN ty N w br c p said i) ≤ bgF (lwN ty N w br c p said) none := by
        show ¬ nI (lwN ty N w br c p said i) ≤ -1
        rw [Int32.le_iff_toInt_le, nI_toInt (by omega)]
        have a3 : (-1 : Int32).toInt = -1 := rfl
        omega
      rw [if_neg hq, if_neg hq]
      exact ih (i + 1) n (some i) t' _ _ (by omega) (by omega) (Nat.lt_succ_self i) a1
    | some o =>
      obtain ⟨_, _, l2⟩ := lw_v (ty := ty) (w := w) (br := br) (c := c) (s := said) (k := o) hN hp0
      unfold fartF
      rw [if_neg (show ¬ sk0 i = true from Bool.false_ne_true)]
      simp only []
      by_cases h5 : lwN ty N w br c p said i ≤ lwN ty N w br c p said o
      · have hq : nI (lwN ty N w br c p said i) ≤ bgF (lwN ty N w br c p said) (some o) := nI_le h5 (by omega)
        rw [if_pos h5, if_pos hq, if_pos hq]
        exact ih (i + 1) n (some o) t' _ _ (by omega) (by omega) hb' a1
      · have hq : ¬ nI (lwN ty N w br c p said i) ≤ bgF (lwN ty N w br c p said) (some o) := nI_ge (Nat.lt_of_not_le h5) (by omega)
        rw [if_neg h5, if_neg hq, if_neg hq]
        exact ih (i + 1) n (some i) t' _ _ (by omega) (by omega) (Nat.lt_succ_self i) a1
theorem st_law {n0 : Nat} (hn : 2000000 ≤ n0) : St_law n0 := by
  intro xv_isKept xf_found xv_camp_tents xv_camp_said xv_camp_wall xv_camp_bridge xv_camp_counted xv_camp_day xv_camp_z xf_camp_kinds xf_camp_yards xf_camp_spots xv_kept_tents xv_kept_said xv_kept_wall xv_kept_bridge xv_kept_counted xv_kept_day xv_kept_z xf_kept_kinds xf_kept_yards xf_kept_spots xf_trials_heardBefore xv_trials_trial_tents xv_trials_trial_said xv_trials_trial_wall xv_trials_trial_bridge xv_trials_trial_counted xv_trials_trial_day xv_trials_trial_z xf_trials_trial_kinds xf_trials_trial_yards xf_trials_trial_spots xf_trials_ears_hears xf_trials_ears_near xf_trials_ears_gaps xv_tape_size xf_tape_bytes xv_sheets_0_bits xv_sheets_0_size xf_sheets_0_numbers xv_sheets_1_bits xv_sheets_1_size xf_sheets_1_numbers xv_sheets_2_bits xv_sheets_2_size xf_sheets_2_numbers xv_sheets_3_bits xv_sheets_3_size xf_sheets_3_numbers mv_isKept mv_taped mv_gone mf_d mf_e mf_kept mf_found mf_tape mf_hears mf_near mf_bitsOf mf_sizeOf mf_number hI p1
  obtain ⟨hC, hK1, hK2, hK3, hF, hT, hS0, hS1, hS2, hS3, hG⟩ := hI
  have hC0 := hC
  obtain ⟨N, hN, h0, hd0, hd1, hd2, hd3, hd4, hd5, hd6, hct, hwl, hbr, hdy, hsa, hA, hKi, hYa, hSp⟩ := hC
  obtain ⟨w, hw1, hw2⟩ := hwl
  obtain ⟨br, hb1, hb2⟩ := hbr
  have hC1 := hC0
  rw [h0, hw2, hb2] at hC1
  by_cases hr : inR 1 60 p1
  · obtain ⟨p, hp0, hp1, hp2⟩ := inR_nI1 (lo := 1) (hi := 60) hr
    obtain ⟨hb, g', h', n', tk, ts, ty, b1, b2, b3, b4, b5, b6, b7, b8⟩ := begin_s (hb0 := xf_trials_heardBefore) (xg := xf_trials_ears_gaps) (xh := xf_trials_ears_hears) (xn := xf_trials_ears_near) (tk0 := xf_trials_trial_kinds) (ts0 := xf_trials_trial_spots) (ty0 := xf_trials_trial_yards) (t1 := xv_trials_trial_tents) (t2 := xv_trials_trial_said) (t3 := xv_trials_trial_wall) (t4 := xv_trials_trial_bridge) (t5 := xv_trials_trial_counted) (t6 := xv_trials_trial_day) (t7 := xv_trials_trial_z) hn hN hw1 hb1 hC1
    obtain ⟨_, hYt, _, _, _, _, _, _⟩ := CR_parts hN b2
    obtain ⟨g2, h2, n2, K2, c1⟩ := bk_r (hb := hb) (ts := ts) (ty := ty) (said := xv_camp_said) (day := xv_camp_day) (z := xv_camp_z) hn hN hct hw1 hb1 hYt (p := p) (by omega) hp1 7 0 n0 none g' h' n' tk (by omega) (by omega) trivial
    obtain ⟨m1, m2, d', f1, f2⟩ := mbk_r (g3 := fun j => if j < 40 then mf_d j else mf_e j) (found := mf_found) hn hN hw1 hb1 b2 (p := p) (by omega) hp1 7 0 n0 none mf_d mf_hears mf_near (by omega) (by omega) trivial (fun _ _ _ => rfl)
    rw [nI_0] at c1 f2
    have hx : F_X6_law n0 xv_camp_tents xv_camp_said xv_camp_wall xv_camp_bridge xv_camp_counted xv_camp_day xv_camp_z xf_found xf_camp_kinds xf_camp_spots xf_camp_yards xf_trials_heardBefore xv_trials_trial_tents xv_trials_trial_said xv_trials_trial_wall xv_trials_trial_bridge xv_trials_trial_counted xv_trials_trial_day xv_trials_trial_z xf_trials_ears_gaps xf_trials_ears_hears xf_trials_ears_near xf_trials_trial_kinds xf_trials_trial_spots xf_trials_trial_yards p1 = some (cod0 (fartF (lwN ty N w br xv_camp_counted p xv_camp_said) sk0 7 0 none), xf_found, hb, nI N, xv_camp_said, nI w, nI br, xv_camp_counted, xv_camp_day, xv_camp_z, g2, h2, n2, K2, ts, ty) := by
      unfold F_X6_law
      rw [h0, hw2, hb2, isFrom_t (a := 1) (b := 60) hr]
      simp only [bd1, one0]
      unfold F_X4_bestKind
      rw [b1]
      simp only [bd14]
      rw [hp2]
      have c1' : L_X4_bestKind_11 hb (nI N) xv_camp_said (nI w) (nI br) xv_camp_counted xv_camp_day xv_camp_z ts ty n0 (nI p) n0 0 (-1) 0 g' h' n' tk = some (cod0 (fartF (lwN ty N w br xv_camp_counted p xv_camp_said) sk0 7 0 none), hb, nI N, xv_camp_said, nI w, nI br, xv_camp_counted, xv_camp_day, xv_camp_z, g2, h2, n2, K2, ts, ty) := c1
      rw [c1']
      rfl
    have hm : F_X7_law n0 mv_gone mf_d mf_e mf_found mf_hears mf_near p1 = some (cod0 (fartF (lwN ty N w br xv_camp_counted p xv_camp_said) sk0 7 0 none), d', (fun j => if j < 40 then mf_d j else mf_e j), mf_found, m1, m2) := by
      unfold F_X7_law
      simp only [nm]
      rw [in_t (a := 1) (b := 60) hr]
      simp only [bd1, one0]
      rw [copies_s hn, hG, hp2]
      exact f2
    exact ⟨_, _, _, _, _, _, _, _, _, _, _, _, _, _, _, _, _, _, _, _, _, hx, hm, CR_copy hC0 (fun _ _ => rfl) (fun _ _ => rfl) (fun _ _ => rfl) (fun j hj => (f1 j hj).trans (if_pos hj)), hK1, hK2, hK3, hF, hT, hS0, hS1, hS2, hS3, hG⟩
  · have hx : F_X6_law n0 xv_camp_tents xv_camp_said xv_camp_wall xv_camp_bridge xv_camp_counted xv_camp_day xv_camp_z xf_found xf_camp_kinds xf_camp_spots xf_camp_yards xf_trials_heardBefore xv_trials_trial_tents xv_trials_trial_said xv_trials_trial_wall xv_trials_trial_bridge xv_trials_trial_counted xv_trials_trial_day xv_trials_trial_z xf_trials_ears_gaps xf_trials_ears_hears xf_trials_ears_near xf_trials_trial_kinds xf_trials_trial_spots xf_trials_trial_yards p1 = some (-1000001, upd xf_found 0 (xf_found 0 + 1), xf_trials_heardBefore, xv_trials_trial_tents, xv_trials_trial_said, xv_trials_trial_wall, xv_trials_trial_bridge, xv_trials_trial_counted, xv_trials_trial_day, xv_trials_trial_z, xf_trials_ears_gaps, xf_trials_ears_hears, xf_trials_ears_near, xf_trials_trial_kinds, xf_trials_trial_spots, xf_trials_trial_yards) := by
      unfold F_X6_law
      rw [isFrom_f (a := 1) (b := 60) hr]
      rfl
    have hm : F_X7_law n0 mv_gone mf_d mf_e mf_found mf_hears mf_near p1 = some (-1000001, mf_d, mf_e, upd mf_found 0 (mf_found 0 + 1), mf_hears, mf_near) := by
      unfold F_X7_law
      simp only [nm]
      rw [in_f (a := 1) (b := 60) hr]
      rfl
    exact ⟨_, _, _, _, _, _, _, _, _, _, _, _, _, _, _, _, _, _, _, _, _, hx, hm, hC0, hK1, hK2, hK3, fnd_u hF 0 (by decide), hT, hS0, hS1, hS2, hS3, hG⟩
/-! == 79.least.tpl -/
/-! least, whom -/
def wnY (tk : Nat → Int32) (N w br : Nat) (c : Int32) (p : Nat) (s : Int32) (y : Nat → Int32) : Bool := decide (N < 2 * pcN (itS (nxO tk (hH tk N w br c y) (hM N w br c y) N) p s))
theorem vt_v {kinds : Nat → Int32} {H M : Nat → Option Nat} {N p : Nat} {s : Int32} (hN : N ≤ 10) (hp : 0 < p) : bitE (itS (nxO kinds H M N) p s) = nI (pcN (itS (nxO kinds H M N) p s)) ∧ onesE (itS (nxO kinds H M N) p s) = nI (pcN (itS (nxO kinds H M N) p s)) ∧ pcN (itS (nxO kinds H M N) p s) < 11 := by
  obtain ⟨a, a1, a2⟩ := it_rg (kinds := kinds) (H := H) (M := M) hN hp s
  have hp := pow10 hN
  rw [a2]
  exact ⟨by rw [pop_eq a (by omega)]; exact (pop_n a (by omega)).1, (pop_n a (by omega)).1, (pop_n a (by omega)).2⟩
theorem won_if {R : Type} {N v : Nat} {a b : R} (hN : N ≤ 10) (hv : v < 11) : (if 2 * nI v ≤ nI N then a else b) = if N < 2 * v then b else a := by
  rw [show (2 : Int32) = nI 2 from rfl, pk_mul]
  by_cases h : N < 2 * v
  · rw [if_pos h, if_neg (nI_ge h (by omega))]
  · rw [if_neg h, if_pos (nI_le (by omega) (by omega))]
theorem isWon_s {n0 N w br p : Nat} {tk y h n' : Nat → Int32} {c said : Int32} (hn : 2000000 ≤ n0) (hN : N ≤ 10) (hp0 : 0 < p) (hp : p ≤ 60) (h3 : HR N h (hH tk N w br c y)) (h4 : HR N n' (hM N w br c y)) : F_X4_isWon n0 (nI N) said h n' tk (nI p) = some (bI (wnY tk N w br c p said y)) := by
  obtain ⟨q1, _, q2⟩ := vt_v (kinds := tk) (H := hH tk N w br c y) (M := hM N w br c y) (s := said) hN hp0
  unfold F_X4_isWon F_X4_voteAfter
  rw [said_O hn hN h3 h4 (by omega)]
  simp only [bd1]
  rw [bitC_s]
  simp only [nm]
  rw [q1, won_if hN q2]
  unfold wnY
  by_cases h : N < 2 * pcN (itS (nxO tk (hH tk N w br c y) (hM N w br c y) N) p said)
  · rw [if_pos h, decide_eq_true h]; rfl
  · rw [if_neg h, decide_eq_false h]; rfl
theorem isMore_C {n0 N w br p : Nat} {tk y ts d mh mn : Nat → Int32} {said c day z : Int32} (hn : 2000000 ≤ n0) (hN : N ≤ 10) (hw : w < 12) (hbr : br < 12) (hp0 : 0 < p) (hp : p ≤ 60) (hC : CR tk y ts (nI N) said (nI w) (nI br) c day z d) : ∃ h' n' : Nat → Int32, F_X7_isMore n0 (-1) d mh mn (nI p) = some (bI (wnY tk N w br c p said y), h', n') := by
  obtain ⟨h', n', a1, a2, a3⟩ := mlisten_C (mh := mh) (mn := mn) hn hN hw hbr hC
  obtain ⟨hd0, _, _⟩ := CR_N hN hC
  obtain ⟨_, _, _, _, _, hd6, _, hk⟩ := CR_parts hN hC
  obtain ⟨_, q1, q2⟩ := vt_v (kinds := tk) (H := hH tk N w br c y) (M := hM N w br c y) (s := said) hN hp0
  refine ⟨h', n', ?_⟩
  unfold F_X7_isMore
  rw [a1]
  simp only [bd2]
  rw [rd_l 6 l6 (by decide) (by decide), hd6, ahead_O hn hN hd0 hk a2 a3 (by omega)]
  simp only [bd1]
  rw [ones_s hn]
  simp only [nm]
  rw [rd_l 0 l0 (by decide) (by decide), hd0, q1, won_if hN q2]
  unfold wnY
  by_cases h : N < 2 * pcN (itS (nxO tk (hH tk N w br c y) (hM N w br c y) N) p said)
  · rw [if_pos h, decide_eq_true h]; rfl
  · rw [if_neg h, decide_eq_false h]; rfl
/-- the least move so far: how far, and tent and yard -/
def lsL : Option (Nat × Nat) → Nat → Bool
  | none, _ => true
  | some q, f => decide (f < q.1)
theorem lsL_some {q : Nat × Nat} {f : Nat} : lsL (some q) f = decide (f < q.1) := rfl
def lsS (fr won : Bool) (far m : Nat) (b : Option (Nat × Nat)) : Option (Nat × Nat) := if (fr && lsL b far && won) = true then some (far, m) else b
def lsF (fr won : Nat → Bool) (far : Nat → Nat) (t : Nat) : Nat → Nat → Option (Nat × Nat) → Option (Nat × Nat)
  | 0, _, b => b
  | k + 1, i, b => lsF fr won far t k (i + 1) (lsS (fr i) (won i) (far i) (1000 * t + i) b)
def lsO (fr : Nat → Bool) (won : Nat → Nat → Bool) (far : Nat → Nat → Nat) : Nat → Nat → Option (Nat × Nat) → Option (Nat × Nat)
  | 0, _, b => b
  | k + 1, t, b => lsO fr won far k (t + 1) (lsF fr (won t) (far t) t 144 0 b)
def okL : Option (Nat × Nat) → Prop
  | none => True
  | some q => 0 < q.1 ∧ q.1 < 1100 ∧ q.2 < 10000
def eB : Option (Nat × Nat) → Int32
  | none => -1
  | some q => nI (100000 * q.1 + q.2)
def eF : Option (Nat × Nat) → Int32
  | none => 1000000
  | some q => nI q.1
def mF : Option (Nat × Nat) → Int32
  | none => -1
  | some q => nI q.1
def mW : Option (Nat × Nat) → Int32
  | none => 0
  | some q => nI q.2
def frB (yards : Nat → Int32) (N v : Nat) : Bool := decide (whoR yards (nI v) N 0 = -1)
def wnT (tk ty : Nat → Int32) (N w br : Nat) (c : Int32) (p : Nat) (s : Int32) (t v : Nat) : Bool := wnY tk N w br c p s (upd ty t (nI v))
def faT (yards : Nat → Int32) (w br : Nat) (c : Int32) (t v : Nat) : Nat := farN w br (decide (c = 1)) (yN yards t) v
theorem fa_pos {yards : Nat → Int32} {N w br t v : Nat} {c : Int32} (hN : N ≤ 10) (hY : yrdOK yards) (ht : t < N) (h : frB yards N v = true) : 0 < faT yards w br c t v := by
  have h1 := of_decide_eq_true h
  rw [whoR_m1 N 0 (by omega)] at h1
  have h2 := h1 t (by omega) (by omega)
  obtain ⟨a1, a2⟩ := yN_of (by decide) (hY t (by omega))
  exact farN_pos (fun e => h2 (by rw [a1, e]))
theorem fa_lt {yards : Nat → Int32} {w br t v : Nat} {c : Int32} (hY : yrdOK yards) (hbr : br < 12) (ht : t < 10) (hv : v < 144) : faT yards w br c t v < 1100 := farN_lt (yN_of (by decide) (hY t ht)).2 hv hbr
theorem lsS_ok {yards : Nat → Int32} {N w br t v : Nat} {c : Int32} {won : Bool} {b : Option (Nat × Nat)} (hN : N ≤ 10) (hY : yrdOK yards) (hbr : br < 12) (ht : t < N) (hv : v < 144) (hb : okL b) : okL (lsS (frB yards N v) won (faT yards w br c t v) (1000 * t + v) b) := by
  unfold lsS
  by_cases h : (frB yards N v && lsL b (faT yards w br c t v) && won) = true
  · rw [if_pos h]
    have hf : frB yards N v = true := by
      rw [Bool.and_eq_true, Bool.and_eq_true] at h
      exact h.1.1
    exact ⟨fa_pos hN hY ht hf, fa_lt hY hbr (by omega) hv, by show 1000 * t + v < 10000; omega⟩
  · rw [if_neg h]
    exact hb
theorem lsF_ok {yards : Nat → Int32} {N w br t : Nat} {c : Int32} {won : Nat → Bool} (hN : N ≤ 10) (hY : yrdOK yards) (hbr : br < 12) (ht : t < N) : ∀ (k i : Nat) (b : Option (Nat × Nat)), i + k ≤ 144 → okL b → okL (lsF (frB yards N) won (faT yards w br c t) t k i b) := by
  intro k
  induction k with
  | zero => intro i b _ h; exact h
  | succ k ih =>
    intro i b h1 h
    exact ih (i + 1) _ (by omega) (lsS_ok hN hY hbr ht (by omega) h)
theorem lsO_ok {yards : Nat → Int32} {N w br : Nat} {c : Int32} {won : Nat → Nat → Bool} (hN : N ≤ 10) (hY : yrdOK yards) (hbr : br < 12) : ∀ (k t : Nat) (b : Option (Nat × Nat)), t + k ≤ N → okL b → okL (lsO (frB yards N) won (faT yards w br c) k t b) := by
  intro k
  induction k with
  | zero => intro t b _ h; exact h
  | succ k ih =>
    intro t b h1 h
    exact ih (t + 1) _ (by omega) (lsF_ok hN hY hbr (by omega) 144 0 b (by omega) h)
theorem eF_cmp {b : Option (Nat × Nat)} {f : Nat} (hb : okL b) (hf : f < 1100) : (eF b ≤ nI f) ↔ lsL b f = false := by
  cases b with
  | none => exact ⟨fun h => absurd h (nI_ge (b := 1000000) (by omega) (by decide)), fun h => by cases h⟩
  | some q =>
    obtain ⟨h1, h2, h3⟩ := hb
    show nI q.1 ≤ nI f ↔ decide (f < q.1) = false
    rw [nI_leI (by omega) (by omega), decide_eq_false_iff_not]
    omega
theorem ls_new {w t v far : Nat} : (100000 : Int32) * nI far + 1000 * nI t + nI v = nI (100000 * far + (1000 * t + v)) := by
  rw [show (100000 : Int32) = nI 100000 from rfl, show (1000 : Int32) = nI 1000 from rfl, pk_mul, pk_mul, nI_add, nI_add]
  congr 1
  omega
theorem lm_i {n0 N w br t p : Nat} {yards tk ty : Nat → Int32} {said c : Int32} {kk : Int32 → Int32 → Int32 → (Nat → Int32) → (Nat → Int32) → (Nat → Int32) → (Nat → Int32) → Option (Int32 × (Nat → Int32) × Int32 × Int32 × Int32 × Int32 × Int32 × Int32 × Int32 × (Nat → Int32) × (Nat → Int32) × (Nat → Int32) × (Nat → Int32) × (Nat → Int32) × (Nat → Int32))} (hn : 2000000 ≤ n0) (hN : N ≤ 10) (hct : c = 0 ∨ c = 1) (hw : w < 12) (hbr : br < 12) (hY : yrdOK yards) (hYt : yrdOK ty) (hyy : ty t = yards t) (ht : t < N) (hp0 : 0 < p) (hp : p ≤ 60) : ∀ (k i n v : Nat) (b : Option (Nat × Nat)) (g h n' : Nat → Int32), i + k = 144 → k < n → v < 144 → okL b → gapOK N w br c g (upd ty t (nI v)) → ∃ g' h' n'' : Nat → Int32, gapOK N w br c g' ty ∧ L_X4_leastMove_37 yards (nI t) n0 (nI N) (nI w) (nI br) c tk kk (nI w) (nI br) c (nI N) said (nI p) n (eB b) (eF b) (nI i) g h n' (upd ty t (nI v)) = kk (eB (lsF (frB yards N) (wnT tk ty N w br c p said t) (faT yards w br c t) t k i b)) (eF (lsF (frB yards N) (wnT tk ty N w br c p said t) (faT yards w br c t) t k i b)) (nI (t + 1)) g' h' n'' ty := by
  obtain ⟨ya, yb⟩ := yN_of (by decide) (hY t (by omega))
  intro k
  induction k with
  | zero =>
    intro i n v b g h n' h1 h2 hv hb hg
    obtain ⟨n, rfl⟩ : ∃ q, n = q + 1 := ⟨n - 1, by omega⟩
    obtain ⟨g1, h3, n1, e1, e2, e3, e4⟩ := tryMove_s (kinds := tk) (hears := h) (near := n') (v := yN yards t) hn hN hct hw hbr (yrd_upd (t := t) hYt hv) yb ht hg
    rw [upd_upd, upd_same (hyy.trans ya)] at e1 e2
    rw [L_X4_leastMove_37_u, if_pos (show (144 : Int32) ≤ nI i from nI_le (a := 144) (by omega) (by omega)), rd_nI (by omega) (by decide), ya, e1]
    simp only [bd4, nm]
    rw [nI_1]
    exact ⟨g1, h3, n1, e2, rfl⟩
  | succ k ih =>
    intro i n v b g h n' h1 h2 hv hb hg
    obtain ⟨n, rfl⟩ : ∃ q, n = q + 1 := ⟨n - 1, by omega⟩
    have hfl := fa_lt (w := w) (c := c) hY hbr (t := t) (by omega) (v := i) (by omega)
    have hok := lsS_ok (w := w) (c := c) (won := wnT tk ty N w br c p said t i) hN hY hbr ht (v := i) (by omega) hb
    rw [L_X4_leastMove_37_u, if_neg (show ¬ (144 : Int32) ≤ nI i from nI_ge (b := 144) (by omega) (by decide)), rd_nI (by omega) (by decide), ya, apart_s hct hw hbr yb (by omega)]
    simp only [bd1, nm]
    rw [show farN w br (decide (c = 1)) (yN yards t) i = faT yards w br c t i from rfl, nI_1]
    have hst : lsF (frB yards N) (wnT tk ty N w br c p said t) (faT yards w br c t) t (k + 1) i b = lsF (frB yards N) (wnT tk ty N w br c p said t) (faT yards w br c t) t k (i + 1) (lsS (frB yards N i) (wnT tk ty N w br c p said t i) (faT yards w br c t i) (1000 * t + i) b) := rfl
    rw [hst]
    by_cases hl : lsL b (faT yards w br c t i) = true
    · rw [if_neg (fun h9 => by rw [eF_cmp hb hfl, hl] at h9; cases h9), tentOn_s hn hN]
      simp only []
      by_cases hf : whoR yards (nI i) N 0 = -1
      · have hfr : frB yards N i = true := decide_eq_true hf
        obtain ⟨g1, h3, n1, e1, e2, e3, e4⟩ := tryMove_s (kinds := tk) (hears := h) (near := n') (v := i) hn hN hct hw hbr (yrd_upd (t := t) hYt hv) (by omega) ht hg
        rw [upd_upd] at e1 e2 e3 e4
        rw [if_pos hf, e1]
        simp only [bd4]
        rw [isWon_s hn hN hp0 hp e3 e4]
        simp only []
        cases hwn : wnY tk N w br c p said (upd ty t (nI i)) with
        | false =>
          have hs : lsS (frB yards N i) (wnT tk ty N w br c p said t i) (faT yards w br c t i) (1000 * t + i) b = b := by
            unfold lsS
            rw [show wnT tk ty N w br c p said t i = false from hwn, Bool.and_false]
            rfl
          rw [hs, if_pos bI0]
          exact ih (i + 1) n i b g1 h3 n1 (by omega) (by omega) (by omega) hb e2
        | true =>
          have hs : lsS (frB yards N i) (wnT tk ty N w br c p said t i) (faT yards w br c t i) (1000 * t + i) b = some (faT yards w br c t i, 1000 * t + i) := by
            unfold lsS
            rw [show wnT tk ty N w br c p said t i = true from hwn, hfr, hl]
            rfl
          rw [hs] at hok
          rw [hs, if_neg bI1, ls_new (w := 0)]
          exact ih (i + 1) n i (some (faT yards w br c t i, 1000 * t + i)) g1 h3 n1 (by omega) (by omega) (by omega) hok e2
      · have hs : lsS (frB yards N i) (wnT tk ty N w br c p said t i) (faT yards w br c t i) (1000 * t + i) b = b := by
          unfold lsS
          rw [show frB yards N i = false from decide_eq_false hf]
          rfl
        rw [if_neg hf, hs]
        exact ih (i + 1) n v b g h n' (by omega) (by omega) hv hb hg
    · have hl2 : lsL b (faT yards w br c t i) = false := by
        cases hq : lsL b (faT yards w br c t i) with
        | false => rfl
        | true => exact absurd hq hl
      have hs : lsS (frB yards N i) (wnT tk ty N w br c p said t i) (faT yards w br c t i) (1000 * t + i) b = b := by
        unfold lsS
        rw [hl2, Bool.and_false, Bool.false_and]
        rfl
      rw [if_pos ((eF_cmp hb hfl).mpr hl2), hs]
      exact ih (i + 1) n v b g h n' (by omega) (by omega) hv hb hg
theorem lm_o {n0 N w br p : Nat} {yards tk ty ts hB : Nat → Int32} {said c day z : Int32} (hn : 2000000 ≤ n0) (hN : N ≤ 10) (hct : c = 0 ∨ c = 1) (hw : w < 12) (hbr : br < 12) (hY : yrdOK yards) (hYt : yrdOK ty) (hyy : ∀ i : Nat, i < 10 → ty i = yards i) (hp0 : 0 < p) (hp : p ≤ 60) : ∀ (k t n : Nat) (b : Option (Nat × Nat)) (g h n' : Nat → Int32), t + k = N → k < n → okL b → gapOK N w br c g ty → ∃ g' h' n'' : Nat → Int32, L_X4_leastMove_22 (nI N) hB (nI N) said (nI w) (nI br) c day z tk ts yards n0 (nI w) (nI br) c (nI p) n (eB b) (eF b) (nI t) g h n' ty = some (eB (lsO (frB yards N) (wnT tk ty N w br c p said) (faT yards w br c) k t b), hB, nI N, said, nI w, nI br, c, day, z, g', h', n'', tk, ts, ty) := by
  intro k
  induction k with
  | zero =>
    intro t n b g h n' h1 h2 hb hg
    obtain ⟨n, rfl⟩ : ∃ q, n = q + 1 := ⟨n - 1, by omega⟩
    rw [L_X4_leastMove_22_u, if_pos (nI_le (by omega) (by omega))]
    exact ⟨_, _, _, rfl⟩
  | succ k ih =>
    intro t n b g h n' h1 h2 hb hg
    obtain ⟨n, rfl⟩ : ∃ q, n = q + 1 := ⟨n - 1, by omega⟩
    obtain ⟨v, hv1, hv2⟩ := hYt t (by omega)
    obtain ⟨g1, h3, n1, e1, e2⟩ := lm_i (tk := tk) (said := said) (kk := L_X4_leastMove_22 (nI N) hB (nI N) said (nI w) (nI br) c day z tk ts yards n0 (nI w) (nI br) c (nI p) n) hn hN hct hw hbr hY hYt (hyy t (by omega)) (t := t) (by omega) hp0 hp 144 0 n0 v b g h n' (by omega) (by omega) hv1 hb (by rw [upd_same hv2]; exact hg)
    rw [upd_same hv2, nI_0] at e2
    rw [L_X4_leastMove_22_u, if_neg (nI_ge (by omega) (by omega)), e2]
    exact ih (t + 1) n _ g1 h3 n1 (by omega) (by omega) (lsF_ok hN hY hbr (by omega) 144 0 b (by omega) hb) e1
theorem CR_wb {kinds yards spots d : Nat → Int32} {N : Nat} {said wall bridge counted day z : Int32} (hC : CR kinds yards spots (nI N) said wall bridge counted day z d) : d 3 = wall ∧ d 4 = bridge := by
  obtain ⟨M, hM, h0, hd0, hd1, hd2, hd3, hd4, hd5, hd6, hct, hwl, hbr, hdy, hsa, hA, hKi, hYa, hSp⟩ := hC
  exact ⟨hd3, hd4⟩
theorem mm_i {n0 N w br t p : Nat} {yards tk ty ts d : Nat → Int32} {said c day z : Int32} {kk : Int32 → (Nat → Int32) → (Nat → Int32) → (Nat → Int32) → Int32 → Int32 → Option (Int32 × Int32 × (Nat → Int32) × (Nat → Int32) × (Nat → Int32))} (hn : 2000000 ≤ n0) (hN : N ≤ 10) (hw : w < 12) (hbr : br < 12) (hY : yrdOK yards) (hC : CR tk ty ts (nI N) said (nI w) (nI br) c day z d) (hyd : ∀ i : Nat, i < 10 → d (20 + i) = yards i) (ht : t < N) (hp0 : 0 < p) (hp : p ≤ 60) : ∀ (k i n : Nat) (b : Option (Nat × Nat)) (h n' : Nat → Int32), i + k = 144 → k < n → okL b → ∃ h' n'' : Nat → Int32, L_X7_findLeast_31 (nI t) kk n0 (d (20 + t)) (-1) (nI p) n (nI i) d h n' (mF b) (mW b) = kk (nI (t + 1)) d h' n'' (mF (lsF (frB yards N) (wnT tk ty N w br c p said t) (faT yards w br c t) t k i b)) (mW (lsF (frB yards N) (wnT tk ty N w br c p said t) (faT yards w br c t) t k i b)) := by
  obtain ⟨ya, yb⟩ := yN_of (by decide) (hY t (by omega))
  obtain ⟨hd0, _, _⟩ := CR_N hN hC
  obtain ⟨hct, _, _, _, _, hd6, hd5, hk⟩ := CR_parts hN hC
  obtain ⟨hd3, hd4⟩ := CR_wb hC
  intro k
  induction k with
  | zero =>
    intro i n b h n' h1 h2 hb
    obtain ⟨n, rfl⟩ : ∃ q, n = q + 1 := ⟨n - 1, by omega⟩
    rw [L_X7_findLeast_31_u, if_pos (show (144 : Int32) ≤ nI i from nI_le (a := 144) (by omega) (by omega)), nm, nI_1]
    exact ⟨h, n', rfl⟩
  | succ k ih =>
    intro i n b h n' h1 h2 hb
    obtain ⟨n, rfl⟩ : ∃ q, n = q + 1 := ⟨n - 1, by omega⟩
    have hfl := fa_lt (w := w) (c := c) hY hbr (t := t) (by omega) (v := i) (by omega)
    have hok := lsS_ok (w := w) (c := c) (won := wnT tk ty N w br c p said t i) hN hY hbr ht (v := i) (by omega) hb
    have hfo : F_X7_farOf n0 d (d (20 + t)) (nI i) = some (nI (faT yards w br c t i)) := by
      rw [hyd t (by omega), ya]
      exact farOf_s hct hd3 hd4 hd5 hw hbr yb (by omega)
    rw [L_X7_findLeast_31_u, if_neg (show ¬ (144 : Int32) ≤ nI i from nI_ge (b := 144) (by omega) (by decide)), hfo, whoIs_s hn hN hd0 hyd]
    simp only [bd1]
    have hst : lsF (frB yards N) (wnT tk ty N w br c p said t) (faT yards w br c t) t (k + 1) i b = lsF (frB yards N) (wnT tk ty N w br c p said t) (faT yards w br c t) t k (i + 1) (lsS (frB yards N i) (wnT tk ty N w br c p said t i) (faT yards w br c t i) (1000 * t + i) b) := rfl
    rw [hst]
    have h78 : lsS (frB yards N i) (wnT tk ty N w br c p said t i) (faT yards w br c t i) (1000 * t + i) b = b → ∃ h' n'' : Nat → Int32, J_X7_findLeast_78 (nI i) (L_X7_findLeast_31 (nI t) kk n0 (d (20 + t)) (-1) (nI p) n) d h n' (mF b) (mW b) (nI t) n0 (-1) (nI p) (d (20 + t)) (nI (faT yards w br c t i)) = kk (nI (t + 1)) d h' n'' (mF (lsF (frB yards N) (wnT tk ty N w br c p said t) (faT yards w br c t) t k (i + 1) (lsS (frB yards N i) (wnT tk ty N w br c p said t i) (faT yards w br c t i) (1000 * t + i) b))) (mW (lsF (frB yards N) (wnT tk ty N w br c p said t) (faT yards w br c t) t k (i + 1) (lsS (frB yards N i) (wnT tk ty N w br c p said t i) (faT yards w br c t i) (1000 * t + i) b))) := by
      intro hs
      rw [hs]
      unfold J_X7_findLeast_78 J_X7_findLeast_79
      rw [if_pos rfl, nm, nI_1]
      exact ih (i + 1) n b h n' (by omega) (by omega) hb
    have h74 : frB yards N i = true → lsL b (faT yards w br c t i) = true → ∃ h' n'' : Nat → Int32, J_X7_findLeast_74 (nI i) (L_X7_findLeast_31 (nI t) kk n0 (d (20 + t)) (-1) (nI p) n) d h n' (mF b) (mW b) (nI t) n0 (-1) (nI p) (d (20 + t)) (nI (faT yards w br c t i)) = kk (nI (t + 1)) d h' n'' (mF (lsF (frB yards N) (wnT tk ty N w br c p said t) (faT yards w br c t) t k (i + 1) (lsS (frB yards N i) (wnT tk ty N w br c p said t i) (faT yards w br c t i) (1000 * t + i) b))) (mW (lsF (frB yards N) (wnT tk ty N w br c p said t) (faT yards w br c t) t k (i + 1) (lsS (frB yards N i) (wnT tk ty N w br c p said t i) (faT yards w br c t i) (1000 * t + i) b))) := by
      intro hfr hl
      obtain ⟨m3, m4, k3⟩ := isMore_C (mh := h) (mn := n') hn hN hw hbr hp0 hp (CR_yard (t := t) (y := i) (by omega) (by omega) hC)
      unfold J_X7_findLeast_74 J_X7_findLeast_79
      rw [if_neg (by decide)]
      simp only [nm]
      rw [wrt_l (20 + t) (a20 t) (by omega) (by decide), k3]
      simp only [bd3]
      unfold J_X7_findLeast_126
      simp only [nm]
      rw [wrt_l (20 + t) (a20 t) (by omega) (by decide), wrt_l (20 + t) (a20 t) (by omega) (by decide), upd_upd, upd_same rfl, nI_1]
      cases hwn : wnY tk N w br c p said (upd ty t (nI i)) with
      | false =>
        have hs : lsS (frB yards N i) (wnT tk ty N w br c p said t i) (faT yards w br c t i) (1000 * t + i) b = b := by
          unfold lsS
          rw [show wnT tk ty N w br c p said t i = false from hwn, Bool.and_false]
          rfl
        rw [hs, if_pos bI0]
        exact ih (i + 1) n b m3 m4 (by omega) (by omega) hb
      | true =>
        have hs : lsS (frB yards N i) (wnT tk ty N w br c p said t i) (faT yards w br c t i) (1000 * t + i) b = some (faT yards w br c t i, 1000 * t + i) := by
          unfold lsS
          rw [show wnT tk ty N w br c p said t i = true from hwn, hfr, hl]
          rfl
        rw [hs] at hok
        rw [hs, if_neg bI1, show (1000 : Int32) * nI t + nI i = nI (1000 * t + i) from by rw [show (1000 : Int32) = nI 1000 from rfl, pk_mul, nI_add]]
        exact ih (i + 1) n (some (faT yards w br c t i, 1000 * t + i)) m3 m4 (by omega) (by omega) hok
    by_cases hf : whoR yards (nI i) N 0 = -1
    · rw [if_pos hf]
      have hfr : frB yards N i = true := decide_eq_true hf
      cases b with
      | none =>
        rw [if_pos (show mF none < 0 from by decide)]
        exact h74 hfr rfl
      | some q =>
        obtain ⟨o1, o2, o3⟩ := hb
        rw [if_neg (show ¬ mF (some q) < 0 from nI_pos (by omega))]
        by_cases h5 : q.1 ≤ faT yards w br c t i
        · rw [if_pos (show mF (some q) ≤ nI (faT yards w br c t i) from nI_le h5 (by omega))]
          refine h78 ?_
          unfold lsS
          rw [show lsL (some q) (faT yards w br c t i) = false from by rw [lsL_some]; exact decide_eq_false (by omega), Bool.and_false, Bool.false_and]
          rfl
        · rw [if_neg (show ¬ mF (some q) ≤ nI (faT yards w br c t i) from nI_ge (by omega) (by omega))]
          exact h74 hfr (by rw [lsL_some]; exact decide_eq_true (by omega))
    · rw [if_neg hf]
      refine h78 ?_
      unfold lsS
      rw [show frB yards N i = false from decide_eq_false hf]
      rfl
theorem mm_o {n0 N w br p : Nat} {yards tk ty ts d : Nat → Int32} {said c day z : Int32} (hn : 2000000 ≤ n0) (hN : N ≤ 10) (hw : w < 12) (hbr : br < 12) (hY : yrdOK yards) (hC : CR tk ty ts (nI N) said (nI w) (nI br) c day z d) (hyd : ∀ i : Nat, i < 10 → d (20 + i) = yards i) (hp0 : 0 < p) (hp : p ≤ 60) : ∀ (k t n : Nat) (b : Option (Nat × Nat)) (h n' : Nat → Int32), t + k = N → k < n → okL b → ∃ h' n'' : Nat → Int32, L_X7_findLeast_12 n0 (-1) (nI p) n (nI t) d h n' (mF b) (mW b) = some (mF (lsO (frB yards N) (wnT tk ty N w br c p said) (faT yards w br c) k t b), mW (lsO (frB yards N) (wnT tk ty N w br c p said) (faT yards w br c) k t b), d, h', n'') := by
  obtain ⟨hd0, _, _⟩ := CR_N hN hC
  intro k
  induction k with
  | zero =>
    intro t n b h n' h1 h2 hb
    obtain ⟨n, rfl⟩ : ∃ q, n = q + 1 := ⟨n - 1, by omega⟩
    rw [L_X7_findLeast_12_u, rd_l 0 l0 (by decide) (by decide), hd0, if_pos (nI_le (by omega) (by omega))]
    exact ⟨_, _, rfl⟩
  | succ k ih =>
    intro t n b h n' h1 h2 hb
    obtain ⟨n, rfl⟩ : ∃ q, n = q + 1 := ⟨n - 1, by omega⟩
    obtain ⟨h3, n1, e2⟩ := mm_i (kk := L_X7_findLeast_12 n0 (-1) (nI p) n) hn hN hw hbr hY hC hyd (t := t) (by omega) hp0 hp 144 0 n0 b h n' (by omega) (by omega) hb
    rw [nI_0] at e2
    rw [L_X7_findLeast_12_u, rd_l 0 l0 (by decide) (by decide), hd0, if_neg (nI_ge (by omega) (by omega)), mYd (by omega)]
    simp only [bd1]
    rw [e2]
    exact ih (t + 1) n _ h3 n1 (by omega) (by omega) (lsF_ok hN hY hbr (by omega) 144 0 b (by omega) hb)
theorem st_least {n0 : Nat} (hn : 2000000 ≤ n0) : St_least n0 := by
  intro xv_isKept xf_found xv_camp_tents xv_camp_said xv_camp_wall xv_camp_bridge xv_camp_counted xv_camp_day xv_camp_z xf_camp_kinds xf_camp_yards xf_camp_spots xv_kept_tents xv_kept_said xv_kept_wall xv_kept_bridge xv_kept_counted xv_kept_day xv_kept_z xf_kept_kinds xf_kept_yards xf_kept_spots xf_trials_heardBefore xv_trials_trial_tents xv_trials_trial_said xv_trials_trial_wall xv_trials_trial_bridge xv_trials_trial_counted xv_trials_trial_day xv_trials_trial_z xf_trials_trial_kinds xf_trials_trial_yards xf_trials_trial_spots xf_trials_ears_hears xf_trials_ears_near xf_trials_ears_gaps xv_tape_size xf_tape_bytes xv_sheets_0_bits xv_sheets_0_size xf_sheets_0_numbers xv_sheets_1_bits xv_sheets_1_size xf_sheets_1_numbers xv_sheets_2_bits xv_sheets_2_size xf_sheets_2_numbers xv_sheets_3_bits xv_sheets_3_size xf_sheets_3_numbers mv_isKept mv_taped mv_gone mv_leastFar mv_leastWhere mf_d mf_kept mf_found mf_tape mf_hears mf_near mf_bitsOf mf_sizeOf mf_number hI p1
  obtain ⟨hC, hK1, hK2, hK3, hF, hT, hS0, hS1, hS2, hS3, hG⟩ := hI
  have hC0 := hC
  obtain ⟨N, hN, h0, hd0, hd1, hd2, hd3, hd4, hd5, hd6, hct, hwl, hbr, hdy, hsa, hA, hKi, hYa, hSp⟩ := hC
  obtain ⟨w, hw1, hw2⟩ := hwl
  obtain ⟨br, hb1, hb2⟩ := hbr
  have hC1 := hC0
  rw [h0, hw2, hb2] at hC1
  by_cases hr : inR 1 60 p1
  · obtain ⟨p, hp0, hp1, hp2⟩ := inR_nI1 (lo := 1) (hi := 60) hr
    obtain ⟨hb, g', h', n', tk, ts, ty, b1, b2, b3, b4, b5, b6, b7, b8⟩ := begin_s (hb0 := xf_trials_heardBefore) (xg := xf_trials_ears_gaps) (xh := xf_trials_ears_hears) (xn := xf_trials_ears_near) (tk0 := xf_trials_trial_kinds) (ts0 := xf_trials_trial_spots) (ty0 := xf_trials_trial_yards) (t1 := xv_trials_trial_tents) (t2 := xv_trials_trial_said) (t3 := xv_trials_trial_wall) (t4 := xv_trials_trial_bridge) (t5 := xv_trials_trial_counted) (t6 := xv_trials_trial_day) (t7 := xv_trials_trial_z) hn hN hw1 hb1 hC1
    obtain ⟨_, hYt, _, _, _, _, _, _⟩ := CR_parts hN b2
    have hwon := isWon_s (said := xv_camp_said) hn hN (p := p) (by omega) hp1 b7 b8
    obtain ⟨m1, m2, k1⟩ := isMore_C (mh := mf_hears) (mn := mf_near) hn hN hw1 hb1 (p := p) (by omega) hp1 b2
    cases hwn : wnY tk N w br xv_camp_counted p xv_camp_said ty with
    | true =>
      rw [hwn] at hwon k1
      have hx : F_X6_least n0 xv_camp_tents xv_camp_said xv_camp_wall xv_camp_bridge xv_camp_counted xv_camp_day xv_camp_z xf_found xf_camp_kinds xf_camp_spots xf_camp_yards xf_trials_heardBefore xv_trials_trial_tents xv_trials_trial_said xv_trials_trial_wall xv_trials_trial_bridge xv_trials_trial_counted xv_trials_trial_day xv_trials_trial_z xf_trials_ears_gaps xf_trials_ears_hears xf_trials_ears_near xf_trials_trial_kinds xf_trials_trial_spots xf_trials_trial_yards p1 = some (0, xf_found, hb, nI N, xv_camp_said, nI w, nI br, xv_camp_counted, xv_camp_day, xv_camp_z, g', h', n', tk, ts, ty) := by
        unfold F_X6_least F_X4_leastMove
        rw [h0, hw2, hb2, isFrom_t (a := 1) (b := 60) hr, b1, hp2]
        simp only [bd1, one0, bd14]
        rw [hwon]
        simp only []
        rw [if_neg bI1]
        simp only [bd15]
        rw [if_neg (show ¬ (0 : Int32) = -1 from by decide), dvn_k (by decide), show (0 : Int32) / 100000 = 0 from by decide]
      have hm : F_X7_least n0 mv_gone mv_leastFar mv_leastWhere mf_d mf_found mf_hears mf_near p1 = some (0, mv_leastFar, mv_leastWhere, mf_d, mf_found, m1, m2) := by
        unfold F_X7_least
        simp only [nm]
        rw [in_t (a := 1) (b := 60) hr, hG, hp2, k1]
        rfl
      exact ⟨_, _, _, _, _, _, _, _, _, _, _, _, _, _, _, _, _, _, _, _, _, _, hx, hm, hC0, hK1, hK2, hK3, hF, hT, hS0, hS1, hS2, hS3, hG⟩
    | false =>
      rw [hwn] at hwon k1
      obtain ⟨g2, h2, n2, c1⟩ := lm_o (tk := tk) (ts := ts) (hB := hb) (said := xv_camp_said) (day := xv_camp_day) (z := xv_camp_z) hn hN hct hw1 hb1 hYa hYt b3 (p := p) (by omega) hp1 N 0 n0 none g' h' n' (by omega) (by omega) trivial b5
      obtain ⟨m3, m4, c2⟩ := mm_o (yards := xf_camp_yards) hn hN hw1 hb1 hYa b2 (fun i hi => (hA i hi).2.1) (p := p) (by omega) hp1 N 0 n0 none m1 m2 (by omega) (by omega) trivial
      have hok := lsO_ok (w := w) (c := xv_camp_counted) (won := wnT tk ty N w br xv_camp_counted p xv_camp_said) hN hYa hb1 N 0 none (by omega) trivial
      rw [nI_0] at c1 c2
      have c1' : L_X4_leastMove_22 (nI N) hb (nI N) xv_camp_said (nI w) (nI br) xv_camp_counted xv_camp_day xv_camp_z tk ts xf_camp_yards n0 (nI w) (nI br) xv_camp_counted (nI p) n0 (-1) 1000000 0 g' h' n' ty = _ := c1
      have c2' : L_X7_findLeast_12 n0 (-1) (nI p) n0 0 mf_d m1 m2 (-1) 0 = _ := c2
      have hx0 : F_X6_least n0 xv_camp_tents xv_camp_said xv_camp_wall xv_camp_bridge xv_camp_counted xv_camp_day xv_camp_z xf_found xf_camp_kinds xf_camp_spots xf_camp_yards xf_trials_heardBefore xv_trials_trial_tents xv_trials_trial_said xv_trials_trial_wall xv_trials_trial_bridge xv_trials_trial_counted xv_trials_trial_day xv_trials_trial_z xf_trials_ears_gaps xf_trials_ears_hears xf_trials_ears_near xf_trials_trial_kinds xf_trials_trial_spots xf_trials_trial_yards p1 = bd15 (some (eB (lsO (frB xf_camp_yards N) (wnT tk ty N w br xv_camp_counted p xv_camp_said) (faT xf_camp_yards w br xv_camp_counted) N 0 none), hb, nI N, xv_camp_said, nI w, nI br, xv_camp_counted, xv_camp_day, xv_camp_z, g2, h2, n2, tk, ts, ty)) (fun x2 g3 x4 x5 x6 x7 x8 x9 x10 g11 g12 g13 g14 g15 g16 => (if x2 = ((-1)) then bd2 (F_X6_finding n0 xf_found ((-1000004))) (fun x18 g19 => some (x18, g19, g3, x4, x5, x6, x7, x8, x9, x10, g11, g12, g13, g14, g15, g16)) else dvn 100000 (x2 / 100000) (fun x17 => some (x17, xf_found, g3, x4, x5, x6, x7, x8, x9, x10, g11, g12, g13, g14, g15, g16)))) := by
        unfold F_X6_least F_X4_leastMove
        rw [h0, hw2, hb2, isFrom_t (a := 1) (b := 60) hr, b1, hp2]
        simp only [bd1, one0, bd14]
        rw [hwon]
        simp only [bI0, if_true]
        rw [c1']
      have hm0 : F_X7_least n0 mv_gone mv_leastFar mv_leastWhere mf_d mf_found mf_hears mf_near p1 = bd5 (some (mF (lsO (frB xf_camp_yards N) (wnT tk ty N w br xv_camp_counted p xv_camp_said) (faT xf_camp_yards w br xv_camp_counted) N 0 none), mW (lsO (frB xf_camp_yards N) (wnT tk ty N w br xv_camp_counted p xv_camp_said) (faT xf_camp_yards w br xv_camp_counted) N 0 none), mf_d, m3, m4)) (fun x6 x7 g8 g9 g10 => (if 0 ≤ x6 then some (x6, x6, x7, g8, mf_found, g9, g10) else bd2 (F_X7_finds n0 mf_found 3) (fun x11 g12 => some (x11, x6, x7, g8, g12, g9, g10)))) := by
        unfold F_X7_least F_X7_findLeast
        simp only [nm]
        rw [in_t (a := 1) (b := 60) hr, hG, hp2, k1]
        simp only [bd1, one0, bd3]
        simp only [bI0, if_true]
        rw [c2']
      cases hq : lsO (frB xf_camp_yards N) (wnT tk ty N w br xv_camp_counted p xv_camp_said) (faT xf_camp_yards w br xv_camp_counted) N 0 none with
      | none =>
        rw [hq] at hx0 hm0
        have hx : F_X6_least n0 xv_camp_tents xv_camp_said xv_camp_wall xv_camp_bridge xv_camp_counted xv_camp_day xv_camp_z xf_found xf_camp_kinds xf_camp_spots xf_camp_yards xf_trials_heardBefore xv_trials_trial_tents xv_trials_trial_said xv_trials_trial_wall xv_trials_trial_bridge xv_trials_trial_counted xv_trials_trial_day xv_trials_trial_z xf_trials_ears_gaps xf_trials_ears_hears xf_trials_ears_near xf_trials_trial_kinds xf_trials_trial_spots xf_trials_trial_yards p1 = some (-1000004, upd xf_found 3 (xf_found 3 + 1), hb, nI N, xv_camp_said, nI w, nI br, xv_camp_counted, xv_camp_day, xv_camp_z, g2, h2, n2, tk, ts, ty) := hx0
        have hm : F_X7_least n0 mv_gone mv_leastFar mv_leastWhere mf_d mf_found mf_hears mf_near p1 = some (-1000004, -1, 0, mf_d, upd mf_found 3 (mf_found 3 + 1), m3, m4) := hm0
        exact ⟨_, _, _, _, _, _, _, _, _, _, _, _, _, _, _, _, _, _, _, _, _, _, hx, hm, hC0, hK1, hK2, hK3, fnd_u hF 3 (by decide), hT, hS0, hS1, hS2, hS3, hG⟩
      | some q =>
        rw [hq] at hx0 hm0 hok
        obtain ⟨o1, o2, o3⟩ := hok
        have hx : F_X6_least n0 xv_camp_tents xv_camp_said xv_camp_wall xv_camp_bridge xv_camp_counted xv_camp_day xv_camp_z xf_found xf_camp_kinds xf_camp_spots xf_camp_yards xf_trials_heardBefore xv_trials_trial_tents xv_trials_trial_said xv_trials_trial_wall xv_trials_trial_bridge xv_trials_trial_counted xv_trials_trial_day xv_trials_trial_z xf_trials_ears_gaps xf_trials_ears_hears xf_trials_ears_near xf_trials_trial_kinds xf_trials_trial_spots xf_trials_trial_yards p1 = some (nI q.1, xf_found, hb, nI N, xv_camp_said, nI w, nI br, xv_camp_counted, xv_camp_day, xv_camp_z, g2, h2, n2, tk, ts, ty) := by
          rw [hx0]
          simp only [bd15]
          rw [show eB (some q) = nI (100000 * q.1 + q.2) from rfl, if_neg (nI_m1 (by omega)), dvn_k (by decide), show (100000 : Int32) = nI 100000 from rfl, pk_div (by omega) (by decide) (by decide), show (100000 * q.1 + q.2) / 100000 = q.1 by omega]
        have hm : F_X7_least n0 mv_gone mv_leastFar mv_leastWhere mf_d mf_found mf_hears mf_near p1 = some (nI q.1, nI q.1, nI q.2, mf_d, mf_found, m3, m4) := by
          rw [hm0]
          simp only [bd5]
          rw [show mF (some q) = nI q.1 from rfl, if_pos (nI_pos' (by omega))]
          rfl
        exact ⟨_, _, _, _, _, _, _, _, _, _, _, _, _, _, _, _, _, _, _, _, _, _, hx, hm, hC0, hK1, hK2, hK3, hF, hT, hS0, hS1, hS2, hS3, hG⟩
  · have hx : F_X6_least n0 xv_camp_tents xv_camp_said xv_camp_wall xv_camp_bridge xv_camp_counted xv_camp_day xv_camp_z xf_found xf_camp_kinds xf_camp_spots xf_camp_yards xf_trials_heardBefore xv_trials_trial_tents xv_trials_trial_said xv_trials_trial_wall xv_trials_trial_bridge xv_trials_trial_counted xv_trials_trial_day xv_trials_trial_z xf_trials_ears_gaps xf_trials_ears_hears xf_trials_ears_near xf_trials_trial_kinds xf_trials_trial_spots xf_trials_trial_yards p1 = some (-1000001, upd xf_found 0 (xf_found 0 + 1), xf_trials_heardBefore, xv_trials_trial_tents, xv_trials_trial_said, xv_trials_trial_wall, xv_trials_trial_bridge, xv_trials_trial_counted, xv_trials_trial_day, xv_trials_trial_z, xf_trials_ears_gaps, xf_trials_ears_hears, xf_trials_ears_near, xf_trials_trial_kinds, xf_trials_trial_spots, xf_trials_trial_yards) := by
      unfold F_X6_least
      rw [isFrom_f (a := 1) (b := 60) hr]
      rfl
    have hm : F_X7_least n0 mv_gone mv_leastFar mv_leastWhere mf_d mf_found mf_hears mf_near p1 = some (-1000001, mv_leastFar, mv_leastWhere, mf_d, upd mf_found 0 (mf_found 0 + 1), mf_hears, mf_near) := by
      unfold F_X7_least
      simp only [nm]
      rw [in_f (a := 1) (b := 60) hr]
      rfl
    exact ⟨_, _, _, _, _, _, _, _, _, _, _, _, _, _, _, _, _, _, _, _, _, _, hx, hm, hC0, hK1, hK2, hK3, fnd_u hF 0 (by decide), hT, hS0, hS1, hS2, hS3, hG⟩
theorem st_whom {n0 : Nat} (hn : 2000000 ≤ n0) : St_whom n0 := by
  intro xv_isKept xf_found xv_camp_tents xv_camp_said xv_camp_wall xv_camp_bridge xv_camp_counted xv_camp_day xv_camp_z xf_camp_kinds xf_camp_yards xf_camp_spots xv_kept_tents xv_kept_said xv_kept_wall xv_kept_bridge xv_kept_counted xv_kept_day xv_kept_z xf_kept_kinds xf_kept_yards xf_kept_spots xf_trials_heardBefore xv_trials_trial_tents xv_trials_trial_said xv_trials_trial_wall xv_trials_trial_bridge xv_trials_trial_counted xv_trials_trial_day xv_trials_trial_z xf_trials_trial_kinds xf_trials_trial_yards xf_trials_trial_spots xf_trials_ears_hears xf_trials_ears_near xf_trials_ears_gaps xv_tape_size xf_tape_bytes xv_sheets_0_bits xv_sheets_0_size xf_sheets_0_numbers xv_sheets_1_bits xv_sheets_1_size xf_sheets_1_numbers xv_sheets_2_bits xv_sheets_2_size xf_sheets_2_numbers xv_sheets_3_bits xv_sheets_3_size xf_sheets_3_numbers mv_isKept mv_taped mv_gone mv_leastFar mv_leastWhere mf_d mf_kept mf_found mf_tape mf_hears mf_near mf_bitsOf mf_sizeOf mf_number hI p1
  obtain ⟨hC, hK1, hK2, hK3, hF, hT, hS0, hS1, hS2, hS3, hG⟩ := hI
  have hC0 := hC
  obtain ⟨N, hN, h0, hd0, hd1, hd2, hd3, hd4, hd5, hd6, hct, hwl, hbr, hdy, hsa, hA, hKi, hYa, hSp⟩ := hC
  obtain ⟨w, hw1, hw2⟩ := hwl
  obtain ⟨br, hb1, hb2⟩ := hbr
  have hC1 := hC0
  rw [h0, hw2, hb2] at hC1
  by_cases hr : inR 1 60 p1
  · obtain ⟨p, hp0, hp1, hp2⟩ := inR_nI1 (lo := 1) (hi := 60) hr
    obtain ⟨hb, g', h', n', tk, ts, ty, b1, b2, b3, b4, b5, b6, b7, b8⟩ := begin_s (hb0 := xf_trials_heardBefore) (xg := xf_trials_ears_gaps) (xh := xf_trials_ears_hears) (xn := xf_trials_ears_near) (tk0 := xf_trials_trial_kinds) (ts0 := xf_trials_trial_spots) (ty0 := xf_trials_trial_yards) (t1 := xv_trials_trial_tents) (t2 := xv_trials_trial_said) (t3 := xv_trials_trial_wall) (t4 := xv_trials_trial_bridge) (t5 := xv_trials_trial_counted) (t6 := xv_trials_trial_day) (t7 := xv_trials_trial_z) hn hN hw1 hb1 hC1
    obtain ⟨_, hYt, _, _, _, _, _, _⟩ := CR_parts hN b2
    have hwon := isWon_s (said := xv_camp_said) hn hN (p := p) (by omega) hp1 b7 b8
    obtain ⟨m1, m2, k1⟩ := isMore_C (mh := mf_hears) (mn := mf_near) hn hN hw1 hb1 (p := p) (by omega) hp1 b2
    cases hwn : wnY tk N w br xv_camp_counted p xv_camp_said ty with
    | true =>
      rw [hwn] at hwon k1
      have hx : F_X6_whom n0 xv_camp_tents xv_camp_said xv_camp_wall xv_camp_bridge xv_camp_counted xv_camp_day xv_camp_z xf_found xf_camp_kinds xf_camp_spots xf_camp_yards xf_trials_heardBefore xv_trials_trial_tents xv_trials_trial_said xv_trials_trial_wall xv_trials_trial_bridge xv_trials_trial_counted xv_trials_trial_day xv_trials_trial_z xf_trials_ears_gaps xf_trials_ears_hears xf_trials_ears_near xf_trials_trial_kinds xf_trials_trial_spots xf_trials_trial_yards p1 = some (-1000004, upd xf_found 3 (xf_found 3 + 1), hb, nI N, xv_camp_said, nI w, nI br, xv_camp_counted, xv_camp_day, xv_camp_z, g', h', n', tk, ts, ty) := by
        unfold F_X6_whom F_X4_leastMove
        rw [h0, hw2, hb2, isFrom_t (a := 1) (b := 60) hr, b1, hp2]
        simp only [bd1, one0, bd14]
        rw [hwon]
        simp only []
        rw [if_neg bI1]
        simp only [bd15]
        rw [if_neg (show ¬ (100000 : Int32) ≤ 0 from by decide)]
        rfl
      have hm : F_X7_whom n0 mv_gone mv_leastFar mv_leastWhere mf_d mf_found mf_hears mf_near p1 = some (-1000004, mv_leastFar, mv_leastWhere, mf_d, upd mf_found 3 (mf_found 3 + 1), m1, m2) := by
        unfold F_X7_whom
        simp only [nm]
        rw [in_t (a := 1) (b := 60) hr, hG, hp2, k1]
        rfl
      exact ⟨_, _, _, _, _, _, _, _, _, _, _, _, _, _, _, _, _, _, _, _, _, _, hx, hm, hC0, hK1, hK2, hK3, fnd_u hF 3 (by decide), hT, hS0, hS1, hS2, hS3, hG⟩
    | false =>
      rw [hwn] at hwon k1
      obtain ⟨g2, h2, n2, c1⟩ := lm_o (tk := tk) (ts := ts) (hB := hb) (said := xv_camp_said) (day := xv_camp_day) (z := xv_camp_z) hn hN hct hw1 hb1 hYa hYt b3 (p := p) (by omega) hp1 N 0 n0 none g' h' n' (by omega) (by omega) trivial b5
      obtain ⟨m3, m4, c2⟩ := mm_o (yards := xf_camp_yards) hn hN hw1 hb1 hYa b2 (fun i hi => (hA i hi).2.1) (p := p) (by omega) hp1 N 0 n0 none m1 m2 (by omega) (by omega) trivial
      have hok := lsO_ok (w := w) (c := xv_camp_counted) (won := wnT tk ty N w br xv_camp_counted p xv_camp_said) hN hYa hb1 N 0 none (by omega) trivial
      rw [nI_0] at c1 c2
      have c1' : L_X4_leastMove_22 (nI N) hb (nI N) xv_camp_said (nI w) (nI br) xv_camp_counted xv_camp_day xv_camp_z tk ts xf_camp_yards n0 (nI w) (nI br) xv_camp_counted (nI p) n0 (-1) 1000000 0 g' h' n' ty = _ := c1
      have c2' : L_X7_findLeast_12 n0 (-1) (nI p) n0 0 mf_d m1 m2 (-1) 0 = _ := c2
      have hx0 : F_X6_whom n0 xv_camp_tents xv_camp_said xv_camp_wall xv_camp_bridge xv_camp_counted xv_camp_day xv_camp_z xf_found xf_camp_kinds xf_camp_spots xf_camp_yards xf_trials_heardBefore xv_trials_trial_tents xv_trials_trial_said xv_trials_trial_wall xv_trials_trial_bridge xv_trials_trial_counted xv_trials_trial_day xv_trials_trial_z xf_trials_ears_gaps xf_trials_ears_hears xf_trials_ears_near xf_trials_trial_kinds xf_trials_trial_spots xf_trials_trial_yards p1 = bd15 (some (eB (lsO (frB xf_camp_yards N) (wnT tk ty N w br xv_camp_counted p xv_camp_said) (faT xf_camp_yards w br xv_camp_counted) N 0 none), hb, nI N, xv_camp_said, nI w, nI br, xv_camp_counted, xv_camp_day, xv_camp_z, g2, h2, n2, tk, ts, ty)) (fun x2 g3 x4 x5 x6 x7 x8 x9 x10 g11 g12 g13 g14 g15 g16 => (if 100000 ≤ x2 then dvn 100000 (x2 - x2 / 100000 * 100000) (fun x17 => some (x17, xf_found, g3, x4, x5, x6, x7, x8, x9, x10, g11, g12, g13, g14, g15, g16)) else bd2 (F_X6_finding n0 xf_found ((-1000004))) (fun x18 g19 => some (x18, g19, g3, x4, x5, x6, x7, x8, x9, x10, g11, g12, g13, g14, g15, g16)))) := by
        unfold F_X6_whom F_X4_leastMove
        rw [h0, hw2, hb2, isFrom_t (a := 1) (b := 60) hr, b1, hp2]
        simp only [bd1, one0, bd14]
        rw [hwon]
        simp only [bI0, if_true]
        rw [c1']
      have hm0 : F_X7_whom n0 mv_gone mv_leastFar mv_leastWhere mf_d mf_found mf_hears mf_near p1 = bd5 (some (mF (lsO (frB xf_camp_yards N) (wnT tk ty N w br xv_camp_counted p xv_camp_said) (faT xf_camp_yards w br xv_camp_counted) N 0 none), mW (lsO (frB xf_camp_yards N) (wnT tk ty N w br xv_camp_counted p xv_camp_said) (faT xf_camp_yards w br xv_camp_counted) N 0 none), mf_d, m3, m4)) (fun x6 x7 g8 g9 g10 => (if 0 ≤ x6 then some (x7, x6, x7, g8, mf_found, g9, g10) else bd2 (F_X7_finds n0 mf_found 3) (fun x11 g12 => some (x11, x6, x7, g8, g12, g9, g10)))) := by
        unfold F_X7_whom F_X7_findLeast
        simp only [nm]
        rw [in_t (a := 1) (b := 60) hr, hG, hp2, k1]
        simp only [bd1, one0, bd3]
        simp only [bI0, if_true]
        rw [c2']
      cases hq : lsO (frB xf_camp_yards N) (wnT tk ty N w br xv_camp_counted p xv_camp_said) (faT xf_camp_yards w br xv_camp_counted) N 0 none with
      | none =>
        rw [hq] at hx0 hm0
        have hx : F_X6_whom n0 xv_camp_tents xv_camp_said xv_camp_wall xv_camp_bridge xv_camp_counted xv_camp_day xv_camp_z xf_found xf_camp_kinds xf_camp_spots xf_camp_yards xf_trials_heardBefore xv_trials_trial_tents xv_trials_trial_said xv_trials_trial_wall xv_trials_trial_bridge xv_trials_trial_counted xv_trials_trial_day xv_trials_trial_z xf_trials_ears_gaps xf_trials_ears_hears xf_trials_ears_near xf_trials_trial_kinds xf_trials_trial_spots xf_trials_trial_yards p1 = some (-1000004, upd xf_found 3 (xf_found 3 + 1), hb, nI N, xv_camp_said, nI w, nI br, xv_camp_counted, xv_camp_day, xv_camp_z, g2, h2, n2, tk, ts, ty) := hx0
        have hm : F_X7_whom n0 mv_gone mv_leastFar mv_leastWhere mf_d mf_found mf_hears mf_near p1 = some (-1000004, -1, 0, mf_d, upd mf_found 3 (mf_found 3 + 1), m3, m4) := hm0
        exact ⟨_, _, _, _, _, _, _, _, _, _, _, _, _, _, _, _, _, _, _, _, _, _, hx, hm, hC0, hK1, hK2, hK3, fnd_u hF 3 (by decide), hT, hS0, hS1, hS2, hS3, hG⟩
      | some q =>
        rw [hq] at hx0 hm0 hok
        obtain ⟨o1, o2, o3⟩ := hok
        have hx : F_X6_whom n0 xv_camp_tents xv_camp_said xv_camp_wall xv_camp_bridge xv_camp_counted xv_camp_day xv_camp_z xf_found xf_camp_kinds xf_camp_spots xf_camp_yards xf_trials_heardBefore xv_trials_trial_tents xv_trials_trial_said xv_trials_trial_wall xv_trials_trial_bridge xv_trials_trial_counted xv_trials_trial_day xv_trials_trial_z xf_trials_ears_gaps xf_trials_ears_hears xf_trials_ears_near xf_trials_trial_kinds xf_trials_trial_spots xf_trials_trial_yards p1 = some (nI q.2, xf_found, hb, nI N, xv_camp_said, nI w, nI br, xv_camp_counted, xv_camp_day, xv_camp_z, g2, h2, n2, tk, ts, ty) := by
          rw [hx0]
          simp only [bd15]
          rw [show eB (some q) = nI (100000 * q.1 + q.2) from rfl, if_pos (show (100000 : Int32) ≤ nI (100000 * q.1 + q.2) from nI_le (a := 100000) (by omega) (by omega)), dvn_k (by decide), show (100000 : Int32) = nI 100000 from rfl, pk_rem (by omega) (by decide) (by decide), show (100000 * q.1 + q.2) % 100000 = q.2 by omega]
        have hm : F_X7_whom n0 mv_gone mv_leastFar mv_leastWhere mf_d mf_found mf_hears mf_near p1 = some (nI q.2, nI q.1, nI q.2, mf_d, mf_found, m3, m4) := by
          rw [hm0]
          simp only [bd5]
          rw [show mF (some q) = nI q.1 from rfl, if_pos (nI_pos' (by omega))]
          rfl
        exact ⟨_, _, _, _, _, _, _, _, _, _, _, _, _, _, _, _, _, _, _, _, _, _, hx, hm, hC0, hK1, hK2, hK3, hF, hT, hS0, hS1, hS2, hS3, hG⟩
  · have hx : F_X6_whom n0 xv_camp_tents xv_camp_said xv_camp_wall xv_camp_bridge xv_camp_counted xv_camp_day xv_camp_z xf_found xf_camp_kinds xf_camp_spots xf_camp_yards xf_trials_heardBefore xv_trials_trial_tents xv_trials_trial_said xv_trials_trial_wall xv_trials_trial_bridge xv_trials_trial_counted xv_trials_trial_day xv_trials_trial_z xf_trials_ears_gaps xf_trials_ears_hears xf_trials_ears_near xf_trials_trial_kinds xf_trials_trial_spots xf_trials_trial_yards p1 = some (-1000001, upd xf_found 0 (xf_found 0 + 1), xf_trials_heardBefore, xv_trials_trial_tents, xv_trials_trial_said, xv_trials_trial_wall, xv_trials_trial_bridge, xv_trials_trial_counted, xv_trials_trial_day, xv_trials_trial_z, xf_trials_ears_gaps, xf_trials_ears_hears, xf_trials_ears_near, xf_trials_trial_kinds, xf_trials_trial_spots, xf_trials_trial_yards) := by
      unfold F_X6_whom
      rw [isFrom_f (a := 1) (b := 60) hr]
      rfl
    have hm : F_X7_whom n0 mv_gone mv_leastFar mv_leastWhere mf_d mf_found mf_hears mf_near p1 = some (-1000001, mv_leastFar, mv_leastWhere, mf_d, upd mf_found 0 (mf_found 0 + 1), mf_hears, mf_near) := by
      unfold F_X7_whom
      simp only [nm]
      rw [in_f (a := 1) (b := 60) hr]
      rfl
    exact ⟨_, _, _, _, _, _, _, _, _, _, _, _, _, _, _, _, _, _, _, _, _, _, hx, hm, hC0, hK1, hK2, hK3, fnd_u hF 0 (by decide), hT, hS0, hS1, hS2, hS3, hG⟩
/-! == 79z.days.tpl -/
theorem c9 : (999999999 : Int32) = nI 999999999 := rfl
theorem st_days {n0 : Nat} (hn : 2000000 ≤ n0) : St_days n0 := by
  intro xv_isKept xf_found xv_camp_tents xv_camp_said xv_camp_wall xv_camp_bridge xv_camp_counted xv_camp_day xv_camp_z xf_camp_kinds xf_camp_yards xf_camp_spots xv_kept_tents xv_kept_said xv_kept_wall xv_kept_bridge xv_kept_counted xv_kept_day xv_kept_z xf_kept_kinds xf_kept_yards xf_kept_spots xf_ears_hears xf_ears_near xf_ears_gaps xv_tape_size xf_tape_bytes xv_sheets_0_bits xv_sheets_0_size xf_sheets_0_numbers xv_sheets_1_bits xv_sheets_1_size xf_sheets_1_numbers xv_sheets_2_bits xv_sheets_2_size xf_sheets_2_numbers xv_sheets_3_bits xv_sheets_3_size xf_sheets_3_numbers mv_isKept mv_taped mv_gone mv_begin mv_round mf_d mf_kept mf_found mf_tape mf_hears mf_near mf_firstDay mf_daily mf_bitsOf mf_sizeOf mf_number hI p1
  obtain ⟨hC, hK1, hK2, hK3, hF, hT, hS0, hS1, hS2, hS3, hG⟩ := hI
  have hC0 := hC
  obtain ⟨N, hN, h0, hd0, hd1, hd2, hd3, hd4, hd5, hd6, hct, hwl, hbr, hdy, hsa, hA, hKi, hYa, hSp⟩ := hC
  have hC1 := hC0
  rw [h0] at hC1
  obtain ⟨H, M, g', h', n', mh', mn', j1, j2, j3, j4, j5, j6, j7, j8⟩ := both_listen (xg := xf_ears_gaps) (xh := xf_ears_hears) (xn := xf_ears_near) (mh := mf_hears) (mn := mf_near) hn hN hC1
  obtain ⟨m, hm0, hsa⟩ := hsa
  obtain ⟨D, hD1, hD2⟩ := hdy
  by_cases hr : inR 1 100000 p1
  · obtain ⟨p, hp0, hp1, hp2⟩ := inR_nI1 (lo := 1) (hi := 100000) hr
    by_cases hf : D + p ≤ 999999999
    · obtain ⟨B, R, hR⟩ := rho_ex (seq_rg2 (kinds := xf_camp_kinds) (H := H) (M := M) hN hm0)
      obtain ⟨dl, fd, e1, e2⟩ := gt_O (daily := mf_daily) (fd := mf_firstDay) (vb := mv_begin) (vr := mv_round) hn hN hd0 (fun i hi => (hA i hi).1) j5 j6 hm0 hR
      obtain ⟨q, hq1, hq2⟩ := seq_rg (kinds := xf_camp_kinds) (H := H) (M := M) hN hm0 p
      have hq3 : q < 1024 := by have := pow10 hN; omega
      have hx : F_X6_days n0 xv_camp_tents xv_camp_said xv_camp_wall xv_camp_bridge xv_camp_counted xv_camp_day xf_found xf_camp_kinds xf_camp_yards xf_ears_gaps xf_ears_hears xf_ears_near p1 = some (onesE (nI q), nI q, nI (D + p), xf_found, g', h', n') := by
        unfold F_X6_days
        rw [isFrom_t (a := 1) (b := 100000) hr]
        simp only [bd1, one0, nm]
        rw [hD2, c9, pk_sub hD1, hp2, if_pos (nI_le (by omega) (by omega)), h0, j1]
        simp only [bd3]
        rw [said_O hn hN j3 j4 (by omega), hsa, hq2]
        simp only []
        rw [nI_add, vote_s, pop_eq q hq3]
      have hm : F_X7_days n0 mv_gone mv_begin mv_round mf_d mf_daily mf_firstDay mf_found mf_hears mf_near p1 = some (onesE (nI q), nI B, nI R, upd (upd mf_d 6 (nI q)) 1 (nI (D + p)), dl, fd, mf_found, mh', mn') := by
        unfold F_X7_days
        simp only [nm]
        rw [hG, in_t (a := 1) (b := 100000) hr]
        simp only [bd1, one0]
        rw [rd_l 1 l1 (by decide) (by decide), hd1, hD2, hp2, nI_add, c9, if_pos (nI_le hf (by omega)), j2]
        simp only [bd2]
        rw [rd_l 6 l6 (by decide) (by decide), hd6, hsa, e1]
        simp only [bd4]
        rw [sb_s hR e2 (by omega), hq2]
        simp only []
        rw [wrt_l 6 l6 (by decide) (by decide), rd_l 1 l1 (by decide) (by decide), pk_un (by decide), hd1, hD2, nI_add, wrt_l 1 l1 (by decide) (by decide), rd_l 6 l6 (by decide) (by decide), pk_un (by decide), pk_us, ones_s hn]
      have hC2 := CR_day hf (CR_said hN hq1 hC1)
      rw [← h0] at hC2
      exact ⟨_, _, _, _, _, _, _, _, _, _, _, _, _, _, _, hx, hm, hC2, hK1, hK2, hK3, hF, hT, hS0, hS1, hS2, hS3, hG⟩
    · have hx : F_X6_days n0 xv_camp_tents xv_camp_said xv_camp_wall xv_camp_bridge xv_camp_counted xv_camp_day xf_found xf_camp_kinds xf_camp_yards xf_ears_gaps xf_ears_hears xf_ears_near p1 = some (-1000005, xv_camp_said, xv_camp_day, upd xf_found 4 (xf_found 4 + 1), xf_ears_gaps, xf_ears_hears, xf_ears_near) := by
        unfold F_X6_days
        rw [isFrom_t (a := 1) (b := 100000) hr]
        simp only [bd1, one0, nm]
        rw [hD2, c9, pk_sub hD1, hp2, if_neg (nI_ge (by omega) (by omega))]
        rfl
      have hm : F_X7_days n0 mv_gone mv_begin mv_round mf_d mf_daily mf_firstDay mf_found mf_hears mf_near p1 = some (-1000005, mv_begin, mv_round, mf_d, mf_daily, mf_firstDay, upd mf_found 4 (mf_found 4 + 1), mf_hears, mf_near) := by
        unfold F_X7_days
        simp only [nm]
        rw [in_t (a := 1) (b := 100000) hr]
        simp only [bd1, one0]
        rw [rd_l 1 l1 (by decide) (by decide), hd1, hD2, hp2, nI_add, c9, if_neg (nI_ge (by omega) (by omega))]
        rfl
      exact ⟨_, _, _, _, _, _, _, _, _, _, _, _, _, _, _, hx, hm, hC0, hK1, hK2, hK3, fnd_u hF 4 (by decide), hT, hS0, hS1, hS2, hS3, hG⟩
  · have hx : F_X6_days n0 xv_camp_tents xv_camp_said xv_camp_wall xv_camp_bridge xv_camp_counted xv_camp_day xf_found xf_camp_kinds xf_camp_yards xf_ears_gaps xf_ears_hears xf_ears_near p1 = some (-1000001, xv_camp_said, xv_camp_day, upd xf_found 0 (xf_found 0 + 1), xf_ears_gaps, xf_ears_hears, xf_ears_near) := by
      unfold F_X6_days
      rw [isFrom_f (a := 1) (b := 100000) hr]
      rfl
    have hm : F_X7_days n0 mv_gone mv_begin mv_round mf_d mf_daily mf_firstDay mf_found mf_hears mf_near p1 = some (-1000001, mv_begin, mv_round, mf_d, mf_daily, mf_firstDay, upd mf_found 0 (mf_found 0 + 1), mf_hears, mf_near) := by
      unfold F_X7_days
      simp only [nm]
      rw [in_f (a := 1) (b := 100000) hr]
      rfl
    exact ⟨_, _, _, _, _, _, _, _, _, _, _, _, _, _, _, hx, hm, hC0, hK1, hK2, hK3, fnd_u hF 0 (by decide), hT, hS0, hS1, hS2, hS3, hG⟩
