/-! trials: a second camp, one tent moved -/
def gapOK (N w br : Nat) (c : Int32) (g y : Nat → Int32) : Prop := ∀ a b : Nat, a < N → b < N → a ≠ b → g (10 * a + b) = nI (GG w br c y a b)
def yrdOK (y : Nat → Int32) : Prop := ∀ i : Nat, i < 10 → ∃ v : Nat, v < 144 ∧ y i = nI v
theorem yrd_upd {y : Nat → Int32} {t v : Nat} (h : yrdOK y) (hv : v < 144) : yrdOK (upd y t (nI v)) := by
  intro i hi
  by_cases h1 : i = t
  · subst h1; exact ⟨v, hv, pk_us⟩
  · rw [pk_un h1]; exact h i hi
/-- who is heard, who is nearest, by the yards -/
def hH (tk : Nat → Int32) (N w br : Nat) (c : Int32) (y : Nat → Int32) : Nat → Option Nat := hO tk (GG w br c y) sk0 N
def hM (N w br : Nat) (c : Int32) (y : Nat → Int32) : Nat → Option Nat := nO (GG w br c y) sk0 N
theorem isT_of {N t : Nat} (hN : N ≤ 10) (ht : t < N) : isT N (nI t) := ⟨by rw [nI_toInt (by omega)]; omega, by rw [nI_toInt (by omega)]; omega⟩
theorem again_s {n0 N w br t : Nat} {c v : Int32} {y0 kinds hears near gaps : Nat → Int32} (hn : 2000000 ≤ n0) (hN : N ≤ 10) (hc : c = 0 ∨ c = 1) (hw : w < 12) (hbr : br < 12) (hy : yrdOK (upd y0 t v)) (ht : t < N) (hg : gapOK N w br c gaps y0) : ∃ g' h' n' : Nat → Int32, F_X1_listenAgain n0 (nI N) (nI w) (nI br) c gaps hears near kinds (upd y0 t v) (nI t) = some (g', h', n') ∧ gapOK N w br c g' (upd y0 t v) ∧ HR N h' (hH kinds N w br c (upd y0 t v)) ∧ HR N n' (hM N w br c (upd y0 t v)) := by
  obtain ⟨g1, a1, a2, a3⟩ := meas_s (n0 := n0) (gaps := gaps) hn hc hw hbr hy (t := t) (B := N) (by omega) hN
  have hg1 : gapOK N w br c g1 (upd y0 t v) := by
    intro a b ha hb hab
    by_cases c1 : a = t
    · subst c1; exact (a2 b hb).1
    · by_cases c2 : b = t
      · subst c2; rw [(a2 a ha).2, GG_comm]
      · rw [a3 a b (by omega) (by omega) (fun h => c1 h.1) (fun h => c2 h.1), hg a b ha hb hab]
        unfold GG yN
        rw [pk_un c1, pk_un c2]
  obtain ⟨h', n', b1, b2⟩ := hearAll_s (kinds := kinds) (hears := hears) (near := near) hn hN hg1 (fun i j a b => GG_lt hbr hy a b)
  refine ⟨g1, h', n', ?_, hg1, fun j hj => ⟨by rw [(b2 j hj).1, hrS_O]; rfl, hO_ok (by omega)⟩, fun j hj => ⟨(b2 j hj).2, nO_ok⟩⟩
  unfold F_X1_listenAgain
  rw [has_t hN (isT_of hN ht)]
  simp only [bd1, one0]
  rw [a1]
  simp only []
  rw [b1]
  rfl
theorem tryMove_s {n0 N w br t v : Nat} {c : Int32} {y0 kinds hears near gaps : Nat → Int32} (hn : 2000000 ≤ n0) (hN : N ≤ 10) (hc : c = 0 ∨ c = 1) (hw : w < 12) (hbr : br < 12) (hy : yrdOK y0) (hv : v < 144) (ht : t < N) (hg : gapOK N w br c gaps y0) : ∃ g' h' n' : Nat → Int32, F_X4_tryMove n0 (nI N) (nI w) (nI br) c gaps hears near kinds y0 (nI t) (nI v) = some (g', h', n', upd y0 t (nI v)) ∧ gapOK N w br c g' (upd y0 t (nI v)) ∧ HR N h' (hH kinds N w br c (upd y0 t (nI v))) ∧ HR N n' (hM N w br c (upd y0 t (nI v))) := by
  obtain ⟨g', h', n', a1, a2, a3, a4⟩ := again_s (kinds := kinds) (hears := hears) (near := near) hn hN hc hw hbr (yrd_upd (t := t) hy hv) ht hg
  refine ⟨g', h', n', ?_, a2, a3, a4⟩
  unfold F_X4_tryMove
  rw [has_t hN (isT_of hN ht)]
  simp only [bd1, one0]
  rw [wrt_nI (by omega) (by decide), a1]
  rfl
theorem CR_parts {kinds yards spots d : Nat → Int32} {N : Nat} {said wall bridge counted day z : Int32} (hN : N ≤ 10) (hC : CR kinds yards spots (nI N) said wall bridge counted day z d) : (counted = 0 ∨ counted = 1) ∧ yrdOK yards ∧ (∃ w : Nat, w < 12 ∧ wall = nI w) ∧ (∃ w : Nat, w < 12 ∧ bridge = nI w) ∧ (∃ m : Nat, m < 2 ^ N ∧ said = nI m) ∧ d 6 = said ∧ d 5 = counted ∧ ∀ i : Nat, i < 10 → d (10 + i) = kinds i := by
  obtain ⟨M, hM, h0, hd0, hd1, hd2, hd3, hd4, hd5, hd6, hct, hwl, hbr, hdy, hsa, hA, hKi, hYa, hSp⟩ := hC
  have e : N = M := (nI_eq (by omega) (by omega)).mp h0
  subst e
  exact ⟨hct, hYa, hwl, hbr, hsa, hd6, hd5, fun i hi => (hA i hi).1⟩
theorem listen_C {n0 N w br : Nat} {kinds yards spots d xg xh xn : Nat → Int32} {said c day z : Int32} (hn : 2000000 ≤ n0) (hN : N ≤ 10) (hw : w < 12) (hbr : br < 12) (hC : CR kinds yards spots (nI N) said (nI w) (nI br) c day z d) : ∃ g' h' n' : Nat → Int32, F_X1_listen n0 (nI N) (nI w) (nI br) c xg xh xn kinds yards = some (g', h', n') ∧ gapOK N w br c g' yards ∧ HR N h' (hH kinds N w br c yards) ∧ HR N n' (hM N w br c yards) := by
  obtain ⟨hct, hYa, _, _, _, _, _, _⟩ := CR_parts hN hC
  exact listen_H hn hN hct hw hbr hYa
theorem mlisten_C {n0 N w br : Nat} {kinds yards spots d mh mn : Nat → Int32} {said c day z : Int32} (hn : 2000000 ≤ n0) (hN : N ≤ 10) (hw : w < 12) (hbr : br < 12) (hC : CR kinds yards spots (nI N) said (nI w) (nI br) c day z d) : ∃ h' n' : Nat → Int32, F_X7_listen n0 (-1) d mh mn = some (h', n') ∧ HR N h' (hH kinds N w br c yards) ∧ HR N n' (hM N w br c yards) := by
  obtain ⟨N', w', br', hN', e1, e2, e3, hM, hk⟩ := MC_of hC
  have e : N = N' := (nI_eq (by omega) (by omega)).mp e1
  have ew : w = w' := (nI_eq (by omega) (by have := hM.2.2.2.2.2.2.1; omega)).mp e2
  have eb : br = br' := (nI_eq (by omega) (by have := hM.2.2.2.2.2.2.2.1; omega)).mp e3
  subst e
  subst ew
  subst eb
  exact mlisten_H hn hM hk
theorem HR_congr {N : Nat} {f g : Nat → Int32} {H : Nat → Option Nat} (h : HR N f H) (hg : ∀ j : Nat, j < N → g j = f j) : HR N g H := fun j hj => ⟨by rw [hg j hj]; exact (h j hj).1, (h j hj).2⟩
theorem cpy10_t {Ro : Type} {f g : Nat → Int32} {k : (Nat → Int32) → Option Ro} : cpyi f 10 0 g 10 0 10 k = k (va_cpy f g 0 0 10) := by
  unfold cpyi
  rw [if_pos (by decide)]
  rfl
theorem begin_s {n0 N w br : Nat} {kinds yards spots d hb0 xg xh xn tk0 ts0 ty0 : Nat → Int32} {said c day z t1 t2 t3 t4 t5 t6 t7 : Int32} (hn : 2000000 ≤ n0) (hN : N ≤ 10) (hw : w < 12) (hbr : br < 12) (hC : CR kinds yards spots (nI N) said (nI w) (nI br) c day z d) : ∃ (hb g' h' n' tk ts ty : Nat → Int32), F_X4_begin n0 (nI N) said (nI w) (nI br) c day z hb0 t1 t2 t3 t4 t5 t6 t7 kinds spots yards xg xh xn tk0 ts0 ty0 = some (hb, nI N, said, nI w, nI br, c, day, z, g', h', n', tk, ts, ty) ∧ CR tk ty ts (nI N) said (nI w) (nI br) c day z d ∧ (∀ i : Nat, i < 10 → ty i = yards i) ∧ (∀ i : Nat, i < 10 → tk i = kinds i) ∧ gapOK N w br c g' ty ∧ HR N hb (hH tk N w br c ty) ∧ HR N h' (hH tk N w br c ty) ∧ HR N n' (hM N w br c ty) := by
  obtain ⟨hct, hYa, _, _, _, _, _, _⟩ := CR_parts hN hC
  have hC2 : CR (va_cpy kinds tk0 0 0 10) (va_cpy yards ty0 0 0 10) (va_cpy spots ts0 0 0 10) (nI N) said (nI w) (nI br) c day z d := CR_copy hC (fun i hi => cpy10 hi) (fun i hi => cpy10 hi) (fun i hi => cpy10 hi) (fun _ _ => rfl)
  obtain ⟨g', h', n', a1, a2, a3, a4⟩ := listen_C (xg := xg) (xh := xh) (xn := xn) hn hN hw hbr hC2
  refine ⟨va_cpy h' hb0 0 0 10, g', h', n', _, _, _, ?_, hC2, fun i hi => cpy10 hi, fun i hi => cpy10 hi, a2, HR_congr a3 (fun j hj => cpy10 (by omega)), a3, a4⟩
  unfold F_X4_begin
  rw [become_s hct]
  simp only [bd10]
  rw [a1]
  simp only [bd3]
  rw [cpy10_t]
/-! those who hear another -/
def dfB (H H0 : Nat → Option Nat) (j : Nat) : Bool := !decide (H j = H0 j)
theorem ho_r {N : Nat} {hears hb : Nat → Int32} {H H0 : Nat → Option Nat} (hN : N ≤ 10) (h3 : HR N hears H) (h4 : HR N hb H0) : ∀ (k i n : Nat) (a : Int32), i + k = N → k < n → L_X4_hearingOther_4 (nI N) hears hb n a (nI i) = some (bitsF (fun j => bI (dfB H H0 j)) k i a) := by
  intro k
  induction k with
  | zero =>
    intro i n a h1 h2
    obtain ⟨n, rfl⟩ : ∃ q, n = q + 1 := ⟨n - 1, by omega⟩
    rw [L_X4_hearingOther_4_u, if_pos (nI_le (by omega) (by omega))]
    rfl
  | succ k ih =>
    intro i n a h1 h2
    obtain ⟨n, rfl⟩ : ∃ q, n = q + 1 := ⟨n - 1, by omega⟩
    have hi : i < N := by omega
    rw [L_X4_hearingOther_4_u, if_neg (nI_ge (by omega) (by omega)), rd_nI (by omega) (by decide), rd_nI (by omega) (by decide), (h3 i hi).1, (h4 i hi).1]
    simp only [nm]
    rw [nI_1]
    show _ = some (bitsF (fun j => bI (dfB H H0 j)) k (i + 1) (a ||| (bI (!decide (H i = H0 i)) <<< (nI i &&& 31))))
    by_cases h : H i = H0 i
    · rw [if_pos (by rw [h]), decide_eq_true h, ih (i + 1) n a (by omega) (by omega)]
      show _ = some (bitsF _ k (i + 1) (a ||| (bI false <<< (nI i &&& 31))))
      rw [or_f]
    · rw [if_neg (fun h2 => h ((cod_inj (okB_10 hN (h3 i hi).2) (okB_10 hN (h4 i hi).2)).mp h2)), decide_eq_false h, ih (i + 1) n _ (by omega) (by omega)]
      rfl
theorem ho_s {n0 N : Nat} {hears hb : Nat → Int32} {H H0 : Nat → Option Nat} (hn : 2000000 ≤ n0) (hN : N ≤ 10) (h3 : HR N hears H) (h4 : HR N hb H0) : F_X4_hearingOther n0 hb (nI N) hears = some (bsF (dfB H H0) N) := by
  unfold F_X4_hearingOther
  have := ho_r hN h3 h4 N 0 n0 0 (by omega) (by omega)
  rw [nI_0] at this
  exact this
theorem mho_r {N : Nat} {d hears near hb : Nat → Int32} {H H0 : Nat → Option Nat} (hN : N ≤ 10) (hd : d 0 = nI N) (h3 : HR N hears H) (h4 : HR N hb H0) : ∀ (k i n : Nat) (a : Int32), i + k = N → k < n → L_X7_otherHears_8 d hears near hb n a (nI i) = some (bitsF (fun j => bI (dfB H H0 j)) k i a, hears, near) := by
  intro k
  induction k with
  | zero =>
    intro i n a h1 h2
    obtain ⟨n, rfl⟩ : ∃ q, n = q + 1 := ⟨n - 1, by omega⟩
    rw [L_X7_otherHears_8_u, rd_l 0 l0 (by decide) (by decide), hd, if_pos (nI_le (by omega) (by omega))]
    rfl
  | succ k ih =>
    intro i n a h1 h2
    obtain ⟨n, rfl⟩ : ∃ q, n = q + 1 := ⟨n - 1, by omega⟩
    have hi : i < N := by omega
    rw [L_X7_otherHears_8_u, rd_l 0 l0 (by decide) (by decide), hd, if_neg (nI_ge (by omega) (by omega)), rd_nI (by omega) (by decide), rd_nI (by omega) (by decide), (h3 i hi).1, (h4 i hi).1]
    simp only [nm]
    rw [nI_1, Int32.or_zero]
    show _ = some (bitsF (fun j => bI (dfB H H0 j)) k (i + 1) (a ||| (bI (!decide (H i = H0 i)) <<< (nI i &&& 31))), hears, near)
    by_cases h : H i = H0 i
    · rw [if_pos (by rw [h]), decide_eq_true h, ih (i + 1) n a (by omega) (by omega)]
      show _ = some (bitsF _ k (i + 1) (a ||| (bI false <<< (nI i &&& 31))), hears, near)
      rw [or_f]
    · rw [if_neg (fun h2 => h ((cod_inj (okB_10 hN (h3 i hi).2) (okB_10 hN (h4 i hi).2)).mp h2)), decide_eq_false h, ih (i + 1) n _ (by omega) (by omega)]
      rfl
theorem mho_C {n0 N w br : Nat} {kinds yards spots d mh mn hb : Nat → Int32} {said c day z : Int32} {H0 : Nat → Option Nat} (hn : 2000000 ≤ n0) (hN : N ≤ 10) (hw : w < 12) (hbr : br < 12) (hC : CR kinds yards spots (nI N) said (nI w) (nI br) c day z d) (h4 : HR N hb H0) : ∃ h' n' : Nat → Int32, F_X7_otherHears n0 (-1) d hb mh mn = some (bsF (dfB (hH kinds N w br c yards) H0) N, h', n') := by
  obtain ⟨h', n', a1, a2, a3⟩ := mlisten_C (mh := mh) (mn := mn) hn hN hw hbr hC
  obtain ⟨hd0, _, _⟩ := CR_N hN hC
  refine ⟨h', n', ?_⟩
  unfold F_X7_otherHears
  rw [a1]
  simp only [bd2]
  have := mho_r (near := n') hN hd0 a2 h4 N 0 n0 0 (by omega) (by omega)
  rw [nI_0] at this
  exact this
theorem kh_r {N : Nat} {d hears near : Nat → Int32} (hN : N ≤ 10) (hd : d 0 = nI N) : ∀ (k i n : Nat) (t : Nat → Int32), i + k = N → k < n → ∃ t' : Nat → Int32, (∀ j : Nat, i ≤ j → j < N → t' j = hears j) ∧ (∀ j : Nat, j < i → t' j = t j) ∧ L_X7_keepHears_6 d hears near n (nI i) t = some (t', hears, near) := by
  intro k
  induction k with
  | zero =>
    intro i n t h1 h2
    obtain ⟨n, rfl⟩ : ∃ q, n = q + 1 := ⟨n - 1, by omega⟩
    rw [L_X7_keepHears_6_u, rd_l 0 l0 (by decide) (by decide), hd, if_pos (nI_le (by omega) (by omega))]
    exact ⟨t, fun j h3 h4 => absurd h4 (by omega), fun _ _ => rfl, rfl⟩
  | succ k ih =>
    intro i n t h1 h2
    obtain ⟨n, rfl⟩ : ∃ q, n = q + 1 := ⟨n - 1, by omega⟩
    rw [L_X7_keepHears_6_u, rd_l 0 l0 (by decide) (by decide), hd, if_neg (nI_ge (by omega) (by omega)), rd_nI (by omega) (by decide), wrt_nI (by omega) (by decide), nm, nI_1]
    obtain ⟨t', e1, e2, e3⟩ := ih (i + 1) n (upd t i (hears i)) (by omega) (by omega)
    refine ⟨t', fun j h3 h4 => ?_, fun j h3 => ?_, e3⟩
    · by_cases h : j = i
      · subst h; rw [e2 j (by omega), pk_us]
      · exact e1 j (by omega) h4
    · rw [e2 j (by omega), pk_un (by omega)]
theorem kh_C {n0 N w br : Nat} {kinds yards spots d mh mn hb : Nat → Int32} {said c day z : Int32} (hn : 2000000 ≤ n0) (hN : N ≤ 10) (hw : w < 12) (hbr : br < 12) (hC : CR kinds yards spots (nI N) said (nI w) (nI br) c day z d) : ∃ hb' h' n' : Nat → Int32, F_X7_keepHears n0 (-1) d hb mh mn = some (hb', h', n') ∧ HR N hb' (hH kinds N w br c yards) := by
  obtain ⟨h', n', a1, a2, a3⟩ := mlisten_C (mh := mh) (mn := mn) hn hN hw hbr hC
  obtain ⟨hd0, _, _⟩ := CR_N hN hC
  obtain ⟨t', e1, _, e3⟩ := kh_r (near := n') (hears := h') hN hd0 N 0 n0 hb (by omega) (by omega)
  refine ⟨t', h', n', ?_, HR_congr a2 (fun j hj => e1 j (by omega) hj)⟩
  unfold F_X7_keepHears
  rw [a1]
  simp only [bd2]
  rw [nI_0] at e3
  exact e3
