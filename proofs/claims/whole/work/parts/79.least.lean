/-! least, whom -/
theorem nmq {α Ro : Type} (x : α) (k : α → Option Ro) : nm x k = k x := Eq.trans (Eq.refl _) (Eq.refl _)
def wnY (tk : Nat → Int32) (N w br : Nat) (c : Int32) (p : Nat) (s : Int32) (y : Nat → Int32) : Bool := decide (N < 2 * pcN (itS (nxO tk (hH tk N w br c y) (hM N w br c y) N) p s))
theorem vt_v {kinds : Nat → Int32} {H M : Nat → Option Nat} {N p : Nat} {s : Int32} (hN : N ≤ 10) (hp : 0 < p) : bitE (itS (nxO kinds H M N) p s) = nI (pcN (itS (nxO kinds H M N) p s)) ∧ onesE (itS (nxO kinds H M N) p s) = nI (pcN (itS (nxO kinds H M N) p s)) ∧ pcN (itS (nxO kinds H M N) p s) < 11 := by
  obtain ⟨a, a1, a2⟩ := it_rg (kinds := kinds) (H := H) (M := M) hN hp s
  have hp := pow10 hN
  rw [a2]
  exact ⟨by rw [pop_eq a (by omega)]; exact (pop_n a (by omega)).1, (pop_n a (by omega)).1, (pop_n a (by omega)).2⟩
theorem won_if {R : Type} {N v : Nat} {a b : R} (hN : N ≤ 10) (hv : v < 11) : (if 2 * nI v ≤ nI N then a else b) = if N < 2 * v then b else a := by
  rw [show (2 : Int32) = nI 2 from rfl, pk_mul]
  by_cases h : N < 2 * v
  · rw [if_pos h, if_neg (nI_ge h (by omega))]
  · rw [if_neg h, if_pos (nI_le (by omega) (by omega))]
theorem isWon_s {n0 N w br p : Nat} {tk y h n' : Nat → Int32} {c said : Int32} (hn : 2000000 ≤ n0) (hN : N ≤ 10) (hp0 : 0 < p) (hp : p ≤ 60) (h3 : HR N h (hH tk N w br c y)) (h4 : HR N n' (hM N w br c y)) : F_X4_isWon n0 (nI N) said h n' tk (nI p) = some (bI (wnY tk N w br c p said y)) := by
  obtain ⟨q1, _, q2⟩ := vt_v (kinds := tk) (H := hH tk N w br c y) (M := hM N w br c y) (s := said) hN hp0
  unfold F_X4_isWon F_X4_voteAfter
  rw [said_O hn hN h3 h4 (by omega)]
  simp only [bd1]
  rw [bitC_s]
  simp only [nm]
  rw [q1, won_if hN q2]
  unfold wnY
  by_cases h : N < 2 * pcN (itS (nxO tk (hH tk N w br c y) (hM N w br c y) N) p said)
  · rw [if_pos h, decide_eq_true h]; rfl
  · rw [if_neg h, decide_eq_false h]; rfl
theorem isMore_C {n0 N w br p : Nat} {tk y ts d mh mn : Nat → Int32} {said c day z : Int32} (hn : 2000000 ≤ n0) (hN : N ≤ 10) (hw : w < 12) (hbr : br < 12) (hp0 : 0 < p) (hp : p ≤ 60) (hC : CR tk y ts (nI N) said (nI w) (nI br) c day z d) : ∃ h' n' : Nat → Int32, F_X7_isMore n0 (-1) d mh mn (nI p) = some (bI (wnY tk N w br c p said y), h', n') := by
  obtain ⟨h', n', a1, a2, a3⟩ := mlisten_C (mh := mh) (mn := mn) hn hN hw hbr hC
  obtain ⟨hd0, _, _⟩ := CR_N hN hC
  obtain ⟨_, _, _, _, _, hd6, _, hk⟩ := CR_parts hN hC
  obtain ⟨_, q1, q2⟩ := vt_v (kinds := tk) (H := hH tk N w br c y) (M := hM N w br c y) (s := said) hN hp0
  refine ⟨h', n', ?_⟩
  unfold F_X7_isMore
  rw [a1]
  simp only [bd2]
  rw [rd_l 6 l6 (by decide) (by decide), hd6, ahead_O hn hN hd0 hk a2 a3 (by omega)]
  simp only [bd1]
  rw [ones_s hn]
  simp only [nm]
  rw [rd_l 0 l0 (by decide) (by decide), hd0, q1, won_if hN q2]
  unfold wnY
  by_cases h : N < 2 * pcN (itS (nxO tk (hH tk N w br c y) (hM N w br c y) N) p said)
  · rw [if_pos h, decide_eq_true h]; rfl
  · rw [if_neg h, decide_eq_false h]; rfl
/-- the least move so far: how far, and tent and yard -/
def lsL : Option (Nat × Nat) → Nat → Bool
  | none, _ => true
  | some q, f => decide (f < q.1)
theorem lsL_some {q : Nat × Nat} {f : Nat} : lsL (some q) f = decide (f < q.1) := rfl
def lsS (fr won : Bool) (far m : Nat) (b : Option (Nat × Nat)) : Option (Nat × Nat) := if (fr && lsL b far && won) = true then some (far, m) else b
def lsF (fr won : Nat → Bool) (far : Nat → Nat) (t : Nat) : Nat → Nat → Option (Nat × Nat) → Option (Nat × Nat)
  | 0, _, b => b
  | k + 1, i, b => lsF fr won far t k (i + 1) (lsS (fr i) (won i) (far i) (1000 * t + i) b)
def lsO (fr : Nat → Bool) (won : Nat → Nat → Bool) (far : Nat → Nat → Nat) : Nat → Nat → Option (Nat × Nat) → Option (Nat × Nat)
  | 0, _, b => b
  | k + 1, t, b => lsO fr won far k (t + 1) (lsF fr (won t) (far t) t 144 0 b)
def okL : Option (Nat × Nat) → Prop
  | none => True
  | some q => 0 < q.1 ∧ q.1 < 1100 ∧ q.2 < 10000
def eB : Option (Nat × Nat) → Int32
  | none => -1
  | some q => nI (100000 * q.1 + q.2)
def eF : Option (Nat × Nat) → Int32
  | none => 1000000
  | some q => nI q.1
def mF : Option (Nat × Nat) → Int32
  | none => -1
  | some q => nI q.1
def mW : Option (Nat × Nat) → Int32
  | none => 0
  | some q => nI q.2
def frB (yards : Nat → Int32) (N v : Nat) : Bool := decide (whoR yards (nI v) N 0 = -1)
def wnT (tk ty : Nat → Int32) (N w br : Nat) (c : Int32) (p : Nat) (s : Int32) (t v : Nat) : Bool := wnY tk N w br c p s (upd ty t (nI v))
def faT (yards : Nat → Int32) (w br : Nat) (c : Int32) (t v : Nat) : Nat := farN w br (decide (c = 1)) (yN yards t) v
theorem fa_pos {yards : Nat → Int32} {N w br t v : Nat} {c : Int32} (hN : N ≤ 10) (hY : yrdOK yards) (ht : t < N) (h : frB yards N v = true) : 0 < faT yards w br c t v := by
  have h1 := of_decide_eq_true h
  rw [whoR_m1 N 0 (by omega)] at h1
  have h2 := h1 t (by omega) (by omega)
  obtain ⟨a1, a2⟩ := yN_of (by decide) (hY t (by omega))
  exact farN_pos (fun e => h2 (by rw [a1, e]))
theorem fa_lt {yards : Nat → Int32} {w br t v : Nat} {c : Int32} (hY : yrdOK yards) (hbr : br < 12) (ht : t < 10) (hv : v < 144) : faT yards w br c t v < 1100 := farN_lt (yN_of (by decide) (hY t ht)).2 hv hbr
theorem lsS_ok {yards : Nat → Int32} {N w br t v : Nat} {c : Int32} {won : Bool} {b : Option (Nat × Nat)} (hN : N ≤ 10) (hY : yrdOK yards) (hbr : br < 12) (ht : t < N) (hv : v < 144) (hb : okL b) : okL (lsS (frB yards N v) won (faT yards w br c t v) (1000 * t + v) b) := by
  unfold lsS
  by_cases h : (frB yards N v && lsL b (faT yards w br c t v) && won) = true
  · rw [if_pos h]
    have hf : frB yards N v = true := by
      rw [Bool.and_eq_true, Bool.and_eq_true] at h
      exact h.1.1
    exact ⟨fa_pos hN hY ht hf, fa_lt hY hbr (by omega) hv, by show 1000 * t + v < 10000; omega⟩
  · rw [if_neg h]
    exact hb
theorem lsF_ok {yards : Nat → Int32} {N w br t : Nat} {c : Int32} {won : Nat → Bool} (hN : N ≤ 10) (hY : yrdOK yards) (hbr : br < 12) (ht : t < N) : ∀ (k i : Nat) (b : Option (Nat × Nat)), i + k ≤ 144 → okL b → okL (lsF (frB yards N) won (faT yards w br c t) t k i b) := by
  intro k
  induction k with
  | zero => intro i b _ h; exact h
  | succ k ih =>
    intro i b h1 h
    exact ih (i + 1) _ (by omega) (lsS_ok hN hY hbr ht (by omega) h)
theorem lsO_ok {yards : Nat → Int32} {N w br : Nat} {c : Int32} {won : Nat → Nat → Bool} (hN : N ≤ 10) (hY : yrdOK yards) (hbr : br < 12) : ∀ (k t : Nat) (b : Option (Nat × Nat)), t + k ≤ N → okL b → okL (lsO (frB yards N) won (faT yards w br c) k t b) := by
  intro k
  induction k with
  | zero => intro t b _ h; exact h
  | succ k ih =>
    intro t b h1 h
    exact ih (t + 1) _ (by omega) (lsF_ok hN hY hbr (by omega) 144 0 b (by omega) h)
theorem eF_cmp {b : Option (Nat × Nat)} {f : Nat} (hb : okL b) (hf : f < 1100) : (eF b ≤ nI f) ↔ lsL b f = false := by
  cases b with
  | none => exact ⟨fun h => absurd h (nI_ge (b := 1000000) (by omega) (by decide)), fun h => by cases h⟩
  | some q =>
    obtain ⟨h1, h2, h3⟩ := hb
    show nI q.1 ≤ nI f ↔ decide (f < q.1) = false
    rw [nI_leI (by omega) (by omega), decide_eq_false_iff_not]
    omega
theorem ls_new {w t v far : Nat} : (100000 : Int32) * nI far + 1000 * nI t + nI v = nI (100000 * far + (1000 * t + v)) := by
  rw [show (100000 : Int32) = nI 100000 from rfl, show (1000 : Int32) = nI 1000 from rfl, pk_mul, pk_mul, nI_add, nI_add]
  congr 1
  omega
theorem lm_i {n0 N w br t p : Nat} {yards tk ty : Nat → Int32} {said c : Int32} {kk : Int32 → Int32 → Int32 → (Nat → Int32) → (Nat → Int32) → (Nat → Int32) → (Nat → Int32) → Option (Int32 × (Nat → Int32) × Int32 × Int32 × Int32 × Int32 × Int32 × Int32 × Int32 × (Nat → Int32) × (Nat → Int32) × (Nat → Int32) × (Nat → Int32) × (Nat → Int32) × (Nat → Int32))} (hn : 2000000 ≤ n0) (hN : N ≤ 10) (hct : c = 0 ∨ c = 1) (hw : w < 12) (hbr : br < 12) (hY : yrdOK yards) (hYt : yrdOK ty) (hyy : ty t = yards t) (ht : t < N) (hp0 : 0 < p) (hp : p ≤ 60) : ∀ (k i n v : Nat) (b : Option (Nat × Nat)) (g h n' : Nat → Int32), i + k = 144 → k < n → v < 144 → okL b → gapOK N w br c g (upd ty t (nI v)) → ∃ g' h' n'' : Nat → Int32, gapOK N w br c g' ty ∧ L_X4_leastMove_37 yards (nI t) n0 (nI N) (nI w) (nI br) c tk kk (nI w) (nI br) c (nI N) said (nI p) n (eB b) (eF b) (nI i) g h n' (upd ty t (nI v)) = kk (eB (lsF (frB yards N) (wnT tk ty N w br c p said t) (faT yards w br c t) t k i b)) (eF (lsF (frB yards N) (wnT tk ty N w br c p said t) (faT yards w br c t) t k i b)) (nI (t + 1)) g' h' n'' ty := by
  obtain ⟨ya, yb⟩ := yN_of (by decide) (hY t (by omega))
  intro k
  induction k with
  | zero =>
    intro i n v b g h n' h1 h2 hv hb hg
    obtain ⟨n, rfl⟩ : ∃ q, n = q + 1 := ⟨n - 1, by omega⟩
    obtain ⟨g1, h3, n1, e1, e2, e3, e4⟩ := tryMove_s (kinds := tk) (hears := h) (near := n') (v := yN yards t) hn hN hct hw hbr (yrd_upd (t := t) hYt hv) yb ht hg
    rw [upd_upd, upd_same (hyy.trans ya)] at e1 e2
    rw [L_X4_leastMove_37_u, if_pos (show (144 : Int32) ≤ nI i from nI_le (a := 144) (by omega) (by omega)), rd_nI (by omega) (by decide), ya, e1]
    simp only [bd4, nm]
    rw [nI_1]
    exact ⟨g1, h3, n1, e2, rfl⟩
  | succ k ih =>
    intro i n v b g h n' h1 h2 hv hb hg
    obtain ⟨n, rfl⟩ : ∃ q, n = q + 1 := ⟨n - 1, by omega⟩
    have hfl := fa_lt (w := w) (c := c) hY hbr (t := t) (by omega) (v := i) (by omega)
    have hok := lsS_ok (w := w) (c := c) (won := wnT tk ty N w br c p said t i) hN hY hbr ht (v := i) (by omega) hb
    rw [L_X4_leastMove_37_u, if_neg (show ¬ (144 : Int32) ≤ nI i from nI_ge (b := 144) (by omega) (by decide)), rd_nI (by omega) (by decide), ya, apart_s hct hw hbr yb (by omega)]
    simp only [bd1, nm]
    rw [show farN w br (decide (c = 1)) (yN yards t) i = faT yards w br c t i from rfl, nI_1]
    have hst : lsF (frB yards N) (wnT tk ty N w br c p said t) (faT yards w br c t) t (k + 1) i b = lsF (frB yards N) (wnT tk ty N w br c p said t) (faT yards w br c t) t k (i + 1) (lsS (frB yards N i) (wnT tk ty N w br c p said t i) (faT yards w br c t i) (1000 * t + i) b) := rfl
    rw [hst]
    by_cases hl : lsL b (faT yards w br c t i) = true
    · rw [if_neg (fun h9 => by rw [eF_cmp hb hfl, hl] at h9; cases h9), tentOn_s hn hN]
      simp only []
      by_cases hf : whoR yards (nI i) N 0 = -1
      · have hfr : frB yards N i = true := decide_eq_true hf
        obtain ⟨g1, h3, n1, e1, e2, e3, e4⟩ := tryMove_s (kinds := tk) (hears := h) (near := n') (v := i) hn hN hct hw hbr (yrd_upd (t := t) hYt hv) (by omega) ht hg
        rw [upd_upd] at e1 e2 e3 e4
        rw [if_pos hf, e1]
        simp only [bd4]
        rw [isWon_s hn hN hp0 hp e3 e4]
        simp only []
        cases hwn : wnY tk N w br c p said (upd ty t (nI i)) with
        | false =>
          have hs : lsS (frB yards N i) (wnT tk ty N w br c p said t i) (faT yards w br c t i) (1000 * t + i) b = b := by
            unfold lsS
            rw [show wnT tk ty N w br c p said t i = false from hwn, Bool.and_false]
            rfl
          rw [hs, if_pos bI0]
          exact ih (i + 1) n i b g1 h3 n1 (by omega) (by omega) (by omega) hb e2
        | true =>
          have hs : lsS (frB yards N i) (wnT tk ty N w br c p said t i) (faT yards w br c t i) (1000 * t + i) b = some (faT yards w br c t i, 1000 * t + i) := by
            unfold lsS
            rw [show wnT tk ty N w br c p said t i = true from hwn, hfr, hl]
            rfl
          rw [hs] at hok
          rw [hs, if_neg bI1, ls_new (w := 0)]
          exact ih (i + 1) n i (some (faT yards w br c t i, 1000 * t + i)) g1 h3 n1 (by omega) (by omega) (by omega) hok e2
      · have hs : lsS (frB yards N i) (wnT tk ty N w br c p said t i) (faT yards w br c t i) (1000 * t + i) b = b := by
          unfold lsS
          rw [show frB yards N i = false from decide_eq_false hf]
          rfl
        rw [if_neg hf, hs]
        exact ih (i + 1) n v b g h n' (by omega) (by omega) hv hb hg
    · have hl2 : lsL b (faT yards w br c t i) = false := by
        cases hq : lsL b (faT yards w br c t i) with
        | false => rfl
        | true => exact absurd hq hl
      have hs : lsS (frB yards N i) (wnT tk ty N w br c p said t i) (faT yards w br c t i) (1000 * t + i) b = b := by
        unfold lsS
        rw [hl2, Bool.and_false, Bool.false_and]
        rfl
      rw [if_pos ((eF_cmp hb hfl).mpr hl2), hs]
      exact ih (i + 1) n v b g h n' (by omega) (by omega) hv hb hg
theorem lm_o {n0 N w br p : Nat} {yards tk ty ts hB : Nat → Int32} {said c day z : Int32} (hn : 2000000 ≤ n0) (hN : N ≤ 10) (hct : c = 0 ∨ c = 1) (hw : w < 12) (hbr : br < 12) (hY : yrdOK yards) (hYt : yrdOK ty) (hyy : ∀ i : Nat, i < 10 → ty i = yards i) (hp0 : 0 < p) (hp : p ≤ 60) : ∀ (k t n : Nat) (b : Option (Nat × Nat)) (g h n' : Nat → Int32), t + k = N → k < n → okL b → gapOK N w br c g ty → ∃ g' h' n'' : Nat → Int32, L_X4_leastMove_22 (nI N) hB (nI N) said (nI w) (nI br) c day z tk ts yards n0 (nI w) (nI br) c (nI p) n (eB b) (eF b) (nI t) g h n' ty = some (eB (lsO (frB yards N) (wnT tk ty N w br c p said) (faT yards w br c) k t b), hB, nI N, said, nI w, nI br, c, day, z, g', h', n'', tk, ts, ty) := by
  intro k
  induction k with
  | zero =>
    intro t n b g h n' h1 h2 hb hg
    obtain ⟨n, rfl⟩ : ∃ q, n = q + 1 := ⟨n - 1, by omega⟩
    rw [L_X4_leastMove_22_u, if_pos (nI_le (by omega) (by omega))]
    exact ⟨_, _, _, rfl⟩
  | succ k ih =>
    intro t n b g h n' h1 h2 hb hg
    obtain ⟨n, rfl⟩ : ∃ q, n = q + 1 := ⟨n - 1, by omega⟩
    obtain ⟨v, hv1, hv2⟩ := hYt t (by omega)
    obtain ⟨g1, h3, n1, e1, e2⟩ := lm_i (tk := tk) (said := said) (kk := L_X4_leastMove_22 (nI N) hB (nI N) said (nI w) (nI br) c day z tk ts yards n0 (nI w) (nI br) c (nI p) n) hn hN hct hw hbr hY hYt (hyy t (by omega)) (t := t) (by omega) hp0 hp 144 0 n0 v b g h n' (by omega) (by omega) hv1 hb (by rw [upd_same hv2]; exact hg)
    rw [upd_same hv2, nI_0] at e2
    rw [L_X4_leastMove_22_u, if_neg (nI_ge (by omega) (by omega)), e2]
    exact ih (t + 1) n _ g1 h3 n1 (by omega) (by omega) (lsF_ok hN hY hbr (by omega) 144 0 b (by omega) hb) e1
theorem CR_wb {kinds yards spots d : Nat → Int32} {N : Nat} {said wall bridge counted day z : Int32} (hC : CR kinds yards spots (nI N) said wall bridge counted day z d) : d 3 = wall ∧ d 4 = bridge := by
  obtain ⟨M, hM, h0, hd0, hd1, hd2, hd3, hd4, hd5, hd6, hct, hwl, hbr, hdy, hsa, hA, hKi, hYa, hSp⟩ := hC
  exact ⟨hd3, hd4⟩
/-- the reference's search has come to b -/
def mmR (kk : Int32 → (Nat → Int32) → (Nat → Int32) → (Nat → Int32) → Int32 → Int32 → Option (Int32 × Int32 × (Nat → Int32) × (Nat → Int32) × (Nat → Int32))) (t : Nat) (d : Nat → Int32) (x : Option (Int32 × Int32 × (Nat → Int32) × (Nat → Int32) × (Nat → Int32))) (b : Option (Nat × Nat)) : Prop := ∃ h' n'' : Nat → Int32, x = kk (nI (t + 1)) d h' n'' (mF b) (mW b)
theorem mm_78 {n0 t p i n : Nat} {d h n' : Nat → Int32} {f : Int32} {b B : Option (Nat × Nat)} {kk : Int32 → (Nat → Int32) → (Nat → Int32) → (Nat → Int32) → Int32 → Int32 → Option (Int32 × Int32 × (Nat → Int32) × (Nat → Int32) × (Nat → Int32))} (ih : mmR kk t d (L_X7_findLeast_31 (nI t) kk n0 (d (20 + t)) (-1) (nI p) n (nI (i + 1)) d h n' (mF b) (mW b)) B) : mmR kk t d (J_X7_findLeast_78 (nI i) (L_X7_findLeast_31 (nI t) kk n0 (d (20 + t)) (-1) (nI p) n) d h n' (mF b) (mW b) (nI t) n0 (-1) (nI p) (d (20 + t)) f) B := by
  unfold J_X7_findLeast_78 J_X7_findLeast_79
  rw [if_pos rfl, nm, nI_1]
  exact ih
theorem mm_74 {n0 t p i n f : Nat} {d h n' m3 m4 : Nat → Int32} {won : Bool} {b B : Option (Nat × Nat)} {kk : Int32 → (Nat → Int32) → (Nat → Int32) → (Nat → Int32) → Int32 → Int32 → Option (Int32 × Int32 × (Nat → Int32) × (Nat → Int32) × (Nat → Int32))} (ht : t < 10) (k3 : F_X7_isMore n0 (-1) (upd d (20 + t) (nI i)) h n' (nI p) = some (bI won, m3, m4)) (ih1 : won = false → mmR kk t d (L_X7_findLeast_31 (nI t) kk n0 (d (20 + t)) (-1) (nI p) n (nI (i + 1)) d m3 m4 (mF b) (mW b)) B) (ih2 : won = true → mmR kk t d (L_X7_findLeast_31 (nI t) kk n0 (d (20 + t)) (-1) (nI p) n (nI (i + 1)) d m3 m4 (nI f) (nI (1000 * t + i))) B) : mmR kk t d (J_X7_findLeast_74 (nI i) (L_X7_findLeast_31 (nI t) kk n0 (d (20 + t)) (-1) (nI p) n) d h n' (mF b) (mW b) (nI t) n0 (-1) (nI p) (d (20 + t)) (nI f)) B := by
  unfold J_X7_findLeast_74 J_X7_findLeast_79
  generalize hc : (1000 : Int32) = c
  rw [if_neg (by decide)]
  simp only [nmq]
  rw [wrt_l (20 + t) (a20 t) (by omega) (by decide), k3]
  simp only [bd3]
  unfold J_X7_findLeast_126
  simp only [nm]
  rw [wrt_l (20 + t) (a20 t) (by omega) (by decide), wrt_l (20 + t) (a20 t) (by omega) (by decide), upd_upd, upd_same rfl, nI_1]
  cases won with
  | false =>
    rw [if_pos bI0]
    exact ih1 rfl
  | true =>
    rw [if_neg bI1, ← hc, show (1000 : Int32) = nI 1000 from rfl, pk_mul, nI_add]
    exact ih2 rfl
theorem mm_s {fr won : Bool} {far m : Nat} {b : Option (Nat × Nat)} (h : fr = false ∨ lsL b far = false ∨ won = false) : lsS fr won far m b = b := by
  unfold lsS
  rcases h with h | h | h
  · rw [h]; rfl
  · rw [h, Bool.and_false, Bool.false_and]; rfl
  · rw [h, Bool.and_false]; rfl
theorem mm_t {fr won : Bool} {far m : Nat} {b : Option (Nat × Nat)} (h1 : fr = true) (h2 : lsL b far = true) (h3 : won = true) : lsS fr won far m b = some (far, m) := by
  unfold lsS
  rw [h1, h2, h3]
  rfl
theorem mm_i {n0 N w br t p : Nat} {yards tk ty ts d : Nat → Int32} {said c day z : Int32} {kk : Int32 → (Nat → Int32) → (Nat → Int32) → (Nat → Int32) → Int32 → Int32 → Option (Int32 × Int32 × (Nat → Int32) × (Nat → Int32) × (Nat → Int32))} (hn : 2000000 ≤ n0) (hN : N ≤ 10) (hw : w < 12) (hbr : br < 12) (hY : yrdOK yards) (hC : CR tk ty ts (nI N) said (nI w) (nI br) c day z d) (hyd : ∀ i : Nat, i < 10 → d (20 + i) = yards i) (ht : t < N) (hp0 : 0 < p) (hp : p ≤ 60) : ∀ (k i n : Nat) (b : Option (Nat × Nat)) (h n' : Nat → Int32), i + k = 144 → k < n → okL b → mmR kk t d (L_X7_findLeast_31 (nI t) kk n0 (d (20 + t)) (-1) (nI p) n (nI i) d h n' (mF b) (mW b)) (lsF (frB yards N) (wnT tk ty N w br c p said t) (faT yards w br c t) t k i b) := by
  obtain ⟨ya, yb⟩ := yN_of (by decide) (hY t (by omega))
  obtain ⟨hd0, _, _⟩ := CR_N hN hC
  obtain ⟨hct, _, _, _, _, hd6, hd5, hk⟩ := CR_parts hN hC
  obtain ⟨hd3, hd4⟩ := CR_wb hC
  intro k
  induction k with
  | zero =>
    intro i n b h n' h1 h2 hb
    obtain ⟨n, rfl⟩ : ∃ q, n = q + 1 := ⟨n - 1, by omega⟩
    rw [L_X7_findLeast_31_u, if_pos (show (144 : Int32) ≤ nI i from nI_le (a := 144) (by omega) (by omega)), nm, nI_1]
    exact ⟨h, n', rfl⟩
  | succ k ih =>
    intro i n b h n' h1 h2 hb
    obtain ⟨n, rfl⟩ : ∃ q, n = q + 1 := ⟨n - 1, by omega⟩
    have hfl := fa_lt (w := w) (c := c) hY hbr (t := t) (by omega) (v := i) (by omega)
    have hfp := fa_pos (w := w) (br := br) (c := c) hN hY ht (v := i)
    have hfo : F_X7_farOf n0 d (d (20 + t)) (nI i) = some (nI (faT yards w br c t i)) := by
      rw [hyd t (by omega), ya]
      exact farOf_s hct hd3 hd4 hd5 hw hbr yb (by omega)
    obtain ⟨m3, m4, k3⟩ := isMore_C (mh := h) (mn := n') hn hN hw hbr hp0 hp (CR_yard (t := t) (y := i) (by omega) (by omega) hC)
    have hst : lsF (frB yards N) (wnT tk ty N w br c p said t) (faT yards w br c t) t (k + 1) i b = lsF (frB yards N) (wnT tk ty N w br c p said t) (faT yards w br c t) t k (i + 1) (lsS (frB yards N i) (wnT tk ty N w br c p said t i) (faT yards w br c t i) (1000 * t + i) b) := rfl
    have hwn : wnY tk N w br c p said (upd ty t (nI i)) = wnT tk ty N w br c p said t i := rfl
    rw [hwn] at k3
    have hfr : frB yards N i = true ↔ whoR yards (nI i) N 0 = -1 := ⟨fun h => of_decide_eq_true h, fun h => decide_eq_true h⟩
    have hfn : ¬ whoR yards (nI i) N 0 = -1 → frB yards N i = false := fun h => decide_eq_false h
    rw [L_X7_findLeast_31_u, if_neg (show ¬ (144 : Int32) ≤ nI i from nI_ge (b := 144) (by omega) (by decide)), hfo, whoIs_s hn hN hd0 hyd, hst]
    simp only [bd1]
    have hih := fun b h n' (hb : okL b) => ih (i + 1) n b h n' (by omega) (by omega) hb
    clear ih hst hfo hwn
    generalize faT yards w br c t i = f at *
    generalize wnT tk ty N w br c p said t i = won at *
    generalize frB yards N i = fr at *
    have h74 : fr = true → lsL b f = true → mmR kk t d (J_X7_findLeast_74 (nI i) (L_X7_findLeast_31 (nI t) kk n0 (d (20 + t)) (-1) (nI p) n) d h n' (mF b) (mW b) (nI t) n0 (-1) (nI p) (d (20 + t)) (nI f)) (lsF (frB yards N) (wnT tk ty N w br c p said t) (faT yards w br c t) t k (i + 1) (lsS fr won f (1000 * t + i) b)) := by
      intro g1 g2
      refine mm_74 (by omega) k3 (fun g3 => ?_) (fun g3 => ?_)
      · rw [mm_s (Or.inr (Or.inr g3))]
        exact hih b m3 m4 hb
      · rw [mm_t g1 g2 g3]
        exact hih (some (f, 1000 * t + i)) m3 m4 ⟨hfp g1, hfl, by show 1000 * t + i < 10000; omega⟩
    by_cases hf : whoR yards (nI i) N 0 = -1
    · rw [if_pos hf]
      cases b with
      | none =>
        rw [if_pos (show mF none < 0 from by decide)]
        exact h74 (hfr.mpr hf) rfl
      | some q =>
        obtain ⟨o1, o2, o3⟩ := id hb
        rw [if_neg (show ¬ mF (some q) < 0 from nI_pos (by omega))]
        by_cases h5 : q.1 ≤ f
        · rw [if_pos (show mF (some q) ≤ nI f from nI_le h5 (by omega)), mm_s (Or.inr (Or.inl (by rw [lsL_some]; exact decide_eq_false (by omega))))]
          exact mm_78 (hih (some q) h n' hb)
        · rw [if_neg (show ¬ mF (some q) ≤ nI f from nI_ge (by omega) (by omega))]
          exact h74 (hfr.mpr hf) (by rw [lsL_some]; exact decide_eq_true (by omega))
    · rw [if_neg hf, mm_s (Or.inl (hfn hf))]
      exact mm_78 (hih b h n' hb)
theorem mm_o {n0 N w br p : Nat} {yards tk ty ts d : Nat → Int32} {said c day z : Int32} (hn : 2000000 ≤ n0) (hN : N ≤ 10) (hw : w < 12) (hbr : br < 12) (hY : yrdOK yards) (hC : CR tk ty ts (nI N) said (nI w) (nI br) c day z d) (hyd : ∀ i : Nat, i < 10 → d (20 + i) = yards i) (hp0 : 0 < p) (hp : p ≤ 60) : ∀ (k t n : Nat) (b : Option (Nat × Nat)) (h n' : Nat → Int32), t + k = N → k < n → okL b → ∃ h' n'' : Nat → Int32, L_X7_findLeast_12 n0 (-1) (nI p) n (nI t) d h n' (mF b) (mW b) = some (mF (lsO (frB yards N) (wnT tk ty N w br c p said) (faT yards w br c) k t b), mW (lsO (frB yards N) (wnT tk ty N w br c p said) (faT yards w br c) k t b), d, h', n'') := by
  obtain ⟨hd0, _, _⟩ := CR_N hN hC
  intro k
  induction k with
  | zero =>
    intro t n b h n' h1 h2 hb
    obtain ⟨n, rfl⟩ : ∃ q, n = q + 1 := ⟨n - 1, by omega⟩
    rw [L_X7_findLeast_12_u, rd_l 0 l0 (by decide) (by decide), hd0, if_pos (nI_le (by omega) (by omega))]
    exact ⟨_, _, rfl⟩
  | succ k ih =>
    intro t n b h n' h1 h2 hb
    obtain ⟨n, rfl⟩ : ∃ q, n = q + 1 := ⟨n - 1, by omega⟩
    obtain ⟨h3, n1, e2⟩ := mm_i (kk := L_X7_findLeast_12 n0 (-1) (nI p) n) hn hN hw hbr hY hC hyd (t := t) (by omega) hp0 hp 144 0 n0 b h n' (by omega) (by omega) hb
    rw [nI_0] at e2
    rw [L_X7_findLeast_12_u, rd_l 0 l0 (by decide) (by decide), hd0, if_neg (nI_ge (by omega) (by omega)), mYd (by omega)]
    simp only [bd1]
    rw [e2]
    exact ih (t + 1) n _ h3 n1 (by omega) (by omega) (lsF_ok hN hY hbr (by omega) 144 0 b (by omega) hb)
theorem st_least {n0 : Nat} (hn : 2000000 ≤ n0) : St_least n0 := by
  intro xv_isKept xf_found xv_camp_tents xv_camp_said xv_camp_wall xv_camp_bridge xv_camp_counted xv_camp_day xv_camp_z xf_camp_kinds xf_camp_yards xf_camp_spots xv_kept_tents xv_kept_said xv_kept_wall xv_kept_bridge xv_kept_counted xv_kept_day xv_kept_z xf_kept_kinds xf_kept_yards xf_kept_spots xf_trials_heardBefore xv_trials_trial_tents xv_trials_trial_said xv_trials_trial_wall xv_trials_trial_bridge xv_trials_trial_counted xv_trials_trial_day xv_trials_trial_z xf_trials_trial_kinds xf_trials_trial_yards xf_trials_trial_spots xf_trials_ears_hears xf_trials_ears_near xf_trials_ears_gaps xv_tape_size xf_tape_bytes xv_sheets_0_bits xv_sheets_0_size xf_sheets_0_numbers xv_sheets_1_bits xv_sheets_1_size xf_sheets_1_numbers xv_sheets_2_bits xv_sheets_2_size xf_sheets_2_numbers xv_sheets_3_bits xv_sheets_3_size xf_sheets_3_numbers mv_isKept mv_taped mv_gone mv_leastFar mv_leastWhere mf_d mf_kept mf_found mf_tape mf_hears mf_near mf_bitsOf mf_sizeOf mf_number hI p1
  obtain ⟨hC, hK1, hK2, hK3, hF, hT, hS0, hS1, hS2, hS3, hG⟩ := hI
  have hC0 := hC
  obtain ⟨N, hN, h0, hd0, hd1, hd2, hd3, hd4, hd5, hd6, hct, hwl, hbr, hdy, hsa, hA, hKi, hYa, hSp⟩ := hC
  obtain ⟨w, hw1, hw2⟩ := hwl
  obtain ⟨br, hb1, hb2⟩ := hbr
  have hC1 := hC0
  rw [h0, hw2, hb2] at hC1
  by_cases hr : inR 1 60 p1
  · obtain ⟨p, hp0, hp1, hp2⟩ := inR_nI1 (lo := 1) (hi := 60) hr
    obtain ⟨hb, g', h', n', tk, ts, ty, b1, b2, b3, b4, b5, b6, b7, b8⟩ := begin_s (hb0 := xf_trials_heardBefore) (xg := xf_trials_ears_gaps) (xh := xf_trials_ears_hears) (xn := xf_trials_ears_near) (tk0 := xf_trials_trial_kinds) (ts0 := xf_trials_trial_spots) (ty0 := xf_trials_trial_yards) (t1 := xv_trials_trial_tents) (t2 := xv_trials_trial_said) (t3 := xv_trials_trial_wall) (t4 := xv_trials_trial_bridge) (t5 := xv_trials_trial_counted) (t6 := xv_trials_trial_day) (t7 := xv_trials_trial_z) hn hN hw1 hb1 hC1
    obtain ⟨_, hYt, _, _, _, _, _, _⟩ := CR_parts hN b2
    have hwon := isWon_s (said := xv_camp_said) hn hN (p := p) (by omega) hp1 b7 b8
    obtain ⟨m1, m2, k1⟩ := isMore_C (mh := mf_hears) (mn := mf_near) hn hN hw1 hb1 (p := p) (by omega) hp1 b2
    cases hwn : wnY tk N w br xv_camp_counted p xv_camp_said ty with
    | true =>
      rw [hwn] at hwon k1
      have hx : F_X6_least n0 xv_camp_tents xv_camp_said xv_camp_wall xv_camp_bridge xv_camp_counted xv_camp_day xv_camp_z xf_found xf_camp_kinds xf_camp_spots xf_camp_yards xf_trials_heardBefore xv_trials_trial_tents xv_trials_trial_said xv_trials_trial_wall xv_trials_trial_bridge xv_trials_trial_counted xv_trials_trial_day xv_trials_trial_z xf_trials_ears_gaps xf_trials_ears_hears xf_trials_ears_near xf_trials_trial_kinds xf_trials_trial_spots xf_trials_trial_yards p1 = some (0, xf_found, hb, nI N, xv_camp_said, nI w, nI br, xv_camp_counted, xv_camp_day, xv_camp_z, g', h', n', tk, ts, ty) := by
        unfold F_X6_least F_X4_leastMove
        rw [h0, hw2, hb2, isFrom_t (a := 1) (b := 60) hr, b1, hp2]
        simp only [bd1, one0, bd14]
        rw [hwon]
        simp only []
        rw [if_neg bI1]
        simp only [bd15]
        rw [if_neg (show ¬ (0 : Int32) = -1 from by decide), dvn_k (by decide), show (0 : Int32) / 100000 = 0 from by decide]
      have hm : F_X7_least n0 mv_gone mv_leastFar mv_leastWhere mf_d mf_found mf_hears mf_near p1 = some (0, mv_leastFar, mv_leastWhere, mf_d, mf_found, m1, m2) := by
        unfold F_X7_least
        simp only [nm]
        rw [in_t (a := 1) (b := 60) hr, hG, hp2, k1]
        rfl
      exact ⟨_, _, _, _, _, _, _, _, _, _, _, _, _, _, _, _, _, _, _, _, _, _, hx, hm, hC0, hK1, hK2, hK3, hF, hT, hS0, hS1, hS2, hS3, hG⟩
    | false =>
      rw [hwn] at hwon k1
      obtain ⟨g2, h2, n2, c1⟩ := lm_o (tk := tk) (ts := ts) (hB := hb) (said := xv_camp_said) (day := xv_camp_day) (z := xv_camp_z) hn hN hct hw1 hb1 hYa hYt b3 (p := p) (by omega) hp1 N 0 n0 none g' h' n' (by omega) (by omega) trivial b5
      obtain ⟨m3, m4, c2⟩ := mm_o (yards := xf_camp_yards) hn hN hw1 hb1 hYa b2 (fun i hi => (hA i hi).2.1) (p := p) (by omega) hp1 N 0 n0 none m1 m2 (by omega) (by omega) trivial
      have hok := lsO_ok (w := w) (c := xv_camp_counted) (won := wnT tk ty N w br xv_camp_counted p xv_camp_said) hN hYa hb1 N 0 none (by omega) trivial
      rw [nI_0] at c1 c2
      have c1' : L_X4_leastMove_22 (nI N) hb (nI N) xv_camp_said (nI w) (nI br) xv_camp_counted xv_camp_day xv_camp_z tk ts xf_camp_yards n0 (nI w) (nI br) xv_camp_counted (nI p) n0 (-1) 1000000 0 g' h' n' ty = _ := c1
      have c2' : L_X7_findLeast_12 n0 (-1) (nI p) n0 0 mf_d m1 m2 (-1) 0 = _ := c2
      have hx0 : F_X6_least n0 xv_camp_tents xv_camp_said xv_camp_wall xv_camp_bridge xv_camp_counted xv_camp_day xv_camp_z xf_found xf_camp_kinds xf_camp_spots xf_camp_yards xf_trials_heardBefore xv_trials_trial_tents xv_trials_trial_said xv_trials_trial_wall xv_trials_trial_bridge xv_trials_trial_counted xv_trials_trial_day xv_trials_trial_z xf_trials_ears_gaps xf_trials_ears_hears xf_trials_ears_near xf_trials_trial_kinds xf_trials_trial_spots xf_trials_trial_yards p1 = bd15 (some (eB (lsO (frB xf_camp_yards N) (wnT tk ty N w br xv_camp_counted p xv_camp_said) (faT xf_camp_yards w br xv_camp_counted) N 0 none), hb, nI N, xv_camp_said, nI w, nI br, xv_camp_counted, xv_camp_day, xv_camp_z, g2, h2, n2, tk, ts, ty)) (fun x2 g3 x4 x5 x6 x7 x8 x9 x10 g11 g12 g13 g14 g15 g16 => (if x2 = ((-1)) then bd2 (F_X6_finding n0 xf_found ((-1000004))) (fun x18 g19 => some (x18, g19, g3, x4, x5, x6, x7, x8, x9, x10, g11, g12, g13, g14, g15, g16)) else dvn 100000 (x2 / 100000) (fun x17 => some (x17, xf_found, g3, x4, x5, x6, x7, x8, x9, x10, g11, g12, g13, g14, g15, g16)))) := by
        unfold F_X6_least F_X4_leastMove
        rw [h0, hw2, hb2, isFrom_t (a := 1) (b := 60) hr, b1, hp2]
        simp only [bd1, one0, bd14]
        rw [hwon]
        simp only [bI0, if_true]
        rw [c1']
      have hm0 : F_X7_least n0 mv_gone mv_leastFar mv_leastWhere mf_d mf_found mf_hears mf_near p1 = bd5 (some (mF (lsO (frB xf_camp_yards N) (wnT tk ty N w br xv_camp_counted p xv_camp_said) (faT xf_camp_yards w br xv_camp_counted) N 0 none), mW (lsO (frB xf_camp_yards N) (wnT tk ty N w br xv_camp_counted p xv_camp_said) (faT xf_camp_yards w br xv_camp_counted) N 0 none), mf_d, m3, m4)) (fun x6 x7 g8 g9 g10 => (if 0 ≤ x6 then some (x6, x6, x7, g8, mf_found, g9, g10) else bd2 (F_X7_finds n0 mf_found 3) (fun x11 g12 => some (x11, x6, x7, g8, g12, g9, g10)))) := by
        unfold F_X7_least F_X7_findLeast
        simp only [nm]
        rw [in_t (a := 1) (b := 60) hr, hG, hp2, k1]
        simp only [bd1, one0, bd3]
        simp only [bI0, if_true]
        rw [c2']
      cases hq : lsO (frB xf_camp_yards N) (wnT tk ty N w br xv_camp_counted p xv_camp_said) (faT xf_camp_yards w br xv_camp_counted) N 0 none with
      | none =>
        rw [hq] at hx0 hm0
        have hx : F_X6_least n0 xv_camp_tents xv_camp_said xv_camp_wall xv_camp_bridge xv_camp_counted xv_camp_day xv_camp_z xf_found xf_camp_kinds xf_camp_spots xf_camp_yards xf_trials_heardBefore xv_trials_trial_tents xv_trials_trial_said xv_trials_trial_wall xv_trials_trial_bridge xv_trials_trial_counted xv_trials_trial_day xv_trials_trial_z xf_trials_ears_gaps xf_trials_ears_hears xf_trials_ears_near xf_trials_trial_kinds xf_trials_trial_spots xf_trials_trial_yards p1 = some (-1000004, upd xf_found 3 (xf_found 3 + 1), hb, nI N, xv_camp_said, nI w, nI br, xv_camp_counted, xv_camp_day, xv_camp_z, g2, h2, n2, tk, ts, ty) := hx0
        have hm : F_X7_least n0 mv_gone mv_leastFar mv_leastWhere mf_d mf_found mf_hears mf_near p1 = some (-1000004, -1, 0, mf_d, upd mf_found 3 (mf_found 3 + 1), m3, m4) := hm0
        exact ⟨_, _, _, _, _, _, _, _, _, _, _, _, _, _, _, _, _, _, _, _, _, _, hx, hm, hC0, hK1, hK2, hK3, fnd_u hF 3 (by decide), hT, hS0, hS1, hS2, hS3, hG⟩
      | some q =>
        rw [hq] at hx0 hm0 hok
        obtain ⟨o1, o2, o3⟩ := hok
        have hx : F_X6_least n0 xv_camp_tents xv_camp_said xv_camp_wall xv_camp_bridge xv_camp_counted xv_camp_day xv_camp_z xf_found xf_camp_kinds xf_camp_spots xf_camp_yards xf_trials_heardBefore xv_trials_trial_tents xv_trials_trial_said xv_trials_trial_wall xv_trials_trial_bridge xv_trials_trial_counted xv_trials_trial_day xv_trials_trial_z xf_trials_ears_gaps xf_trials_ears_hears xf_trials_ears_near xf_trials_trial_kinds xf_trials_trial_spots xf_trials_trial_yards p1 = some (nI q.1, xf_found, hb, nI N, xv_camp_said, nI w, nI br, xv_camp_counted, xv_camp_day, xv_camp_z, g2, h2, n2, tk, ts, ty) := by
          rw [hx0]
          simp only [bd15]
          rw [show eB (some q) = nI (100000 * q.1 + q.2) from rfl, if_neg (nI_m1 (by omega)), dvn_k (by decide), show (100000 : Int32) = nI 100000 from rfl, pk_div (by omega) (by decide) (by decide), show (100000 * q.1 + q.2) / 100000 = q.1 by omega]
        have hm : F_X7_least n0 mv_gone mv_leastFar mv_leastWhere mf_d mf_found mf_hears mf_near p1 = some (nI q.1, nI q.1, nI q.2, mf_d, mf_found, m3, m4) := by
          rw [hm0]
          simp only [bd5]
          rw [show mF (some q) = nI q.1 from rfl, if_pos (nI_pos' (by omega))]
          rfl
        exact ⟨_, _, _, _, _, _, _, _, _, _, _, _, _, _, _, _, _, _, _, _, _, _, hx, hm, hC0, hK1, hK2, hK3, hF, hT, hS0, hS1, hS2, hS3, hG⟩
  · have hx : F_X6_least n0 xv_camp_tents xv_camp_said xv_camp_wall xv_camp_bridge xv_camp_counted xv_camp_day xv_camp_z xf_found xf_camp_kinds xf_camp_spots xf_camp_yards xf_trials_heardBefore xv_trials_trial_tents xv_trials_trial_said xv_trials_trial_wall xv_trials_trial_bridge xv_trials_trial_counted xv_trials_trial_day xv_trials_trial_z xf_trials_ears_gaps xf_trials_ears_hears xf_trials_ears_near xf_trials_trial_kinds xf_trials_trial_spots xf_trials_trial_yards p1 = some (-1000001, upd xf_found 0 (xf_found 0 + 1), xf_trials_heardBefore, xv_trials_trial_tents, xv_trials_trial_said, xv_trials_trial_wall, xv_trials_trial_bridge, xv_trials_trial_counted, xv_trials_trial_day, xv_trials_trial_z, xf_trials_ears_gaps, xf_trials_ears_hears, xf_trials_ears_near, xf_trials_trial_kinds, xf_trials_trial_spots, xf_trials_trial_yards) := by
      unfold F_X6_least
      rw [isFrom_f (a := 1) (b := 60) hr]
      rfl
    have hm : F_X7_least n0 mv_gone mv_leastFar mv_leastWhere mf_d mf_found mf_hears mf_near p1 = some (-1000001, mv_leastFar, mv_leastWhere, mf_d, upd mf_found 0 (mf_found 0 + 1), mf_hears, mf_near) := by
      unfold F_X7_least
      simp only [nm]
      rw [in_f (a := 1) (b := 60) hr]
      rfl
    exact ⟨_, _, _, _, _, _, _, _, _, _, _, _, _, _, _, _, _, _, _, _, _, _, hx, hm, hC0, hK1, hK2, hK3, fnd_u hF 0 (by decide), hT, hS0, hS1, hS2, hS3, hG⟩
theorem st_whom {n0 : Nat} (hn : 2000000 ≤ n0) : St_whom n0 := by
  intro xv_isKept xf_found xv_camp_tents xv_camp_said xv_camp_wall xv_camp_bridge xv_camp_counted xv_camp_day xv_camp_z xf_camp_kinds xf_camp_yards xf_camp_spots xv_kept_tents xv_kept_said xv_kept_wall xv_kept_bridge xv_kept_counted xv_kept_day xv_kept_z xf_kept_kinds xf_kept_yards xf_kept_spots xf_trials_heardBefore xv_trials_trial_tents xv_trials_trial_said xv_trials_trial_wall xv_trials_trial_bridge xv_trials_trial_counted xv_trials_trial_day xv_trials_trial_z xf_trials_trial_kinds xf_trials_trial_yards xf_trials_trial_spots xf_trials_ears_hears xf_trials_ears_near xf_trials_ears_gaps xv_tape_size xf_tape_bytes xv_sheets_0_bits xv_sheets_0_size xf_sheets_0_numbers xv_sheets_1_bits xv_sheets_1_size xf_sheets_1_numbers xv_sheets_2_bits xv_sheets_2_size xf_sheets_2_numbers xv_sheets_3_bits xv_sheets_3_size xf_sheets_3_numbers mv_isKept mv_taped mv_gone mv_leastFar mv_leastWhere mf_d mf_kept mf_found mf_tape mf_hears mf_near mf_bitsOf mf_sizeOf mf_number hI p1
  obtain ⟨hC, hK1, hK2, hK3, hF, hT, hS0, hS1, hS2, hS3, hG⟩ := hI
  have hC0 := hC
  obtain ⟨N, hN, h0, hd0, hd1, hd2, hd3, hd4, hd5, hd6, hct, hwl, hbr, hdy, hsa, hA, hKi, hYa, hSp⟩ := hC
  obtain ⟨w, hw1, hw2⟩ := hwl
  obtain ⟨br, hb1, hb2⟩ := hbr
  have hC1 := hC0
  rw [h0, hw2, hb2] at hC1
  by_cases hr : inR 1 60 p1
  · obtain ⟨p, hp0, hp1, hp2⟩ := inR_nI1 (lo := 1) (hi := 60) hr
    obtain ⟨hb, g', h', n', tk, ts, ty, b1, b2, b3, b4, b5, b6, b7, b8⟩ := begin_s (hb0 := xf_trials_heardBefore) (xg := xf_trials_ears_gaps) (xh := xf_trials_ears_hears) (xn := xf_trials_ears_near) (tk0 := xf_trials_trial_kinds) (ts0 := xf_trials_trial_spots) (ty0 := xf_trials_trial_yards) (t1 := xv_trials_trial_tents) (t2 := xv_trials_trial_said) (t3 := xv_trials_trial_wall) (t4 := xv_trials_trial_bridge) (t5 := xv_trials_trial_counted) (t6 := xv_trials_trial_day) (t7 := xv_trials_trial_z) hn hN hw1 hb1 hC1
    obtain ⟨_, hYt, _, _, _, _, _, _⟩ := CR_parts hN b2
    have hwon := isWon_s (said := xv_camp_said) hn hN (p := p) (by omega) hp1 b7 b8
    obtain ⟨m1, m2, k1⟩ := isMore_C (mh := mf_hears) (mn := mf_near) hn hN hw1 hb1 (p := p) (by omega) hp1 b2
    cases hwn : wnY tk N w br xv_camp_counted p xv_camp_said ty with
    | true =>
      rw [hwn] at hwon k1
      have hx : F_X6_whom n0 xv_camp_tents xv_camp_said xv_camp_wall xv_camp_bridge xv_camp_counted xv_camp_day xv_camp_z xf_found xf_camp_kinds xf_camp_spots xf_camp_yards xf_trials_heardBefore xv_trials_trial_tents xv_trials_trial_said xv_trials_trial_wall xv_trials_trial_bridge xv_trials_trial_counted xv_trials_trial_day xv_trials_trial_z xf_trials_ears_gaps xf_trials_ears_hears xf_trials_ears_near xf_trials_trial_kinds xf_trials_trial_spots xf_trials_trial_yards p1 = some (-1000004, upd xf_found 3 (xf_found 3 + 1), hb, nI N, xv_camp_said, nI w, nI br, xv_camp_counted, xv_camp_day, xv_camp_z, g', h', n', tk, ts, ty) := by
        unfold F_X6_whom F_X4_leastMove
        rw [h0, hw2, hb2, isFrom_t (a := 1) (b := 60) hr, b1, hp2]
        simp only [bd1, one0, bd14]
        rw [hwon]
        simp only []
        rw [if_neg bI1]
        simp only [bd15]
        rw [if_neg (show ¬ (100000 : Int32) ≤ 0 from by decide)]
        rfl
      have hm : F_X7_whom n0 mv_gone mv_leastFar mv_leastWhere mf_d mf_found mf_hears mf_near p1 = some (-1000004, mv_leastFar, mv_leastWhere, mf_d, upd mf_found 3 (mf_found 3 + 1), m1, m2) := by
        unfold F_X7_whom
        simp only [nm]
        rw [in_t (a := 1) (b := 60) hr, hG, hp2, k1]
        rfl
      exact ⟨_, _, _, _, _, _, _, _, _, _, _, _, _, _, _, _, _, _, _, _, _, _, hx, hm, hC0, hK1, hK2, hK3, fnd_u hF 3 (by decide), hT, hS0, hS1, hS2, hS3, hG⟩
    | false =>
      rw [hwn] at hwon k1
      obtain ⟨g2, h2, n2, c1⟩ := lm_o (tk := tk) (ts := ts) (hB := hb) (said := xv_camp_said) (day := xv_camp_day) (z := xv_camp_z) hn hN hct hw1 hb1 hYa hYt b3 (p := p) (by omega) hp1 N 0 n0 none g' h' n' (by omega) (by omega) trivial b5
      obtain ⟨m3, m4, c2⟩ := mm_o (yards := xf_camp_yards) hn hN hw1 hb1 hYa b2 (fun i hi => (hA i hi).2.1) (p := p) (by omega) hp1 N 0 n0 none m1 m2 (by omega) (by omega) trivial
      have hok := lsO_ok (w := w) (c := xv_camp_counted) (won := wnT tk ty N w br xv_camp_counted p xv_camp_said) hN hYa hb1 N 0 none (by omega) trivial
      rw [nI_0] at c1 c2
      have c1' : L_X4_leastMove_22 (nI N) hb (nI N) xv_camp_said (nI w) (nI br) xv_camp_counted xv_camp_day xv_camp_z tk ts xf_camp_yards n0 (nI w) (nI br) xv_camp_counted (nI p) n0 (-1) 1000000 0 g' h' n' ty = _ := c1
      have c2' : L_X7_findLeast_12 n0 (-1) (nI p) n0 0 mf_d m1 m2 (-1) 0 = _ := c2
      have hx0 : F_X6_whom n0 xv_camp_tents xv_camp_said xv_camp_wall xv_camp_bridge xv_camp_counted xv_camp_day xv_camp_z xf_found xf_camp_kinds xf_camp_spots xf_camp_yards xf_trials_heardBefore xv_trials_trial_tents xv_trials_trial_said xv_trials_trial_wall xv_trials_trial_bridge xv_trials_trial_counted xv_trials_trial_day xv_trials_trial_z xf_trials_ears_gaps xf_trials_ears_hears xf_trials_ears_near xf_trials_trial_kinds xf_trials_trial_spots xf_trials_trial_yards p1 = bd15 (some (eB (lsO (frB xf_camp_yards N) (wnT tk ty N w br xv_camp_counted p xv_camp_said) (faT xf_camp_yards w br xv_camp_counted) N 0 none), hb, nI N, xv_camp_said, nI w, nI br, xv_camp_counted, xv_camp_day, xv_camp_z, g2, h2, n2, tk, ts, ty)) (fun x2 g3 x4 x5 x6 x7 x8 x9 x10 g11 g12 g13 g14 g15 g16 => (if 100000 ≤ x2 then dvn 100000 (x2 - x2 / 100000 * 100000) (fun x17 => some (x17, xf_found, g3, x4, x5, x6, x7, x8, x9, x10, g11, g12, g13, g14, g15, g16)) else bd2 (F_X6_finding n0 xf_found ((-1000004))) (fun x18 g19 => some (x18, g19, g3, x4, x5, x6, x7, x8, x9, x10, g11, g12, g13, g14, g15, g16)))) := by
        unfold F_X6_whom F_X4_leastMove
        rw [h0, hw2, hb2, isFrom_t (a := 1) (b := 60) hr, b1, hp2]
        simp only [bd1, one0, bd14]
        rw [hwon]
        simp only [bI0, if_true]
        rw [c1']
      have hm0 : F_X7_whom n0 mv_gone mv_leastFar mv_leastWhere mf_d mf_found mf_hears mf_near p1 = bd5 (some (mF (lsO (frB xf_camp_yards N) (wnT tk ty N w br xv_camp_counted p xv_camp_said) (faT xf_camp_yards w br xv_camp_counted) N 0 none), mW (lsO (frB xf_camp_yards N) (wnT tk ty N w br xv_camp_counted p xv_camp_said) (faT xf_camp_yards w br xv_camp_counted) N 0 none), mf_d, m3, m4)) (fun x6 x7 g8 g9 g10 => (if 0 ≤ x6 then some (x7, x6, x7, g8, mf_found, g9, g10) else bd2 (F_X7_finds n0 mf_found 3) (fun x11 g12 => some (x11, x6, x7, g8, g12, g9, g10)))) := by
        unfold F_X7_whom F_X7_findLeast
        simp only [nm]
        rw [in_t (a := 1) (b := 60) hr, hG, hp2, k1]
        simp only [bd1, one0, bd3]
        simp only [bI0, if_true]
        rw [c2']
      cases hq : lsO (frB xf_camp_yards N) (wnT tk ty N w br xv_camp_counted p xv_camp_said) (faT xf_camp_yards w br xv_camp_counted) N 0 none with
      | none =>
        rw [hq] at hx0 hm0
        have hx : F_X6_whom n0 xv_camp_tents xv_camp_said xv_camp_wall xv_camp_bridge xv_camp_counted xv_camp_day xv_camp_z xf_found xf_camp_kinds xf_camp_spots xf_camp_yards xf_trials_heardBefore xv_trials_trial_tents xv_trials_trial_said xv_trials_trial_wall xv_trials_trial_bridge xv_trials_trial_counted xv_trials_trial_day xv_trials_trial_z xf_trials_ears_gaps xf_trials_ears_hears xf_trials_ears_near xf_trials_trial_kinds xf_trials_trial_spots xf_trials_trial_yards p1 = some (-1000004, upd xf_found 3 (xf_found 3 + 1), hb, nI N, xv_camp_said, nI w, nI br, xv_camp_counted, xv_camp_day, xv_camp_z, g2, h2, n2, tk, ts, ty) := hx0
        have hm : F_X7_whom n0 mv_gone mv_leastFar mv_leastWhere mf_d mf_found mf_hears mf_near p1 = some (-1000004, -1, 0, mf_d, upd mf_found 3 (mf_found 3 + 1), m3, m4) := hm0
        exact ⟨_, _, _, _, _, _, _, _, _, _, _, _, _, _, _, _, _, _, _, _, _, _, hx, hm, hC0, hK1, hK2, hK3, fnd_u hF 3 (by decide), hT, hS0, hS1, hS2, hS3, hG⟩
      | some q =>
        rw [hq] at hx0 hm0 hok
        obtain ⟨o1, o2, o3⟩ := hok
        have hx : F_X6_whom n0 xv_camp_tents xv_camp_said xv_camp_wall xv_camp_bridge xv_camp_counted xv_camp_day xv_camp_z xf_found xf_camp_kinds xf_camp_spots xf_camp_yards xf_trials_heardBefore xv_trials_trial_tents xv_trials_trial_said xv_trials_trial_wall xv_trials_trial_bridge xv_trials_trial_counted xv_trials_trial_day xv_trials_trial_z xf_trials_ears_gaps xf_trials_ears_hears xf_trials_ears_near xf_trials_trial_kinds xf_trials_trial_spots xf_trials_trial_yards p1 = some (nI q.2, xf_found, hb, nI N, xv_camp_said, nI w, nI br, xv_camp_counted, xv_camp_day, xv_camp_z, g2, h2, n2, tk, ts, ty) := by
          rw [hx0]
          simp only [bd15]
          rw [show eB (some q) = nI (100000 * q.1 + q.2) from rfl, if_pos (show (100000 : Int32) ≤ nI (100000 * q.1 + q.2) from nI_le (a := 100000) (by omega) (by omega)), dvn_k (by decide), show (100000 : Int32) = nI 100000 from rfl, pk_rem (by omega) (by decide) (by decide), show (100000 * q.1 + q.2) % 100000 = q.2 by omega]
        have hm : F_X7_whom n0 mv_gone mv_leastFar mv_leastWhere mf_d mf_found mf_hears mf_near p1 = some (nI q.2, nI q.1, nI q.2, mf_d, mf_found, m3, m4) := by
          rw [hm0]
          simp only [bd5]
          rw [show mF (some q) = nI q.1 from rfl, if_pos (nI_pos' (by omega))]
          rfl
        exact ⟨_, _, _, _, _, _, _, _, _, _, _, _, _, _, _, _, _, _, _, _, _, _, hx, hm, hC0, hK1, hK2, hK3, hF, hT, hS0, hS1, hS2, hS3, hG⟩
  · have hx : F_X6_whom n0 xv_camp_tents xv_camp_said xv_camp_wall xv_camp_bridge xv_camp_counted xv_camp_day xv_camp_z xf_found xf_camp_kinds xf_camp_spots xf_camp_yards xf_trials_heardBefore xv_trials_trial_tents xv_trials_trial_said xv_trials_trial_wall xv_trials_trial_bridge xv_trials_trial_counted xv_trials_trial_day xv_trials_trial_z xf_trials_ears_gaps xf_trials_ears_hears xf_trials_ears_near xf_trials_trial_kinds xf_trials_trial_spots xf_trials_trial_yards p1 = some (-1000001, upd xf_found 0 (xf_found 0 + 1), xf_trials_heardBefore, xv_trials_trial_tents, xv_trials_trial_said, xv_trials_trial_wall, xv_trials_trial_bridge, xv_trials_trial_counted, xv_trials_trial_day, xv_trials_trial_z, xf_trials_ears_gaps, xf_trials_ears_hears, xf_trials_ears_near, xf_trials_trial_kinds, xf_trials_trial_spots, xf_trials_trial_yards) := by
      unfold F_X6_whom
      rw [isFrom_f (a := 1) (b := 60) hr]
      rfl
    have hm : F_X7_whom n0 mv_gone mv_leastFar mv_leastWhere mf_d mf_found mf_hears mf_near p1 = some (-1000001, mv_leastFar, mv_leastWhere, mf_d, upd mf_found 0 (mf_found 0 + 1), mf_hears, mf_near) := by
      unfold F_X7_whom
      simp only [nm]
      rw [in_f (a := 1) (b := 60) hr]
      rfl
    exact ⟨_, _, _, _, _, _, _, _, _, _, _, _, _, _, _, _, _, _, _, _, _, _, hx, hm, hC0, hK1, hK2, hK3, fnd_u hF 0 (by decide), hT, hS0, hS1, hS2, hS3, hG⟩
