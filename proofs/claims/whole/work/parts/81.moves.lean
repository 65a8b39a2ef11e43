/-! moves, moved -/
def wiB (a v q : Nat) : Bool := decide (dN (a % 12) (v % 12) ≤ q) && decide (dN (a / 12) (v / 12) ≤ q)
theorem dN_lt {x y : Nat} (hx : x < 12) (hy : y < 12) : dN x y < 12 := by unfold dN; omega
theorem within_s {n0 a v q : Nat} (ha : a < 144) (hv : v < 144) (hq : q ≤ 2) : F_X4_isWithin n0 (nI a) (nI v) (nI q) = some (bI (wiB a v q)) := by
  have a1 : a % 12 < 12 := Nat.mod_lt _ (by decide)
  have a2 : v % 12 < 12 := Nat.mod_lt _ (by decide)
  have a3 : a / 12 < 12 := by omega
  have a4 : v / 12 < 12 := by omega
  have b1 := dN_lt a1 a2
  have b2 := dN_lt a3 a4
  unfold F_X4_isWithin wiB
  rw [dv12, rem12 ha, dv12, rem12 hv, nmq, abs_nI (by omega) (by omega), nmq]
  by_cases h1 : dN (a % 12) (v % 12) ≤ q
  · rw [if_neg (nI_nlt h1 (by omega)), dv12, div12 ha, dv12, div12 hv, nmq, abs_nI (by omega) (by omega), nmq, decide_eq_true h1]
    by_cases h2 : dN (a / 12) (v / 12) ≤ q
    · rw [if_neg (nI_nlt h2 (by omega)), decide_eq_true h2]; rfl
    · rw [if_pos (nI_lt (by omega) (by omega)), decide_eq_false h2]; rfl
  · rw [if_pos (nI_lt (by omega) (by omega)), decide_eq_false h1]; rfl
def nxT (tk ty : Nat → Int32) (N w br : Nat) (c s : Int32) (t v : Nat) : Int32 := nxO tk (hH tk N w br c (upd ty t (nI v))) (hM N w br c (upd ty t (nI v))) N s
def mvK (yards tk ty : Nat → Int32) (N w br q : Nat) (c s p : Int32) (t v : Nat) : Bool := wiB (yN yards t) v q && frB yards N v && decide (nxT tk ty N w br c s t v = p)
def mvS (ok : Bool) (m : Nat) (b : Nat × Nat) : Nat × Nat := if ok = true then (if b.2 = 0 then m else b.1, b.2 + 1) else b
def mvF (ok : Nat → Bool) (t : Nat) : Nat → Nat → Nat × Nat → Nat × Nat
  | 0, _, b => b
  | k + 1, i, b => mvF ok t k (i + 1) (mvS (ok i) (1000 * t + i) b)
def mvO (ok : Nat → Nat → Bool) : Nat → Nat → Nat × Nat → Nat × Nat
  | 0, _, b => b
  | k + 1, t, b => mvO ok k (t + 1) (mvF (ok t) t 144 0 b)
theorem mvS_b {ok : Bool} {m : Nat} {b : Nat × Nat} (hm : m < 10000) (hb : b.1 < 10000) : (mvS ok m b).1 < 10000 ∧ (mvS ok m b).2 ≤ b.2 + 1 := by
  unfold mvS
  by_cases h : ok = true
  · rw [if_pos h]
    refine ⟨?_, Nat.le_refl _⟩
    show (if b.2 = 0 then m else b.1) < 10000
    split
    · exact hm
    · exact hb
  · rw [if_neg h]
    exact ⟨hb, by omega⟩
theorem mvF_b {ok : Nat → Bool} {t : Nat} (ht : t < 9) : ∀ (k i : Nat) (b : Nat × Nat), i + k ≤ 144 → b.1 < 10000 → (mvF ok t k i b).1 < 10000 ∧ (mvF ok t k i b).2 ≤ b.2 + k := by
  intro k
  induction k with
  | zero => intro i b _ h; exact ⟨h, Nat.le_refl _⟩
  | succ k ih =>
    intro i b h1 h
    obtain ⟨a1, a2⟩ := mvS_b (ok := ok i) (m := 1000 * t + i) (b := b) (by omega) h
    obtain ⟨c1, c2⟩ := ih (i + 1) (mvS (ok i) (1000 * t + i) b) (by omega) a1
    exact ⟨c1, by
      show (mvF ok t k (i + 1) (mvS (ok i) (1000 * t + i) b)).2 ≤ _
      omega⟩
theorem mvF_b9 {ok : Nat → Bool} {t : Nat} (ht : t < 10) : ∀ (k i : Nat) (b : Nat × Nat), i + k ≤ 144 → b.1 < 10000 → (mvF ok t k i b).1 < 10000 ∧ (mvF ok t k i b).2 ≤ b.2 + k := by
  intro k
  induction k with
  | zero => intro i b _ h; exact ⟨h, Nat.le_refl _⟩
  | succ k ih =>
    intro i b h1 h
    obtain ⟨a1, a2⟩ := mvS_b (ok := ok i) (m := 1000 * t + i) (b := b) (by omega) h
    obtain ⟨c1, c2⟩ := ih (i + 1) (mvS (ok i) (1000 * t + i) b) (by omega) a1
    exact ⟨c1, by
      show (mvF ok t k (i + 1) (mvS (ok i) (1000 * t + i) b)).2 ≤ _
      omega⟩
theorem mvO_b {ok : Nat → Nat → Bool} : ∀ (k t : Nat) (b : Nat × Nat), t + k ≤ 10 → b.1 < 10000 → (mvO ok k t b).1 < 10000 ∧ (mvO ok k t b).2 ≤ b.2 + 144 * k := by
  intro k
  induction k with
  | zero => intro t b _ h; exact ⟨h, Nat.le_refl _⟩
  | succ k ih =>
    intro t b h1 h
    obtain ⟨a1, a2⟩ := mvF_b9 (ok := ok t) (t := t) (by omega) 144 0 b (by omega) h
    obtain ⟨c1, c2⟩ := ih (t + 1) _ (by omega) a1
    exact ⟨c1, by
      show (mvO ok k (t + 1) (mvF (ok t) t 144 0 b)).2 ≤ _
      omega⟩
theorem mv_no {ok : Bool} {m : Nat} {b : Nat × Nat} (h : ok = false) : mvS ok m b = b := by
  unfold mvS
  rw [h]
  rfl
theorem mv_yes {ok : Bool} {m : Nat} {b : Nat × Nat} (h : ok = true) : mvS ok m b = (if b.2 = 0 then m else b.1, b.2 + 1) := by
  unfold mvS
  rw [h]
  rfl
theorem k1000 {t i : Nat} : (1000 : Int32) * nI t + nI i = nI (1000 * t + i) := by rw [show (1000 : Int32) = nI 1000 from rfl, pk_mul, nI_add]
theorem em_i {n0 N w br t q : Nat} {yards tk ty : Nat → Int32} {said c p1 : Int32} {kk : Int32 → Int32 → Int32 → (Nat → Int32) → (Nat → Int32) → (Nat → Int32) → (Nat → Int32) → Option (Int32 × (Nat → Int32) × Int32 × Int32 × Int32 × Int32 × Int32 × Int32 × Int32 × (Nat → Int32) × (Nat → Int32) × (Nat → Int32) × (Nat → Int32) × (Nat → Int32) × (Nat → Int32))} (hn : 2000000 ≤ n0) (hN : N ≤ 10) (hct : c = 0 ∨ c = 1) (hw : w < 12) (hbr : br < 12) (hY : yrdOK yards) (hYt : yrdOK ty) (hyy : ty t = yards t) (ht : t < N) (hq : q ≤ 2) : ∀ (k i n v : Nat) (b : Nat × Nat) (g h n' : Nat → Int32), i + k = 144 → k < n → v < 144 → b.2 + k < 1000000 → gapOK N w br c g (upd ty t (nI v)) → ∃ g' h' n'' : Nat → Int32, gapOK N w br c g' ty ∧ L_X4_explainingMoves_56 yards (nI t) n0 (nI N) (nI w) (nI br) c tk kk (nI q) (nI N) said p1 n (nI b.1) (nI b.2) (nI i) g h n' (upd ty t (nI v)) = kk (nI (mvF (mvK yards tk ty N w br q c said p1 t) t k i b).1) (nI (mvF (mvK yards tk ty N w br q c said p1 t) t k i b).2) (nI (t + 1)) g' h' n'' ty := by
  obtain ⟨ya, yb⟩ := yN_of (by decide) (hY t (by omega))
  intro k
  induction k with
  | zero =>
    intro i n v b g h n' h1 h2 hv hb hg
    obtain ⟨n, rfl⟩ : ∃ q, n = q + 1 := ⟨n - 1, by omega⟩
    obtain ⟨g1, h3, n1, e1, e2, e3, e4⟩ := tryMove_s (kinds := tk) (hears := h) (near := n') (v := yN yards t) hn hN hct hw hbr (yrd_upd (t := t) hYt hv) yb ht hg
    rw [upd_upd, upd_same (hyy.trans ya)] at e1 e2
    rw [L_X4_explainingMoves_56_u, if_pos (show (144 : Int32) ≤ nI i from nI_le (a := 144) (by omega) (by omega)), rd_nI (by omega) (by decide), ya, e1, bd4_k, nmq, nI_1]
    exact ⟨g1, h3, n1, e2, rfl⟩
  | succ k ih =>
    intro i n v b g h n' h1 h2 hv hb hg
    obtain ⟨n, rfl⟩ : ∃ q, n = q + 1 := ⟨n - 1, by omega⟩
    have hst : mvF (mvK yards tk ty N w br q c said p1 t) t (k + 1) i b = mvF (mvK yards tk ty N w br q c said p1 t) t k (i + 1) (mvS (mvK yards tk ty N w br q c said p1 t i) (1000 * t + i) b) := rfl
    rw [L_X4_explainingMoves_56_u, if_neg (show ¬ (144 : Int32) ≤ nI i from nI_ge (b := 144) (by omega) (by decide)), rd_nI (by omega) (by decide), ya, within_s yb (by omega) hq, bd1_k, hst]
    cases hwi : wiB (yN yards t) i q with
    | false =>
      rw [if_pos bI0, nmq, nI_1, mv_no (show mvK yards tk ty N w br q c said p1 t i = false from by unfold mvK; rw [hwi]; rfl)]
      exact ih (i + 1) n v b g h n' (by omega) (by omega) hv (by omega) hg
    | true =>
      rw [if_neg bI1, tentOn_s hn hN, bd1_k]
      by_cases hf : whoR yards (nI i) N 0 = -1
      · obtain ⟨g1, h3, n1, e1, e2, e3, e4⟩ := tryMove_s (kinds := tk) (hears := h) (near := n') (v := i) hn hN hct hw hbr (yrd_upd (t := t) hYt hv) (by omega) ht hg
        rw [upd_upd] at e1 e2 e3 e4
        rw [if_pos hf, e1, bd4_k, next_O hn hN e3 e4, bd1_k, show nxO tk (hH tk N w br c (upd ty t (nI i))) (hM N w br c (upd ty t (nI i))) N said = nxT tk ty N w br c said t i from rfl]
        by_cases he : nxT tk ty N w br c said t i = p1
        · rw [if_pos he, mv_yes (show mvK yards tk ty N w br q c said p1 t i = true from by unfold mvK; rw [hwi, show frB yards N i = true from decide_eq_true hf, decide_eq_true he]; rfl)]
          by_cases hz : b.2 = 0
          · rw [if_pos hz, if_pos (show nI b.2 = 0 from by rw [hz]; rfl), nmq, nmq, nmq, nmq, nI_1 i, nI_1 b.2, k1000]
            exact ih (i + 1) n i (1000 * t + i, b.2 + 1) g1 h3 n1 (by omega) (by omega) (by omega) (by show b.2 + 1 + k < 1000000; omega) e2
          · rw [if_neg hz, if_neg (show ¬ nI b.2 = 0 from nI_ne0 (by omega) (by omega)), nmq, nmq, nI_1 i, nI_1 b.2]
            exact ih (i + 1) n i (b.1, b.2 + 1) g1 h3 n1 (by omega) (by omega) (by omega) (by show b.2 + 1 + k < 1000000; omega) e2
        · rw [if_neg he, nmq, nI_1, mv_no (show mvK yards tk ty N w br q c said p1 t i = false from by unfold mvK; rw [decide_eq_false he, Bool.and_false])]
          exact ih (i + 1) n i b g1 h3 n1 (by omega) (by omega) (by omega) (by omega) e2
      · rw [if_neg hf, nmq, nI_1, mv_no (show mvK yards tk ty N w br q c said p1 t i = false from by unfold mvK; rw [show frB yards N i = false from decide_eq_false hf, Bool.and_false, Bool.false_and])]
        exact ih (i + 1) n v b g h n' (by omega) (by omega) hv (by omega) hg
theorem em_o {n0 N w br q : Nat} {yards tk ty ts hB : Nat → Int32} {said c day z p1 : Int32} (hn : 2000000 ≤ n0) (hN : N ≤ 10) (hct : c = 0 ∨ c = 1) (hw : w < 12) (hbr : br < 12) (hY : yrdOK yards) (hYt : yrdOK ty) (hyy : ∀ i : Nat, i < 10 → ty i = yards i) (hq : q ≤ 2) : ∀ (k t n : Nat) (b : Nat × Nat) (g h n' : Nat → Int32), t + k = N → k < n → b.1 < 10000 → b.2 + 144 * k < 10000 → gapOK N w br c g ty → ∃ g' h' n'' : Nat → Int32, L_X4_explainingMoves_41 (nI N) hB (nI N) said (nI w) (nI br) c day z tk ts yards n0 (nI q) p1 n (nI b.1) (nI b.2) (nI t) g h n' ty = some (nI (100000 * (mvO (mvK yards tk ty N w br q c said p1) k t b).2 + (mvO (mvK yards tk ty N w br q c said p1) k t b).1), hB, nI N, said, nI w, nI br, c, day, z, g', h', n'', tk, ts, ty) := by
  intro k
  induction k with
  | zero =>
    intro t n b g h n' h1 h2 hb1 hb2 hg
    obtain ⟨n, rfl⟩ : ∃ q, n = q + 1 := ⟨n - 1, by omega⟩
    rw [L_X4_explainingMoves_41_u, if_pos (nI_le (by omega) (by omega)), nmq, nmq, show (100000 : Int32) = nI 100000 from rfl, pk_mul, nI_add]
    exact ⟨_, _, _, rfl⟩
  | succ k ih =>
    intro t n b g h n' h1 h2 hb1 hb2 hg
    obtain ⟨n, rfl⟩ : ∃ q, n = q + 1 := ⟨n - 1, by omega⟩
    obtain ⟨v, hv1, hv2⟩ := hYt t (by omega)
    obtain ⟨g1, h3, n1, e1, e2⟩ := em_i (tk := tk) (said := said) (p1 := p1) (kk := L_X4_explainingMoves_41 (nI N) hB (nI N) said (nI w) (nI br) c day z tk ts yards n0 (nI q) p1 n) hn hN hct hw hbr hY hYt (hyy t (by omega)) (t := t) (by omega) hq 144 0 n0 v b g h n' (by omega) (by omega) hv1 (by omega) (by rw [upd_same hv2]; exact hg)
    obtain ⟨c1, c2⟩ := mvF_b9 (ok := mvK yards tk ty N w br q c said p1 t) (t := t) (by omega) 144 0 b (by omega) hb1
    rw [upd_same hv2, nI_0] at e2
    rw [L_X4_explainingMoves_41_u, if_neg (nI_ge (by omega) (by omega)), e2]
    exact ih (t + 1) n _ g1 h3 n1 (by omega) (by omega) c1 (by omega) e1
/-! the reference's ways -/
theorem mw_188 {t i : Nat} {d g25 g26 : Nat → Int32} {s29 u30 : Int32} {kk : Int32 → Int32 → (Nat → Int32) → (Nat → Int32) → (Nat → Int32) → Int32 → Option (Int32 × Int32 × (Nat → Int32) × (Nat → Int32) × (Nat → Int32))} (ht : t < 10) : J_X7_waysOf_188 (nI t) (upd d (20 + t) (nI i)) (d (20 + t)) (nI i) kk s29 g25 g26 u30 = kk s29 (nI (i + 1)) d g25 g26 u30 := by
  unfold J_X7_waysOf_188
  rw [nmq, wrt_l (20 + t) (a20 t) (by omega) (by decide), upd_upd, upd_same rfl, nmq, nI_1]
theorem mw_182 {t i a : Nat} {d g25 g26 : Nat → Int32} {u30 : Int32} {kk : Int32 → Int32 → (Nat → Int32) → (Nat → Int32) → (Nat → Int32) → Int32 → Option (Int32 × Int32 × (Nat → Int32) × (Nat → Int32) × (Nat → Int32))} (ht : t < 10) : J_X7_waysOf_182 (nI a) (nI t) (upd d (20 + t) (nI i)) (d (20 + t)) (nI i) kk g25 g26 u30 = kk (nI (a + 1)) (nI (i + 1)) d g25 g26 u30 := by
  unfold J_X7_waysOf_182
  rw [nmq, mw_188 ht, nI_1 a]
theorem mw_119 {n0 i : Nat} {d t14 t15 : Nat → Int32} {s11 u16 s4 vg p1 x10 : Int32} {kk : Int32 → Int32 → (Nat → Int32) → (Nat → Int32) → (Nat → Int32) → Int32 → Option (Int32 × Int32 × (Nat → Int32) × (Nat → Int32) × (Nat → Int32))} : J_X7_waysOf_119 (nI i) kk s11 d t14 t15 u16 s4 n0 vg p1 x10 = kk s11 (nI (i + 1)) d t14 t15 u16 := by
  unfold J_X7_waysOf_119 J_X7_waysOf_120
  rw [if_pos rfl, nmq, nI_1]
theorem mw_120 {n0 t i a f : Nat} {d h n' g25 g26 : Nat → Int32} {p1 x28 : Int32} {kk : Int32 → Int32 → (Nat → Int32) → (Nat → Int32) → (Nat → Int32) → Int32 → Option (Int32 × Int32 × (Nat → Int32) × (Nat → Int32) × (Nat → Int32))} (ht : t < 10) (ha : a < 1000000) (hl : F_X7_listen n0 (-1) (upd d (20 + t) (nI i)) h n' = some (g25, g26)) (hx : F_X7_nextOf n0 (upd d (20 + t) (nI i)) g25 g26 (d 6) = some x28) : J_X7_waysOf_120 1 (nI i) kk (nI a) d h n' (nI f) (nI t) n0 (-1) p1 (d (20 + t)) = if x28 = p1 then kk (nI (a + 1)) (nI (i + 1)) d g25 g26 (nI (if a = 0 then 1000 * t + i else f)) else kk (nI a) (nI (i + 1)) d g25 g26 (nI f) := by
  unfold J_X7_waysOf_120
  rw [if_neg (by decide), nmq, wrt_l (20 + t) (a20 t) (by omega) (by decide), hl, bd2_k, rd_l 6 l6 (by decide) (by decide), pk_un (by omega), hx, bd1_k]
  by_cases he : x28 = p1
  · rw [if_pos he, if_pos he]
    by_cases hz : a = 0
    · rw [if_pos hz, if_pos (show nI a = 0 from by rw [hz]; rfl), nmq, nmq, mw_182 ht, k1000]
    · rw [if_neg hz, if_neg (show ¬ nI a = 0 from nI_ne0 (by omega) (by omega)), mw_182 ht]
  · rw [if_neg he, if_neg he, mw_188 ht]
theorem mw_i {n0 N w br t q : Nat} {yards tk ty ts d : Nat → Int32} {said c day z p1 : Int32} {kk : Int32 → Int32 → (Nat → Int32) → (Nat → Int32) → (Nat → Int32) → Int32 → Option (Int32 × Int32 × (Nat → Int32) × (Nat → Int32) × (Nat → Int32))} (hn : 2000000 ≤ n0) (hN : N ≤ 10) (hw : w < 12) (hbr : br < 12) (hY : yrdOK yards) (hC : CR tk ty ts (nI N) said (nI w) (nI br) c day z d) (hyd : ∀ i : Nat, i < 10 → d (20 + i) = yards i) (ht : t < N) (hq : q ≤ 2) : ∀ (k i n : Nat) (b : Nat × Nat) (h n' : Nat → Int32), i + k = 144 → k < n → b.2 + k < 1000000 → ∃ h' n'' : Nat → Int32, L_X7_waysOf_61 (nI t) kk (d (20 + t)) n0 (nI q) (-1) p1 n (nI b.2) (nI i) d h n' (nI b.1) = kk (nI (mvF (mvK yards tk ty N w br q c said p1 t) t k i b).2) (nI (t + 1)) d h' n'' (nI (mvF (mvK yards tk ty N w br q c said p1 t) t k i b).1) := by
  obtain ⟨ya, yb⟩ := yN_of (by decide) (hY t (by omega))
  obtain ⟨hd0, _, _⟩ := CR_N hN hC
  obtain ⟨hct, _, _, _, _, hd6, hd5, hk⟩ := CR_parts hN hC
  have hyt : d (20 + t) = nI (yN yards t) := (hyd t (by omega)).trans ya
  intro k
  induction k with
  | zero =>
    intro i n b h n' h1 h2 hb
    obtain ⟨n, rfl⟩ : ∃ q, n = q + 1 := ⟨n - 1, by omega⟩
    rw [L_X7_waysOf_61_u, if_pos (show (144 : Int32) ≤ nI i from nI_le (a := 144) (by omega) (by omega)), nmq, nI_1]
    exact ⟨h, n', rfl⟩
  | succ k ih =>
    intro i n b h n' h1 h2 hb
    obtain ⟨n, rfl⟩ : ∃ q, n = q + 1 := ⟨n - 1, by omega⟩
    have hst : mvF (mvK yards tk ty N w br q c said p1 t) t (k + 1) i b = mvF (mvK yards tk ty N w br q c said p1 t) t k (i + 1) (mvS (mvK yards tk ty N w br q c said p1 t i) (1000 * t + i) b) := rfl
    have a1 : yN yards t % 12 < 12 := Nat.mod_lt _ (by decide)
    have a2 : i % 12 < 12 := Nat.mod_lt _ (by decide)
    have a3 : yN yards t / 12 < 12 := by omega
    have a4 : i / 12 < 12 := by omega
    have b1 := dN_lt a2 a1
    have b2 := dN_lt a4 a3
    have r1 : d (20 + t) - d (20 + t) / 12 * 12 = nI (yN yards t % 12) := by rw [hyt]; exact rem12 yb
    have r2 : d (20 + t) / 12 = nI (yN yards t / 12) := by rw [hyt]; exact div12 yb
    rw [L_X7_waysOf_61_u, if_neg (show ¬ (144 : Int32) ≤ nI i from nI_ge (b := 144) (by omega) (by decide)), dv12, rem12 (show i < 144 by omega), dv12, r1, nmq, size_nI (by omega) (by omega), bd1_k, hst]
    by_cases hx : dN (i % 12) (yN yards t % 12) ≤ q
    · rw [if_neg (nI_nlt hx (by omega)), dv12, div12 (show i < 144 by omega), dv12, r2, nmq, size_nI (by omega) (by omega), bd1_k]
      by_cases hy : dN (i / 12) (yN yards t / 12) ≤ q
      · have hwi : wiB (yN yards t) i q = true := by
          unfold wiB
          rw [dN_comm, decide_eq_true hx, dN_comm, decide_eq_true hy]
          rfl
        rw [if_neg (nI_nlt hy (by omega)), whoIs_s hn hN hd0 hyd, bd1_k]
        by_cases hf : whoR yards (nI i) N 0 = -1
        · have hC2 := CR_yard (t := t) (y := i) (by omega) (by omega) hC
          obtain ⟨g25, g26, l1, l2, l3⟩ := mlisten_C (mh := h) (mn := n') hn hN hw hbr hC2
          obtain ⟨hd0', _, _⟩ := CR_N hN hC2
          obtain ⟨_, _, _, _, _, _, _, hk'⟩ := CR_parts hN hC2
          have hnx : F_X7_nextOf n0 (upd d (20 + t) (nI i)) g25 g26 (d 6) = some (nxT tk ty N w br c said t i) := by
            rw [hd6]
            exact mnext_O hn hN hd0' hk' l2 l3
          rw [if_pos hf, mw_120 (by omega) (by omega) l1 hnx]
          by_cases he : nxT tk ty N w br c said t i = p1
          · rw [if_pos he, mv_yes (show mvK yards tk ty N w br q c said p1 t i = true from by unfold mvK; rw [hwi, show frB yards N i = true from decide_eq_true hf, decide_eq_true he]; rfl)]
            exact ih (i + 1) n (if b.2 = 0 then 1000 * t + i else b.1, b.2 + 1) g25 g26 (by omega) (by omega) (by show b.2 + 1 + k < 1000000; omega)
          · rw [if_neg he, mv_no (show mvK yards tk ty N w br q c said p1 t i = false from by unfold mvK; rw [decide_eq_false he, Bool.and_false])]
            exact ih (i + 1) n b g25 g26 (by omega) (by omega) (by omega)
        · rw [if_neg hf, mw_119, mv_no (show mvK yards tk ty N w br q c said p1 t i = false from by unfold mvK; rw [show frB yards N i = false from decide_eq_false hf, Bool.and_false, Bool.false_and])]
          exact ih (i + 1) n b h n' (by omega) (by omega) (by omega)
      · have hwi : wiB (yN yards t) i q = false := by
          unfold wiB
          rw [dN_comm (yN yards t / 12), decide_eq_false hy, Bool.and_false]
        rw [if_pos (nI_lt (by omega) (by omega)), mw_119, mv_no (show mvK yards tk ty N w br q c said p1 t i = false from by unfold mvK; rw [hwi]; rfl)]
        exact ih (i + 1) n b h n' (by omega) (by omega) (by omega)
    · have hwi : wiB (yN yards t) i q = false := by
        unfold wiB
        rw [dN_comm (yN yards t % 12), decide_eq_false hx, Bool.false_and]
      rw [if_pos (nI_lt (by omega) (by omega)), mw_119, mv_no (show mvK yards tk ty N w br q c said p1 t i = false from by unfold mvK; rw [hwi]; rfl)]
      exact ih (i + 1) n b h n' (by omega) (by omega) (by omega)
theorem mw_o {n0 N w br q : Nat} {yards tk ty ts d : Nat → Int32} {said c day z p1 : Int32} (hn : 2000000 ≤ n0) (hN : N ≤ 10) (hw : w < 12) (hbr : br < 12) (hY : yrdOK yards) (hC : CR tk ty ts (nI N) said (nI w) (nI br) c day z d) (hyd : ∀ i : Nat, i < 10 → d (20 + i) = yards i) (hq : q ≤ 2) : ∀ (k t n : Nat) (b : Nat × Nat) (h n' : Nat → Int32), t + k = N → k < n → b.1 < 10000 → b.2 + 144 * k < 10000 → ∃ h' n'' : Nat → Int32, L_X7_waysOf_39 n0 (nI q) (-1) p1 n (nI b.2) (nI t) d h n' (nI b.1) = some (nI (mvO (mvK yards tk ty N w br q c said p1) k t b).2, nI (mvO (mvK yards tk ty N w br q c said p1) k t b).1, d, h', n'') := by
  obtain ⟨hd0, _, _⟩ := CR_N hN hC
  intro k
  induction k with
  | zero =>
    intro t n b h n' h1 h2 hb1 hb2
    obtain ⟨n, rfl⟩ : ∃ q, n = q + 1 := ⟨n - 1, by omega⟩
    rw [L_X7_waysOf_39_u, rd_l 0 l0 (by decide) (by decide), hd0, if_pos (nI_le (by omega) (by omega))]
    exact ⟨_, _, rfl⟩
  | succ k ih =>
    intro t n b h n' h1 h2 hb1 hb2
    obtain ⟨n, rfl⟩ : ∃ q, n = q + 1 := ⟨n - 1, by omega⟩
    obtain ⟨h3, n1, e2⟩ := mw_i (p1 := p1) (kk := L_X7_waysOf_39 n0 (nI q) (-1) p1 n) hn hN hw hbr hY hC hyd (t := t) (by omega) hq 144 0 n0 b h n' (by omega) (by omega) (by omega)
    obtain ⟨c1, c2⟩ := mvF_b9 (ok := mvK yards tk ty N w br q c said p1 t) (t := t) (by omega) 144 0 b (by omega) hb1
    rw [nI_0] at e2
    rw [L_X7_waysOf_39_u, rd_l 0 l0 (by decide) (by decide), hd0, if_neg (nI_ge (by omega) (by omega)), mYd (by omega), bd1_k, e2]
    exact ih (t + 1) n _ h3 n1 (by omega) (by omega) c1 (by omega)
/-- both count -/
theorem ways_core {n0 N w br q : Nat} {kinds yards spots d hb0 xg xh xn tk0 ts0 ty0 mh mn : Nat → Int32} {said c day z t1 t2 t3 t4 t5 t6 t7 p1 mv : Int32} (hn : 2000000 ≤ n0) (hN : N ≤ 10) (hw : w < 12) (hbr : br < 12) (hq : q ≤ 2) (hC : CR kinds yards spots (nI N) said (nI w) (nI br) c day z d) : ∃ (f a : Nat) (hb g' h' n' tk ts ty m1 m2 : Nat → Int32), f < 10000 ∧ a < 10000 ∧ F_X4_explainingMoves n0 (nI N) said (nI w) (nI br) c day z hb0 t1 t2 t3 t4 t5 t6 t7 kinds spots yards xg xh xn tk0 ts0 ty0 p1 (nI q) = some (nI (100000 * a + f), hb, nI N, said, nI w, nI br, c, day, z, g', h', n', tk, ts, ty) ∧ F_X7_waysOf n0 (-1) mv d mh mn p1 (nI q) = some (nI a, nI f, d, m1, m2) := by
  obtain ⟨hb, g', h', n', tk, ts, ty, b1, b2, b3, b4, b5, b6, b7, b8⟩ := begin_s (hb0 := hb0) (xg := xg) (xh := xh) (xn := xn) (tk0 := tk0) (ts0 := ts0) (ty0 := ty0) (t1 := t1) (t2 := t2) (t3 := t3) (t4 := t4) (t5 := t5) (t6 := t6) (t7 := t7) hn hN hw hbr hC
  obtain ⟨hct, hYt, _, _, _, hd6, _, hk⟩ := CR_parts hN b2
  obtain ⟨_, hY, _, _, _, _, _, _⟩ := CR_parts hN hC
  obtain ⟨hd0, _, _⟩ := CR_N hN b2
  obtain ⟨_, _, hyd⟩ := CR_N hN hC
  obtain ⟨m1, m2, l1, l2, l3⟩ := mlisten_C (mh := mh) (mn := mn) hn hN hw hbr b2
  by_cases hz : q = 0
  · subst hz
    by_cases he : nxO tk (hH tk N w br c ty) (hM N w br c ty) N said = p1
    · refine ⟨0, 1, hb, g', h', n', tk, ts, ty, m1, m2, by omega, by omega, ?_, ?_⟩
      · unfold F_X4_explainingMoves
        rw [b1]
        simp only [bd14]
        rw [if_pos (show nI 0 = 0 from rfl), next_O hn hN b7 b8, bd1_k, if_pos he]
        rfl
      · unfold F_X7_waysOf
        rw [l1, bd2_k, if_pos (show nI 0 = 0 from rfl), rd_l 6 l6 (by decide) (by decide), hd6, mnext_O hn hN hd0 hk l2 l3, bd1_k, if_pos he]
        rfl
    · refine ⟨0, 0, hb, g', h', n', tk, ts, ty, m1, m2, by omega, by omega, ?_, ?_⟩
      · unfold F_X4_explainingMoves
        rw [b1]
        simp only [bd14]
        rw [if_pos (show nI 0 = 0 from rfl), next_O hn hN b7 b8, bd1_k, if_neg he]
        rfl
      · unfold F_X7_waysOf
        rw [l1, bd2_k, if_pos (show nI 0 = 0 from rfl), rd_l 6 l6 (by decide) (by decide), hd6, mnext_O hn hN hd0 hk l2 l3, bd1_k, if_neg he]
        rfl
  · obtain ⟨g2, h2, n2, c1⟩ := em_o (tk := tk) (ts := ts) (hB := hb) (said := said) (day := day) (z := z) (p1 := p1) hn hN hct hw hbr hY hYt b3 hq N 0 n0 (0, 0) g' h' n' (by omega) (by omega) (by decide) (by show 0 + 144 * N < 10000; omega) b5
    obtain ⟨m3, m4, c2⟩ := mw_o (p1 := p1) (yards := yards) hn hN hw hbr hY b2 hyd hq N 0 n0 (0, 0) m1 m2 (by omega) (by omega) (by decide) (by show 0 + 144 * N < 10000; omega)
    obtain ⟨k1, k2⟩ := mvO_b (ok := mvK yards tk ty N w br q c said p1) N 0 (0, 0) (by omega) (by decide)
    have k2' : (mvO (mvK yards tk ty N w br q c said p1) N 0 (0, 0)).2 ≤ 0 + 144 * N := k2
    rw [nI_0] at c1 c2
    refine ⟨(mvO (mvK yards tk ty N w br q c said p1) N 0 (0, 0)).1, (mvO (mvK yards tk ty N w br q c said p1) N 0 (0, 0)).2, hb, g2, h2, n2, tk, ts, ty, m3, m4, k1, by omega, ?_, ?_⟩
    · unfold F_X4_explainingMoves
      rw [b1]
      simp only [bd14]
      rw [if_neg (nI_ne0 (by omega) (by omega))]
      exact c1
    · unfold F_X7_waysOf
      rw [l1, bd2_k, if_neg (nI_ne0 (by omega) (by omega))]
      exact c2
theorem st_moves {n0 : Nat} (hn : 2000000 ≤ n0) : St_moves n0 := by
  intro xv_isKept xf_found xv_camp_tents xv_camp_said xv_camp_wall xv_camp_bridge xv_camp_counted xv_camp_day xv_camp_z xf_camp_kinds xf_camp_yards xf_camp_spots xv_kept_tents xv_kept_said xv_kept_wall xv_kept_bridge xv_kept_counted xv_kept_day xv_kept_z xf_kept_kinds xf_kept_yards xf_kept_spots xf_trials_heardBefore xv_trials_trial_tents xv_trials_trial_said xv_trials_trial_wall xv_trials_trial_bridge xv_trials_trial_counted xv_trials_trial_day xv_trials_trial_z xf_trials_trial_kinds xf_trials_trial_yards xf_trials_trial_spots xf_trials_ears_hears xf_trials_ears_near xf_trials_ears_gaps xv_tape_size xf_tape_bytes xv_sheets_0_bits xv_sheets_0_size xf_sheets_0_numbers xv_sheets_1_bits xv_sheets_1_size xf_sheets_1_numbers xv_sheets_2_bits xv_sheets_2_size xf_sheets_2_numbers xv_sheets_3_bits xv_sheets_3_size xf_sheets_3_numbers mv_isKept mv_taped mv_gone mv_firstMove mf_d mf_kept mf_found mf_tape mf_hears mf_near mf_bitsOf mf_sizeOf mf_number hI p1 p2
  obtain ⟨hC, hK1, hK2, hK3, hF, hT, hS0, hS1, hS2, hS3, hG⟩ := hI
  have hC0 := hC
  obtain ⟨N, hN, h0, hd0, hd1, hd2, hd3, hd4, hd5, hd6, hct, hwl, hbr, hdy, hsa, hA, hKi, hYa, hSp⟩ := hC
  obtain ⟨w, hw1, hw2⟩ := hwl
  obtain ⟨br, hb1, hb2⟩ := hbr
  have hC1 := hC0
  rw [h0, hw2, hb2] at hC1
  by_cases hs : isS N p1
  · by_cases hr : inR 0 2 p2
    · obtain ⟨q, hq1, hq2⟩ := inR_nI (hi := 2) hr
      obtain ⟨f, a, hb, g', h', n', tk, ts, ty, m1, m2, hf, ha, e1, e2⟩ := ways_core (hb0 := xf_trials_heardBefore) (xg := xf_trials_ears_gaps) (xh := xf_trials_ears_hears) (xn := xf_trials_ears_near) (tk0 := xf_trials_trial_kinds) (ts0 := xf_trials_trial_spots) (ty0 := xf_trials_trial_yards) (t1 := xv_trials_trial_tents) (t2 := xv_trials_trial_said) (t3 := xv_trials_trial_wall) (t4 := xv_trials_trial_bridge) (t5 := xv_trials_trial_counted) (t6 := xv_trials_trial_day) (t7 := xv_trials_trial_z) (mh := mf_hears) (mn := mf_near) (p1 := p1) (mv := mv_firstMove) hn hN hw1 hb1 hq1 hC1
      have hx : F_X6_moves n0 xv_camp_tents xv_camp_said xv_camp_wall xv_camp_bridge xv_camp_counted xv_camp_day xv_camp_z xf_found xf_camp_kinds xf_camp_spots xf_camp_yards xf_trials_heardBefore xv_trials_trial_tents xv_trials_trial_said xv_trials_trial_wall xv_trials_trial_bridge xv_trials_trial_counted xv_trials_trial_day xv_trials_trial_z xf_trials_ears_gaps xf_trials_ears_hears xf_trials_ears_near xf_trials_trial_kinds xf_trials_trial_spots xf_trials_trial_yards p1 p2 = some (nI a, xf_found, hb, nI N, xv_camp_said, nI w, nI br, xv_camp_counted, xv_camp_day, xv_camp_z, g', h', n', tk, ts, ty) := by
        unfold F_X6_moves
        rw [h0, hw2, hb2, isSet_t hN hs, bd1_k, one0, isFrom_t (a := 0) (b := 2) hr, bd1_k, one0, hq2, e1]
        simp only [bd15]
        rw [dvn_k (by decide), show (100000 : Int32) = nI 100000 from rfl, pk_div (by omega) (by decide) (by decide), show (100000 * a + f) / 100000 = a by omega]
      have hm : F_X7_moves n0 mv_gone mv_firstMove mf_d mf_found mf_hears mf_near p1 p2 = some (nI a, nI f, mf_d, mf_found, m1, m2) := by
        unfold F_X7_moves
        rw [hG, areT_t hN hd0 hs, bd1_k, one0, nmq, in_t (a := 0) (b := 2) hr, bd1_k, one0, hq2, e2]
        rfl
      exact ⟨_, _, _, _, _, _, _, _, _, _, _, _, _, _, _, _, _, _, _, _, _, hx, hm, hC0, hK1, hK2, hK3, hF, hT, hS0, hS1, hS2, hS3, hG⟩
    · have hx : F_X6_moves n0 xv_camp_tents xv_camp_said xv_camp_wall xv_camp_bridge xv_camp_counted xv_camp_day xv_camp_z xf_found xf_camp_kinds xf_camp_spots xf_camp_yards xf_trials_heardBefore xv_trials_trial_tents xv_trials_trial_said xv_trials_trial_wall xv_trials_trial_bridge xv_trials_trial_counted xv_trials_trial_day xv_trials_trial_z xf_trials_ears_gaps xf_trials_ears_hears xf_trials_ears_near xf_trials_trial_kinds xf_trials_trial_spots xf_trials_trial_yards p1 p2 = some (-1000001, upd xf_found 0 (xf_found 0 + 1), xf_trials_heardBefore, xv_trials_trial_tents, xv_trials_trial_said, xv_trials_trial_wall, xv_trials_trial_bridge, xv_trials_trial_counted, xv_trials_trial_day, xv_trials_trial_z, xf_trials_ears_gaps, xf_trials_ears_hears, xf_trials_ears_near, xf_trials_trial_kinds, xf_trials_trial_spots, xf_trials_trial_yards) := by
        unfold F_X6_moves
        rw [h0, isSet_t hN hs, bd1_k, one0, isFrom_f (a := 0) (b := 2) hr]
        rfl
      have hm : F_X7_moves n0 mv_gone mv_firstMove mf_d mf_found mf_hears mf_near p1 p2 = some (-1000001, mv_firstMove, mf_d, upd mf_found 0 (mf_found 0 + 1), mf_hears, mf_near) := by
        unfold F_X7_moves
        rw [areT_t hN hd0 hs, bd1_k, one0, nmq, in_f (a := 0) (b := 2) hr]
        rfl
      exact ⟨_, _, _, _, _, _, _, _, _, _, _, _, _, _, _, _, _, _, _, _, _, hx, hm, hC0, hK1, hK2, hK3, fnd_u hF 0 (by decide), hT, hS0, hS1, hS2, hS3, hG⟩
  · have hx : F_X6_moves n0 xv_camp_tents xv_camp_said xv_camp_wall xv_camp_bridge xv_camp_counted xv_camp_day xv_camp_z xf_found xf_camp_kinds xf_camp_spots xf_camp_yards xf_trials_heardBefore xv_trials_trial_tents xv_trials_trial_said xv_trials_trial_wall xv_trials_trial_bridge xv_trials_trial_counted xv_trials_trial_day xv_trials_trial_z xf_trials_ears_gaps xf_trials_ears_hears xf_trials_ears_near xf_trials_trial_kinds xf_trials_trial_spots xf_trials_trial_yards p1 p2 = some (-1000001, upd xf_found 0 (xf_found 0 + 1), xf_trials_heardBefore, xv_trials_trial_tents, xv_trials_trial_said, xv_trials_trial_wall, xv_trials_trial_bridge, xv_trials_trial_counted, xv_trials_trial_day, xv_trials_trial_z, xf_trials_ears_gaps, xf_trials_ears_hears, xf_trials_ears_near, xf_trials_trial_kinds, xf_trials_trial_spots, xf_trials_trial_yards) := by
      unfold F_X6_moves
      rw [h0, isSet_f hN hs]
      rfl
    have hm : F_X7_moves n0 mv_gone mv_firstMove mf_d mf_found mf_hears mf_near p1 p2 = some (-1000001, mv_firstMove, mf_d, upd mf_found 0 (mf_found 0 + 1), mf_hears, mf_near) := by
      unfold F_X7_moves
      rw [areT_f hN hd0 hs]
      rfl
    exact ⟨_, _, _, _, _, _, _, _, _, _, _, _, _, _, _, _, _, _, _, _, _, hx, hm, hC0, hK1, hK2, hK3, fnd_u hF 0 (by decide), hT, hS0, hS1, hS2, hS3, hG⟩
theorem st_moved {n0 : Nat} (hn : 2000000 ≤ n0) : St_moved n0 := by
  intro xv_isKept xf_found xv_camp_tents xv_camp_said xv_camp_wall xv_camp_bridge xv_camp_counted xv_camp_day xv_camp_z xf_camp_kinds xf_camp_yards xf_camp_spots xv_kept_tents xv_kept_said xv_kept_wall xv_kept_bridge xv_kept_counted xv_kept_day xv_kept_z xf_kept_kinds xf_kept_yards xf_kept_spots xf_trials_heardBefore xv_trials_trial_tents xv_trials_trial_said xv_trials_trial_wall xv_trials_trial_bridge xv_trials_trial_counted xv_trials_trial_day xv_trials_trial_z xf_trials_trial_kinds xf_trials_trial_yards xf_trials_trial_spots xf_trials_ears_hears xf_trials_ears_near xf_trials_ears_gaps xv_tape_size xf_tape_bytes xv_sheets_0_bits xv_sheets_0_size xf_sheets_0_numbers xv_sheets_1_bits xv_sheets_1_size xf_sheets_1_numbers xv_sheets_2_bits xv_sheets_2_size xf_sheets_2_numbers xv_sheets_3_bits xv_sheets_3_size xf_sheets_3_numbers mv_isKept mv_taped mv_gone mv_firstMove mf_d mf_kept mf_found mf_tape mf_hears mf_near mf_bitsOf mf_sizeOf mf_number hI p1 p2
  obtain ⟨hC, hK1, hK2, hK3, hF, hT, hS0, hS1, hS2, hS3, hG⟩ := hI
  have hC0 := hC
  obtain ⟨N, hN, h0, hd0, hd1, hd2, hd3, hd4, hd5, hd6, hct, hwl, hbr, hdy, hsa, hA, hKi, hYa, hSp⟩ := hC
  obtain ⟨w, hw1, hw2⟩ := hwl
  obtain ⟨br, hb1, hb2⟩ := hbr
  have hC1 := hC0
  rw [h0, hw2, hb2] at hC1
  by_cases hs : isS N p1
  · by_cases hr : inR 0 2 p2
    · obtain ⟨q, hq1, hq2⟩ := inR_nI (hi := 2) hr
      obtain ⟨f, a, hb, g', h', n', tk, ts, ty, m1, m2, hf, ha, e1, e2⟩ := ways_core (hb0 := xf_trials_heardBefore) (xg := xf_trials_ears_gaps) (xh := xf_trials_ears_hears) (xn := xf_trials_ears_near) (tk0 := xf_trials_trial_kinds) (ts0 := xf_trials_trial_spots) (ty0 := xf_trials_trial_yards) (t1 := xv_trials_trial_tents) (t2 := xv_trials_trial_said) (t3 := xv_trials_trial_wall) (t4 := xv_trials_trial_bridge) (t5 := xv_trials_trial_counted) (t6 := xv_trials_trial_day) (t7 := xv_trials_trial_z) (mh := mf_hears) (mn := mf_near) (p1 := p1) (mv := mv_firstMove) hn hN hw1 hb1 hq1 hC1
      by_cases hz : a = 0
      · have hx : F_X6_moved n0 xv_camp_tents xv_camp_said xv_camp_wall xv_camp_bridge xv_camp_counted xv_camp_day xv_camp_z xf_found xf_camp_kinds xf_camp_spots xf_camp_yards xf_trials_heardBefore xv_trials_trial_tents xv_trials_trial_said xv_trials_trial_wall xv_trials_trial_bridge xv_trials_trial_counted xv_trials_trial_day xv_trials_trial_z xf_trials_ears_gaps xf_trials_ears_hears xf_trials_ears_near xf_trials_trial_kinds xf_trials_trial_spots xf_trials_trial_yards p1 p2 = some (-1000004, upd xf_found 3 (xf_found 3 + 1), hb, nI N, xv_camp_said, nI w, nI br, xv_camp_counted, xv_camp_day, xv_camp_z, g', h', n', tk, ts, ty) := by
          unfold F_X6_moved
          rw [h0, hw2, hb2, isSet_t hN hs, bd1_k, one0, isFrom_t (a := 0) (b := 2) hr, bd1_k, one0, hq2, e1]
          simp only [bd15]
          rw [if_neg (show ¬ (100000 : Int32) ≤ nI (100000 * a + f) from nI_ge (b := 100000) (by omega) (by decide))]
          rfl
        have hm : F_X7_moved n0 mv_gone mv_firstMove mf_d mf_found mf_hears mf_near p1 p2 = some (-1000004, nI f, mf_d, upd mf_found 3 (mf_found 3 + 1), m1, m2) := by
          unfold F_X7_moved
          rw [hG, areT_t hN hd0 hs, bd1_k, one0, nmq, in_t (a := 0) (b := 2) hr, bd1_k, one0, hq2, e2]
          simp only [bd5]
          rw [if_pos (show nI a = 0 from by rw [hz]; rfl)]
          rfl
        exact ⟨_, _, _, _, _, _, _, _, _, _, _, _, _, _, _, _, _, _, _, _, _, hx, hm, hC0, hK1, hK2, hK3, fnd_u hF 3 (by decide), hT, hS0, hS1, hS2, hS3, hG⟩
      · have hx : F_X6_moved n0 xv_camp_tents xv_camp_said xv_camp_wall xv_camp_bridge xv_camp_counted xv_camp_day xv_camp_z xf_found xf_camp_kinds xf_camp_spots xf_camp_yards xf_trials_heardBefore xv_trials_trial_tents xv_trials_trial_said xv_trials_trial_wall xv_trials_trial_bridge xv_trials_trial_counted xv_trials_trial_day xv_trials_trial_z xf_trials_ears_gaps xf_trials_ears_hears xf_trials_ears_near xf_trials_trial_kinds xf_trials_trial_spots xf_trials_trial_yards p1 p2 = some (nI f, xf_found, hb, nI N, xv_camp_said, nI w, nI br, xv_camp_counted, xv_camp_day, xv_camp_z, g', h', n', tk, ts, ty) := by
          unfold F_X6_moved
          rw [h0, hw2, hb2, isSet_t hN hs, bd1_k, one0, isFrom_t (a := 0) (b := 2) hr, bd1_k, one0, hq2, e1]
          simp only [bd15]
          rw [if_pos (show (100000 : Int32) ≤ nI (100000 * a + f) from nI_le (a := 100000) (by omega) (by omega)), dvn_k (by decide), show (100000 : Int32) = nI 100000 from rfl, pk_rem (by omega) (by decide) (by decide), show (100000 * a + f) % 100000 = f by omega]
        have hm : F_X7_moved n0 mv_gone mv_firstMove mf_d mf_found mf_hears mf_near p1 p2 = some (nI f, nI f, mf_d, mf_found, m1, m2) := by
          unfold F_X7_moved
          rw [hG, areT_t hN hd0 hs, bd1_k, one0, nmq, in_t (a := 0) (b := 2) hr, bd1_k, one0, hq2, e2]
          simp only [bd5]
          rw [if_neg (show ¬ nI a = 0 from nI_ne0 (by omega) (by omega))]
        exact ⟨_, _, _, _, _, _, _, _, _, _, _, _, _, _, _, _, _, _, _, _, _, hx, hm, hC0, hK1, hK2, hK3, hF, hT, hS0, hS1, hS2, hS3, hG⟩
    · have hx : F_X6_moved n0 xv_camp_tents xv_camp_said xv_camp_wall xv_camp_bridge xv_camp_counted xv_camp_day xv_camp_z xf_found xf_camp_kinds xf_camp_spots xf_camp_yards xf_trials_heardBefore xv_trials_trial_tents xv_trials_trial_said xv_trials_trial_wall xv_trials_trial_bridge xv_trials_trial_counted xv_trials_trial_day xv_trials_trial_z xf_trials_ears_gaps xf_trials_ears_hears xf_trials_ears_near xf_trials_trial_kinds xf_trials_trial_spots xf_trials_trial_yards p1 p2 = some (-1000001, upd xf_found 0 (xf_found 0 + 1), xf_trials_heardBefore, xv_trials_trial_tents, xv_trials_trial_said, xv_trials_trial_wall, xv_trials_trial_bridge, xv_trials_trial_counted, xv_trials_trial_day, xv_trials_trial_z, xf_trials_ears_gaps, xf_trials_ears_hears, xf_trials_ears_near, xf_trials_trial_kinds, xf_trials_trial_spots, xf_trials_trial_yards) := by
        unfold F_X6_moved
        rw [h0, isSet_t hN hs, bd1_k, one0, isFrom_f (a := 0) (b := 2) hr]
        rfl
      have hm : F_X7_moved n0 mv_gone mv_firstMove mf_d mf_found mf_hears mf_near p1 p2 = some (-1000001, mv_firstMove, mf_d, upd mf_found 0 (mf_found 0 + 1), mf_hears, mf_near) := by
        unfold F_X7_moved
        rw [areT_t hN hd0 hs, bd1_k, one0, nmq, in_f (a := 0) (b := 2) hr]
        rfl
      exact ⟨_, _, _, _, _, _, _, _, _, _, _, _, _, _, _, _, _, _, _, _, _, hx, hm, hC0, hK1, hK2, hK3, fnd_u hF 0 (by decide), hT, hS0, hS1, hS2, hS3, hG⟩
  · have hx : F_X6_moved n0 xv_camp_tents xv_camp_said xv_camp_wall xv_camp_bridge xv_camp_counted xv_camp_day xv_camp_z xf_found xf_camp_kinds xf_camp_spots xf_camp_yards xf_trials_heardBefore xv_trials_trial_tents xv_trials_trial_said xv_trials_trial_wall xv_trials_trial_bridge xv_trials_trial_counted xv_trials_trial_day xv_trials_trial_z xf_trials_ears_gaps xf_trials_ears_hears xf_trials_ears_near xf_trials_trial_kinds xf_trials_trial_spots xf_trials_trial_yards p1 p2 = some (-1000001, upd xf_found 0 (xf_found 0 + 1), xf_trials_heardBefore, xv_trials_trial_tents, xv_trials_trial_said, xv_trials_trial_wall, xv_trials_trial_bridge, xv_trials_trial_counted, xv_trials_trial_day, xv_trials_trial_z, xf_trials_ears_gaps, xf_trials_ears_hears, xf_trials_ears_near, xf_trials_trial_kinds, xf_trials_trial_spots, xf_trials_trial_yards) := by
      unfold F_X6_moved
      rw [h0, isSet_f hN hs]
      rfl
    have hm : F_X7_moved n0 mv_gone mv_firstMove mf_d mf_found mf_hears mf_near p1 p2 = some (-1000001, mv_firstMove, mf_d, upd mf_found 0 (mf_found 0 + 1), mf_hears, mf_near) := by
      unfold F_X7_moved
      rw [areT_f hN hd0 hs]
      rfl
    exact ⟨_, _, _, _, _, _, _, _, _, _, _, _, _, _, _, _, _, _, _, _, _, hx, hm, hC0, hK1, hK2, hK3, fnd_u hF 0 (by decide), hT, hS0, hS1, hS2, hS3, hG⟩
