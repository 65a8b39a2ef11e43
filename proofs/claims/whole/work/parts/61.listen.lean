theorem meas_r {n0 w br t B : Nat} {c : Int32} {yards : Nat → Int32} (hc : c = 0 ∨ c = 1) (hw : w < 12) (hb : br < 12) (hy : ∀ i : Nat, i < 10 → ∃ y : Nat, y < 144 ∧ yards i = nI y) (ht : t < 10) (hB : B ≤ 10) : ∀ (k i n : Nat) (gaps : Nat → Int32), i + k = B → k < n → ∃ g' : Nat → Int32, L_X1_measure_2 (nI B) yards (nI t) n0 (nI w) (nI br) c n (nI i) gaps = some g' ∧ (∀ j : Nat, i ≤ j → j < B → g' (10 * t + j) = nI (GG w br c yards t j) ∧ g' (10 * j + t) = nI (GG w br c yards t j)) ∧ ∀ a b : Nat, a < 10 → b < 10 → ¬ (a = t ∧ i ≤ b ∧ b < B) → ¬ (b = t ∧ i ≤ a ∧ a < B) → g' (10 * a + b) = gaps (10 * a + b) := by
  intro k
  induction k with
  | zero =>
    intro i n gaps h1 h2
    obtain ⟨n, rfl⟩ : ∃ q, n = q + 1 := ⟨n - 1, by omega⟩
    rw [L_X1_measure_2_u, if_pos (nI_le (by omega) (by omega))]
    exact ⟨gaps, rfl, fun j h3 h4 => absurd h4 (by omega), fun _ _ _ _ _ _ => rfl⟩
  | succ k ih =>
    intro i n gaps h1 h2
    obtain ⟨n, rfl⟩ : ∃ q, n = q + 1 := ⟨n - 1, by omega⟩
    obtain ⟨a1, a2⟩ := yN_of (by decide) (hy t ht)
    obtain ⟨b1, b2⟩ := yN_of (by decide) (hy i (by omega))
    rw [L_X1_measure_2_u, if_neg (nI_ge (by omega) (by omega)), rd_nI ht (by decide), rd_nI (by omega) (by decide), a1, b1, apart_s hc hw hb a2 b2]
    simp only [bd1, nm]
    rw [gap_ix, wrt_nI (by omega) (by decide), gap_ix, wrt_nI (by omega) (by decide), nI_1]
    obtain ⟨g', e1, e2, e3⟩ := ih (i + 1) n (upd (upd gaps (10 * t + i) (nI (farN w br (decide (c = 1)) (yN yards t) (yN yards i)))) (10 * i + t) (nI (farN w br (decide (c = 1)) (yN yards t) (yN yards i)))) (by omega) (by omega)
    refine ⟨g', e1, fun j h3 h4 => ?_, fun a b ha hb h5 h6 => ?_⟩
    · by_cases h : j = i
      · subst h
        refine ⟨?_, ?_⟩
        · rw [e3 t j ht (by omega) (by omega) (by omega)]
          by_cases h7 : 10 * t + j = 10 * j + t
          · rw [h7, pk_us]; rfl
          · rw [pk_un h7, pk_us]; rfl
        · rw [e3 j t (by omega) ht (by omega) (by omega), pk_us]; rfl
      · exact e2 j (by omega) h4
    · rw [e3 a b ha hb (fun h => h5 ⟨h.1, by omega, h.2.2⟩) (fun h => h6 ⟨h.1, by omega, h.2.2⟩)]
      rw [pk_un (fun h => ?_), pk_un (fun h => ?_)]
      · exact h5 ⟨by omega, by omega, by omega⟩
      · exact h6 ⟨by omega, by omega, by omega⟩
theorem meas_s {n0 w br t B : Nat} {c : Int32} {yards gaps : Nat → Int32} (hn : 2000000 ≤ n0) (hc : c = 0 ∨ c = 1) (hw : w < 12) (hb : br < 12) (hy : ∀ i : Nat, i < 10 → ∃ y : Nat, y < 144 ∧ yards i = nI y) (ht : t < 10) (hB : B ≤ 10) : ∃ g' : Nat → Int32, F_X1_measure n0 (nI w) (nI br) c gaps yards (nI t) (nI B) = some g' ∧ (∀ j : Nat, j < B → g' (10 * t + j) = nI (GG w br c yards t j) ∧ g' (10 * j + t) = nI (GG w br c yards t j)) ∧ ∀ a b : Nat, a < 10 → b < 10 → ¬ (a = t ∧ b < B) → ¬ (b = t ∧ a < B) → g' (10 * a + b) = gaps (10 * a + b) := by
  unfold F_X1_measure
  rw [← nI_0]
  obtain ⟨g', e1, e2, e3⟩ := meas_r (n0 := n0) hc hw hb hy ht hB B 0 n0 gaps (by omega) (by omega)
  exact ⟨g', e1, fun j h => e2 j (by omega) h, fun a b h1 h2 h3 h4 => e3 a b h1 h2 (fun h => h3 ⟨h.1, h.2.2⟩) (fun h => h4 ⟨h.1, h.2.2⟩)⟩
def sk0 : Nat → Bool := fun _ => false
theorem nrS_0 {G : Nat → Nat → Nat} {N t : Nat} : cod (nearF (G t) (fun j => j == t) N 0 none) = nrS G sk0 N t := by
  unfold nrS
  rw [nearF_congr N 0 none (fun j _ _ => ?_)]
  show (j == t) = (decide (j = t) || false)
  rw [Bool.or_false]
  rfl
theorem ftS_0 {G : Nat → Nat → Nat} {N t : Nat} : cod (fartF (G t) (fun j => j == t) N 0 none) = cod (fartF (G t) (fun j => decide (j = t) || sk0 j) N 0 none) := by
  rw [fartF_congr N 0 none (fun j _ _ => ?_)]
  show (j == t) = (decide (j = t) || false)
  rw [Bool.or_false]
  rfl
theorem hear_r {n0 N : Nat} {G : Nat → Nat → Nat} {gaps kinds : Nat → Int32} (hn : 2000000 ≤ n0) (hN : N ≤ 10) (hg : ∀ a b : Nat, a < N → b < N → a ≠ b → gaps (10 * a + b) = nI (G a b)) (hl : ∀ i j : Nat, i < 10 → j < 10 → G i j < 1100) : ∀ (k i n : Nat) (h1 n1 : Nat → Int32), i + k = N → k < n → ∃ h' n' : Nat → Int32, L_X1_hearAll_2 (nI N) n0 gaps kinds n (nI i) h1 n1 = some (h', n') ∧ (∀ j : Nat, i ≤ j → j < N → h' j = hrS kinds G sk0 N j ∧ n' j = nrS G sk0 N j) ∧ ∀ j : Nat, j < i → h' j = h1 j ∧ n' j = n1 j := by
  intro k
  induction k with
  | zero =>
    intro i n h1 n1 e1 e2
    obtain ⟨n, rfl⟩ : ∃ q, n = q + 1 := ⟨n - 1, by omega⟩
    rw [L_X1_hearAll_2_u, if_pos (nI_le (by omega) (by omega))]
    exact ⟨h1, n1, rfl, fun j a b => absurd b (by omega), fun _ _ => ⟨rfl, rfl⟩⟩
  | succ k ih =>
    intro i n h1 n1 e1 e2
    obtain ⟨n, rfl⟩ : ∃ q, n = q + 1 := ⟨n - 1, by omega⟩
    rw [L_X1_hearAll_2_u, if_neg (nI_ge (by omega) (by omega)), near_s (g := G i) hn (by omega) hN (fun j a b => hg i j (by omega) a (Ne.symm b)) (fun j a => hl i j (by omega) a), nrS_0]
    simp only [bd1]
    rw [wrt_nI (by omega) (by decide)]
    have hw : F_X1_whomHeard n0 (nI N) gaps (upd n1 i (nrS G sk0 N i)) kinds (nI i) = some (hrS kinds G sk0 N i) := by
      unfold F_X1_whomHeard hrS
      rw [rd_nI (by omega) (by decide)]
      by_cases q1 : kinds i = 1
      · rw [if_pos q1, if_pos (Or.inl q1), near_s (g := G i) hn (by omega) (by omega) (fun j a b => hg i j (by omega) (by omega) (Ne.symm b)) (fun j a => hl i j (by omega) a), nrS_0]
        rfl
      · rw [if_neg q1]
        by_cases q4 : kinds i = 4
        · rw [if_pos q4, if_pos (Or.inr q4), near_s (g := G i) hn (by omega) (by omega) (fun j a b => hg i j (by omega) (by omega) (Ne.symm b)) (fun j a => hl i j (by omega) a), nrS_0]
          rfl
        · rw [if_neg q4, if_neg (show ¬ (kinds i = 1 ∨ kinds i = 4) from fun h => h.elim q1 q4)]
          by_cases q6 : kinds i = 6
          · rw [if_pos q6, if_pos q6, fart_s (g := G i) hn (by omega) hN (fun j a b => hg i j (by omega) a (Ne.symm b)) (fun j a => hl i j (by omega) a), ftS_0]
            rfl
          · rw [if_neg q6, if_neg q6, rd_nI (by omega) (by decide), pk_us]
    rw [hw]
    simp only [nm]
    rw [wrt_nI (by omega) (by decide), nI_1]
    obtain ⟨h', n', a1, a2, a3⟩ := ih (i + 1) n (upd h1 i (hrS kinds G sk0 N i)) (upd n1 i (nrS G sk0 N i)) (by omega) (by omega)
    refine ⟨h', n', a1, fun j b1 b2 => ?_, fun j b1 => ?_⟩
    · by_cases h : j = i
      · subst h
        obtain ⟨c1, c2⟩ := a3 j (by omega)
        rw [c1, c2, pk_us, pk_us]
        exact ⟨rfl, rfl⟩
      · exact a2 j (by omega) b2
    · obtain ⟨c1, c2⟩ := a3 j (by omega)
      rw [c1, c2, pk_un (by omega), pk_un (by omega)]
      exact ⟨rfl, rfl⟩
theorem hearAll_s {n0 N : Nat} {G : Nat → Nat → Nat} {gaps kinds hears near : Nat → Int32} (hn : 2000000 ≤ n0) (hN : N ≤ 10) (hg : ∀ a b : Nat, a < N → b < N → a ≠ b → gaps (10 * a + b) = nI (G a b)) (hl : ∀ i j : Nat, i < 10 → j < 10 → G i j < 1100) : ∃ h' n' : Nat → Int32, F_X1_hearAll n0 (nI N) gaps hears near kinds = some (h', n') ∧ ∀ j : Nat, j < N → h' j = hrS kinds G sk0 N j ∧ n' j = nrS G sk0 N j := by
  unfold F_X1_hearAll
  rw [← nI_0]
  obtain ⟨h', n', a1, a2, _⟩ := hear_r (kinds := kinds) hn hN hg hl N 0 n0 hears near (by omega) (by omega)
  exact ⟨h', n', a1, fun j h => a2 j (by omega) h⟩
theorem listen_r {n0 N w br : Nat} {c : Int32} {yards kinds hears near : Nat → Int32} (hn : 2000000 ≤ n0) (hN : N ≤ 10) (hc : c = 0 ∨ c = 1) (hw : w < 12) (hb : br < 12) (hy : ∀ i : Nat, i < 10 → ∃ y : Nat, y < 144 ∧ yards i = nI y) : ∀ (k i n : Nat) (gaps : Nat → Int32), i + k = N → k < n → (∀ a b : Nat, a < i → b < i → a ≠ b → gaps (10 * a + b) = nI (GG w br c yards a b)) → ∃ g' h' n' : Nat → Int32, L_X1_listen_2 (nI N) n0 hears near kinds (nI w) (nI br) c yards n (nI i) gaps = some (g', h', n') ∧ (∀ a b : Nat, a < N → b < N → a ≠ b → g' (10 * a + b) = nI (GG w br c yards a b)) ∧ ∀ j : Nat, j < N → h' j = hrS kinds (GG w br c yards) sk0 N j ∧ n' j = nrS (GG w br c yards) sk0 N j := by
  intro k
  induction k with
  | zero =>
    intro i n gaps h1 h2 hg
    obtain ⟨n, rfl⟩ : ∃ q, n = q + 1 := ⟨n - 1, by omega⟩
    have e : i = N := by omega
    subst e
    obtain ⟨h', n', a1, a2⟩ := hearAll_s (kinds := kinds) (hears := hears) (near := near) hn hN hg (fun i j a b => GG_lt hb hy a b)
    rw [L_X1_listen_2_u, if_pos (nI_le (by omega) (by omega)), a1]
    exact ⟨gaps, h', n', rfl, hg, a2⟩
  | succ k ih =>
    intro i n gaps h1 h2 hg
    obtain ⟨n, rfl⟩ : ∃ q, n = q + 1 := ⟨n - 1, by omega⟩
    obtain ⟨g1, a1, a2, a3⟩ := meas_s (n0 := n0) (gaps := gaps) hn hc hw hb hy (t := i) (B := i) (by omega) (by omega)
    rw [L_X1_listen_2_u, if_neg (nI_ge (by omega) (by omega)), a1]
    simp only [bd1, nm]
    rw [nI_1]
    refine ih (i + 1) n g1 (by omega) (by omega) (fun a b b1 b2 b3 => ?_)
    by_cases c1 : a = i
    · subst c1; exact (a2 b (by omega)).1
    · by_cases c2 : b = i
      · subst c2; rw [(a2 a (by omega)).2, GG_comm]
      · rw [a3 a b (by omega) (by omega) (fun h => c1 h.1) (fun h => c2 h.1)]
        exact hg a b (by omega) (by omega) b3
theorem listen_s {n0 N w br : Nat} {c : Int32} {yards kinds hears near gaps : Nat → Int32} (hn : 2000000 ≤ n0) (hN : N ≤ 10) (hc : c = 0 ∨ c = 1) (hw : w < 12) (hb : br < 12) (hy : ∀ i : Nat, i < 10 → ∃ y : Nat, y < 144 ∧ yards i = nI y) : ∃ g' h' n' : Nat → Int32, F_X1_listen n0 (nI N) (nI w) (nI br) c gaps hears near kinds yards = some (g', h', n') ∧ (∀ a b : Nat, a < N → b < N → a ≠ b → g' (10 * a + b) = nI (GG w br c yards a b)) ∧ ∀ j : Nat, j < N → h' j = hrS kinds (GG w br c yards) sk0 N j ∧ n' j = nrS (GG w br c yards) sk0 N j := by
  unfold F_X1_listen
  rw [← nI_0]
  exact listen_r hn hN hc hw hb hy N 0 n0 gaps (by omega) (by omega) (fun a b h => absurd h (Nat.not_lt_zero a))
/-- the reference's -/
theorem mlisten_r {n0 N w br : Nat} {c gone : Int32} {d yards kinds : Nat → Int32} (hn : 2000000 ≤ n0) (hM : MC d yards N w br c) (hk : ∀ i : Nat, i < 10 → d (10 + i) = kinds i) : ∀ (k i n : Nat) (h1 n1 : Nat → Int32), i + k = N → k < n → ∃ h' n' : Nat → Int32, L_X7_listen_2 d n0 gone n (nI i) h1 n1 = some (h', n') ∧ (∀ j : Nat, i ≤ j → j < N → h' j = hrS kinds (GG w br c yards) (fun j => decide (nI j = gone)) N j ∧ n' j = nrS (GG w br c yards) (fun j => decide (nI j = gone)) N j) ∧ ∀ j : Nat, (j < i ∨ N ≤ j) → h' j = h1 j ∧ n' j = n1 j := by
  have hN := hM.1
  have hd0 := hM.2.1
  intro k
  induction k with
  | zero =>
    intro i n h1 n1 e1 e2
    obtain ⟨n, rfl⟩ : ∃ q, n = q + 1 := ⟨n - 1, by omega⟩
    rw [L_X7_listen_2_u, rd_l 0 l0 (by decide) (by decide), hd0, if_pos (nI_le (by omega) (by omega))]
    exact ⟨h1, n1, rfl, fun j a b => absurd b (by omega), fun _ _ => ⟨rfl, rfl⟩⟩
  | succ k ih =>
    intro i n h1 n1 e1 e2
    obtain ⟨n, rfl⟩ : ∃ q, n = q + 1 := ⟨n - 1, by omega⟩
    obtain ⟨h', n', a1, a2, a3⟩ := ih (i + 1) n (upd h1 i (hrS kinds (GG w br c yards) (fun j => decide (nI j = gone)) N i)) (upd n1 i (nrS (GG w br c yards) (fun j => decide (nI j = gone)) N i)) (by omega) (by omega)
    refine ⟨h', n', ?_, fun j b1 b2 => ?_, fun j b1 => ?_⟩
    · rw [L_X7_listen_2_u, rd_l 0 l0 (by decide) (by decide), hd0, if_neg (nI_ge (by omega) (by omega)), mKd (by omega), hk i (by omega)]
      simp only [bd1]
      rw [rd_l 0 l0 (by decide) (by decide), hd0, mnear_s hn hM (by omega) hN]
      simp only []
      rw [wrt_nI (by omega) (by decide)]
      have en : cod (nearF (GG w br c yards i) (fun j => decide (j = i) || decide (nI j = gone)) N 0 none) = nrS (GG w br c yards) (fun j => decide (nI j = gone)) N i := rfl
      rw [en]
      have hJ : hrS kinds (GG w br c yards) (fun j => decide (nI j = gone)) N i = nrS (GG w br c yards) (fun j => decide (nI j = gone)) i i → J_X7_listen_50 n0 gone d (nI i) h1 (nI i) (L_X7_listen_2 d n0 gone n) (upd n1 i (nrS (GG w br c yards) (fun j => decide (nI j = gone)) N i)) = some (h', n') := by
        intro hh
        unfold J_X7_listen_50
        rw [mnear_s hn hM (by omega) (by omega)]
        simp only [bd1, nm]
        rw [wrt_nI (by omega) (by decide), nI_1]
        rw [hh] at a1
        exact a1
      by_cases q1 : kinds i = 1
      · rw [if_pos q1]
        exact hJ (by unfold hrS; rw [if_pos (Or.inl q1)])
      · rw [if_neg q1]
        by_cases q4 : kinds i = 4
        · rw [if_pos q4]
          exact hJ (by unfold hrS; rw [if_pos (Or.inr q4)])
        · rw [if_neg q4]
          by_cases q6 : kinds i = 6
          · rw [if_pos q6, mfart_s hn hM (by omega)]
            simp only [nm]
            rw [wrt_nI (by omega) (by decide), nI_1]
            have hh : hrS kinds (GG w br c yards) (fun j => decide (nI j = gone)) N i = cod (fartF (GG w br c yards i) (fun j => decide (j = i) || decide (nI j = gone)) N 0 none) := by
              unfold hrS
              rw [if_neg (fun h => h.elim q1 q4), if_pos q6]
            rw [hh] at a1
            exact a1
          · rw [if_neg q6, rd_nI (by omega) (by decide), pk_us, wrt_nI (by omega) (by decide)]
            simp only [nm]
            rw [nI_1]
            have hh : hrS kinds (GG w br c yards) (fun j => decide (nI j = gone)) N i = nrS (GG w br c yards) (fun j => decide (nI j = gone)) N i := by
              unfold hrS
              rw [if_neg (fun h => h.elim q1 q4), if_neg q6]
            rw [hh] at a1
            exact a1
    · by_cases h : j = i
      · subst h
        obtain ⟨c1, c2⟩ := a3 j (Or.inl (by omega))
        rw [c1, c2, pk_us, pk_us]
        exact ⟨rfl, rfl⟩
      · exact a2 j (by omega) b2
    · obtain ⟨c1, c2⟩ := a3 j (by omega)
      rw [c1, c2, pk_un (by omega), pk_un (by omega)]
      exact ⟨rfl, rfl⟩
theorem mlisten_s {n0 N w br : Nat} {c gone : Int32} {d yards kinds hears near : Nat → Int32} (hn : 2000000 ≤ n0) (hM : MC d yards N w br c) (hk : ∀ i : Nat, i < 10 → d (10 + i) = kinds i) : ∃ h' n' : Nat → Int32, F_X7_listen n0 gone d hears near = some (h', n') ∧ ∀ j : Nat, j < N → h' j = hrS kinds (GG w br c yards) (fun j => decide (nI j = gone)) N j ∧ n' j = nrS (GG w br c yards) (fun j => decide (nI j = gone)) N j := by
  have hN := hM.1
  unfold F_X7_listen
  rw [← nI_0]
  obtain ⟨h', n', a1, a2, _⟩ := mlisten_r (gone := gone) hn hM hk N 0 n0 hears near (by omega) (by omega)
  exact ⟨h', n', a1, fun j h => a2 j (by omega) h⟩
theorem nrS_g {G : Nat → Nat → Nat} {N t : Nat} (hN : N ≤ 10) : nrS G (fun j => decide (nI j = -1)) N t = nrS G sk0 N t := by
  unfold nrS
  rw [nearF_congr N 0 none (fun j _ h => ?_)]
  show (decide (j = t) || decide (nI j = -1)) = (decide (j = t) || false)
  rw [decide_eq_false (nI_m1 (show j < 2 ^ 31 by omega))]
theorem hrS_g {kinds : Nat → Int32} {G : Nat → Nat → Nat} {N t : Nat} (hN : N ≤ 10) (ht : t < 10) : hrS kinds G (fun j => decide (nI j = -1)) N t = hrS kinds G sk0 N t := by
  unfold hrS
  rw [nrS_g hN, nrS_g (show t ≤ 10 by omega)]
  have e : fartF (G t) (fun j => decide (j = t) || (fun j => decide (nI j = -1)) j) N 0 none = fartF (G t) (fun j => decide (j = t) || sk0 j) N 0 none := fartF_congr N 0 none (fun j _ h => by
    show (decide (j = t) || decide (nI j = -1)) = (decide (j = t) || false)
    rw [decide_eq_false (nI_m1 (show j < 2 ^ 31 by omega))])
  rw [e]
theorem mlisten_0 {n0 N w br : Nat} {c : Int32} {d yards kinds hears near : Nat → Int32} (hn : 2000000 ≤ n0) (hM : MC d yards N w br c) (hk : ∀ i : Nat, i < 10 → d (10 + i) = kinds i) : ∃ h' n' : Nat → Int32, F_X7_listen n0 (-1) d hears near = some (h', n') ∧ ∀ j : Nat, j < N → h' j = hrS kinds (GG w br c yards) sk0 N j ∧ n' j = nrS (GG w br c yards) sk0 N j := by
  have hN := hM.1
  obtain ⟨h', n', a1, a2⟩ := mlisten_s (gone := -1) (hears := hears) (near := near) hn hM hk
  refine ⟨h', n', a1, fun j h => ?_⟩
  obtain ⟨b1, b2⟩ := a2 j h
  rw [b1, b2, hrS_g hN (by omega), nrS_g hN]
  exact ⟨rfl, rfl⟩
theorem MC_of {kinds yards spots d : Nat → Int32} {tents said wall bridge counted day z : Int32} (hC : CR kinds yards spots tents said wall bridge counted day z d) : ∃ N w br : Nat, N ≤ 10 ∧ tents = nI N ∧ wall = nI w ∧ bridge = nI br ∧ MC d yards N w br counted ∧ (∀ i : Nat, i < 10 → d (10 + i) = kinds i) := by
  obtain ⟨N, hN, h0, hd0, hd1, hd2, hd3, hd4, hd5, hd6, hct, ⟨w, hw1, hw2⟩, ⟨br, hb1, hb2⟩, hdy, hsa, hA, hKi, hYa, hSp⟩ := hC
  exact ⟨N, w, br, hN, h0, hw2, hb2, ⟨hN, hd0, hd3.trans hw2, hd4.trans hb2, hd5, hct, hw1, hb1, fun i hi => (hA i hi).2.1, hYa⟩, fun i hi => (hA i hi).1⟩
