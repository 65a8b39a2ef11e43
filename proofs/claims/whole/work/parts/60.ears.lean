/-! who is nearest, who hears whom -/
def cod : Option Nat → Int32
  | none => -1
  | some i => nI i
def nearF (g : Nat → Nat) (sk : Nat → Bool) : Nat → Nat → Option Nat → Option Nat
  | 0, _, b => b
  | k + 1, i, b => nearF g sk k (i + 1) (if sk i = true then b else match b with
    | none => some i
    | some o => if g o ≤ g i then some o else some i)
def fartF (g : Nat → Nat) (sk : Nat → Bool) : Nat → Nat → Option Nat → Option Nat
  | 0, _, b => b
  | k + 1, i, b => fartF g sk k (i + 1) (if sk i = true then b else match b with
    | none => some i
    | some o => if g i ≤ g o then some o else some i)
/-- the best so far is a number below i that isn't left out -/
def okB (i : Nat) : Option Nat → Prop
  | none => True
  | some o => o < i
theorem nearF_ok (g : Nat → Nat) (sk : Nat → Bool) : ∀ (k i : Nat) (b : Option Nat), okB i b → okB (i + k) (nearF g sk k i b) := by
  intro k
  induction k with
  | zero => intro i b h; exact h
  | succ k ih =>
    intro i b h
    unfold nearF
    have e : i + (k + 1) = i + 1 + k := by omega
    rw [e]
    apply ih
    split
    · cases b with
      | none => trivial
      | some o => exact Nat.lt_succ_of_lt h
    · cases b with
      | none => exact Nat.lt_succ_self i
      | some o =>
        simp only []
        split
        · exact Nat.lt_succ_of_lt h
        · exact Nat.lt_succ_self i
theorem fartF_ok (g : Nat → Nat) (sk : Nat → Bool) : ∀ (k i : Nat) (b : Option Nat), okB i b → okB (i + k) (fartF g sk k i b) := by
  intro k
  induction k with
  | zero => intro i b h; exact h
  | succ k ih =>
    intro i b h
    unfold fartF
    have e : i + (k + 1) = i + 1 + k := by omega
    rw [e]
    apply ih
    split
    · cases b with
      | none => trivial
      | some o => exact Nat.lt_succ_of_lt h
    · cases b with
      | none => exact Nat.lt_succ_self i
      | some o =>
        simp only []
        split
        · exact Nat.lt_succ_of_lt h
        · exact Nat.lt_succ_self i
theorem nearF_congr {g : Nat → Nat} {s1 s2 : Nat → Bool} : ∀ (k i : Nat) (b : Option Nat), (∀ j, i ≤ j → j < i + k → s1 j = s2 j) → nearF g s1 k i b = nearF g s2 k i b := by
  intro k
  induction k with
  | zero => intro i b _; rfl
  | succ k ih =>
    intro i b h
    unfold nearF
    rw [h i (by omega) (by omega)]
    exact ih (i + 1) _ (fun j h1 h2 => h j (by omega) (by omega))
theorem fartF_congr {g : Nat → Nat} {s1 s2 : Nat → Bool} : ∀ (k i : Nat) (b : Option Nat), (∀ j, i ≤ j → j < i + k → s1 j = s2 j) → fartF g s1 k i b = fartF g s2 k i b := by
  intro k
  induction k with
  | zero => intro i b _; rfl
  | succ k ih =>
    intro i b h
    unfold fartF
    rw [h i (by omega) (by omega)]
    exact ih (i + 1) _ (fun j h1 h2 => h j (by omega) (by omega))
theorem gap_ix {t i : Nat} : (10 : Int32) * nI t + nI i = nI (10 * t + i) := by
  rw [show (10 : Int32) = nI 10 from rfl, pk_mul, nI_add]
def bgN (g : Nat → Nat) : Option Nat → Int32
  | none => 1000000
  | some o => nI (g o)
def bgF (g : Nat → Nat) : Option Nat → Int32
  | none => -1
  | some o => nI (g o)
theorem near_r {t B : Nat} {g : Nat → Nat} {gaps : Nat → Int32} (ht : t < 10) (hB : B ≤ 10) (hg : ∀ i : Nat, i < B → i ≠ t → gaps (10 * t + i) = nI (g i)) (hl : ∀ i : Nat, i < 10 → g i < 1100) : ∀ (k i n : Nat) (b : Option Nat), i + k = B → k < n → okB i b → L_X1_nearestBelow_9 (nI B) (nI t) gaps n (cod b) (bgN g b) (nI i) = some (cod (nearF g (fun j => j == t) k i b)) := by
  intro k
  induction k with
  | zero =>
    intro i n b h1 h2 hb
    obtain ⟨n, rfl⟩ : ∃ q, n = q + 1 := ⟨n - 1, by omega⟩
    rw [L_X1_nearestBelow_9_u, if_pos (nI_le (by omega) (by omega))]
    rfl
  | succ k ih =>
    intro i n b h1 h2 hb
    obtain ⟨n, rfl⟩ : ∃ q, n = q + 1 := ⟨n - 1, by omega⟩
    rw [L_X1_nearestBelow_9_u, if_neg (nI_ge (by omega) (by omega))]
    simp only [nm]
    rw [gap_ix, rd_nI (by omega) (by decide)]
    unfold nearF
    by_cases h : i = t
    · subst h
      have hb' : okB (i + 1) b := by cases b with
        | none => trivial
        | some o => exact Nat.lt_succ_of_lt hb
      rw [if_pos rfl, nI_1, ih (i + 1) n b (by omega) (by omega) hb', if_pos (beq_self_eq_true i)]
    · rw [if_neg (fun h2 => h ((nI_eq (by omega) (by omega)).mp h2)), hg i (by omega) h, if_neg (show ¬ ((i == t) = true) from by simp [h])]
      cases b with
      | none =>
        rw [if_neg (show ¬ bgN g none ≤ nI (g i) from nI_ge (a := g i) (b := 1000000) (by have := hl i (by omega); omega) (by decide)), nI_1]
        exact ih (i + 1) n (some i) (by omega) (by omega) (Nat.lt_succ_self i)
      | some o =>
        have ho : o < i := hb
        have l1 := hl i (by omega)
        have l2 := hl o (by omega)
        simp only []
        by_cases h3 : g o ≤ g i
        · rw [if_pos (show bgN g (some o) ≤ nI (g i) from nI_le h3 (by omega)), if_pos h3, nI_1]
          exact ih (i + 1) n (some o) (by omega) (by omega) (Nat.lt_succ_of_lt ho)
        · rw [if_neg (show ¬ bgN g (some o) ≤ nI (g i) from nI_ge (by omega) (by omega)), if_neg h3, nI_1]
          exact ih (i + 1) n (some i) (by omega) (by omega) (Nat.lt_succ_self i)
theorem near_s {n0 t B : Nat} {g : Nat → Nat} {gaps : Nat → Int32} (hn : 2000000 ≤ n0) (ht : t < 10) (hB : B ≤ 10) (hg : ∀ i : Nat, i < B → i ≠ t → gaps (10 * t + i) = nI (g i)) (hl : ∀ i : Nat, i < 10 → g i < 1100) : F_X1_nearestBelow n0 gaps (nI t) (nI B) = some (cod (nearF g (fun j => j == t) B 0 none)) := by
  unfold F_X1_nearestBelow
  rw [← nI_0]
  exact near_r ht hB hg hl B 0 n0 none (by omega) (by omega) trivial
theorem fart_r {t B : Nat} {g : Nat → Nat} {gaps : Nat → Int32} (ht : t < 10) (hB : B ≤ 10) (hg : ∀ i : Nat, i < B → i ≠ t → gaps (10 * t + i) = nI (g i)) (hl : ∀ i : Nat, i < 10 → g i < 1100) : ∀ (k i n : Nat) (b : Option Nat), i + k = B → k < n → okB i b → L_X1_farthest_7 (nI B) (nI t) gaps n (cod b) (bgF g b) (nI i) = some (cod (fartF g (fun j => j == t) k i b)) := by
  intro k
  induction k with
  | zero =>
    intro i n b h1 h2 hb
    obtain ⟨n, rfl⟩ : ∃ q, n = q + 1 := ⟨n - 1, by omega⟩
    rw [L_X1_farthest_7_u, if_pos (nI_le (by omega) (by omega))]
    rfl
  | succ k ih =>
    intro i n b h1 h2 hb
    obtain ⟨n, rfl⟩ : ∃ q, n = q + 1 := ⟨n - 1, by omega⟩
    rw [L_X1_farthest_7_u, if_neg (nI_ge (by omega) (by omega))]
    simp only [nm]
    rw [gap_ix, rd_nI (by omega) (by decide)]
    unfold fartF
    by_cases h : i = t
    · subst h
      have hb' : okB (i + 1) b := by cases b with
        | none => trivial
        | some o => exact Nat.lt_succ_of_lt hb
      rw [if_pos rfl, nI_1, ih (i + 1) n b (by omega) (by omega) hb', if_pos (beq_self_eq_true i)]
    · rw [if_neg (fun h2 => h ((nI_eq (by omega) (by omega)).mp h2)), hg i (by omega) h, if_neg (show ¬ ((i == t) = true) from by simp [h])]
      have l1 := hl i (by omega)
      cases b with
      | none =>
        have hq : ¬ nI (g i) ≤ bgF g none := by
          show ¬ nI (g i) ≤ -1
          rw [Int32.le_iff_toInt_le, nI_toInt (by omega)]
          have a3 : (-1 : Int32).toInt = -1 := rfl
          omega
        rw [if_neg hq, nI_1]
        exact ih (i + 1) n (some i) (by omega) (by omega) (Nat.lt_succ_self i)
      | some o =>
        have ho : o < i := hb
        have l2 := hl o (by omega)
        simp only []
        by_cases h3 : g i ≤ g o
        · rw [if_pos (show nI (g i) ≤ bgF g (some o) from nI_le h3 (by omega)), if_pos h3, nI_1]
          exact ih (i + 1) n (some o) (by omega) (by omega) (Nat.lt_succ_of_lt ho)
        · rw [if_neg (show ¬ nI (g i) ≤ bgF g (some o) from nI_ge (by omega) (by omega)), if_neg h3, nI_1]
          exact ih (i + 1) n (some i) (by omega) (by omega) (Nat.lt_succ_self i)
theorem fart_s {n0 t B : Nat} {g : Nat → Nat} {gaps : Nat → Int32} (hn : 2000000 ≤ n0) (ht : t < 10) (hB : B ≤ 10) (hg : ∀ i : Nat, i < B → i ≠ t → gaps (10 * t + i) = nI (g i)) (hl : ∀ i : Nat, i < 10 → g i < 1100) : F_X1_farthest n0 (nI B) gaps (nI t) = some (cod (fartF g (fun j => j == t) B 0 none)) := by
  unfold F_X1_farthest
  rw [← nI_0]
  exact fart_r ht hB hg hl B 0 n0 none (by omega) (by omega) trivial
/-- the reference's camp, as numbers -/
def yN (f : Nat → Int32) (i : Nat) : Nat := (f i).toNatClampNeg
theorem yN_of {f : Nat → Int32} {i n : Nat} (hn : n < 2 ^ 31) (h : ∃ w : Nat, w < n ∧ f i = nI w) : f i = nI (yN f i) ∧ yN f i < n := by
  obtain ⟨w, h1, h2⟩ := h
  have e : yN f i = w := by unfold yN; rw [h2, nI_clamp (by omega)]
  rw [e]
  exact ⟨h2, h1⟩
/-- a camp for hearing: yards, wall, bridge, counted, number of tents -/
def MC (d yards : Nat → Int32) (N w br : Nat) (c : Int32) : Prop := N ≤ 10 ∧ d 0 = nI N ∧ d 3 = nI w ∧ d 4 = nI br ∧ d 5 = c ∧ (c = 0 ∨ c = 1) ∧ w < 12 ∧ br < 12 ∧ (∀ i : Nat, i < 10 → d (20 + i) = yards i) ∧ ∀ i : Nat, i < 10 → ∃ y : Nat, y < 144 ∧ yards i = nI y
def GG (w br : Nat) (c : Int32) (yards : Nat → Int32) (i j : Nat) : Nat := farN w br (decide (c = 1)) (yN yards i) (yN yards j)
theorem GG_lt {w br : Nat} {c : Int32} {yards : Nat → Int32} (hb : br < 12) (hy : ∀ i : Nat, i < 10 → ∃ y : Nat, y < 144 ∧ yards i = nI y) {i j : Nat} (hi : i < 10) (hj : j < 10) : GG w br c yards i j < 1100 := farN_lt (yN_of (by decide) (hy i hi)).2 (yN_of (by decide) (hy j hj)).2 hb
theorem GG_comm (w br : Nat) (c : Int32) (yards : Nat → Int32) (i j : Nat) : GG w br c yards i j = GG w br c yards j i := farN_comm _ _ _ _ _
theorem mfar {n0 N w br i j : Nat} {d yards : Nat → Int32} {c : Int32} (hM : MC d yards N w br c) (hi : i < 10) (hj : j < 10) : F_X7_farOf n0 d (d (20 + i)) (d (20 + j)) = some (nI (GG w br c yards i j)) := by
  obtain ⟨h1, h2, h3, h4, h5, h6, h7, h8, h9, h10⟩ := hM
  obtain ⟨a1, a2⟩ := yN_of (by decide) (h10 i hi)
  obtain ⟨b1, b2⟩ := yN_of (by decide) (h10 j hj)
  rw [h9 i hi, h9 j hj, a1, b1, farOf_s h6 h3 h4 h5 h7 h8 a2 b2]
  rfl
theorem cod_m1 {o : Nat} (h : o < 10) : ¬ cod (some o) = -1 := nI_m1 (by omega)
theorem mnear_r {n0 N w br t B : Nat} {d yards : Nat → Int32} {c gone : Int32} (hM : MC d yards N w br c) (ht : t < 10) (hB : B ≤ 10) : ∀ (k i n : Nat) (b : Option Nat), i + k = B → k < n → okB i b → L_X7_nearestOf_5 (nI B) (nI t) gone n0 d n (cod b) (nI i) = some (cod (nearF (GG w br c yards t) (fun j => decide (j = t) || decide (nI j = gone)) k i b)) := by
  intro k
  induction k with
  | zero =>
    intro i n b h1 h2 hb
    obtain ⟨n, rfl⟩ : ∃ q, n = q + 1 := ⟨n - 1, by omega⟩
    rw [L_X7_nearestOf_5_u, if_pos (nI_le (by omega) (by omega))]
    rfl
  | succ k ih =>
    intro i n b h1 h2 hb
    obtain ⟨n, rfl⟩ : ∃ q, n = q + 1 := ⟨n - 1, by omega⟩
    have hb' : okB (i + 1) b := by cases b with
      | none => trivial
      | some o => exact Nat.lt_succ_of_lt hb
    rw [L_X7_nearestOf_5_u, if_neg (nI_ge (by omega) (by omega))]
    simp only [nm]
    unfold nearF
    by_cases h : i = t
    · rw [if_pos (by rw [h]), nI_1, ih (i + 1) n b (by omega) (by omega) hb', if_pos (by simp [h])]
    · rw [if_neg (fun h2 => h ((nI_eq (by omega) (by omega)).mp h2))]
      by_cases h3 : nI i = gone
      · rw [if_pos h3, nI_1, ih (i + 1) n b (by omega) (by omega) hb', if_pos (by simp [h3])]
      · rw [if_neg h3, if_neg (show ¬ ((decide (i = t) || decide (nI i = gone)) = true) from by simp [h, h3])]
        cases b with
        | none =>
          rw [if_pos (show cod none = -1 from rfl), nI_1]
          exact ih (i + 1) n (some i) (by omega) (by omega) (Nat.lt_succ_self i)
        | some o =>
          have ho : o < i := hb
          rw [if_neg (cod_m1 (by omega)), mYd (by omega), mYd (by omega)]
          simp only [bd1]
          rw [mfar hM ht (by omega)]
          simp only []
          rw [show cod (some o) = nI o from rfl, mYd (by omega)]
          simp only []
          rw [mfar hM ht (by omega)]
          simp only []
          have l1 := GG_lt (w := w) (c := c) hM.2.2.2.2.2.2.2.1 hM.2.2.2.2.2.2.2.2.2 ht (j := i) (by omega)
          have l2 := GG_lt (w := w) (c := c) hM.2.2.2.2.2.2.2.1 hM.2.2.2.2.2.2.2.2.2 ht (j := o) (by omega)
          by_cases h4 : GG w br c yards t o ≤ GG w br c yards t i
          · rw [if_pos (nI_le h4 (by omega)), if_pos h4, nI_1]
            exact ih (i + 1) n (some o) (by omega) (by omega) (Nat.lt_succ_of_lt ho)
          · rw [if_neg (nI_ge (by omega) (by omega)), if_neg h4, nI_1]
            exact ih (i + 1) n (some i) (by omega) (by omega) (Nat.lt_succ_self i)
theorem mnear_s {n0 N w br t B : Nat} {d yards : Nat → Int32} {c gone : Int32} (hn : 2000000 ≤ n0) (hM : MC d yards N w br c) (ht : t < 10) (hB : B ≤ 10) : F_X7_nearestOf n0 gone d (nI t) (nI B) = some (cod (nearF (GG w br c yards t) (fun j => decide (j = t) || decide (nI j = gone)) B 0 none)) := by
  unfold F_X7_nearestOf
  rw [← nI_0]
  exact mnear_r hM ht hB B 0 n0 none (by omega) (by omega) trivial
theorem mfart_r {n0 N w br t : Nat} {d yards : Nat → Int32} {c gone : Int32} (hM : MC d yards N w br c) (ht : t < 10) : ∀ (k i n : Nat) (b : Option Nat), i + k = N → k < n → okB i b → L_X7_farthestOf_4 d (nI t) gone n0 n (cod b) (nI i) = some (cod (fartF (GG w br c yards t) (fun j => decide (j = t) || decide (nI j = gone)) k i b)) := by
  have hN := hM.1
  have hd0 := hM.2.1
  intro k
  induction k with
  | zero =>
    intro i n b h1 h2 hb
    obtain ⟨n, rfl⟩ : ∃ q, n = q + 1 := ⟨n - 1, by omega⟩
    rw [L_X7_farthestOf_4_u, rd_l 0 l0 (by decide) (by decide), hd0, if_pos (nI_le (by omega) (by omega))]
    rfl
  | succ k ih =>
    intro i n b h1 h2 hb
    obtain ⟨n, rfl⟩ : ∃ q, n = q + 1 := ⟨n - 1, by omega⟩
    have hb' : okB (i + 1) b := by cases b with
      | none => trivial
      | some o => exact Nat.lt_succ_of_lt hb
    rw [L_X7_farthestOf_4_u, rd_l 0 l0 (by decide) (by decide), hd0, if_neg (nI_ge (by omega) (by omega))]
    simp only [nm]
    unfold fartF
    by_cases h : i = t
    · rw [if_pos (by rw [h]), nI_1, ih (i + 1) n b (by omega) (by omega) hb', if_pos (by simp [h])]
    · rw [if_neg (fun h2 => h ((nI_eq (by omega) (by omega)).mp h2))]
      by_cases h3 : nI i = gone
      · rw [if_pos h3, nI_1, ih (i + 1) n b (by omega) (by omega) hb', if_pos (by simp [h3])]
      · rw [if_neg h3, if_neg (show ¬ ((decide (i = t) || decide (nI i = gone)) = true) from by simp [h, h3])]
        cases b with
        | none =>
          rw [if_pos (show cod none = -1 from rfl), nI_1]
          exact ih (i + 1) n (some i) (by omega) (by omega) (Nat.lt_succ_self i)
        | some o =>
          have ho : o < i := hb
          rw [if_neg (cod_m1 (by omega)), mYd (by omega), mYd (by omega)]
          simp only [bd1]
          rw [mfar hM ht (by omega)]
          simp only []
          rw [show cod (some o) = nI o from rfl, mYd (by omega)]
          simp only []
          rw [mfar hM ht (by omega)]
          simp only []
          have l1 := GG_lt (w := w) (c := c) hM.2.2.2.2.2.2.2.1 hM.2.2.2.2.2.2.2.2.2 ht (j := i) (by omega)
          have l2 := GG_lt (w := w) (c := c) hM.2.2.2.2.2.2.2.1 hM.2.2.2.2.2.2.2.2.2 ht (j := o) (by omega)
          by_cases h4 : GG w br c yards t i ≤ GG w br c yards t o
          · rw [if_pos (nI_le h4 (by omega)), if_pos h4, nI_1]
            exact ih (i + 1) n (some o) (by omega) (by omega) (Nat.lt_succ_of_lt ho)
          · rw [if_neg (nI_ge (by omega) (by omega)), if_neg h4, nI_1]
            exact ih (i + 1) n (some i) (by omega) (by omega) (Nat.lt_succ_self i)
theorem mfart_s {n0 N w br t : Nat} {d yards : Nat → Int32} {c gone : Int32} (hn : 2000000 ≤ n0) (hM : MC d yards N w br c) (ht : t < 10) : F_X7_farthestOf n0 gone d (nI t) = some (cod (fartF (GG w br c yards t) (fun j => decide (j = t) || decide (nI j = gone)) N 0 none)) := by
  have hN := hM.1
  unfold F_X7_farthestOf
  rw [← nI_0]
  exact mfart_r hM ht N 0 n0 none (by omega) (by omega) trivial
/-- who is nearest, who is heard -/
def nrS (G : Nat → Nat → Nat) (sk : Nat → Bool) (N t : Nat) : Int32 := cod (nearF (G t) (fun j => decide (j = t) || sk j) N 0 none)
def hrS (kinds : Nat → Int32) (G : Nat → Nat → Nat) (sk : Nat → Bool) (N t : Nat) : Int32 := if kinds t = 1 ∨ kinds t = 4 then nrS G sk t t else if kinds t = 6 then cod (fartF (G t) (fun j => decide (j = t) || sk j) N 0 none) else nrS G sk N t
