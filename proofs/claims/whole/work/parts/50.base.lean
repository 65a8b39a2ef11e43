/-! base: ranges, findings, who is on a yard -/
def inR (lo hi : Int) (p : Int32) : Prop := lo ≤ p.toInt ∧ p.toInt ≤ hi
theorem inR_nI {hi : Nat} {p : Int32} (h : inR 0 hi p) : ∃ k : Nat, k ≤ hi ∧ p = nI k := by
  obtain ⟨h1, h2⟩ := h
  have h3 : ¬ p < 0 := by rw [Int32.lt_iff_toInt_lt]; simpa using h1
  obtain ⟨j, hj, rfl⟩ := nI_of h3
  rw [nI_toInt hj] at h2
  exact ⟨j, by omega, rfl⟩
theorem isFrom_t {n0 : Nat} {a p b : Int32} (h : inR a.toInt b.toInt p) : F_X6_isFrom n0 a p b = some 1 := by
  unfold F_X6_isFrom
  rw [if_neg (by rw [Int32.lt_iff_toInt_lt]; have := h.1; omega), if_neg (by rw [Int32.lt_iff_toInt_lt]; have := h.2; omega)]
theorem isFrom_f {n0 : Nat} {a p b : Int32} (h : ¬ inR a.toInt b.toInt p) : F_X6_isFrom n0 a p b = some 0 := by
  unfold F_X6_isFrom
  by_cases h1 : p < a
  · rw [if_pos h1]
  · rw [if_neg h1]
    by_cases h2 : b < p
    · rw [if_pos h2]
    · rw [Int32.lt_iff_toInt_lt] at h1 h2
      exact absurd ⟨by omega, by omega⟩ h
theorem in_t {n0 : Nat} {a b : Int64} {p : Int32} (h : inR a.toInt b.toInt p) : F_X7_in n0 p.toInt64 a b = some 1 := by
  have h9 : p.toInt64.toInt = p.toInt := Int32.toInt_toInt64 p
  obtain ⟨h1, h2⟩ := h
  have e1 : ¬ lg_cmp p.toInt64 a < 0 := by
    unfold lg_cmp
    by_cases c1 : p.toInt64 > a
    · rw [if_pos c1]; decide
    · rw [if_neg c1]
      have c2 : p.toInt64 = a := Int64.toInt_inj.mp (by
        have c3 : ¬ a.toInt < p.toInt64.toInt := fun hh => c1 (Int64.lt_iff_toInt_lt.mpr hh)
        omega)
      rw [if_pos c2]; decide
  have e2 : ¬ 0 < lg_cmp p.toInt64 b := by
    unfold lg_cmp
    have c1 : ¬ p.toInt64 > b := fun hh => by
      have := Int64.lt_iff_toInt_lt.mp hh
      omega
    rw [if_neg c1]
    by_cases c2 : p.toInt64 = b
    · rw [if_pos c2]; decide
    · rw [if_neg c2]; decide
  unfold F_X7_in
  simp only [nm]
  rw [if_neg e1, if_neg e2]
theorem in_f {n0 : Nat} {a b : Int64} {p : Int32} (h : ¬ inR a.toInt b.toInt p) : F_X7_in n0 p.toInt64 a b = some 0 := by
  have h9 : p.toInt64.toInt = p.toInt := Int32.toInt_toInt64 p
  unfold F_X7_in
  simp only [nm]
  by_cases c0 : lg_cmp p.toInt64 a < 0
  · rw [if_pos c0]
  · rw [if_neg c0]
    have ha : a.toInt ≤ p.toInt := by
      by_cases c1 : p.toInt64 > a
      · have := Int64.lt_iff_toInt_lt.mp c1
        omega
      · by_cases c2 : p.toInt64 = a
        · rw [← c2]; omega
        · exfalso
          apply c0
          unfold lg_cmp
          rw [if_neg c1, if_neg c2]; decide
    have hb : b.toInt < p.toInt := by
      by_cases c1 : b.toInt < p.toInt
      · exact c1
      · exact absurd ⟨ha, by omega⟩ h
    have c3 : p.toInt64 > b := Int64.lt_iff_toInt_lt.mpr (by omega)
    have e2 : 0 < lg_cmp p.toInt64 b := by
      unfold lg_cmp
      rw [if_pos c3]; decide
    rw [if_pos e2]
theorem ixb_nI {i n : Nat} (h : i < n) (hn : n < 2 ^ 31) : ixb (nI i) n = true := by
  simp only [ixb, Bool.and_eq_true, decide_eq_true_eq]
  rw [nI_toInt (by omega)]
  omega
theorem rd_nI {Ro : Type} {f : Nat → Int32} {n i : Nat} {k : Int32 → Option Ro} (h : i < n) (hn : n < 2 ^ 31) : rd f n (nI i) k = k (f i) := by
  rw [rd, if_pos (ixb_nI h hn), nI_clamp (by omega)]
theorem wrt_nI {Ro : Type} {f : Nat → Int32} {n i : Nat} {x : Int32} {k : (Nat → Int32) → Option Ro} (h : i < n) (hn : n < 2 ^ 31) : wrt f n (nI i) x k = k (upd f i x) := by
  rw [wrt, if_pos (ixb_nI h hn), nI_clamp (by omega)]
theorem isKind_t {n0 : Nat} {p : Int32} (h : inR 0 6 p) : F_X6_isKind n0 p = some 1 := by
  unfold F_X6_isKind; rw [isFrom_t (a := 0) (b := 6) h]; rfl
theorem isKind_f {n0 : Nat} {p : Int32} (h : ¬ inR 0 6 p) : F_X6_isKind n0 p = some 0 := by
  unfold F_X6_isKind; rw [isFrom_f (a := 0) (b := 6) h]; rfl
theorem isBit_t {n0 : Nat} {p : Int32} (h : inR 0 1 p) : F_X6_isBit n0 p = some 1 := by
  unfold F_X6_isBit; rw [isFrom_t (a := 0) (b := 1) h]; rfl
theorem isBit_f {n0 : Nat} {p : Int32} (h : ¬ inR 0 1 p) : F_X6_isBit n0 p = some 0 := by
  unfold F_X6_isBit; rw [isFrom_f (a := 0) (b := 1) h]; rfl
theorem isSide_t {n0 : Nat} {p : Int32} (h : inR 0 11 p) : F_X6_isSide n0 p = some 1 := by
  unfold F_X6_isSide; rw [isFrom_t (a := 0) (b := 11) h]; rfl
theorem isSide_f {n0 : Nat} {p : Int32} (h : ¬ inR 0 11 p) : F_X6_isSide n0 p = some 0 := by
  unfold F_X6_isSide; rw [isFrom_f (a := 0) (b := 11) h]; rfl
theorem isSpot_t {n0 : Nat} {p : Int32} (h : inR 0 9 p) : F_X6_isSpot n0 p = some 1 := by
  unfold F_X6_isSpot; rw [isFrom_t (a := 0) (b := 9) h]; rfl
theorem isSpot_f {n0 : Nat} {p : Int32} (h : ¬ inR 0 9 p) : F_X6_isSpot n0 p = some 0 := by
  unfold F_X6_isSpot; rw [isFrom_f (a := 0) (b := 9) h]; rfl
theorem isSheet_t {n0 : Nat} {p : Int32} (h : inR 0 3 p) : F_X6_isSheet n0 p = some 1 := by
  unfold F_X6_isSheet; rw [isFrom_t (a := 0) (b := 3) h]; rfl
theorem isSheet_f {n0 : Nat} {p : Int32} (h : ¬ inR 0 3 p) : F_X6_isSheet n0 p = some 0 := by
  unfold F_X6_isSheet; rw [isFrom_f (a := 0) (b := 3) h]; rfl
theorem mSheet_t {n0 : Nat} {p : Int32} (h : inR 0 3 p) : F_X7_isSheet n0 p = some 1 := by
  unfold F_X7_isSheet; simp only [nm]; rw [in_t (a := 0) (b := 3) h]; rfl
theorem mSheet_f {n0 : Nat} {p : Int32} (h : ¬ inR 0 3 p) : F_X7_isSheet n0 p = some 0 := by
  unfold F_X7_isSheet; simp only [nm]; rw [in_f (a := 0) (b := 3) h]; rfl
theorem isYard_t {n0 : Nat} {p q : Int32} (h : inR 0 11 p) (h2 : inR 0 11 q) : F_X6_isYard n0 p q = some 1 := by
  unfold F_X6_isYard; rw [isSide_t h, isSide_t h2]; rfl
theorem isYard_f {n0 : Nat} {p q : Int32} (h : ¬ (inR 0 11 p ∧ inR 0 11 q)) : F_X6_isYard n0 p q = some 0 := by
  unfold F_X6_isYard
  by_cases h1 : inR 0 11 p
  · rw [isSide_t h1, isSide_f (fun h2 => h ⟨h1, h2⟩)]; rfl
  · rw [isSide_f h1]; rfl
theorem mYard_t {n0 : Nat} {p q : Int32} (h : inR 0 11 p) (h2 : inR 0 11 q) : F_X7_isYard n0 p q = some 1 := by
  unfold F_X7_isYard; simp only [nm]; rw [in_t (a := 0) (b := 11) h, in_t (a := 0) (b := 11) h2]; rfl
theorem mYard_f {n0 : Nat} {p q : Int32} (h : ¬ (inR 0 11 p ∧ inR 0 11 q)) : F_X7_isYard n0 p q = some 0 := by
  unfold F_X7_isYard
  simp only [nm]
  by_cases h1 : inR 0 11 p
  · rw [in_t (a := 0) (b := 11) h1, in_f (a := 0) (b := 11) (fun h2 => h ⟨h1, h2⟩)]; rfl
  · rw [in_f (a := 0) (b := 11) h1]; rfl
/-- tent p is there -/
def isT (N : Nat) (p : Int32) : Prop := 0 ≤ p.toInt ∧ p.toInt < N
theorem isT_nI {N : Nat} {p : Int32} (h : isT N p) : ∃ k : Nat, k < N ∧ p = nI k := by
  obtain ⟨h1, h2⟩ := h
  have h3 : ¬ p < 0 := by rw [Int32.lt_iff_toInt_lt]; simpa using h1
  obtain ⟨j, hj, rfl⟩ := nI_of h3
  rw [nI_toInt hj] at h2
  exact ⟨j, by omega, rfl⟩
theorem has_t {n0 N : Nat} {p : Int32} (hN : N ≤ 10) (h : isT N p) : F_X0_has n0 (nI N) p = some 1 := by
  obtain ⟨k, hk, rfl⟩ := isT_nI h
  unfold F_X0_has
  rw [if_neg (nI_pos (by omega)), if_neg (nI_ge hk (by omega))]
theorem has_f {n0 N : Nat} {p : Int32} (hN : N ≤ 10) (h : ¬ isT N p) : F_X0_has n0 (nI N) p = some 0 := by
  unfold F_X0_has
  by_cases h1 : p < 0
  · rw [if_pos h1]
  · obtain ⟨j, hj, rfl⟩ := nI_of h1
    rw [if_neg h1, if_pos]
    rw [nI_leI (by omega) hj]
    by_cases h2 : j < N
    · exact absurd ⟨by rw [nI_toInt hj]; omega, by rw [nI_toInt hj]; omega⟩ h
    · omega
theorem mT_aux {N : Nat} (hN : N ≤ 10) : (nI N - 1).toInt64.toInt = (N : Int) - 1 := by
  rw [Int32.toInt_toInt64]
  exact pk_sub_toInt (a := N) (b := 1) (by omega) (by decide)
theorem mT_t {n0 N : Nat} {d : Nat → Int32} {p : Int32} (hN : N ≤ 10) (hd : d 0 = nI N) (h : isT N p) : F_X7_isTent n0 d p = some 1 := by
  unfold F_X7_isTent
  simp only [nm]
  rw [show (0 : Int32) = nI 0 from rfl, rd_nI (by decide) (by decide), hd]
  rw [in_t (a := 0) (b := (nI N - 1).toInt64) ⟨h.1, by rw [mT_aux hN]; have := h.2; omega⟩]
  rfl
theorem mT_f {n0 N : Nat} {d : Nat → Int32} {p : Int32} (hN : N ≤ 10) (hd : d 0 = nI N) (h : ¬ isT N p) : F_X7_isTent n0 d p = some 0 := by
  unfold F_X7_isTent
  simp only [nm]
  rw [show (0 : Int32) = nI 0 from rfl, rd_nI (by decide) (by decide), hd]
  rw [in_f (a := 0) (b := (nI N - 1).toInt64) (fun h2 => h ⟨h2.1, by have := h2.2; rw [mT_aux hN] at this; omega⟩)]
  rfl
theorem fnd_0 {n0 : Nat} {f : Nat → Int32} : F_X6_finding n0 f (-1000001) = some (-1000001, upd f 0 (f 0 + 1)) := rfl
theorem fnd_1 {n0 : Nat} {f : Nat → Int32} : F_X6_finding n0 f (-1000002) = some (-1000002, upd f 1 (f 1 + 1)) := rfl
theorem fnd_2 {n0 : Nat} {f : Nat → Int32} : F_X6_finding n0 f (-1000003) = some (-1000003, upd f 2 (f 2 + 1)) := rfl
theorem fnd_3 {n0 : Nat} {f : Nat → Int32} : F_X6_finding n0 f (-1000004) = some (-1000004, upd f 3 (f 3 + 1)) := rfl
theorem fnd_4 {n0 : Nat} {f : Nat → Int32} : F_X6_finding n0 f (-1000005) = some (-1000005, upd f 4 (f 4 + 1)) := rfl
theorem fnd_5 {n0 : Nat} {f : Nat → Int32} : F_X6_finding n0 f (-1000006) = some (-1000006, upd f 5 (f 5 + 1)) := rfl
theorem fnd_6 {n0 : Nat} {f : Nat → Int32} : F_X6_finding n0 f (-1000007) = some (-1000007, upd f 6 (f 6 + 1)) := rfl
theorem mfd_0 {n0 : Nat} {f : Nat → Int32} : F_X7_finds n0 f 0 = some (-1000001, upd f 0 (f 0 + 1)) := rfl
theorem mfd_1 {n0 : Nat} {f : Nat → Int32} : F_X7_finds n0 f 1 = some (-1000002, upd f 1 (f 1 + 1)) := rfl
theorem mfd_2 {n0 : Nat} {f : Nat → Int32} : F_X7_finds n0 f 2 = some (-1000003, upd f 2 (f 2 + 1)) := rfl
theorem mfd_3 {n0 : Nat} {f : Nat → Int32} : F_X7_finds n0 f 3 = some (-1000004, upd f 3 (f 3 + 1)) := rfl
theorem mfd_4 {n0 : Nat} {f : Nat → Int32} : F_X7_finds n0 f 4 = some (-1000005, upd f 4 (f 4 + 1)) := rfl
theorem mfd_5 {n0 : Nat} {f : Nat → Int32} : F_X7_finds n0 f 5 = some (-1000006, upd f 5 (f 5 + 1)) := rfl
theorem mfd_6 {n0 : Nat} {f : Nat → Int32} : F_X7_finds n0 f 6 = some (-1000007, upd f 6 (f 6 + 1)) := rfl
theorem fnd_u {f m : Nat → Int32} (h : ∀ i : Nat, i < 7 → m i = f i) (k : Nat) (hk : k < 7) : ∀ i : Nat, i < 7 → upd m k (m k + 1) i = upd f k (f k + 1) i := by
  intro i hi
  by_cases h1 : i = k
  · subst h1; rw [pk_us, pk_us, h i hi]
  · rw [pk_un h1, pk_un h1, h i hi]
/-- who is on a yard: the first of k from i on -/
def whoR (yards : Nat → Int32) (y : Int32) : Nat → Nat → Int32
  | 0, _ => -1
  | k + 1, i => if yards i = y then nI i else whoR yards y k (i + 1)
theorem whoR_or (yards : Nat → Int32) (y : Int32) : ∀ (k i : Nat), whoR yards y k i = -1 ∨ ∃ j, i ≤ j ∧ j < i + k ∧ whoR yards y k i = nI j ∧ yards j = y := by
  intro k
  induction k with
  | zero => intro i; exact Or.inl rfl
  | succ k ih =>
    intro i
    unfold whoR
    by_cases h : yards i = y
    · rw [if_pos h]; exact Or.inr ⟨i, by omega, by omega, rfl, h⟩
    · rw [if_neg h]
      rcases ih (i + 1) with h1 | ⟨j, h1, h2, h3, h4⟩
      · exact Or.inl h1
      · exact Or.inr ⟨j, by omega, by omega, h3, h4⟩
theorem tentOn_r {N : Nat} {yards : Nat → Int32} {y : Int32} (hN : N ≤ 10) : ∀ (k i n : Nat), i + k = N → k < n → L_X0_tentOn_2 (nI N) yards y n (nI i) = some (whoR yards y k i) := by
  intro k
  induction k with
  | zero =>
    intro i n h1 h2
    obtain ⟨n, rfl⟩ : ∃ q, n = q + 1 := ⟨n - 1, by omega⟩
    rw [L_X0_tentOn_2_u, if_pos (nI_le (by omega) (by omega))]
    rfl
  | succ k ih =>
    intro i n h1 h2
    obtain ⟨n, rfl⟩ : ∃ q, n = q + 1 := ⟨n - 1, by omega⟩
    rw [L_X0_tentOn_2_u, if_neg (nI_ge (by omega) (by omega)), rd_nI (by omega) (by decide)]
    unfold whoR
    by_cases h : yards i = y
    · rw [if_pos h, if_pos h]
    · rw [if_neg h, if_neg h, nm, nI_1, ih (i + 1) n (by omega) (by omega)]
theorem tentOn_s {n0 N : Nat} {yards : Nat → Int32} {y : Int32} (hn : 2000000 ≤ n0) (hN : N ≤ 10) : F_X0_tentOn n0 (nI N) yards y = some (whoR yards y N 0) := by
  unfold F_X0_tentOn
  rw [← nI_0]
  exact tentOn_r hN N 0 n0 (by omega) (by omega)
theorem mYd {n0 i : Nat} {d : Nat → Int32} (h : i < 10) : F_X7_yard n0 d (nI i) = some (d (20 + i)) := by
  unfold F_X7_yard
  rw [nm, show (20 : Int32) = nI 20 from rfl, nI_add, rd_nI (by omega) (by decide)]
theorem mKd {n0 i : Nat} {d : Nat → Int32} (h : i < 10) : F_X7_kind n0 d (nI i) = some (d (10 + i)) := by
  unfold F_X7_kind
  rw [nm, show (10 : Int32) = nI 10 from rfl, nI_add, rd_nI (by omega) (by decide)]
theorem whoIs_r {n0 N : Nat} {d yards : Nat → Int32} {y : Int32} (hN : N ≤ 10) (hd : d 0 = nI N) (hy : ∀ i, i < 10 → d (20 + i) = yards i) : ∀ (k i n : Nat), i + k = N → k < n → L_X7_whoIs_2 d n0 y n (nI i) = some (whoR yards y k i) := by
  intro k
  induction k with
  | zero =>
    intro i n h1 h2
    obtain ⟨n, rfl⟩ : ∃ q, n = q + 1 := ⟨n - 1, by omega⟩
    rw [L_X7_whoIs_2_u, show (0 : Int32) = nI 0 from rfl, rd_nI (by decide) (by decide), hd, if_pos (nI_le (by omega) (by omega))]
    rfl
  | succ k ih =>
    intro i n h1 h2
    obtain ⟨n, rfl⟩ : ∃ q, n = q + 1 := ⟨n - 1, by omega⟩
    rw [L_X7_whoIs_2_u, show (0 : Int32) = nI 0 from rfl, rd_nI (by decide) (by decide), hd, if_neg (nI_ge (by omega) (by omega)), mYd (by omega), bd1, hy i (by omega)]
    unfold whoR
    by_cases h : yards i = y
    · rw [if_pos h, if_pos h]
    · rw [if_neg h, if_neg h, nm, nI_1, ih (i + 1) n (by omega) (by omega)]
theorem whoIs_s {n0 N : Nat} {d yards : Nat → Int32} {y : Int32} (hn : 2000000 ≤ n0) (hN : N ≤ 10) (hd : d 0 = nI N) (hy : ∀ i, i < 10 → d (20 + i) = yards i) : F_X7_whoIs n0 d y = some (whoR yards y N 0) := by
  unfold F_X7_whoIs
  rw [← nI_0]
  exact whoIs_r hN hd hy N 0 n0 (by omega) (by omega)
