/-! sets of tents, counts -/
theorem or_f {a s : Int32} : a ||| (bI false <<< s) = a := by
  show a ||| ((0 : Int32) <<< s) = a
  rw [Int32.zero_shiftLeft, Int32.or_zero]
theorem bI0 : bI false = 0 := rfl
theorem bI1 : ¬ bI true = 0 := by decide
def bsF (P : Nat → Bool) (N : Nat) : Int32 := bitsF (fun i => bI (P i)) N 0 0
theorem bI_01 (b : Bool) : bI b = 0 ∨ bI b = 1 := by cases b with
  | false => exact Or.inl rfl
  | true => exact Or.inr rfl
theorem bsF_rg {P : Nat → Bool} {N : Nat} (hN : N ≤ 10) : ∃ m : Nat, m < 2 ^ N ∧ bsF P N = nI m := by
  obtain ⟨m, h1, h2⟩ := bitsF_rg (w := fun i => bI (P i)) (fun i => bI_01 (P i)) N 0 0 (by omega) (by decide)
  rw [Nat.zero_add] at h1
  exact ⟨m, h1, h2⟩
theorem bsF_congr {P Q : Nat → Bool} {N : Nat} (h : ∀ j : Nat, j < N → P j = Q j) : bsF P N = bsF Q N := bitsF_congr N 0 0 (fun j _ h2 => by
  show bI (P j) = bI (Q j)
  rw [h j (by omega)])
/-- how many are in a set -/
def pcN (x : Int32) : Nat := (onesE x).toNatClampNeg
theorem pop_n : ∀ m : Nat, m < 1024 → onesE (nI m) = nI (pcN (nI m)) ∧ pcN (nI m) < 11 := by decide +kernel
theorem set_one : ∀ i : Nat, i < 10 → ∀ m : Nat, m < 2 ^ i → onesE (nI m ||| (1 <<< (nI i &&& 31))) = onesE (nI m) + 1 := by decide +kernel
theorem bsF_ones {P : Nat → Bool} {N : Nat} (hN : N ≤ 10) : onesE (bsF P N) = nI (pcN (bsF P N)) ∧ bitE (bsF P N) = nI (pcN (bsF P N)) ∧ pcN (bsF P N) < 11 := by
  obtain ⟨m, h1, h2⟩ := bsF_rg (P := P) hN
  have h3 : m < 1024 := by have := pow10 hN; omega
  rw [h2]
  exact ⟨(pop_n m h3).1, by rw [pop_eq m h3]; exact (pop_n m h3).1, (pop_n m h3).2⟩
def cntF (P : Nat → Bool) : Nat → Nat → Nat → Nat
  | 0, _, a => a
  | k + 1, i, a => cntF P k (i + 1) (a + (P i).toNat)
theorem bits_cnt {P : Nat → Bool} : ∀ (k i m c : Nat), i + k ≤ 10 → m < 2 ^ i → onesE (nI m) = nI c → onesE (bitsF (fun j => bI (P j)) k i (nI m)) = nI (cntF P k i c) := by
  intro k
  induction k with
  | zero => intro i m c _ _ h; exact h
  | succ k ih =>
    intro i m c h1 h2 h3
    show onesE (bitsF (fun j => bI (P j)) k (i + 1) (nI m ||| (bI (P i) <<< (nI i &&& 31)))) = nI (cntF P k (i + 1) (c + (P i).toNat))
    cases hp : P i with
    | false =>
      rw [or_f]
      exact ih (i + 1) m c (by omega) (by rw [Nat.pow_succ]; omega) h3
    | true =>
      obtain ⟨m', a1, a2⟩ := set_rg (N := i + 1) (m := m) (t := i) (by omega) (by rw [Nat.pow_succ]; omega) (by omega)
      have e1 : nI m ||| (bI true <<< (nI i &&& 31)) = nI m' := a2
      have e2 : onesE (nI m') = nI (c + 1) := by
        rw [← e1]
        show onesE (nI m ||| (1 <<< (nI i &&& 31))) = nI (c + 1)
        rw [set_one i (by omega) m h2, h3, nI_1]
      rw [e1]
      exact ih (i + 1) m' (c + 1) (by omega) a1 e2
theorem bsF_cnt {P : Nat → Bool} {N : Nat} (hN : N ≤ 10) : onesE (bsF P N) = nI (cntF P N 0 0) := bits_cnt N 0 0 0 (by omega) (by decide) (by decide +kernel)
/-! sums -/
def sumN (f : Nat → Nat) : Nat → Nat
  | 0 => 0
  | n + 1 => sumN f n + f n
theorem cntF_sum {P : Nat → Bool} : ∀ (k i : Nat), cntF P k i (sumN (fun j => (P j).toNat) i) = sumN (fun j => (P j).toNat) (i + k) := by
  intro k
  induction k with
  | zero => intro i; rfl
  | succ k ih =>
    intro i
    have := ih (i + 1)
    rw [show i + 1 + k = i + (k + 1) by omega] at this
    exact this
theorem cnt_sum {P : Nat → Bool} {N : Nat} : cntF P N 0 0 = sumN (fun j => (P j).toNat) N := by
  have := cntF_sum (P := P) N 0
  rw [Nat.zero_add] at this
  exact this
theorem sumN_congr {f g : Nat → Nat} : ∀ N : Nat, (∀ i : Nat, i < N → f i = g i) → sumN f N = sumN g N := by
  intro N
  induction N with
  | zero => intro _; rfl
  | succ N ih =>
    intro h
    show sumN f N + f N = sumN g N + g N
    rw [ih (fun i hi => h i (by omega)), h N (by omega)]
theorem sumN_add {f g : Nat → Nat} : ∀ N : Nat, sumN (fun i => f i + g i) N = sumN f N + sumN g N := by
  intro N
  induction N with
  | zero => rfl
  | succ N ih =>
    show sumN (fun i => f i + g i) N + (f N + g N) = sumN f N + f N + (sumN g N + g N)
    rw [ih]; omega
theorem sumN_0 : ∀ N : Nat, sumN (fun _ => 0) N = 0 := by
  intro N
  induction N with
  | zero => rfl
  | succ N ih => show sumN (fun _ => 0) N + 0 = 0; rw [ih]
theorem sumN_swap {A : Nat → Nat → Nat} {M : Nat} : ∀ N : Nat, sumN (fun i => sumN (fun j => A i j) M) N = sumN (fun j => sumN (fun i => A i j) N) M := by
  intro N
  induction N with
  | zero => exact (sumN_0 M).symm
  | succ N ih =>
    show sumN (fun i => sumN (fun j => A i j) M) N + sumN (fun j => A N j) M = sumN (fun j => sumN (fun i => A i j) N + A N j) M
    rw [ih, sumN_add]
theorem sumN_one {f : Nat → Nat} {q : Nat} : ∀ N : Nat, (∀ i : Nat, i < N → i ≠ q → f i = 0) → sumN f N = if q < N then f q else 0 := by
  intro N
  induction N with
  | zero => intro _; rfl
  | succ N ih =>
    intro h
    show sumN f N + f N = if q < N + 1 then f q else 0
    rw [ih (fun i hi => h i (by omega))]
    by_cases c1 : q < N
    · rw [if_pos c1, if_pos (by omega), h N (by omega) (by omega)]
      rfl
    · rw [if_neg c1]
      by_cases c2 : q = N
      · subst c2; rw [if_pos (by omega)]; omega
      · rw [if_neg (by omega), h N (by omega) (fun e => c2 e.symm)]
def pgB (H : Nat → Option Nat) (i : Nat) : Bool := match H i with
  | none => false
  | some j => decide (H j = some i) && decide (i < j)
def plB (H : Nat → Option Nat) (i : Nat) : Bool := match H i with
  | none => false
  | some j => decide (H j = some i) && decide (j < i)
theorem pairs_eq {H : Nat → Option Nat} {N : Nat} (hok : ∀ j : Nat, j < N → okB N (H j)) (hne : ∀ j : Nat, j < N → H j ≠ some j) : cntF (prB H) N 0 0 = 2 * cntF (pgB H) N 0 0 := by
  rw [cnt_sum, cnt_sum]
  have e1 : ∀ i : Nat, i < N → (prB H i).toNat = (pgB H i).toNat + (plB H i).toNat := by
    intro i hi
    have h2 := hne i hi
    unfold prB pgB plB
    cases hj : H i with
    | none => rfl
    | some j =>
      have hji : j ≠ i := fun e => h2 (by rw [hj, e])
      show (decide (H j = some i)).toNat = (decide (H j = some i) && decide (i < j)).toNat + (decide (H j = some i) && decide (j < i)).toNat
      by_cases c : H j = some i
      · rw [decide_eq_true c]
        by_cases c2 : i < j
        · rw [decide_eq_true c2, decide_eq_false (by omega)]; rfl
        · rw [decide_eq_false c2, decide_eq_true (by omega)]; rfl
      · rw [decide_eq_false c]; rfl
  have e2 : ∀ i : Nat, i < N → (pgB H i).toNat = sumN (fun j => if H i = some j ∧ H j = some i ∧ i < j then 1 else 0) N := by
    intro i hi
    have ho := hok i hi
    unfold pgB
    cases hj : H i with
    | none =>
      show 0 = _
      rw [sumN_congr N (g := fun _ => 0) (fun j _ => if_neg (fun h => by cases h.1)), sumN_0]
    | some q =>
      rw [hj] at ho
      have hq : q < N := ho
      rw [sumN_one (q := q) N (fun j _ hjq => if_neg (fun h => by cases h.1; exact hjq rfl)), if_pos hq]
      show (decide (H q = some i) && decide (i < q)).toNat = if some q = some q ∧ H q = some i ∧ i < q then 1 else 0
      by_cases c : H q = some i
      · rw [decide_eq_true c]
        by_cases c2 : i < q
        · rw [decide_eq_true c2, if_pos ⟨rfl, c, c2⟩]; rfl
        · rw [decide_eq_false c2, if_neg (fun h => c2 h.2.2)]; rfl
      · rw [decide_eq_false c, if_neg (fun h => c h.2.1)]; rfl
  have e3 : ∀ i : Nat, i < N → (plB H i).toNat = sumN (fun j => if H j = some i ∧ H i = some j ∧ j < i then 1 else 0) N := by
    intro i hi
    have ho := hok i hi
    unfold plB
    cases hj : H i with
    | none =>
      show 0 = _
      rw [sumN_congr N (g := fun _ => 0) (fun j _ => if_neg (fun h => by cases h.2.1)), sumN_0]
    | some q =>
      rw [hj] at ho
      have hq : q < N := ho
      rw [sumN_one (q := q) N (fun j _ hjq => if_neg (fun h => by cases h.2.1; exact hjq rfl)), if_pos hq]
      show (decide (H q = some i) && decide (q < i)).toNat = if H q = some i ∧ some q = some q ∧ q < i then 1 else 0
      by_cases c : H q = some i
      · rw [decide_eq_true c]
        by_cases c2 : q < i
        · rw [decide_eq_true c2, if_pos ⟨c, rfl, c2⟩]; rfl
        · rw [decide_eq_false c2, if_neg (fun h => c2 h.2.2)]; rfl
      · rw [decide_eq_false c, if_neg (fun h => c h.1)]; rfl
  have e4 : sumN (fun j => (plB H j).toNat) N = sumN (fun j => (pgB H j).toNat) N := by
    rw [sumN_congr N e3, sumN_congr N e2]
    exact (sumN_swap (A := fun i j => if H i = some j ∧ H j = some i ∧ i < j then 1 else 0) (M := N) N).symm
  rw [sumN_congr N e1, sumN_add, e4]
  omega
/-! pairs in the class and in the reference -/
theorem ofp_r {n0 N : Nat} {hears : Nat → Int32} {H : Nat → Option Nat} (hN : N ≤ 10) (hh : HR N hears H) : ∀ (k i n : Nat) (a : Int32), i + k = N → k < n → L_X1_ofPairs_4 (nI N) n0 hears n a (nI i) = some (bitsF (fun j => bI (prB H j)) k i a) := by
  intro k
  induction k with
  | zero =>
    intro i n a h1 h2
    obtain ⟨n, rfl⟩ : ∃ q, n = q + 1 := ⟨n - 1, by omega⟩
    rw [L_X1_ofPairs_4_u, if_pos (nI_le (by omega) (by omega))]
    rfl
  | succ k ih =>
    intro i n a h1 h2
    obtain ⟨n, rfl⟩ : ∃ q, n = q + 1 := ⟨n - 1, by omega⟩
    rw [L_X1_ofPairs_4_u, if_neg (nI_ge (by omega) (by omega)), pair_s hN hh (by omega)]
    simp only [bd1, nm]
    show _ = some (bitsF (fun j => bI (prB H j)) k (i + 1) (a ||| (bI (prB H i) <<< (nI i &&& 31))))
    cases hp : prB H i with
    | false => rw [if_pos bI0, nI_1, ih (i + 1) n a (by omega) (by omega), or_f]
    | true =>
      rw [if_neg bI1, nI_1, ih (i + 1) n _ (by omega) (by omega)]
      rfl
theorem ofp_s {n0 N : Nat} {hears : Nat → Int32} {H : Nat → Option Nat} (hn : 2000000 ≤ n0) (hN : N ≤ 10) (hh : HR N hears H) : F_X1_ofPairs n0 (nI N) hears = some (bsF (prB H) N) := by
  unfold F_X1_ofPairs
  have := ofp_r (n0 := n0) hN hh N 0 n0 0 (by omega) (by omega)
  rw [nI_0] at this
  exact this
theorem cp_s {n0 N : Nat} {hears : Nat → Int32} {H : Nat → Option Nat} (hn : 2000000 ≤ n0) (hN : N ≤ 10) (hh : HR N hears H) (hne : ∀ j : Nat, j < N → H j ≠ some j) : F_X1_countPairs n0 (nI N) hears = some (nI (cntF (pgB H) N 0 0)) := by
  unfold F_X1_countPairs
  rw [ofp_s hn hN hh]
  simp only [bd1]
  rw [bitC_s]
  simp only []
  obtain ⟨m, h1, h2⟩ := bsF_rg (P := prB H) hN
  have h3 : m < 1024 := by have := pow10 hN; omega
  have e : bitE (bsF (prB H) N) = nI (2 * cntF (pgB H) N 0 0) := by
    rw [← pairs_eq (fun j hj => (hh j hj).2) hne, ← bsF_cnt hN, h2, pop_eq m h3]
  have hl : 2 * cntF (pgB H) N 0 0 < 11 := by
    obtain ⟨b1, b2, b3⟩ := bsF_ones (P := prB H) hN
    rw [e] at b2
    by_cases h : 2 * cntF (pgB H) N 0 0 < 11
    · exact h
    · exfalso
      have h5 : cntF (prB H) N 0 0 ≤ 10 := by
        have h6 : ∀ M : Nat, sumN (fun j => (prB H j).toNat) M ≤ M := fun M => by
          induction M with
          | zero => exact Nat.le_refl 0
          | succ M ih =>
            have h7 : (prB H M).toNat ≤ 1 := Bool.toNat_le _
            show sumN (fun j => (prB H j).toNat) M + (prB H M).toNat ≤ M + 1
            omega
        rw [cnt_sum]
        have := h6 N
        omega
      have := pairs_eq (fun j hj => (hh j hj).2) hne
      omega
  rw [e]
  unfold dvn
  rw [if_neg (by decide), show (2 : Int32) = nI 2 from rfl, pk_div (by omega) (by decide) (by decide), Nat.mul_div_cancel_left _ (by decide)]
theorem mps_r {n0 N : Nat} {d hears : Nat → Int32} {H : Nat → Option Nat} (hN : N ≤ 10) (hd : d 0 = nI N) (hh : HR N hears H) : ∀ (k i n a : Nat), i + k = N → k < n → L_X7_pairs_4 d n0 hears n (nI a) (nI i) = some (nI (cntF (pgB H) k i a)) := by
  intro k
  induction k with
  | zero =>
    intro i n a h1 h2
    obtain ⟨n, rfl⟩ : ∃ q, n = q + 1 := ⟨n - 1, by omega⟩
    rw [L_X7_pairs_4_u, rd_l 0 l0 (by decide) (by decide), hd, if_pos (nI_le (by omega) (by omega))]
    rfl
  | succ k ih =>
    intro i n a h1 h2
    obtain ⟨n, rfl⟩ : ∃ q, n = q + 1 := ⟨n - 1, by omega⟩
    have hi : i < N := by omega
    rw [L_X7_pairs_4_u, rd_l 0 l0 (by decide) (by decide), hd, if_neg (nI_ge (by omega) (by omega)), mpair_s hN hh hi]
    simp only [bd1, nm]
    show _ = some (nI (cntF (pgB H) k (i + 1) (a + (pgB H i).toNat)))
    have ho := (hh i hi).2
    unfold prB pgB
    cases hj : H i with
    | none =>
      show (if bI false = 0 then _ else _) = _
      rw [if_pos bI0, Int32.add_zero, nI_1, ih (i + 1) n a (by omega) (by omega)]
      rfl
    | some j =>
      rw [hj] at ho
      have hjN : j < N := ho
      show (if bI (decide (H j = some i)) = 0 then _ else _) = some (nI (cntF _ k (i + 1) (a + (decide (H j = some i) && decide (i < j)).toNat)))
      by_cases c : H j = some i
      · rw [decide_eq_true c, if_neg bI1, rd_nI (by omega) (by decide), (hh i hi).1, hj, show cod (some j) = nI j from rfl]
        by_cases c2 : i < j
        · rw [if_neg (nI_ge c2 (by omega)), decide_eq_true c2, nI_1, nI_1, ih (i + 1) n (a + 1) (by omega) (by omega)]
          rfl
        · rw [if_pos (nI_le (by omega) (by omega)), decide_eq_false c2, Int32.add_zero, nI_1, ih (i + 1) n a (by omega) (by omega)]
          rfl
      · rw [decide_eq_false c, if_pos bI0, Int32.add_zero, nI_1, ih (i + 1) n a (by omega) (by omega)]
        rfl
theorem mps_s {n0 N : Nat} {d hears : Nat → Int32} {H : Nat → Option Nat} (hn : 2000000 ≤ n0) (hN : N ≤ 10) (hd : d 0 = nI N) (hh : HR N hears H) : F_X7_pairs n0 d hears = some (nI (cntF (pgB H) N 0 0)) := by
  unfold F_X7_pairs
  have := mps_r (n0 := n0) hN hd hh N 0 n0 0 (by omega) (by omega)
  rw [nI_0] at this
  exact this
