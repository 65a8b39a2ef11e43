/-! words -/
def dvN (D : Nat → Nat) : Nat → Nat
  | 0 => 0
  | j + 1 => dvN D j * 27 + D j
theorem dvN_s (D : Nat → Nat) (j : Nat) : dvN D (j + 1) = dvN D j * 27 + D j := rfl
theorem cv_iff {B D : Nat → Nat} {p : Nat} : ∀ (m k : Nat), (∀ i : Nat, i < k → 97 ≤ B (p + i) ∧ B (p + i) ≤ 122) → (∀ i : Nat, i < m → 1 ≤ D i ∧ D i ≤ 26) → dvN D m ≤ 100000000000000000 → (cvN B p k = dvN D m ↔ (k = m ∧ ∀ i : Nat, i < m → B (p + i) - 96 = D i)) := by
  intro m
  induction m with
  | zero =>
    intro k hB _ _
    cases k with
    | zero => exact ⟨fun _ => ⟨rfl, fun i hi => absurd hi (Nat.not_lt_zero i)⟩, fun _ => rfl⟩
    | succ j =>
      have h1 := hB j (by omega)
      constructor
      · intro h
        rw [cvN_s] at h
        have h9 : dvN D 0 = 0 := rfl
        by_cases h3 : 100000000000000000 < cvN B p j
        · rw [if_pos h3] at h; omega
        · rw [if_neg h3] at h; omega
      · intro h
        exact absurd h.1 (by omega)
  | succ m ih =>
    intro k hB hD hW
    have hd := hD m (by omega)
    rw [dvN_s] at hW ⊢
    cases k with
    | zero =>
      constructor
      · intro h
        have h9 : cvN B p 0 = 0 := rfl
        omega
      · intro h
        exact absurd h.1 (by omega)
    | succ j =>
      have h1 := hB j (by omega)
      have hi := ih j (fun i hi => hB i (by omega)) (fun i hi => hD i (by omega)) (by omega)
      rw [cvN_s]
      by_cases h3 : 100000000000000000 < cvN B p j
      · rw [if_pos h3]
        constructor
        · intro h; omega
        · intro h
          have h4 := hi.mpr ⟨by omega, fun i hi => h.2 i (by omega)⟩
          omega
      · rw [if_neg h3]
        constructor
        · intro h
          have h4 : cvN B p j = dvN D m ∧ B (p + j) - 96 = D m := by omega
          obtain ⟨h5, h6⟩ := hi.mp h4.1
          refine ⟨by omega, fun i hi2 => ?_⟩
          by_cases h7 : i = m
          · rw [h7, ← h4.2, h5]
          · exact h6 i (by omega)
        · intro h
          have h4 := hi.mpr ⟨by omega, fun i hi => h.2 i (by omega)⟩
          have h5 := h.2 m (by omega)
          have h6 : j = m := by omega
          rw [h6] at h4 ⊢
          rw [h4, h5]
def lnS (i : Nat) : Nat := lenS.getD i 0
def dgS (i j : Nat) : Nat := ((bytS.getD i []).getD j 0).toNatClampNeg - 96
def wdN (i : Nat) : Nat := dvN (dgS i) (lnS i)
theorem wd_b : ∀ i : Nat, i < 13 → wdN i ≤ 100000000000000000 ∧ lnS i ≤ 10 ∧ ∀ j : Nat, j < lnS i → 1 ≤ dgS i j ∧ dgS i j ≤ 26 := by decide +kernel
theorem len_0 {n0 i : Nat} : F_J0_length_8abf5 n0 i = F_J0_length_8abf5 0 i := rfl
theorem len_t : ∀ i : Nat, i < 13 → F_J0_length_8abf5 0 i = some (nI (lnS i)) := by decide +kernel
theorem chr_0 {n0 i : Nat} {x : Int32} : F_J0_charAt_5068e n0 i x = F_J0_charAt_5068e 0 i x := rfl
theorem chr_t : ∀ i : Nat, i < 13 → ∀ j : Nat, j < lnS i → F_J0_charAt_5068e 0 i (nI j) = some (nI (96 + dgS i j)) := by decide +kernel
def mtB (D B : Nat → Nat) (p : Nat) : Nat → Nat → Bool
  | 0, _ => true
  | k + 1, j => decide (B (p + j) - 96 = D j) && mtB D B p k (j + 1)
theorem mtB_iff {D B : Nat → Nat} {p : Nat} : ∀ (k j : Nat), mtB D B p k j = true ↔ ∀ i : Nat, j ≤ i → i < j + k → B (p + i) - 96 = D i := by
  intro k
  induction k with
  | zero => intro j; exact ⟨fun _ i h1 h2 => absurd h2 (by omega), fun _ => rfl⟩
  | succ k ih =>
    intro j
    show (decide (B (p + j) - 96 = D j) && mtB D B p k (j + 1)) = true ↔ _
    rw [Bool.and_eq_true, decide_eq_true_eq, ih (j + 1)]
    constructor
    · intro h i h1 h2
      by_cases h3 : i = j
      · rw [h3]; exact h.1
      · exact h.2 i (by omega) (by omega)
    · intro h
      exact ⟨h j (by omega) (by omega), fun i h1 h2 => h i (by omega) (by omega)⟩
theorem cmp_0 {u v : Int64} : lg_cmp u v = 0 ↔ u = v := by
  unfold lg_cmp
  by_cases h1 : u > v
  · rw [if_pos h1]
    exact ⟨fun h => absurd h (by decide), fun h => by rw [h] at h1; exact absurd h1 (Int64.lt_irrefl)⟩
  · rw [if_neg h1]
    by_cases h2 : u = v
    · rw [if_pos h2]
      exact ⟨fun _ => h2, fun _ => rfl⟩
    · rw [if_neg h2]
      exact ⟨fun h => absurd h (by decide), fun h => absurd h h2⟩
section
variable {n0 T : Nat} {B : Nat → Nat} {bytes tape : Nat → Int32}
theorem wl_r (hB : tbR T B bytes tape) {p i : Nat} (hi : i < 13) (hp : p + lnS i ≤ T) (hl : ∀ j : Nat, p ≤ j → j < p + lnS i → clsN (B j) = 1) : ∀ (k j n : Nat), j + k = lnS i → k < n → L_X3_isWord_28 n0 i (nI p) bytes n (nI j) = some (bI (mtB (dgS i) B p k j)) := by
  have hT := hB.1
  have hb := wd_b i hi
  intro k
  induction k with
  | zero =>
    intro j n h1 h2
    obtain ⟨n, rfl⟩ : ∃ q, n = q + 1 := ⟨n - 1, by omega⟩
    rw [L_X3_isWord_28_u, len_0, len_t i hi, bd1_k, if_pos (nI_le (by omega) (by omega))]
    rfl
  | succ k ih =>
    intro j n h1 h2
    obtain ⟨n, rfl⟩ : ∃ q, n = q + 1 := ⟨n - 1, by omega⟩
    have hj : p + j < T := by omega
    obtain ⟨q1, q2, _⟩ := hB.2 (p + j) hj
    have hc := cls_1 (B (p + j)) q1 (hl (p + j) (by omega) (by omega))
    have hg := hb.2.2 j (by omega)
    rw [L_X3_isWord_28_u, len_0, len_t i hi, bd1_k, if_neg (nI_ge (by omega) (by omega)), nmq, nI_add, if_neg (show ¬ (120 : Int32) ≤ nI (p + j) from nI_ge (b := 120) (by omega) (by decide)), nmq, rd_nI (by omega) (by decide), q2, chr_0, chr_t i hi j (by omega), bd1_k]
    show _ = some (bI (decide (B (p + j) - 96 = dgS i j) && mtB (dgS i) B p k (j + 1)))
    by_cases h : B (p + j) - 96 = dgS i j
    · rw [if_pos (show nI (B (p + j)) = nI (96 + dgS i j) from by rw [show B (p + j) = 96 + dgS i j by omega]), decide_eq_true h, nmq, nI_1, ih (j + 1) n (by omega) (by omega)]
      rfl
    · rw [if_neg (fun e => h (by have := (nI_eq (by omega) (by omega)).mp e; omega)), decide_eq_false h]
      rfl
/-- the token is word i -/
def wdB (B : Nat → Nat) (p e : Nat) (so : Int32) (i : Nat) : Bool := decide (so = 1) && (decide (e - p = lnS i) && mtB (dgS i) B p (lnS i) 0)
theorem tk_1 {p e : Nat} {st be so nu ma ms fr : Int32} {va : Int64} (hk : tkR T B p e st be so nu ma ms fr va) (h : so = 1) : ms = 1 ∧ be = nI e ∧ ma = nI e ∧ va = lN (cvN B p (e - p)) ∧ ∀ i : Nat, p ≤ i → i < e → clsN (B i) = 1 := by
  obtain ⟨h1, h2, h3, h4, h5⟩ := hk
  rcases h5 with ⟨_, h6, _⟩ | ⟨_, h6, _⟩ | ⟨_, g1, g2, g3, g4, g5⟩ | ⟨h6, _⟩ | ⟨h6, _⟩
  · rw [h] at h6; exact absurd h6 (by decide)
  · rw [h] at h6; exact absurd h6 (by decide)
  · exact ⟨g1, g2, g3, g4, g5⟩
  · rw [h] at h6; exact absurd h6 (by decide)
  · rw [h] at h6; exact absurd h6 (by decide)
theorem tk_n1 {p e : Nat} {st be so nu ma ms fr : Int32} {va : Int64} (hk : tkR T B p e st be so nu ma ms fr va) (h : ¬ so = 1) : ¬ ms = 1 := by
  obtain ⟨h1, h2, h3, h4, h5⟩ := hk
  rcases h5 with ⟨_, _, h6, _⟩ | ⟨_, _, h6, _⟩ | ⟨h6, _⟩ | ⟨_, h6, _⟩ | ⟨_, h6⟩
  · rw [h6]; decide
  · rw [h6]; decide
  · exact absurd h6 h
  · rw [h6]; decide
  · rw [h6]; decide
theorem word_x (hn : 2000000 ≤ n0) (hB : tbR T B bytes tape) {p e : Nat} {st be so nu ma ms fr : Int32} {va : Int64} (hk : tkR T B p e st be so nu ma ms fr va) {i : Nat} (hi : i < 13) : F_X3_isWord n0 st be so bytes i = some (bI (wdB B p e so i)) := by
  have hT := hB.1
  have hb := wd_b i hi
  unfold F_X3_isWord wdB
  by_cases h : so = 1
  · obtain ⟨g1, g2, g3, g4, g5⟩ := tk_1 hk h
    obtain ⟨h1, h2, h3, h4, _⟩ := hk
    rw [if_pos h, nmq, g2, h3, pk_sub h1, len_0, len_t i hi, bd1_k, decide_eq_true h]
    by_cases h6 : e - p = lnS i
    · rw [if_pos (by rw [h6]), decide_eq_true h6]
      have e1 := wl_r (n0 := n0) hB hi (p := p) (by omega) (fun j a b => g5 j a (by omega)) (lnS i) 0 n0 (by omega) (by omega)
      rw [nI_0] at e1
      rw [e1]
      rfl
    · rw [if_neg (fun h7 => h6 ((nI_eq (by omega) (by omega)).mp h7)), decide_eq_false h6]
      rfl
  · rw [if_neg h, decide_eq_false h]
    rfl
theorem word_m (hB : tbR T B bytes tape) {p e : Nat} {st be so nu ma ms fr : Int32} {va : Int64} (hk : tkR T B p e st be so nu ma ms fr va) {i : Nat} (hi : i < 13) : F_X7_isWord n0 ms va (lN (wdN i)) = some (bI (wdB B p e so i)) := by
  have hT := hB.1
  have hb := wd_b i hi
  unfold F_X7_isWord wdB
  by_cases h : so = 1
  · obtain ⟨g1, g2, g3, g4, g5⟩ := tk_1 hk h
    obtain ⟨h1, h2, h3, h4, _⟩ := hk
    have hl : ∀ j : Nat, j < e - p → 97 ≤ B (p + j) ∧ B (p + j) ≤ 122 := fun j hj => cls_1 (B (p + j)) (hB.2 (p + j) (by omega)).1 (g5 (p + j) (by omega) (by omega))
    have hlt := cv_lt (B := B) (p := p) (e - p) (fun j hj => (hl j hj).2)
    have hiff : cvN B p (e - p) = wdN i ↔ (e - p = lnS i ∧ ∀ j : Nat, j < lnS i → B (p + j) - 96 = dgS i j) := cv_iff (B := B) (D := dgS i) (p := p) (lnS i) (e - p) hl hb.2.2 hb.1
    have hwl := hb.1
    rw [if_pos g1, nmq, g4, decide_eq_true h]
    have hmt := mtB_iff (D := dgS i) (B := B) (p := p) (lnS i) 0
    by_cases h6 : cvN B p (e - p) = wdN i
    · obtain ⟨a1, a2⟩ := hiff.mp h6
      rw [if_pos (cmp_0.mpr (show lN (cvN B p (e - p)) = lN (wdN i) from by rw [h6])), decide_eq_true a1, hmt.mpr (fun j _ hj => a2 j (by omega))]
      rfl
    · rw [if_neg (fun h7 => h6 ((pk_lEQ (a := cvN B p (e - p)) (b := wdN i) (by omega) (by omega)).mp (cmp_0.mp h7)))]
      by_cases h8 : e - p = lnS i
      · have h9 : mtB (dgS i) B p (lnS i) 0 = false := by
          cases hq : mtB (dgS i) B p (lnS i) 0 with
          | false => rfl
          | true => exact absurd (hiff.mpr ⟨h8, fun j hj => hmt.mp hq j (by omega) (by omega)⟩) h6
        rw [decide_eq_true h8, h9]
        rfl
      · rw [decide_eq_false h8]
        rfl
  · rw [if_neg (tk_n1 hk h), decide_eq_false h]
    rfl
theorem word_t {p e : Nat} {st be so nu ma ms fr : Int32} {va : Int64} (hk : tkR T B p e st be so nu ma ms fr va) {i : Nat} (h : wdB B p e so i = true) : be = nI e ∧ ma = nI e := by
  unfold wdB at h
  rw [Bool.and_eq_true] at h
  obtain ⟨g1, g2, g3, g4, g5⟩ := tk_1 hk (of_decide_eq_true h.1)
  exact ⟨g2, g3⟩
/-- a number from 0 to 11 is at hand, or none -/
theorem num_c {p e : Nat} {st be so nu ma ms fr : Int32} {va : Int64} (hk : tkR T B p e st be so nu ma ms fr va) : (∃ x : Nat, x < 12 ∧ so = 2 ∧ ms = 2 ∧ nu = nI x ∧ va = lN x ∧ be = nI e ∧ ma = nI e) ∨ (F_X3_isSideNumber n0 so nu = some 0 ∧ (¬ ms = 2 ∨ (ms = 2 ∧ ∃ v : Nat, 11 < v ∧ v ≤ 10000 ∧ va = lN v))) := by
  obtain ⟨h1, h2, h3, h4, h5⟩ := hk
  rcases h5 with ⟨_, h6, h7, _⟩ | ⟨_, h6, h7, _⟩ | ⟨h6, h7, _⟩ | ⟨h6, h7, g1, g2, c, v, g3, g4, g5⟩ | ⟨h6, h7⟩
  · exact Or.inr ⟨by rw [h6]; rfl, Or.inl (by rw [h7]; decide)⟩
  · exact Or.inr ⟨by rw [h6]; rfl, Or.inl (by rw [h7]; decide)⟩
  · exact Or.inr ⟨by rw [h6]; rfl, Or.inl (by rw [h7]; decide)⟩
  · unfold numR at g5
    by_cases h8 : v < 12
    · have e1 : c = v := by omega
      exact Or.inl ⟨v, h8, h6, h7, by rw [g3, e1], g4, g1, g2⟩
    · refine Or.inr ⟨?_, Or.inr ⟨h7, v, by omega, by omega, g4⟩⟩
      unfold F_X3_isSideNumber
      rw [if_pos h6, g3, if_pos (show (12 : Int32) ≤ nI c from nI_le (a := 12) (by omega) (by omega))]
  · exact Or.inr ⟨by rw [h6]; rfl, Or.inl (by rw [h7]; decide)⟩
theorem side_t {x : Nat} (h : x < 12) : F_X3_isSideNumber n0 2 (nI x) = some 1 := by
  unfold F_X3_isSideNumber
  rw [if_pos rfl, if_neg (show ¬ (12 : Int32) ≤ nI x from nI_ge (b := 12) h (by decide))]
theorem e11 : (11 : Int32).toInt64 = lN 11 := rfl
theorem numH_t {x : Nat} {ma fr ma' ms' fr' : Int32} {va' : Int64} (h : x < 12) (hx : F_X7_next n0 (nI T) ma 2 fr (lN x) tape = some (ma', ms', fr', va')) : F_X7_numberHere n0 (nI T) ma 2 fr (lN x) (-1) tape 11 = some (nI x, ma', ms', fr', va', -1) := by
  unfold F_X7_numberHere
  rw [nmq, if_pos rfl, nmq, nmq, e11, if_pos (cmp_le.mpr (fun h2 => by have := (pk_lLT (a := 11) (b := x) (by omega) (by omega)).mp h2; omega)), hx, bd4_k, lN_i]
theorem numH_f {ma ms fr : Int32} {va : Int64} (h : ¬ ms = 2 ∨ (ms = 2 ∧ ∃ v : Nat, 11 < v ∧ v ≤ 10000 ∧ va = lN v)) : F_X7_numberHere n0 (nI T) ma ms fr va (-1) tape 11 = some (0, ma, ms, fr, va, fr) := by
  unfold F_X7_numberHere
  rw [nmq]
  rcases h with h | ⟨h, v, h1, h2, h3⟩
  · rw [if_neg h]
    rfl
  · rw [if_pos h, nmq, nmq, e11, h3, if_neg (fun h4 => (cmp_le.mp h4) ((pk_lLT (a := 11) (b := v) (by omega) (by omega)).mpr h1))]
    rfl
end
