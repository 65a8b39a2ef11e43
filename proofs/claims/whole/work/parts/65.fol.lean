/-! followers, hearers, those not heard -/
def cmF (H : Nat → Option Nat) (t : Nat) : Nat → Option Nat → Bool
  | 0, _ => false
  | k + 1, x => match x with
    | none => false
    | some v => if v = t then true else cmF H t k (H v)
theorem cmF_iff {H : Nat → Option Nat} {t : Nat} : ∀ (k : Nat) (x : Option Nat), cmF H t k x = true ↔ ∃ j : Nat, j < k ∧ pth H j x = some t := by
  intro k
  induction k with
  | zero => intro x; exact ⟨fun h => (by cases h), fun ⟨j, h, _⟩ => absurd h (Nat.not_lt_zero j)⟩
  | succ k ih =>
    intro x
    cases x with
    | none => exact ⟨fun h => (by cases h), fun ⟨j, _, h⟩ => by rw [pth_none] at h; cases h⟩
    | some v =>
      show (if v = t then true else cmF H t k (H v)) = true ↔ _
      by_cases hv : v = t
      · rw [if_pos hv]
        exact ⟨fun _ => ⟨0, by omega, by rw [hv]; rfl⟩, fun _ => rfl⟩
      · rw [if_neg hv, ih (H v)]
        constructor
        · intro ⟨j, h1, h2⟩
          exact ⟨j + 1, by omega, h2⟩
        · intro ⟨j, h1, h2⟩
          cases j with
          | zero => exact absurd (by have h3 : some v = some t := h2; cases h3; rfl) hv
          | succ j => exact ⟨j, by omega, h2⟩
def cmR (H : Nat → Option Nat) (t : Nat) : Nat → Option Nat → Bool → Bool
  | 0, _, c => c
  | k + 1, x, c => match x with
    | none => c
    | some v => cmR H t k (H v) (c || decide (H v = some t))
theorem cmR_iff {H : Nat → Option Nat} {t : Nat} : ∀ (k : Nat) (x : Option Nat) (c : Bool), cmR H t k x c = true ↔ (c = true ∨ ∃ j : Nat, j < k ∧ pth H (j + 1) x = some t) := by
  intro k
  induction k with
  | zero => intro x c; exact ⟨fun h => Or.inl h, fun h => h.elim id (fun ⟨j, h, _⟩ => absurd h (Nat.not_lt_zero j))⟩
  | succ k ih =>
    intro x c
    cases x with
    | none => exact ⟨fun h => Or.inl h, fun h => h.elim id (fun ⟨j, _, h⟩ => by rw [pth_none] at h; cases h)⟩
    | some v =>
      show cmR H t k (H v) (c || decide (H v = some t)) = true ↔ _
      rw [ih (H v), Bool.or_eq_true, decide_eq_true_eq]
      constructor
      · rintro ((h | h) | ⟨j, h1, h2⟩)
        · exact Or.inl h
        · exact Or.inr ⟨0, by omega, h⟩
        · exact Or.inr ⟨j + 1, by omega, h2⟩
      · rintro (h | ⟨j, h1, h2⟩)
        · exact Or.inl (Or.inl h)
        · cases j with
          | zero => exact Or.inl (Or.inr h2)
          | succ j => exact Or.inr ⟨j, by omega, h2⟩
theorem cmE {H : Nat → Option Nat} {N t o : Nat} (hN : N ≤ 10) (hok : ∀ j : Nat, j < N → okB N (H j)) (ho : o < N) : cmR H t 10 (some o) false = cmF H t N (H o) := by
  have h : cmR H t 10 (some o) false = true ↔ cmF H t N (H o) = true := by
    rw [cmR_iff, cmF_iff]
    constructor
    · rintro (h | ⟨j, h1, h2⟩)
      · cases h
      · exact pth_low hok (x := H o) (hok o ho) j j (Nat.le_refl j) h2
    · rintro ⟨j, h1, h2⟩
      exact Or.inr ⟨j, by omega, h2⟩
  cases h1 : cmR H t 10 (some o) false with
  | true => exact (h.mp h1).symm
  | false =>
    cases h2 : cmF H t N (H o) with
    | false => rfl
    | true => rw [h.mpr h2] at h1; cases h1
theorem cmT_r {N t : Nat} {hears : Nat → Int32} {H : Nat → Option Nat} (hN : N ≤ 10) (hh : HR N hears H) (ht : t < 10) : ∀ (k s n : Nat) (x : Option Nat), s + k = N → k < n → okB N x → L_X1_comesTo_10 (nI N) (nI t) hears n (cod x) (nI s) = some (bI (cmF H t k x)) := by
  intro k
  induction k with
  | zero =>
    intro s n x h1 h2 hx
    obtain ⟨n, rfl⟩ : ∃ q, n = q + 1 := ⟨n - 1, by omega⟩
    rw [L_X1_comesTo_10_u, if_pos (nI_le (by omega) (by omega))]
    rfl
  | succ k ih =>
    intro s n x h1 h2 hx
    obtain ⟨n, rfl⟩ : ∃ q, n = q + 1 := ⟨n - 1, by omega⟩
    rw [L_X1_comesTo_10_u, if_neg (nI_ge (by omega) (by omega))]
    cases x with
    | none => exact if_pos rfl
    | some v =>
      have hv : v < N := hx
      rw [if_neg (cod_m1 (by omega))]
      show (if nI v = nI t then some 1 else rd hears 10 (nI v) (fun x4 => nm (nI s + 1) (fun x5 => L_X1_comesTo_10 (nI N) (nI t) hears n x4 x5))) = some (bI (if v = t then true else cmF H t k (H v)))
      by_cases hvt : v = t
      · rw [if_pos (show nI v = nI t from by rw [hvt]), if_pos hvt]; rfl
      · rw [if_neg (show ¬ nI v = nI t from fun h => hvt ((nI_eq (by omega) (by omega)).mp h)), if_neg hvt, rd_nI (by omega) (by decide), nm, nI_1, (hh v hv).1, ih (s + 1) n (H v) (by omega) (by omega) (hh v hv).2]
theorem cmT_s {n0 N t i : Nat} {hears : Nat → Int32} {H : Nat → Option Nat} (hn : 2000000 ≤ n0) (hN : N ≤ 10) (hh : HR N hears H) (ht : t < 10) (hi : i < N) : F_X1_comesTo n0 (nI N) hears (nI i) (nI t) = some (bI (cmF H t N (H i))) := by
  unfold F_X1_comesTo
  rw [rd_nI (by omega) (by decide), (hh i hi).1]
  have := cmT_r hN hh ht N 0 n0 (H i) (by omega) (by omega) (hh i hi).2
  rw [nI_0] at this
  exact this
def folB (H : Nat → Option Nat) (N t o : Nat) : Bool := !decide (o = t) && cmF H t N (H o)
theorem fol_r {n0 N t : Nat} {hears : Nat → Int32} {H : Nat → Option Nat} (hn : 2000000 ≤ n0) (hN : N ≤ 10) (hh : HR N hears H) (ht : t < 10) : ∀ (k i n : Nat) (a : Int32), i + k = N → k < n → L_X1_followersOf_4 (nI N) (nI t) n0 hears n a (nI i) = some (bitsF (fun j => bI (folB H N t j)) k i a) := by
  intro k
  induction k with
  | zero =>
    intro i n a h1 h2
    obtain ⟨n, rfl⟩ : ∃ q, n = q + 1 := ⟨n - 1, by omega⟩
    rw [L_X1_followersOf_4_u, if_pos (nI_le (by omega) (by omega))]
    rfl
  | succ k ih =>
    intro i n a h1 h2
    obtain ⟨n, rfl⟩ : ∃ q, n = q + 1 := ⟨n - 1, by omega⟩
    rw [L_X1_followersOf_4_u, if_neg (nI_ge (by omega) (by omega)), cmT_s hn hN hh ht (by omega)]
    simp only [bd1, nm]
    show _ = some (bitsF (fun j => bI (folB H N t j)) k (i + 1) (a ||| (bI (!decide (i = t) && cmF H t N (H i)) <<< (nI i &&& 31))))
    by_cases hit : i = t
    · rw [if_pos (show nI i = nI t from by rw [hit]), nI_1, ih (i + 1) n a (by omega) (by omega), decide_eq_true hit]
      show _ = some (bitsF _ k (i + 1) (a ||| (bI false <<< (nI i &&& 31))))
      rw [or_f]
    · rw [if_neg (show ¬ nI i = nI t from fun h => hit ((nI_eq (by omega) (by omega)).mp h)), decide_eq_false hit]
      cases hp : cmF H t N (H i) with
      | false =>
        rw [if_pos bI0, nI_1, ih (i + 1) n a (by omega) (by omega)]
        show _ = some (bitsF _ k (i + 1) (a ||| (bI false <<< (nI i &&& 31))))
        rw [or_f]
      | true =>
        rw [if_neg bI1, nI_1, ih (i + 1) n _ (by omega) (by omega)]
        rfl
theorem fol_s {n0 N t : Nat} {hears : Nat → Int32} {H : Nat → Option Nat} (hn : 2000000 ≤ n0) (hN : N ≤ 10) (hh : HR N hears H) (ht : t < 10) : F_X1_followersOf n0 (nI N) hears (nI t) = some (bsF (folB H N t) N) := by
  unfold F_X1_followersOf
  have := fol_r hn hN hh ht N 0 n0 0 (by omega) (by omega)
  rw [nI_0] at this
  exact this
theorem mfi_r {N t o : Nat} {a : Int32} {hears : Nat → Int32} {H : Nat → Option Nat} {kk : Int32 → Int32 → Option Int32} (hN : N ≤ 10) (hh : HR N hears H) (ht : t < 10) : ∀ (k s n : Nat) (x : Option Nat) (c : Bool), s + k = 10 → k < n → okB N x → L_X7_followersOf_23 a (nI o) kk (nI t) hears n (cod x) (bI c) (nI s) = J_X7_followersOf_69 (bI (cmR H t k x c)) a (nI o) kk (nI t) := by
  intro k
  induction k with
  | zero =>
    intro s n x c h1 h2 hx
    obtain ⟨n, rfl⟩ : ∃ q, n = q + 1 := ⟨n - 1, by omega⟩
    rw [L_X7_followersOf_23_u, if_pos (show (10 : Int32) ≤ nI s from nI_le (a := 10) (by omega) (by omega))]
    rfl
  | succ k ih =>
    intro s n x c h1 h2 hx
    obtain ⟨n, rfl⟩ : ∃ q, n = q + 1 := ⟨n - 1, by omega⟩
    rw [L_X7_followersOf_23_u, if_neg (show ¬ (10 : Int32) ≤ nI s from nI_ge (b := 10) (by omega) (by decide))]
    cases x with
    | none => exact if_pos rfl
    | some v =>
      have hv : v < N := hx
      rw [if_neg (cod_m1 (by omega)), show cod (some v) = nI v from rfl, rd_nI (by omega) (by decide), (hh v hv).1]
      simp only [nm]
      rw [nI_1]
      show _ = J_X7_followersOf_69 (bI (cmR H t k (H v) (c || decide (H v = some t)))) a (nI o) kk (nI t)
      cases c with
      | true =>
        rw [if_neg bI1]
        exact ih (s + 1) n (H v) true (by omega) (by omega) (hh v hv).2
      | false =>
        rw [if_pos bI0]
        by_cases h : H v = some t
        · rw [if_pos ((cod_eq (okB_10 hN (hh v hv).2) ht).mpr h), decide_eq_true h]
          exact ih (s + 1) n (H v) true (by omega) (by omega) (hh v hv).2
        · rw [if_neg (fun h2 => h ((cod_eq (okB_10 hN (hh v hv).2) ht).mp h2)), decide_eq_false h]
          exact ih (s + 1) n (H v) false (by omega) (by omega) (hh v hv).2
theorem mfol_r {n0 N t : Nat} {d hears : Nat → Int32} {H : Nat → Option Nat} (hn : 2000000 ≤ n0) (hN : N ≤ 10) (hd : d 0 = nI N) (hh : HR N hears H) (ht : t < 10) : ∀ (k i n : Nat) (a : Int32), i + k = N → k < n → L_X7_followersOf_4 d (nI t) hears n0 n a (nI i) = some (bitsF (fun j => bI (folB H N t j)) k i a) := by
  intro k
  induction k with
  | zero =>
    intro i n a h1 h2
    obtain ⟨n, rfl⟩ : ∃ q, n = q + 1 := ⟨n - 1, by omega⟩
    rw [L_X7_followersOf_4_u, rd_l 0 l0 (by decide) (by decide), hd, if_pos (nI_le (by omega) (by omega))]
    rfl
  | succ k ih =>
    intro i n a h1 h2
    obtain ⟨n, rfl⟩ : ∃ q, n = q + 1 := ⟨n - 1, by omega⟩
    have hi : i < N := by omega
    rw [L_X7_followersOf_4_u, rd_l 0 l0 (by decide) (by decide), hd, if_neg (nI_ge (by omega) (by omega))]
    have e := mfi_r (a := a) (o := i) (kk := fun x y => L_X7_followersOf_4 d (nI t) hears n0 n x y) hN hh ht 10 0 n0 (some i) false (by omega) (by omega) hi
    rw [cmE hN (fun j hj => (hh j hj).2) hi] at e
    refine Eq.trans e ?_
    unfold J_X7_followersOf_69
    simp only [nm]
    show _ = some (bitsF (fun j => bI (folB H N t j)) k (i + 1) (a ||| (bI (!decide (i = t) && cmF H t N (H i)) <<< (nI i &&& 31))))
    rw [nI_1, Int32.or_zero]
    cases hp : cmF H t N (H i) with
    | false =>
      rw [if_pos bI0, ih (i + 1) n a (by omega) (by omega), Bool.and_false, or_f]
    | true =>
      rw [if_neg bI1]
      by_cases hit : i = t
      · rw [if_pos (show nI i = nI t from by rw [hit]), ih (i + 1) n a (by omega) (by omega), decide_eq_true hit]
        show _ = some (bitsF _ k (i + 1) (a ||| (bI false <<< (nI i &&& 31))))
        rw [or_f]
      · rw [if_neg (show ¬ nI i = nI t from fun h => hit ((nI_eq (by omega) (by omega)).mp h)), decide_eq_false hit, ih (i + 1) n _ (by omega) (by omega)]
        rfl
theorem mfol_s {n0 N t : Nat} {d hears : Nat → Int32} {H : Nat → Option Nat} (hn : 2000000 ≤ n0) (hN : N ≤ 10) (hd : d 0 = nI N) (hh : HR N hears H) (ht : t < 10) : F_X7_followersOf n0 d hears (nI t) = some (bsF (folB H N t) N) := by
  unfold F_X7_followersOf
  have := mfol_r hn hN hd hh ht N 0 n0 0 (by omega) (by omega)
  rw [nI_0] at this
  exact this
/-- the most followed -/
def fwN (H : Nat → Option Nat) (N t : Nat) : Nat := pcN (bsF (folB H N t) N)
theorem mf_r {n0 N : Nat} {hears : Nat → Int32} {H : Nat → Option Nat} (hn : 2000000 ≤ n0) (hN : N ≤ 10) (hh : HR N hears H) : ∀ (k i n : Nat) (b : Option Nat), i + k = N → k < n → okB i b → L_X1_mostFollowed_6 (nI N) n0 hears n (cod b) (bgF (fwN H N) b) (nI i) = some (cod (fartF (fwN H N) sk0 k i b)) := by
  intro k
  induction k with
  | zero =>
    intro i n b h1 h2 hb
    obtain ⟨n, rfl⟩ : ∃ q, n = q + 1 := ⟨n - 1, by omega⟩
    rw [L_X1_mostFollowed_6_u, if_pos (nI_le (by omega) (by omega))]
    rfl
  | succ k ih =>
    intro i n b h1 h2 hb
    obtain ⟨n, rfl⟩ : ∃ q, n = q + 1 := ⟨n - 1, by omega⟩
    rw [L_X1_mostFollowed_6_u, if_neg (nI_ge (by omega) (by omega)), fol_s hn hN hh (by omega)]
    simp only [bd1, nm]
    rw [bitC_s]
    simp only []
    obtain ⟨_, e1, e2⟩ := bsF_ones (P := folB H N i) hN
    rw [e1, nI_1]
    have l1 : fwN H N i < 11 := e2
    cases b with
    | none =>
      have hq : ¬ nI (pcN (bsF (folB H N i) N)) ≤ bgF (fwN H N) none := by
        show ¬ nI (pcN (bsF (folB H N i) N)) ≤ -1
        rw [Int32.le_iff_toInt_le, nI_toInt (by omega)]
        have a3 : (-1 : Int32).toInt = -1 := rfl
        omega
      rw [if_neg hq]
      exact ih (i + 1) n (some i) (by omega) (by omega) (Nat.lt_succ_self i)
    | some o =>
      have ho : o < i := hb
      have l2 : fwN H N o < 11 := (bsF_ones (P := folB H N o) hN).2.2
      show _ = some (cod (fartF (fwN H N) sk0 k (i + 1) (if fwN H N i ≤ fwN H N o then some o else some i)))
      by_cases h3 : fwN H N i ≤ fwN H N o
      · rw [if_pos (show nI (pcN (bsF (folB H N i) N)) ≤ bgF (fwN H N) (some o) from nI_le h3 (by omega)), if_pos h3]
        exact ih (i + 1) n (some o) (by omega) (by omega) (Nat.lt_succ_of_lt ho)
      · rw [if_neg (show ¬ nI (pcN (bsF (folB H N i) N)) ≤ bgF (fwN H N) (some o) from nI_ge (Nat.lt_of_not_le h3) (Nat.lt_trans l1 (by decide))), if_neg h3]
        exact ih (i + 1) n (some i) (by omega) (by omega) (Nat.lt_succ_self i)
theorem mf_s {n0 N : Nat} {hears : Nat → Int32} {H : Nat → Option Nat} (hn : 2000000 ≤ n0) (hN : N ≤ 10) (hh : HR N hears H) : F_X1_mostFollowed n0 (nI N) hears = some (cod (fartF (fwN H N) sk0 N 0 none)) := by
  unfold F_X1_mostFollowed
  have := mf_r hn hN hh N 0 n0 none (by omega) (by omega) trivial
  rw [nI_0] at this
  exact this
/-- those who hear one -/
theorem hrs_r {N t : Nat} {hears : Nat → Int32} {H : Nat → Option Nat} (hN : N ≤ 10) (hh : HR N hears H) (ht : t < 10) : ∀ (k i n : Nat) (a : Int32), i + k = N → k < n → L_X1_hearersOf_4 (nI N) hears (nI t) n a (nI i) = some (bitsF (fun j => bI (decide (H j = some t))) k i a) := by
  intro k
  induction k with
  | zero =>
    intro i n a h1 h2
    obtain ⟨n, rfl⟩ : ∃ q, n = q + 1 := ⟨n - 1, by omega⟩
    rw [L_X1_hearersOf_4_u, if_pos (nI_le (by omega) (by omega))]
    rfl
  | succ k ih =>
    intro i n a h1 h2
    obtain ⟨n, rfl⟩ : ∃ q, n = q + 1 := ⟨n - 1, by omega⟩
    have hi : i < N := by omega
    rw [L_X1_hearersOf_4_u, if_neg (nI_ge (by omega) (by omega)), rd_nI (by omega) (by decide), (hh i hi).1]
    simp only [nm]
    rw [nI_1]
    show _ = some (bitsF _ k (i + 1) (a ||| (bI (decide (H i = some t)) <<< (nI i &&& 31))))
    by_cases h : H i = some t
    · rw [if_pos ((cod_eq (okB_10 hN (hh i hi).2) ht).mpr h), decide_eq_true h, ih (i + 1) n _ (by omega) (by omega)]
      rfl
    · rw [if_neg (fun h2 => h ((cod_eq (okB_10 hN (hh i hi).2) ht).mp h2)), decide_eq_false h, ih (i + 1) n _ (by omega) (by omega), or_f]
theorem hrs_s {n0 N t : Nat} {hears : Nat → Int32} {H : Nat → Option Nat} (hn : 2000000 ≤ n0) (hN : N ≤ 10) (hh : HR N hears H) (ht : t < 10) : F_X1_hearersOf n0 (nI N) hears (nI t) = some (bsF (fun j => decide (H j = some t)) N) := by
  unfold F_X1_hearersOf
  have := hrs_r hN hh ht N 0 n0 0 (by omega) (by omega)
  rw [nI_0] at this
  exact this
theorem mhrs_r {N t : Nat} {d found hears near : Nat → Int32} {H : Nat → Option Nat} (hN : N ≤ 10) (hd : d 0 = nI N) (hh : HR N hears H) (ht : t < 10) : ∀ (k i n : Nat) (a : Int32), i + k = N → k < n → L_X7_hearing_22 d found hears near (nI t) n a (nI i) = some (bitsF (fun j => bI (decide (H j = some t))) k i a, found, hears, near) := by
  intro k
  induction k with
  | zero =>
    intro i n a h1 h2
    obtain ⟨n, rfl⟩ : ∃ q, n = q + 1 := ⟨n - 1, by omega⟩
    rw [L_X7_hearing_22_u, rd_l 0 l0 (by decide) (by decide), hd, if_pos (nI_le (by omega) (by omega))]
    rfl
  | succ k ih =>
    intro i n a h1 h2
    obtain ⟨n, rfl⟩ : ∃ q, n = q + 1 := ⟨n - 1, by omega⟩
    have hi : i < N := by omega
    rw [L_X7_hearing_22_u, rd_l 0 l0 (by decide) (by decide), hd, if_neg (nI_ge (by omega) (by omega)), rd_nI (by omega) (by decide), (hh i hi).1]
    simp only [nm]
    rw [nI_1, Int32.or_zero]
    show _ = some (bitsF _ k (i + 1) (a ||| (bI (decide (H i = some t)) <<< (nI i &&& 31))), found, hears, near)
    by_cases h : H i = some t
    · rw [if_pos ((cod_eq (okB_10 hN (hh i hi).2) ht).mpr h), decide_eq_true h, ih (i + 1) n _ (by omega) (by omega)]
      rfl
    · rw [if_neg (fun h2 => h ((cod_eq (okB_10 hN (hh i hi).2) ht).mp h2)), decide_eq_false h, ih (i + 1) n _ (by omega) (by omega), or_f]
