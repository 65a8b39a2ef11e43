/-! pigeonhole, paths of those who hear, pairs, lines -/
theorem php : ∀ (N : Nat) (f : Nat → Nat), (∀ i : Nat, i ≤ N → f i < N) → ∃ a b : Nat, a < b ∧ b ≤ N ∧ f a = f b := by
  intro N
  induction N with
  | zero => intro f h; exact absurd (h 0 (Nat.le_refl 0)) (Nat.not_lt_zero _)
  | succ N ih =>
    intro f h
    by_cases hx : ∃ a : Nat, a ≤ N ∧ f a = f (N + 1)
    · obtain ⟨a, h1, h2⟩ := hx
      exact ⟨a, N + 1, by omega, by omega, h2⟩
    · have hn : ∀ i : Nat, i ≤ N → f i ≠ f (N + 1) := fun i hi he => hx ⟨i, hi, he⟩
      obtain ⟨a, b, h1, h2, h3⟩ := ih (fun i => if f i = N then f (N + 1) else f i) (fun i hi => by
        have a1 := h i (by omega)
        have a2 := h (N + 1) (by omega)
        have a3 := hn i hi
        show (if f i = N then f (N + 1) else f i) < N
        split
        · omega
        · omega)
      refine ⟨a, b, h1, by omega, ?_⟩
      have b1 := hn a (by omega)
      have b2 := hn b h2
      have h4 : (if f a = N then f (N + 1) else f a) = (if f b = N then f (N + 1) else f b) := h3
      by_cases c1 : f a = N
      · by_cases c2 : f b = N
        · rw [c1, c2]
        · rw [if_pos c1, if_neg c2] at h4; exact absurd h4.symm b2
      · by_cases c2 : f b = N
        · rw [if_neg c1, if_pos c2] at h4; exact absurd h4 b1
        · rw [if_neg c1, if_neg c2] at h4; exact h4
def hop (H : Nat → Option Nat) : Option Nat → Option Nat
  | none => none
  | some v => H v
def pth (H : Nat → Option Nat) : Nat → Option Nat → Option Nat
  | 0, x => x
  | k + 1, x => pth H k (hop H x)
theorem pth_add (H : Nat → Option Nat) : ∀ (a b : Nat) (x : Option Nat), pth H (a + b) x = pth H b (pth H a x) := by
  intro a
  induction a with
  | zero => intro b x; rw [Nat.zero_add]; rfl
  | succ a ih => intro b x; rw [Nat.succ_add]; exact ih b (hop H x)
theorem pth_none (H : Nat → Option Nat) : ∀ k : Nat, pth H k none = none := by
  intro k
  induction k with
  | zero => rfl
  | succ k ih => exact ih
theorem okB_hop {H : Nat → Option Nat} {N : Nat} (hok : ∀ j : Nat, j < N → okB N (H j)) {x : Option Nat} (hx : okB N x) : okB N (hop H x) := by
  cases x with
  | none => trivial
  | some v => exact hok v hx
theorem pth_ok {H : Nat → Option Nat} {N : Nat} (hok : ∀ j : Nat, j < N → okB N (H j)) : ∀ (k : Nat) (x : Option Nat), okB N x → okB N (pth H k x) := by
  intro k
  induction k with
  | zero => intro x h; exact h
  | succ k ih => intro x h; exact ih _ (okB_hop hok h)
theorem pth_low {H : Nat → Option Nat} {N : Nat} (hok : ∀ j : Nat, j < N → okB N (H j)) {x : Option Nat} (hx : okB N x) {v : Nat} : ∀ (m s : Nat), s ≤ m → pth H s x = some v → ∃ q : Nat, q < N ∧ pth H q x = some v := by
  intro m
  induction m with
  | zero =>
    intro s hs h
    have e : s = 0 := by omega
    subst e
    refine ⟨0, ?_, h⟩
    have h1 : x = some v := h
    rw [h1] at hx
    exact Nat.lt_of_le_of_lt (Nat.zero_le v) hx
  | succ m ih =>
    intro s hs h
    by_cases hsN : s < N
    · exact ⟨s, hsN, h⟩
    · have hsome : ∀ i : Nat, i ≤ N → ∃ u : Nat, u < N ∧ pth H i x = some u := by
        intro i hi
        have h1 := pth_ok hok i x hx
        cases hp : pth H i x with
        | none =>
          have h2 := pth_add H i (s - i) x
          rw [show i + (s - i) = s by omega, hp, pth_none, h] at h2
          cases h2
        | some u => rw [hp] at h1; exact ⟨u, h1, rfl⟩
      obtain ⟨a, b, h1, h2, h3⟩ := php N (fun i => (pth H i x).getD 0) (fun i hi => by
        obtain ⟨u, a1, a2⟩ := hsome i hi
        show (pth H i x).getD 0 < N
        rw [a2]; exact a1)
      have h4 : pth H a x = pth H b x := by
        obtain ⟨u1, a1, a2⟩ := hsome a (by omega)
        obtain ⟨u2, b1, b2⟩ := hsome b h2
        have h5 : (pth H a x).getD 0 = (pth H b x).getD 0 := h3
        rw [a2, b2] at h5 ⊢
        exact congrArg some h5
      have h6 : pth H (a + (s - b)) x = some v := by
        rw [pth_add, h4, ← pth_add, show b + (s - b) = s by omega]
        exact h
      exact ih (a + (s - b)) (by omega) h6
def prB (H : Nat → Option Nat) (i : Nat) : Bool := match H i with
  | none => false
  | some j => decide (H j = some i)
def bI (b : Bool) : Int32 := if b = true then 1 else 0
theorem okB_10 {N : Nat} {x : Option Nat} (hN : N ≤ 10) (h : okB N x) : okB 10 x := by
  cases x with
  | none => trivial
  | some v => exact Nat.lt_of_lt_of_le h hN
theorem cod_eq {x : Option Nat} {t : Nat} (hx : okB 10 x) (ht : t < 10) : cod x = nI t ↔ x = some t := by
  cases x with
  | none => exact ⟨fun h => absurd h.symm (nI_m1 (by omega)), fun h => by cases h⟩
  | some v =>
    have hv : v < 10 := hx
    exact ⟨fun h => congrArg some ((nI_eq (by omega) (by omega)).mp h), fun h => by cases h; rfl⟩
theorem cod_inj {x y : Option Nat} (hx : okB 10 x) (hy : okB 10 y) : cod x = cod y ↔ x = y := by
  cases y with
  | none =>
    cases x with
    | none => exact ⟨fun _ => rfl, fun _ => rfl⟩
    | some v => exact ⟨fun h => absurd h (cod_m1 hx), fun h => by cases h⟩
  | some w => exact cod_eq hx hy
/-- who hears whom: hears is H -/
def HR (N : Nat) (hears : Nat → Int32) (H : Nat → Option Nat) : Prop := ∀ j : Nat, j < N → hears j = cod (H j) ∧ okB N (H j)
theorem pair_s {n0 N i : Nat} {hears : Nat → Int32} {H : Nat → Option Nat} (hN : N ≤ 10) (hh : HR N hears H) (hi : i < N) : F_X1_isOfPair n0 hears (nI i) = some (bI (prB H i)) := by
  unfold F_X1_isOfPair prB
  rw [rd_nI (by omega) (by decide), (hh i hi).1]
  have ho := (hh i hi).2
  cases hj : H i with
  | none => exact if_pos rfl
  | some j =>
    rw [hj] at ho
    have hjN : j < N := ho
    rw [if_neg (cod_m1 (by omega)), show cod (some j) = nI j from rfl, rd_nI (by omega) (by decide), (hh j hjN).1]
    by_cases h : H j = some i
    · rw [if_pos ((cod_eq (okB_10 hN (hh j hjN).2) (by omega)).mpr h)]
      show some 1 = some (bI (decide (H j = some i)))
      rw [decide_eq_true h]; rfl
    · rw [if_neg (fun h2 => h ((cod_eq (okB_10 hN (hh j hjN).2) (by omega)).mp h2))]
      show some 0 = some (bI (decide (H j = some i)))
      rw [decide_eq_false h]; rfl
theorem mpair_s {n0 N i : Nat} {hears : Nat → Int32} {H : Nat → Option Nat} (hN : N ≤ 10) (hh : HR N hears H) (hi : i < N) : F_X7_isPaired n0 hears (nI i) = some (bI (prB H i)) := by
  rw [← pair_s (n0 := n0) hN hh hi]
  unfold F_X7_isPaired F_X1_isOfPair
  rw [rd_nI (by omega) (by decide), rd_nI (by omega) (by decide), rd_nI (by omega) (by decide)]
def lineF (H : Nat → Option Nat) : Nat → Option Nat → Nat → Int32
  | 0, _, _ => -1
  | k + 1, x, s => match x with
    | none => -1
    | some v => if prB H v = true then nI s else lineF H k (H v) (s + 1)
theorem lineF_hit {H : Nat → Option Nat} : ∀ (k : Nat) (x : Option Nat) (s j v : Nat), j < k → pth H j x = some v → prB H v = true → (∀ i : Nat, i < j → ∀ u : Nat, pth H i x = some u → prB H u = false) → lineF H k x s = nI (s + j) := by
  intro k
  induction k with
  | zero => intro x s j v h; omega
  | succ k ih =>
    intro x s j v h1 h2 h3 h4
    cases x with
    | none => rw [pth_none] at h2; cases h2
    | some w =>
      show (if prB H w = true then nI s else lineF H k (H w) (s + 1)) = nI (s + j)
      cases j with
      | zero =>
        have e : w = v := by have h5 : some w = some v := h2; cases h5; rfl
        subst e
        rw [if_pos h3]; rfl
      | succ j =>
        have h5 := h4 0 (by omega) w rfl
        rw [if_neg (by rw [h5]; decide), ih (H w) (s + 1) j v (by omega) h2 h3 (fun i hi u hu => h4 (i + 1) (by omega) u hu), show s + 1 + j = s + (j + 1) by omega]
theorem lineF_miss {H : Nat → Option Nat} : ∀ (k : Nat) (x : Option Nat) (s : Nat), (∀ i : Nat, i < k → ∀ u : Nat, pth H i x = some u → prB H u = false) → lineF H k x s = -1 := by
  intro k
  induction k with
  | zero => intro x s _; rfl
  | succ k ih =>
    intro x s h
    cases x with
    | none => rfl
    | some w =>
      show (if prB H w = true then nI s else lineF H k (H w) (s + 1)) = -1
      have h5 := h 0 (by omega) w rfl
      rw [if_neg (by rw [h5]; decide)]
      exact ih (H w) (s + 1) (fun i hi u hu => h (i + 1) (by omega) u hu)
theorem line_eq {H : Nat → Option Nat} {N t : Nat} (hN : N ≤ 10) (hok : ∀ j : Nat, j < N → okB N (H j)) (ht : t < N) : lineF H 11 (some t) 0 = lineF H (N + 1) (some t) 0 := by
  by_cases hx : ∃ j : Nat, ∃ v : Nat, pth H j (some t) = some v ∧ prB H v = true
  · obtain ⟨j, ⟨v, h1, h2⟩, h3⟩ := pk_least (fun j => ∃ v : Nat, pth H j (some t) = some v ∧ prB H v = true) hx
    have h4 : ∀ i : Nat, i < j → ∀ u : Nat, pth H i (some t) = some u → prB H u = false := fun i hi u hu => by
      cases hp : prB H u with
      | false => rfl
      | true => exact absurd ⟨u, hu, hp⟩ (h3 i hi)
    obtain ⟨q, a1, a2⟩ := pth_low hok (x := some t) ht j j (Nat.le_refl j) h1
    have h5 : j ≤ q := by
      by_cases h : q < j
      · exact absurd ⟨v, a2, h2⟩ (h3 q h)
      · omega
    rw [lineF_hit 11 (some t) 0 j v (by omega) h1 h2 h4, lineF_hit (N + 1) (some t) 0 j v (by omega) h1 h2 h4]
  · have h4 : ∀ i : Nat, ∀ u : Nat, pth H i (some t) = some u → prB H u = false := fun i u hu => by
      cases hp : prB H u with
      | false => rfl
      | true => exact absurd ⟨i, u, hu, hp⟩ hx
    rw [lineF_miss 11 (some t) 0 (fun i _ => h4 i), lineF_miss (N + 1) (some t) 0 (fun i _ => h4 i)]
theorem line_r {n0 N : Nat} {hears : Nat → Int32} {H : Nat → Option Nat} (hN : N ≤ 10) (hh : HR N hears H) : ∀ (k s n : Nat) (x : Option Nat), s + k = N + 1 → k < n → okB N x → L_X1_lineOf_4 (nI N) n0 hears n (cod x) (nI s) = some (lineF H k x s) := by
  intro k
  induction k with
  | zero =>
    intro s n x h1 h2 hx
    obtain ⟨n, rfl⟩ : ∃ q, n = q + 1 := ⟨n - 1, by omega⟩
    rw [L_X1_lineOf_4_u, if_pos (nI_lt (by omega) (by omega))]
    rfl
  | succ k ih =>
    intro s n x h1 h2 hx
    obtain ⟨n, rfl⟩ : ∃ q, n = q + 1 := ⟨n - 1, by omega⟩
    rw [L_X1_lineOf_4_u, if_neg (nI_nlt (by omega) (by omega))]
    cases x with
    | none => exact if_pos rfl
    | some v =>
      have hv : v < N := hx
      rw [if_neg (cod_m1 (by omega)), show cod (some v) = nI v from rfl, pair_s hN hh hv]
      show (if bI (prB H v) = 0 then rd hears 10 (nI v) (fun x4 => nm (nI s + 1) (fun x5 => L_X1_lineOf_4 (nI N) n0 hears n x4 x5)) else some (nI s)) = some (if prB H v = true then nI s else lineF H k (H v) (s + 1))
      cases hp : prB H v with
      | true => rfl
      | false =>
        rw [if_pos (show bI false = 0 from rfl), rd_nI (by omega) (by decide), nm, nI_1, (hh v hv).1, ih (s + 1) n (H v) (by omega) (by omega) (hh v hv).2]
        rfl
theorem line_s {n0 N t : Nat} {hears : Nat → Int32} {H : Nat → Option Nat} (hn : 2000000 ≤ n0) (hN : N ≤ 10) (hh : HR N hears H) (ht : t < N) : F_X1_lineOf n0 (nI N) hears (nI t) = some (lineF H (N + 1) (some t) 0) := by
  unfold F_X1_lineOf
  have := line_r (n0 := n0) hN hh (N + 1) 0 n0 (some t) (by omega) (by omega) ht
  rw [nI_0] at this
  exact this
theorem mline_r {n0 N : Nat} {hears : Nat → Int32} {H : Nat → Option Nat} (hN : N ≤ 10) (hh : HR N hears H) : ∀ (k s n : Nat) (x : Option Nat), s + k = 11 → k < n → okB N x → L_X7_lineOf_4 n0 hears n (cod x) (nI s) = some (lineF H k x s) := by
  intro k
  induction k with
  | zero =>
    intro s n x h1 h2 hx
    obtain ⟨n, rfl⟩ : ∃ q, n = q + 1 := ⟨n - 1, by omega⟩
    rw [L_X7_lineOf_4_u, if_pos (show (10 : Int32) < nI s from nI_lt (a := 10) (by omega) (by omega))]
    rfl
  | succ k ih =>
    intro s n x h1 h2 hx
    obtain ⟨n, rfl⟩ : ∃ q, n = q + 1 := ⟨n - 1, by omega⟩
    rw [L_X7_lineOf_4_u, if_neg (show ¬ (10 : Int32) < nI s from nI_nlt (b := s) (a := 10) (by omega) (by omega))]
    cases x with
    | none => exact if_pos rfl
    | some v =>
      have hv : v < N := hx
      rw [if_neg (cod_m1 (by omega)), show cod (some v) = nI v from rfl, mpair_s hN hh hv]
      show (if bI (prB H v) = 0 then rd hears 10 (nI v) (fun x4 => nm (nI s + 1) (fun x5 => L_X7_lineOf_4 n0 hears n x4 x5)) else some (nI s)) = some (if prB H v = true then nI s else lineF H k (H v) (s + 1))
      cases hp : prB H v with
      | true => rfl
      | false =>
        rw [if_pos (show bI false = 0 from rfl), rd_nI (by omega) (by decide), nm, nI_1, (hh v hv).1, ih (s + 1) n (H v) (by omega) (by omega) (hh v hv).2]
        rfl
theorem mline_s {n0 N t : Nat} {hears : Nat → Int32} {H : Nat → Option Nat} (hn : 2000000 ≤ n0) (hN : N ≤ 10) (hh : HR N hears H) (ht : t < N) : F_X7_lineOf n0 hears (nI t) = some (lineF H (N + 1) (some t) 0) := by
  unfold F_X7_lineOf
  have := mline_r (n0 := n0) hN hh 11 0 n0 (some t) (by omega) (by omega) ht
  rw [nI_0] at this
  rw [← line_eq hN (fun j hj => (hh j hj).2) ht]
  exact this
