/-! key: a tent is struck -/
def gstep (c : Nat → Nat → Bool) (sk : Nat → Bool) (i : Nat) (b : Option Nat) : Option Nat := if sk i = true then b else match b with
  | none => some i
  | some o => if c o i = true then some o else some i
def genF (c : Nat → Nat → Bool) (sk : Nat → Bool) : Nat → Nat → Option Nat → Option Nat
  | 0, _, b => b
  | k + 1, i, b => genF c sk k (i + 1) (gstep c sk i b)
theorem near_gen {g : Nat → Nat} {sk : Nat → Bool} : ∀ (k i : Nat) (b : Option Nat), nearF g sk k i b = genF (fun o i => decide (g o ≤ g i)) sk k i b := by
  intro k
  induction k with
  | zero => intro i b; rfl
  | succ k ih =>
    intro i b
    unfold nearF genF
    rw [ih]
    have e : (if sk i = true then b else match b with
      | none => some i
      | some o => if g o ≤ g i then some o else some i) = gstep (fun o i => decide (g o ≤ g i)) sk i b := by
      unfold gstep
      by_cases h : sk i = true
      · rw [if_pos h, if_pos h]
      · rw [if_neg h, if_neg h]
        cases b with
        | none => rfl
        | some o =>
          show (if g o ≤ g i then some o else some i) = (if decide (g o ≤ g i) = true then some o else some i)
          by_cases h2 : g o ≤ g i
          · rw [if_pos h2, if_pos (decide_eq_true h2)]
          · rw [if_neg h2, if_neg (fun h3 => h2 (of_decide_eq_true h3))]
    exact congrArg (fun x => genF (fun o i => decide (g o ≤ g i)) sk k (i + 1) x) e
theorem fart_gen {g : Nat → Nat} {sk : Nat → Bool} : ∀ (k i : Nat) (b : Option Nat), fartF g sk k i b = genF (fun o i => decide (g i ≤ g o)) sk k i b := by
  intro k
  induction k with
  | zero => intro i b; rfl
  | succ k ih =>
    intro i b
    unfold fartF genF
    rw [ih]
    have e : (if sk i = true then b else match b with
      | none => some i
      | some o => if g i ≤ g o then some o else some i) = gstep (fun o i => decide (g i ≤ g o)) sk i b := by
      unfold gstep
      by_cases h : sk i = true
      · rw [if_pos h, if_pos h]
      · rw [if_neg h, if_neg h]
        cases b with
        | none => rfl
        | some o =>
          show (if g i ≤ g o then some o else some i) = (if decide (g i ≤ g o) = true then some o else some i)
          by_cases h2 : g i ≤ g o
          · rw [if_pos h2, if_pos (decide_eq_true h2)]
          · rw [if_neg h2, if_neg (fun h3 => h2 (of_decide_eq_true h3))]
    exact congrArg (fun x => genF (fun o i => decide (g i ≤ g o)) sk k (i + 1) x) e
/-- the number that a tent had before number t was struck -/
def phi (t i : Nat) : Nat := if i < t then i else i + 1
theorem phi_lo {t i : Nat} (h : i < t) : phi t i = i := if_pos h
theorem phi_hi {t i : Nat} (h : t ≤ i) : phi t i = i + 1 := if_neg (by omega)
theorem phi_ne {t i : Nat} : phi t i ≠ t := by
  unfold phi
  split
  · omega
  · omega
theorem phi_inj {t i j : Nat} : phi t i = phi t j ↔ i = j := by
  unfold phi
  constructor
  · split
    · split
      · omega
      · omega
    · split
      · omega
      · omega
  · intro h; rw [h]
theorem phi_lt {t i n : Nat} (h : i < n) : phi t i < n + 1 := by
  unfold phi
  split
  · omega
  · omega
theorem gstep_ok {c : Nat → Nat → Bool} {sk : Nat → Bool} {i : Nat} {b : Option Nat} (hb : okB i b) : okB (i + 1) (gstep c sk i b) := by
  unfold gstep
  by_cases h : sk i = true
  · rw [if_pos h]; exact okB_mono (by omega) hb
  · rw [if_neg h]
    cases b with
    | none => exact Nat.lt_succ_self i
    | some o =>
      show okB (i + 1) (if c o i = true then some o else some i)
      split
      · exact Nat.lt_succ_of_lt hb
      · exact Nat.lt_succ_self i
theorem gstep_map {t a n : Nat} {c c' : Nat → Nat → Bool} {sk sk' : Nat → Bool} {b : Option Nat} (hs : ∀ a : Nat, a < n → sk (phi t a) = sk' a) (hc : ∀ o a : Nat, o < a → a < n → c (phi t o) (phi t a) = c' o a) (ha : a < n) (hb : okB a b) : gstep c sk (phi t a) (b.map (phi t)) = (gstep c' sk' a b).map (phi t) := by
  unfold gstep
  rw [hs a ha]
  by_cases h : sk' a = true
  · rw [if_pos h, if_pos h]
  · rw [if_neg h, if_neg h]
    cases b with
    | none => rfl
    | some o =>
      show (if c (phi t o) (phi t a) = true then some (phi t o) else some (phi t a)) = (if c' o a = true then some o else some a).map (phi t)
      rw [hc o a hb ha]
      by_cases h2 : c' o a = true
      · rw [if_pos h2, if_pos h2]; rfl
      · rw [if_neg h2, if_neg h2]; rfl
theorem genA {t n : Nat} {c c' : Nat → Nat → Bool} {sk sk' : Nat → Bool} (hs : ∀ a : Nat, a < n → sk (phi t a) = sk' a) (hc : ∀ o a : Nat, o < a → a < n → c (phi t o) (phi t a) = c' o a) : ∀ (k a : Nat) (b : Option Nat), t ≤ a → a + k ≤ n → okB a b → genF c sk k (a + 1) (b.map (phi t)) = (genF c' sk' k a b).map (phi t) := by
  intro k
  induction k with
  | zero => intro a b _ _ _; rfl
  | succ k ih =>
    intro a b h1 h2 hb
    unfold genF
    have e := gstep_map (b := b) hs hc (a := a) (by omega) hb
    rw [phi_hi h1] at e
    rw [e]
    exact ih (a + 1) _ (by omega) (by omega) (gstep_ok hb)
theorem genC {t n : Nat} {c c' : Nat → Nat → Bool} {sk sk' : Nat → Bool} (hs : ∀ a : Nat, a < n → sk (phi t a) = sk' a) (hc : ∀ o a : Nat, o < a → a < n → c (phi t o) (phi t a) = c' o a) : ∀ (k a : Nat) (b : Option Nat), a + k ≤ t → a + k ≤ n → okB a b → genF c sk k a (b.map (phi t)) = (genF c' sk' k a b).map (phi t) := by
  intro k
  induction k with
  | zero => intro a b _ _ _; rfl
  | succ k ih =>
    intro a b h1 h2 hb
    unfold genF
    have e := gstep_map (b := b) hs hc (a := a) (by omega) hb
    rw [phi_lo (show a < t by omega)] at e
    rw [e]
    exact ih (a + 1) _ (by omega) (by omega) (gstep_ok hb)
theorem genB {t n : Nat} {c c' : Nat → Nat → Bool} {sk sk' : Nat → Bool} (hs : ∀ a : Nat, a < n → sk (phi t a) = sk' a) (hc : ∀ o a : Nat, o < a → a < n → c (phi t o) (phi t a) = c' o a) (hst : sk t = true) : ∀ (k a : Nat) (b : Option Nat), a ≤ t → t ≤ a + k → a + k ≤ n → okB a b → genF c sk (k + 1) a (b.map (phi t)) = (genF c' sk' k a b).map (phi t) := by
  intro k
  induction k with
  | zero =>
    intro a b h1 h2 h3 hb
    have e : a = t := by omega
    subst e
    show genF c sk 0 (a + 1) (gstep c sk a (b.map (phi a))) = b.map (phi a)
    unfold gstep
    rw [if_pos hst]
    rfl
  | succ k ih =>
    intro a b h1 h2 h3 hb
    by_cases h : a = t
    · subst h
      have e1 : genF c sk (k + 1 + 1) a (b.map (phi a)) = genF c sk (k + 1) (a + 1) (gstep c sk a (b.map (phi a))) := rfl
      have e2 : gstep c sk a (b.map (phi a)) = b.map (phi a) := by
        unfold gstep
        rw [if_pos hst]
      rw [e1, e2]
      exact genA hs hc (k + 1) a b (Nat.le_refl a) h3 hb
    · have e := gstep_map (b := b) hs hc (a := a) (by omega) hb
      rw [phi_lo (show a < t by omega)] at e
      have e1 : genF c sk (k + 1 + 1) a (b.map (phi t)) = genF c sk (k + 1) (a + 1) (gstep c sk a (b.map (phi t))) := rfl
      have e2 : genF c' sk' (k + 1) a b = genF c' sk' k (a + 1) (gstep c' sk' a b) := rfl
      rw [e1, e, e2]
      exact ih (a + 1) _ (by omega) (by omega) (by omega) (gstep_ok hb)
/-- who hears whom, with t gone, and with t struck -/
def goB (t : Nat) : Nat → Bool := fun j => decide (nI j = nI t)
theorem hO_map {kinds k' : Nat → Int32} {G G' : Nat → Nat → Nat} {n t i : Nat} (hn : n < 10) (ht : t ≤ n) (hi : i < n) (hk : k' i = kinds (phi t i)) (hG : ∀ o : Nat, o < n → G (phi t i) (phi t o) = G' i o) : hO kinds G (goB t) (n + 1) (phi t i) = (hO k' G' sk0 n i).map (phi t) := by
  have hs : ∀ a : Nat, a < n → (fun j => decide (j = phi t i) || goB t j) (phi t a) = (fun j => decide (j = i) || sk0 j) a := fun a ha => by
    show (decide (phi t a = phi t i) || decide (nI (phi t a) = nI t)) = (decide (a = i) || false)
    have h1 := phi_lt (t := t) ha
    rw [decide_eq_false (fun e => phi_ne ((nI_eq (by omega) (by omega)).mp e)), decide_eq_decide.mpr phi_inj]
  have hst : (fun j => decide (j = phi t i) || goB t j) t = true := by
    show (decide (t = phi t i) || decide (nI t = nI t)) = true
    rw [decide_eq_true (rfl : nI t = nI t), Bool.or_true]
  have hcn : ∀ o a : Nat, o < a → a < n → (fun o a => decide (G (phi t i) o ≤ G (phi t i) a)) (phi t o) (phi t a) = (fun o a => decide (G' i o ≤ G' i a)) o a := fun o a h1 h2 => by
    show decide (G (phi t i) (phi t o) ≤ G (phi t i) (phi t a)) = decide (G' i o ≤ G' i a)
    rw [hG o (by omega), hG a h2]
  have hcf : ∀ o a : Nat, o < a → a < n → (fun o a => decide (G (phi t i) a ≤ G (phi t i) o)) (phi t o) (phi t a) = (fun o a => decide (G' i a ≤ G' i o)) o a := fun o a h1 h2 => by
    show decide (G (phi t i) (phi t a) ≤ G (phi t i) (phi t o)) = decide (G' i a ≤ G' i o)
    rw [hG o (by omega), hG a h2]
  have hN : nO G (goB t) (n + 1) (phi t i) = (nO G' sk0 n i).map (phi t) := by
    unfold nO
    rw [near_gen, near_gen]
    exact genB (n := n) (t := t) (sk := fun j => decide (j = phi t i) || goB t j) (sk' := fun j => decide (j = i) || sk0 j) (c := fun o a => decide (G (phi t i) o ≤ G (phi t i) a)) (c' := fun o a => decide (G' i o ≤ G' i a)) hs hcn hst n 0 none (by omega) (by omega) (by omega) trivial
  have hE : nO G (goB t) (phi t i) (phi t i) = (nO G' sk0 i i).map (phi t) := by
    unfold nO
    rw [near_gen, near_gen]
    by_cases h : i < t
    · have e := genC (n := n) (t := t) (sk := fun j => decide (j = phi t i) || goB t j) (sk' := fun j => decide (j = i) || sk0 j) (c := fun o a => decide (G (phi t i) o ≤ G (phi t i) a)) (c' := fun o a => decide (G' i o ≤ G' i a)) hs hcn i 0 none (by omega) (by omega) trivial
      rw [phi_lo h] at e ⊢
      exact e
    · have e := genB (n := n) (t := t) (sk := fun j => decide (j = phi t i) || goB t j) (sk' := fun j => decide (j = i) || sk0 j) (c := fun o a => decide (G (phi t i) o ≤ G (phi t i) a)) (c' := fun o a => decide (G' i o ≤ G' i a)) hs hcn hst i 0 none (by omega) (by omega) (by omega) trivial
      rw [phi_hi (show t ≤ i by omega)] at e ⊢
      exact e
  have hFr : fartF (G (phi t i)) (fun j => decide (j = phi t i) || goB t j) (n + 1) 0 none = (fartF (G' i) (fun j => decide (j = i) || sk0 j) n 0 none).map (phi t) := by
    rw [fart_gen, fart_gen]
    exact genB (n := n) (t := t) (sk := fun j => decide (j = phi t i) || goB t j) (sk' := fun j => decide (j = i) || sk0 j) (c := fun o a => decide (G (phi t i) a ≤ G (phi t i) o)) (c' := fun o a => decide (G' i a ≤ G' i o)) hs hcf hst n 0 none (by omega) (by omega) (by omega) trivial
  unfold hO
  rw [hk]
  by_cases h1 : kinds (phi t i) = 1 ∨ kinds (phi t i) = 4
  · rw [if_pos h1, if_pos h1, hE]
  · rw [if_neg h1, if_neg h1]
    by_cases h2 : kinds (phi t i) = 6
    · rw [if_pos h2, if_pos h2, hFr]
    · rw [if_neg h2, if_neg h2, hN]
/-- a line comes to a pair -/
def lnd (H : Nat → Option Nat) (x : Option Nat) : Prop := ∃ j v : Nat, pth H j x = some v ∧ prB H v = true
def lnB (H : Nat → Option Nat) (N i : Nat) : Bool := !decide (lineF H (N + 1) (some i) 0 < 0)
theorem lnB_iff {H : Nat → Option Nat} {N i : Nat} (hN : N ≤ 10) (hok : ∀ j : Nat, j < N → okB N (H j)) (hi : i < N) : lnB H N i = true ↔ lnd H (some i) := by
  unfold lnB
  by_cases hx : ∃ j : Nat, ∃ v : Nat, pth H j (some i) = some v ∧ prB H v = true
  · obtain ⟨j, ⟨v, h1, h2⟩, h3⟩ := pk_least (fun j => ∃ v : Nat, pth H j (some i) = some v ∧ prB H v = true) hx
    have h4 : ∀ k : Nat, k < j → ∀ u : Nat, pth H k (some i) = some u → prB H u = false := fun k hk u hu => by
      cases hp : prB H u with
      | false => rfl
      | true => exact absurd ⟨u, hu, hp⟩ (h3 k hk)
    obtain ⟨q, a1, a2⟩ := pth_low hok (x := some i) hi j j (Nat.le_refl j) h1
    have h5 : j ≤ q := by
      by_cases h : q < j
      · exact absurd ⟨v, a2, h2⟩ (h3 q h)
      · omega
    rw [lineF_hit (N + 1) (some i) 0 j v (by omega) h1 h2 h4, decide_eq_false (nI_pos (by omega))]
    exact ⟨fun _ => ⟨j, v, h1, h2⟩, fun _ => rfl⟩
  · have h4 : ∀ k : Nat, ∀ u : Nat, pth H k (some i) = some u → prB H u = false := fun k u hu => by
      cases hp : prB H u with
      | false => rfl
      | true => exact absurd ⟨k, u, hu, hp⟩ hx
    rw [lineF_miss (N + 1) (some i) 0 (fun k _ => h4 k)]
    exact ⟨fun h => absurd h (by decide), fun h => absurd h hx⟩
theorem map_some {t v u : Nat} {x : Option Nat} : x.map (phi t) = some (phi t v) ↔ x = some v := by
  cases x with
  | none => exact ⟨fun h => (by cases h), fun h => (by cases h)⟩
  | some w =>
    show some (phi t w) = some (phi t v) ↔ some w = some v
    constructor
    · intro h
      have := phi_inj.mp (Option.some.inj h)
      rw [this]
    · intro h
      rw [Option.some.inj h]
theorem pth_map {H H' : Nat → Option Nat} {n t : Nat} (hm : ∀ i : Nat, i < n → H (phi t i) = (H' i).map (phi t)) (hok : ∀ i : Nat, i < n → okB n (H' i)) : ∀ (j : Nat) (x : Option Nat), okB n x → pth H j (x.map (phi t)) = (pth H' j x).map (phi t) := by
  intro j
  induction j with
  | zero => intro x _; rfl
  | succ j ih =>
    intro x hx
    show pth H j (hop H (x.map (phi t))) = (pth H' j (hop H' x)).map (phi t)
    have e : hop H (x.map (phi t)) = (hop H' x).map (phi t) := by
      cases x with
      | none => rfl
      | some v => exact hm v hx
    rw [e]
    exact ih _ (okB_hop hok hx)
theorem prB_map {H H' : Nat → Option Nat} {n t v : Nat} (hm : ∀ i : Nat, i < n → H (phi t i) = (H' i).map (phi t)) (hok : ∀ i : Nat, i < n → okB n (H' i)) (hv : v < n) : prB H (phi t v) = prB H' v := by
  unfold prB
  rw [hm v hv]
  have ho := hok v hv
  cases hu : H' v with
  | none => rfl
  | some u =>
    rw [hu] at ho
    show decide (H (phi t u) = some (phi t v)) = decide (H' u = some v)
    rw [hm u ho]
    exact decide_eq_decide.mpr (map_some (u := 0))
theorem lnd_map {H H' : Nat → Option Nat} {n t i : Nat} (hm : ∀ i : Nat, i < n → H (phi t i) = (H' i).map (phi t)) (hok : ∀ i : Nat, i < n → okB n (H' i)) (hi : i < n) : lnd H (some (phi t i)) ↔ lnd H' (some i) := by
  constructor
  · rintro ⟨j, v, h1, h2⟩
    have e := pth_map hm hok j (some i) hi
    have e2 : pth H j (some (phi t i)) = (pth H' j (some i)).map (phi t) := e
    rw [h1] at e2
    have ho := pth_ok hok j (some i) hi
    cases hq : pth H' j (some i) with
    | none => rw [hq] at e2; cases e2
    | some u =>
      rw [hq] at e2 ho
      have e3 : v = phi t u := Option.some.inj e2
      rw [e3, prB_map hm hok ho] at h2
      exact ⟨j, u, hq, h2⟩
  · rintro ⟨j, v, h1, h2⟩
    have e := pth_map hm hok j (some i) hi
    have e2 : pth H j (some (phi t i)) = (pth H' j (some i)).map (phi t) := e
    have ho := pth_ok hok j (some i) hi
    rw [h1] at e2 ho
    exact ⟨j, phi t v, e2, by rw [prB_map hm hok ho]; exact h2⟩
theorem cntF_congr {P Q : Nat → Bool} : ∀ (k i a : Nat), (∀ j : Nat, i ≤ j → j < i + k → P j = Q j) → cntF P k i a = cntF Q k i a := by
  intro k
  induction k with
  | zero => intro i a _; rfl
  | succ k ih =>
    intro i a h
    show cntF P k (i + 1) (a + (P i).toNat) = cntF Q k (i + 1) (a + (Q i).toNat)
    rw [h i (by omega) (by omega)]
    exact ih (i + 1) _ (fun j h1 h2 => h j (by omega) (by omega))
theorem cntF_le {P : Nat → Bool} : ∀ (k i a : Nat), cntF P k i a ≤ a + k := by
  intro k
  induction k with
  | zero => intro i a; exact Nat.le_refl _
  | succ k ih =>
    intro i a
    have h := ih (i + 1) (a + (P i).toNat)
    have h2 := Bool.toNat_le (P i)
    show cntF P k (i + 1) (a + (P i).toNat) ≤ a + (k + 1)
    omega
theorem cnt_A {P : Nat → Bool} {t : Nat} : ∀ (k a c : Nat), t ≤ a → cntF (fun o => !decide (o = t) && P o) k (a + 1) c = cntF (fun i => P (phi t i)) k a c := by
  intro k
  induction k with
  | zero => intro a c _; rfl
  | succ k ih =>
    intro a c h
    show cntF (fun o => !decide (o = t) && P o) k (a + 1 + 1) (c + (!decide (a + 1 = t) && P (a + 1)).toNat) = cntF (fun i => P (phi t i)) k (a + 1) (c + (P (phi t a)).toNat)
    rw [decide_eq_false (show ¬ a + 1 = t by omega), phi_hi h]
    exact ih (a + 1) _ (by omega)
theorem cnt_B {P : Nat → Bool} {t : Nat} : ∀ (k a c : Nat), a ≤ t → t ≤ a + k → cntF (fun o => !decide (o = t) && P o) (k + 1) a c = cntF (fun i => P (phi t i)) k a c := by
  intro k
  induction k with
  | zero =>
    intro a c h1 h2
    have e : a = t := by omega
    show c + (!decide (a = t) && P a).toNat = c
    rw [decide_eq_true e]
    rfl
  | succ k ih =>
    intro a c h1 h2
    have e1 : cntF (fun o => !decide (o = t) && P o) (k + 1 + 1) a c = cntF (fun o => !decide (o = t) && P o) (k + 1) (a + 1) (c + (!decide (a = t) && P a).toNat) := rfl
    by_cases h : a = t
    · rw [e1, decide_eq_true h]
      exact cnt_A (k + 1) a c (by omega)
    · have e2 : cntF (fun i => P (phi t i)) (k + 1) a c = cntF (fun i => P (phi t i)) k (a + 1) (c + (P (phi t a)).toNat) := rfl
      rw [e1, e2, decide_eq_false h, phi_lo (show a < t by omega)]
      exact ih (a + 1) _ (by omega) (by omega)
/-- with tent t gone: who hears whom, how many are lined -/
def kyH (kinds : Nat → Int32) (G : Nat → Nat → Nat) (N t j : Nat) : Option Nat := if j = t then none else hO kinds G (goB t) N j
def kyN (kinds : Nat → Int32) (G : Nat → Nat → Nat) (N t : Nat) : Nat := cntF (fun o => !decide (o = t) && lnB (kyH kinds G N t) N o) N 0 0
theorem kyH_ok {kinds : Nat → Int32} {G : Nat → Nat → Nat} {N t : Nat} : ∀ j : Nat, j < N → okB N (kyH kinds G N t j) := fun j hj => by
  unfold kyH
  split
  · trivial
  · exact hO_ok (by omega)
theorem ky_eq {kinds k' : Nat → Int32} {G G' : Nat → Nat → Nat} {n t : Nat} (hn : n < 10) (ht : t ≤ n) (hk : ∀ i : Nat, i < n → k' i = kinds (phi t i)) (hG : ∀ i o : Nat, i < n → o < n → G (phi t i) (phi t o) = G' i o) : cntF (lnB (hO k' G' sk0 n) n) n 0 0 = kyN kinds G (n + 1) t := by
  unfold kyN
  rw [cnt_B n 0 0 (by omega) (by omega)]
  have hm : ∀ i : Nat, i < n → kyH kinds G (n + 1) t (phi t i) = (hO k' G' sk0 n i).map (phi t) := fun i hi => by
    unfold kyH
    rw [if_neg phi_ne]
    exact hO_map hn ht hi (hk i hi) (fun o ho => hG i o hi ho)
  have hok : ∀ i : Nat, i < n → okB n (hO k' G' sk0 n i) := fun i hi => hO_ok (by omega)
  refine cntF_congr n 0 0 (fun i _ hi => ?_)
  have h1 := lnB_iff (H := hO k' G' sk0 n) (N := n) (i := i) (by omega) hok (by omega)
  have h2 := lnB_iff (H := kyH kinds G (n + 1) t) (N := n + 1) (i := phi t i) (by omega) kyH_ok (phi_lt (by omega))
  have h3 := lnd_map hm hok (i := i) (by omega)
  show lnB (hO k' G' sk0 n) n i = lnB (kyH kinds G (n + 1) t) (n + 1) (phi t i)
  cases e1 : lnB (hO k' G' sk0 n) n i with
  | true => exact (h2.mpr (h3.mpr (h1.mp e1))).symm
  | false =>
    cases e2 : lnB (kyH kinds G (n + 1) t) (n + 1) (phi t i) with
    | false => rfl
    | true => rw [h1.mpr (h3.mp (h2.mp e2))] at e1; cases e1
theorem ky_lt {kinds : Nat → Int32} {G : Nat → Nat → Nat} {N t : Nat} (hN : N ≤ 10) : kyN kinds G N t < 11 := by
  have := cntF_le (P := fun o => !decide (o = t) && lnB (kyH kinds G N t) N o) N 0 0
  unfold kyN
  omega
/-! the class -/
theorem sk_r {n t : Nat} {K Y : Nat → Int32} (hn : n < 10) : ∀ (k i m : Nat) (t3 t4 : Nat → Int32), i + k = n → k < m → t ≤ i → (∀ j : Nat, t3 j = if t ≤ j ∧ j < i then K (j + 1) else K j) → (∀ j : Nat, t4 j = if t ≤ j ∧ j < i then Y (j + 1) else Y j) → ∃ K' Y' : Nat → Int32, (∀ j : Nat, K' j = if t ≤ j ∧ j < n then K (j + 1) else K j) ∧ (∀ j : Nat, Y' j = if t ≤ j ∧ j < n then Y (j + 1) else Y j) ∧ L_X0_strike_11 (nI (n + 1)) m (nI i) t3 t4 = some (nI n, K', Y') := by
  intro k
  induction k with
  | zero =>
    intro i m t3 t4 h1 h2 h3 h4 h5
    obtain ⟨m, rfl⟩ : ∃ q, m = q + 1 := ⟨m - 1, by omega⟩
    have e : i = n := by omega
    subst e
    refine ⟨t3, t4, h4, h5, ?_⟩
    rw [L_X0_strike_11_u, nmq, nI_pred, if_pos (nI_le (Nat.le_refl i) (by omega)), nmq]
  | succ k ih =>
    intro i m t3 t4 h1 h2 h3 h4 h5
    obtain ⟨m, rfl⟩ : ∃ q, m = q + 1 := ⟨m - 1, by omega⟩
    rw [L_X0_strike_11_u, nmq, nI_pred, if_neg (nI_ge (by omega) (by omega)), nmq, nI_1, rd_nI (by omega) (by decide), wrt_nI (by omega) (by decide), nmq, rd_nI (by omega) (by decide), wrt_nI (by omega) (by decide), nmq]
    have e3 : t3 (i + 1) = K (i + 1) := by rw [h4, if_neg (by omega)]
    have e4 : t4 (i + 1) = Y (i + 1) := by rw [h5, if_neg (by omega)]
    rw [e3, e4]
    refine ih (i + 1) m _ _ (by omega) (by omega) (by omega) (fun j => ?_) (fun j => ?_)
    · by_cases h : j = i
      · subst h; rw [pk_us, if_pos ⟨h3, by omega⟩]
      · rw [pk_un h, h4]
        by_cases h6 : t ≤ j ∧ j < i
        · rw [if_pos h6, if_pos ⟨h6.1, by omega⟩]
        · rw [if_neg h6, if_neg (fun h7 => h6 ⟨h7.1, by omega⟩)]
    · by_cases h : j = i
      · subst h; rw [pk_us, if_pos ⟨h3, by omega⟩]
      · rw [pk_un h, h5]
        by_cases h6 : t ≤ j ∧ j < i
        · rw [if_pos h6, if_pos ⟨h6.1, by omega⟩]
        · rw [if_neg h6, if_neg (fun h7 => h6 ⟨h7.1, by omega⟩)]
theorem strike_s {n0 n t : Nat} {K Y : Nat → Int32} (hn0 : 2000000 ≤ n0) (hn : n < 10) (ht : t ≤ n) : ∃ K' Y' : Nat → Int32, (∀ j : Nat, K' j = if t ≤ j ∧ j < n then K (j + 1) else K j) ∧ (∀ j : Nat, Y' j = if t ≤ j ∧ j < n then Y (j + 1) else Y j) ∧ F_X0_strike n0 (nI (n + 1)) K Y (nI t) = some (nI n, K', Y') := by
  obtain ⟨K', Y', a1, a2, a3⟩ := sk_r (K := K) (Y := Y) (t := t) hn (n - t) t n0 K Y (by omega) (by omega) (Nat.le_refl t) (fun j => by rw [if_neg (by omega)]) (fun j => by rw [if_neg (by omega)])
  refine ⟨K', Y', a1, a2, ?_⟩
  unfold F_X0_strike
  rw [has_t (N := n + 1) (by omega) (isT_of (by omega) (by omega)), bd1_k, one0]
  exact a3
theorem cl_r {n0 N : Nat} {hears : Nat → Int32} {H : Nat → Option Nat} (hn : 2000000 ≤ n0) (hN : N ≤ 10) (hh : HR N hears H) : ∀ (k i n a : Nat), i + k = N → k < n → L_X1_countLined_4 (nI N) n0 hears n (nI a) (nI i) = some (nI (cntF (lnB H N) k i a)) := by
  intro k
  induction k with
  | zero =>
    intro i n a h1 h2
    obtain ⟨n, rfl⟩ : ∃ q, n = q + 1 := ⟨n - 1, by omega⟩
    rw [L_X1_countLined_4_u, if_pos (nI_le (by omega) (by omega))]
    rfl
  | succ k ih =>
    intro i n a h1 h2
    obtain ⟨n, rfl⟩ : ∃ q, n = q + 1 := ⟨n - 1, by omega⟩
    rw [L_X1_countLined_4_u, if_neg (nI_ge (by omega) (by omega)), line_s hn hN hh (by omega), bd1_k, cnt_s]
    by_cases h : lineF H (N + 1) (some i) 0 < 0
    · rw [if_pos h, nmq, nI_1, show lnB H N i = false from by unfold lnB; rw [decide_eq_true h]; rfl]
      exact ih (i + 1) n a (by omega) (by omega)
    · rw [if_neg h, nmq, nmq, nI_1, nI_1, show lnB H N i = true from by unfold lnB; rw [decide_eq_false h]; rfl]
      exact ih (i + 1) n (a + 1) (by omega) (by omega)
theorem cl_s {n0 N : Nat} {hears : Nat → Int32} {H : Nat → Option Nat} (hn : 2000000 ≤ n0) (hN : N ≤ 10) (hh : HR N hears H) : F_X1_countLined n0 (nI N) hears = some (nI (cntF (lnB H N) N 0 0)) := by
  unfold F_X1_countLined
  have := cl_r hn hN hh N 0 n0 0 (by omega) (by omega)
  rw [nI_0] at this
  exact this
theorem kt_r {n0 N w br : Nat} {kinds yards spots d : Nat → Int32} {said c day z : Int32} (hn : 2000000 ≤ n0) (hN : N ≤ 10) (hw : w < 12) (hbr : br < 12) (hC : CR kinds yards spots (nI N) said (nI w) (nI br) c day z d) : ∀ (k i n : Nat) (b : Option Nat) (t4 t5 t6 t7 t8 t9 : Nat → Int32) (u10 u11 u12 u13 u14 u15 u16 : Int32), i + k = N → k < n → okB i b → ∃ (o1 o2 o3 o4 o5 o6 : Nat → Int32) (v1 v2 v3 v4 v5 v6 v7 : Int32), L_X4_keyTent_7 (nI N) n0 said (nI w) (nI br) c day z kinds spots yards n (cod b) (bgN (kyN kinds (GG w br c yards) N) b) (nI i) t4 t5 t6 t7 t8 t9 u10 u11 u12 u13 u14 u15 u16 = some (cod (nearF (kyN kinds (GG w br c yards) N) sk0 k i b), v1, v2, v3, v4, v5, v6, v7, o1, o2, o3, o4, o5, o6) := by
  obtain ⟨hct, hYa, _, _, _, _, _, _⟩ := CR_parts hN hC
  intro k
  induction k with
  | zero =>
    intro i n b t4 t5 t6 t7 t8 t9 u10 u11 u12 u13 u14 u15 u16 h1 h2 hb
    obtain ⟨n, rfl⟩ : ∃ q, n = q + 1 := ⟨n - 1, by omega⟩
    rw [L_X4_keyTent_7_u, if_pos (nI_le (by omega) (by omega))]
    exact ⟨_, _, _, _, _, _, _, _, _, _, _, _, _, rfl⟩
  | succ k ih =>
    intro i n b t4 t5 t6 t7 t8 t9 u10 u11 u12 u13 u14 u15 u16 h1 h2 hb
    obtain ⟨n, rfl⟩ : ∃ q, n = q + 1 := ⟨n - 1, by omega⟩
    obtain ⟨m, rfl⟩ : ∃ m, N = m + 1 := ⟨N - 1, by omega⟩
    have hb' : okB (i + 1) b := okB_mono (by omega) hb
    obtain ⟨K', Y', s1, s2, s3⟩ := strike_s (K := va_cpy kinds t7 0 0 10) (Y := va_cpy yards t9 0 0 10) (t := i) hn (show m < 10 by omega) (by omega)
    have hK : ∀ j : Nat, j < m → K' j = kinds (phi i j) := fun j hj => by
      rw [s1]
      by_cases h : j < i
      · rw [if_neg (by omega), phi_lo h, cpy10 (by omega)]
      · rw [if_pos ⟨by omega, hj⟩, phi_hi (by omega), cpy10 (by omega)]
    have hYm : ∀ j : Nat, j < m → Y' j = yards (phi i j) := fun j hj => by
      rw [s2]
      by_cases h : j < i
      · rw [if_neg (by omega), phi_lo h, cpy10 (by omega)]
      · rw [if_pos ⟨by omega, hj⟩, phi_hi (by omega), cpy10 (by omega)]
    have hYo : yrdOK Y' := fun j hj => by
      rw [s2]
      by_cases h : i ≤ j ∧ j < m
      · rw [if_pos h, cpy10 (by omega)]; exact hYa (j + 1) (by omega)
      · rw [if_neg h, cpy10 hj]; exact hYa j hj
    obtain ⟨g', h', n', a1, a2, a3, a4⟩ := listen_H (N := m) (w := w) (br := br) (kinds := K') (gaps := t4) (hears := t5) (near := t6) hn (by omega) hct hw hbr hYo
    have hkey : cntF (lnB (hO K' (GG w br c Y') sk0 m) m) m 0 0 = kyN kinds (GG w br c yards) (m + 1) i := ky_eq (by omega) (by omega) hK (fun a o ha ho => by
      unfold GG yN
      rw [hYm a ha, hYm o ho])
    have l1 := ky_lt (kinds := kinds) (G := GG w br c yards) (t := i) hN
    rw [L_X4_keyTent_7_u, if_neg (nI_ge (by omega) (by omega)), become_s hct]
    simp only [bd10]
    rw [s3, bd3_k, a1, bd3_k, cl_s hn (by omega) a3, bd1_k, hkey]
    unfold nearF
    rw [if_neg (show ¬ sk0 i = true from Bool.false_ne_true)]
    cases b with
    | none =>
      rw [if_neg (show ¬ bgN (kyN kinds (GG w br c yards) (m + 1)) none ≤ nI (kyN kinds (GG w br c yards) (m + 1) i) from nI_ge (b := 1000000) (by omega) (by decide)), nmq, nI_1]
      exact ih (i + 1) n (some i) _ _ _ _ _ _ _ _ _ _ _ _ _ (by omega) (by omega) (Nat.lt_succ_self i)
    | some o =>
      have l2 := ky_lt (kinds := kinds) (G := GG w br c yards) (t := o) hN
      simp only []
      by_cases h5 : kyN kinds (GG w br c yards) (m + 1) o ≤ kyN kinds (GG w br c yards) (m + 1) i
      · rw [if_pos h5, if_pos (show bgN (kyN kinds (GG w br c yards) (m + 1)) (some o) ≤ nI (kyN kinds (GG w br c yards) (m + 1) i) from nI_le h5 (by omega)), nmq, nI_1]
        exact ih (i + 1) n (some o) _ _ _ _ _ _ _ _ _ _ _ _ _ (by omega) (by omega) hb'
      · rw [if_neg h5, if_neg (show ¬ bgN (kyN kinds (GG w br c yards) (m + 1)) (some o) ≤ nI (kyN kinds (GG w br c yards) (m + 1) i) from nI_ge (Nat.lt_of_not_le h5) (by omega)), nmq, nI_1]
        exact ih (i + 1) n (some i) _ _ _ _ _ _ _ _ _ _ _ _ _ (by omega) (by omega) (Nat.lt_succ_self i)
/-! the reference -/
def bg0 (g : Nat → Nat) : Option Nat → Int32
  | none => 0
  | some o => nI (g o)
def kyE (kk : Int32 → Int32 → Int32 → (Nat → Int32) → (Nat → Int32) → Int32 → Option (Int32 × Int32 × (Nat → Int32) × (Nat → Int32) × (Nat → Int32))) (s1 s2 s3 x : Int32) (g12 g11 : Nat → Int32) : Option (Int32 × Int32 × (Nat → Int32) × (Nat → Int32) × (Nat → Int32)) := if s1 = -1 then kk s3 x (s3 + 1) g12 g11 s3 else if s2 ≤ x then kk s1 s2 (s3 + 1) g12 g11 s3 else kk s3 x (s3 + 1) g12 g11 s3
theorem mk_i {n0 N t : Nat} {d g12 g11 : Nat → Int32} {H : Nat → Option Nat} {s1 s2 : Int32} {kk : Int32 → Int32 → Int32 → (Nat → Int32) → (Nat → Int32) → Int32 → Option (Int32 × Int32 × (Nat → Int32) × (Nat → Int32) × (Nat → Int32))} (hn : 2000000 ≤ n0) (hN : N ≤ 10) (hd : d 0 = nI N) (hh : HR N g12 H) (ht : t < N) : ∀ (k o n a : Nat), o + k = N → k < n → L_X7_key_38 d s1 (nI t) kk g12 g11 s2 n0 n (nI a) (nI o) = kyE kk s1 s2 (nI t) (nI (cntF (fun o => !decide (o = t) && lnB H N o) k o a)) g12 g11 := by
  intro k
  induction k with
  | zero =>
    intro o n a h1 h2
    obtain ⟨n, rfl⟩ : ∃ q, n = q + 1 := ⟨n - 1, by omega⟩
    rw [L_X7_key_38_u, rd_l 0 l0 (by decide) (by decide), hd, if_pos (nI_le (by omega) (by omega)), nmq, nmq]
    rfl
  | succ k ih =>
    intro o n a h1 h2
    obtain ⟨n, rfl⟩ : ∃ q, n = q + 1 := ⟨n - 1, by omega⟩
    rw [L_X7_key_38_u, rd_l 0 l0 (by decide) (by decide), hd, if_neg (nI_ge (by omega) (by omega)), cnt_s]
    by_cases h : o = t
    · rw [if_pos (show nI o = nI t from by rw [h]), nmq, nmq, Int32.add_zero, nI_1, decide_eq_true h]
      exact ih (o + 1) n a (by omega) (by omega)
    · rw [if_neg (show ¬ nI o = nI t from fun e => h ((nI_eq (by omega) (by omega)).mp e)), mline_s hn hN hh (by omega), bd1_k, decide_eq_false h]
      by_cases h3 : lineF H (N + 1) (some o) 0 < 0
      · rw [if_pos h3, nmq, nmq, Int32.add_zero, nI_1, show lnB H N o = false from by unfold lnB; rw [decide_eq_true h3]; rfl]
        exact ih (o + 1) n a (by omega) (by omega)
      · rw [if_neg h3, nmq, nmq, nI_1, nI_1, show lnB H N o = true from by unfold lnB; rw [decide_eq_false h3]; rfl]
        exact ih (o + 1) n (a + 1) (by omega) (by omega)
def keR (found g1 g2 : Nat → Int32) (b : Option Nat) : Option (Int32 × Int32 × (Nat → Int32) × (Nat → Int32) × (Nat → Int32)) := if cod b = -1 then some (-1000004, -1, upd found 3 (found 3 + 1), g1, g2) else some (cod b, -1, found, g1, g2)
theorem mk_r {n0 N w br : Nat} {kinds yards spots d found : Nat → Int32} {said c day z : Int32} (hn : 2000000 ≤ n0) (hN : N ≤ 10) (hw : w < 12) (hbr : br < 12) (hC : CR kinds yards spots (nI N) said (nI w) (nI br) c day z d) : ∀ (k i n : Nat) (b : Option Nat) (mh mn : Nat → Int32) (u : Int32), i + k = N → k < n → okB i b → ∃ mh' mn' : Nat → Int32, L_X7_key_6 d n0 found n (cod b) (bg0 (kyN kinds (GG w br c yards) N) b) (nI i) mh mn u = keR found mh' mn' (nearF (kyN kinds (GG w br c yards) N) sk0 k i b) := by
  obtain ⟨hd0, _, _⟩ := CR_N hN hC
  obtain ⟨N', w', br', hN', e1, e2, e3, hM, hk⟩ := MC_of hC
  have e : N = N' := (nI_eq (by omega) (by omega)).mp e1
  have ew : w = w' := (nI_eq (by omega) (by have := hM.2.2.2.2.2.2.1; omega)).mp e2
  have eb : br = br' := (nI_eq (by omega) (by have := hM.2.2.2.2.2.2.2.1; omega)).mp e3
  subst e
  subst ew
  subst eb
  intro k
  induction k with
  | zero =>
    intro i n b mh mn u h1 h2 hb
    obtain ⟨n, rfl⟩ : ∃ q, n = q + 1 := ⟨n - 1, by omega⟩
    rw [L_X7_key_6_u, rd_l 0 l0 (by decide) (by decide), hd0, if_pos (nI_le (by omega) (by omega))]
    exact ⟨mh, mn, rfl⟩
  | succ k ih =>
    intro i n b mh mn u h1 h2 hb
    obtain ⟨n, rfl⟩ : ∃ q, n = q + 1 := ⟨n - 1, by omega⟩
    have hb' : okB (i + 1) b := okB_mono (by omega) hb
    obtain ⟨h', n', a1, a2⟩ := mlisten_s (gone := nI i) (hears := mh) (near := mn) hn hM hk
    have hHR : HR N (upd h' i (-1)) (kyH kinds (GG w br c yards) N i) := fun j hj => by
      refine ⟨?_, kyH_ok j hj⟩
      unfold kyH
      by_cases h : j = i
      · rw [if_pos h, h, pk_us]; rfl
      · rw [if_neg h, pk_un h, (a2 j hj).1, hrS_O]; rfl
    have l1 := ky_lt (kinds := kinds) (G := GG w br c yards) (t := i) hN
    have hin := mk_i (g11 := n') (s1 := cod b) (s2 := bg0 (kyN kinds (GG w br c yards) N) b) (kk := L_X7_key_6 d n0 found n) hn hN hd0 hHR (t := i) (by omega) N 0 n0 0 (by omega) (by omega)
    rw [nI_0] at hin
    rw [L_X7_key_6_u, rd_l 0 l0 (by decide) (by decide), hd0, if_neg (nI_ge (by omega) (by omega)), a1, bd2_k, wrt_nI (by omega) (by decide), hin]
    unfold nearF
    rw [if_neg (show ¬ sk0 i = true from Bool.false_ne_true), show cntF (fun o => !decide (o = i) && lnB (kyH kinds (GG w br c yards) N i) N o) N 0 0 = kyN kinds (GG w br c yards) N i from rfl]
    unfold kyE
    rw [nI_1]
    cases b with
    | none =>
      rw [if_pos (show cod none = -1 from rfl)]
      exact ih (i + 1) n (some i) _ _ _ (by omega) (by omega) (Nat.lt_succ_self i)
    | some o =>
      have ho : o < i := hb
      have l2 := ky_lt (kinds := kinds) (G := GG w br c yards) (t := o) hN
      rw [if_neg (cod_m1 (by omega))]
      simp only []
      by_cases h5 : kyN kinds (GG w br c yards) N o ≤ kyN kinds (GG w br c yards) N i
      · rw [if_pos h5, if_pos (show bg0 (kyN kinds (GG w br c yards) N) (some o) ≤ nI (kyN kinds (GG w br c yards) N i) from nI_le h5 (by omega))]
        exact ih (i + 1) n (some o) _ _ _ (by omega) (by omega) hb'
      · rw [if_neg h5, if_neg (show ¬ bg0 (kyN kinds (GG w br c yards) N) (some o) ≤ nI (kyN kinds (GG w br c yards) N i) from nI_ge (Nat.lt_of_not_le h5) (by omega))]
        exact ih (i + 1) n (some i) _ _ _ (by omega) (by omega) (Nat.lt_succ_self i)
theorem near_some {g : Nat → Nat} : ∀ (k i : Nat) (b : Option Nat), (0 < k ∨ b ≠ none) → nearF g sk0 k i b ≠ none := by
  intro k
  induction k with
  | zero => intro i b h; exact h.elim (fun h => absurd h (Nat.lt_irrefl 0)) id
  | succ k ih =>
    intro i b _
    unfold nearF
    apply ih
    refine Or.inr ?_
    rw [if_neg (show ¬ sk0 i = true from Bool.false_ne_true)]
    cases b with
    | none => exact fun h => by cases h
    | some o =>
      show (if g o ≤ g i then some o else some i) ≠ none
      split
      · exact fun h => by cases h
      · exact fun h => by cases h
theorem st_key {n0 : Nat} (hn : 2000000 ≤ n0) : St_key n0 := by
  intro xv_isKept xf_found xv_camp_tents xv_camp_said xv_camp_wall xv_camp_bridge xv_camp_counted xv_camp_day xv_camp_z xf_camp_kinds xf_camp_yards xf_camp_spots xv_kept_tents xv_kept_said xv_kept_wall xv_kept_bridge xv_kept_counted xv_kept_day xv_kept_z xf_kept_kinds xf_kept_yards xf_kept_spots xv_trials_trial_tents xv_trials_trial_said xv_trials_trial_wall xv_trials_trial_bridge xv_trials_trial_counted xv_trials_trial_day xv_trials_trial_z xf_trials_trial_kinds xf_trials_trial_yards xf_trials_trial_spots xf_trials_ears_hears xf_trials_ears_near xf_trials_ears_gaps xv_tape_size xf_tape_bytes xv_sheets_0_bits xv_sheets_0_size xf_sheets_0_numbers xv_sheets_1_bits xv_sheets_1_size xf_sheets_1_numbers xv_sheets_2_bits xv_sheets_2_size xf_sheets_2_numbers xv_sheets_3_bits xv_sheets_3_size xf_sheets_3_numbers mv_isKept mv_taped mv_gone mf_d mf_kept mf_found mf_tape mf_hears mf_near mf_bitsOf mf_sizeOf mf_number hI
  obtain ⟨hC, hK1, hK2, hK3, hF, hT, hS0, hS1, hS2, hS3, hG⟩ := hI
  have hC0 := hC
  obtain ⟨N, hN, h0, hd0, hd1, hd2, hd3, hd4, hd5, hd6, hct, hwl, hbr, hdy, hsa, hA, hKi, hYa, hSp⟩ := hC
  obtain ⟨w, hw1, hw2⟩ := hwl
  obtain ⟨br, hb1, hb2⟩ := hbr
  have hC1 := hC0
  rw [h0, hw2, hb2] at hC1
  obtain ⟨mh', mn', e2⟩ := mk_r (found := mf_found) hn hN hw1 hb1 hC1 N 0 n0 none mf_hears mf_near mv_gone (by omega) (by omega) trivial
  rw [nI_0] at e2
  have hm1 : F_X7_key n0 mv_gone mf_d mf_found mf_hears mf_near = keR mf_found mh' mn' (nearF (kyN xf_camp_kinds (GG w br xv_camp_counted xf_camp_yards) N) sk0 N 0 none) := e2
  by_cases hz : N = 0
  · subst hz
    have hx : F_X6_key n0 xv_camp_tents xv_camp_said xv_camp_wall xv_camp_bridge xv_camp_counted xv_camp_day xv_camp_z xf_found xf_camp_kinds xf_camp_spots xf_camp_yards xv_trials_trial_tents xv_trials_trial_said xv_trials_trial_wall xv_trials_trial_bridge xv_trials_trial_counted xv_trials_trial_day xv_trials_trial_z xf_trials_ears_gaps xf_trials_ears_hears xf_trials_ears_near xf_trials_trial_kinds xf_trials_trial_spots xf_trials_trial_yards = some (-1000004, upd xf_found 3 (xf_found 3 + 1), xv_trials_trial_tents, xv_trials_trial_said, xv_trials_trial_wall, xv_trials_trial_bridge, xv_trials_trial_counted, xv_trials_trial_day, xv_trials_trial_z, xf_trials_ears_gaps, xf_trials_ears_hears, xf_trials_ears_near, xf_trials_trial_kinds, xf_trials_trial_spots, xf_trials_trial_yards) := by
      unfold F_X6_key
      rw [h0, if_pos (show nI 0 = 0 from rfl)]
      rfl
    have hm : F_X7_key n0 mv_gone mf_d mf_found mf_hears mf_near = some (-1000004, -1, upd mf_found 3 (mf_found 3 + 1), mh', mn') := hm1
    exact ⟨_, _, _, _, _, _, _, _, _, _, _, _, _, _, _, _, _, _, _, hx, hm, hC0, hK1, hK2, hK3, fnd_u hF 3 (by decide), hT, hS0, hS1, hS2, hS3, rfl⟩
  · obtain ⟨o1, o2, o3, o4, o5, o6, v1, v2, v3, v4, v5, v6, v7, e1⟩ := kt_r hn hN hw1 hb1 hC1 N 0 n0 none xf_trials_ears_gaps xf_trials_ears_hears xf_trials_ears_near xf_trials_trial_kinds xf_trials_trial_spots xf_trials_trial_yards xv_trials_trial_bridge xv_trials_trial_counted xv_trials_trial_day xv_trials_trial_said xv_trials_trial_tents xv_trials_trial_wall xv_trials_trial_z (by omega) (by omega) trivial
    rw [nI_0] at e1
    have hso := near_some (g := kyN xf_camp_kinds (GG w br xv_camp_counted xf_camp_yards) N) N 0 none (Or.inl (by omega))
    have hok := nearF_ok (kyN xf_camp_kinds (GG w br xv_camp_counted xf_camp_yards) N) sk0 N 0 none trivial
    cases hq : nearF (kyN xf_camp_kinds (GG w br xv_camp_counted xf_camp_yards) N) sk0 N 0 none with
    | none => exact absurd hq hso
    | some o =>
      rw [hq] at hok e1 hm1
      have ho : o < 10 := by
        have h9 : o < 0 + N := hok
        omega
      have hx : F_X6_key n0 xv_camp_tents xv_camp_said xv_camp_wall xv_camp_bridge xv_camp_counted xv_camp_day xv_camp_z xf_found xf_camp_kinds xf_camp_spots xf_camp_yards xv_trials_trial_tents xv_trials_trial_said xv_trials_trial_wall xv_trials_trial_bridge xv_trials_trial_counted xv_trials_trial_day xv_trials_trial_z xf_trials_ears_gaps xf_trials_ears_hears xf_trials_ears_near xf_trials_trial_kinds xf_trials_trial_spots xf_trials_trial_yards = some (nI o, xf_found, v1, v2, v3, v4, v5, v6, v7, o1, o2, o3, o4, o5, o6) := by
        unfold F_X6_key
        rw [h0, hw2, hb2, if_neg (fun h => hz ((nI_z hN).mp h))]
        unfold F_X4_keyTent
        have e1' : L_X4_keyTent_7 (nI N) n0 xv_camp_said (nI w) (nI br) xv_camp_counted xv_camp_day xv_camp_z xf_camp_kinds xf_camp_spots xf_camp_yards n0 (-1) 1000000 0 xf_trials_ears_gaps xf_trials_ears_hears xf_trials_ears_near xf_trials_trial_kinds xf_trials_trial_spots xf_trials_trial_yards xv_trials_trial_bridge xv_trials_trial_counted xv_trials_trial_day xv_trials_trial_said xv_trials_trial_tents xv_trials_trial_wall xv_trials_trial_z = some (nI o, v1, v2, v3, v4, v5, v6, v7, o1, o2, o3, o4, o5, o6) := e1
        rw [e1']
        rfl
      have hm : F_X7_key n0 mv_gone mf_d mf_found mf_hears mf_near = some (nI o, -1, mf_found, mh', mn') := by
        rw [hm1]
        unfold keR
        rw [if_neg (cod_m1 ho)]
        rfl
      exact ⟨_, _, _, _, _, _, _, _, _, _, _, _, _, _, _, _, _, _, _, hx, hm, hC0, hK1, hK2, hK3, hF, hT, hS0, hS1, hS2, hS3, rfl⟩
