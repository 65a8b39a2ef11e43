/-! what will be said -/
def btI (s x : Int32) : Int32 := (s >>> (x &&& 31)) &&& 1
def wS (kinds hears near : Nat → Int32) (s : Int32) (t : Nat) : Int32 :=
  if kinds t = 2 then 1 else if kinds t = 3 then btI s (nI t) else if hears t = -1 then btI s (nI t) else
  if kinds t = 5 then 1 - btI s (hears t) else if kinds t = 6 then 1 - btI s (hears t) else
  if kinds t = 4 then (if near t = -1 then btI s (hears t) else if btI s (near t) = btI s (hears t) then btI s (hears t) else btI s (nI t)) else btI s (hears t)
theorem will_s {n0 t : Nat} {kinds hears near : Nat → Int32} {s : Int32} (ht : t < 10) : F_X1_willSay n0 hears near kinds (nI t) s = some (wS kinds hears near s t) := by
  unfold F_X1_willSay wS
  simp only [nm]
  rw [rd_nI ht (by decide)]
  by_cases q2 : kinds t = 2
  · rw [if_pos q2, if_pos q2]
  rw [if_neg q2, if_neg q2]
  by_cases q3 : kinds t = 3
  · rw [if_pos q3, if_pos q3]; rfl
  rw [if_neg q3, if_neg q3, rd_nI ht (by decide)]
  by_cases qh : hears t = -1
  · rw [if_pos qh, if_pos qh]; rfl
  rw [if_neg qh, if_neg qh, rd_nI ht (by decide)]
  by_cases q5 : kinds t = 5
  · rw [if_pos q5, if_pos q5]; rfl
  rw [if_neg q5, if_neg q5]
  by_cases q6 : kinds t = 6
  · rw [if_pos q6, if_pos q6]; rfl
  rw [if_neg q6, if_neg q6]
  by_cases q4 : kinds t = 4
  · rw [if_pos q4, if_pos q4, rd_nI ht (by decide)]
    by_cases qn : near t = -1
    · rw [if_pos qn, if_pos qn]; rfl
    · rw [if_neg qn, if_neg qn, rd_nI ht (by decide)]
      by_cases qe : btI s (near t) = btI s (hears t)
      · rw [if_pos qe]
        exact if_pos qe
      · rw [if_neg qe]
        exact if_neg qe
  · rw [if_neg q4, if_neg q4]; rfl
theorem mwill_s {n0 t : Nat} {d kinds hears near : Nat → Int32} {s : Int32} (ht : t < 10) (hk : d (10 + t) = kinds t) : F_X7_willSay n0 d hears near (nI t) s = some (wS kinds hears near s t) := by
  have key : ∀ q : Int32, J_X7_willSay_30 n0 d (nI t) (btI s (nI t)) near q s hears = (if kinds t = 2 then some 1 else if kinds t = 3 then some (btI s (nI t)) else if kinds t = 4 then (if near t = -1 then some q else if btI s (near t) = q then some q else some (btI s (nI t))) else if kinds t = 5 ∨ kinds t = 6 then (if hears t = -1 then some (btI s (nI t)) else some (1 - q)) else some q) := by
    intro q
    unfold J_X7_willSay_30 J_X7_willSay_108
    rw [mKd ht, hk]
    simp only [bd1, nm]
    by_cases q2 : kinds t = 2
    · rw [if_pos q2, if_pos q2]
    rw [if_neg q2, if_neg q2]
    by_cases q3 : kinds t = 3
    · rw [if_pos q3, if_pos q3]
    rw [if_neg q3, if_neg q3]
    by_cases q4 : kinds t = 4
    · rw [if_pos q4, if_pos q4, rd_nI ht (by decide)]
      by_cases qn : near t = -1
      · rw [if_pos qn, if_pos qn]
      · rw [if_neg qn, if_neg qn, rd_nI ht (by decide)]
        rfl
    rw [if_neg q4, if_neg q4]
    by_cases q5 : kinds t = 5
    · rw [if_pos q5, if_pos (Or.inl q5), rd_nI ht (by decide)]
    rw [if_neg q5]
    by_cases q6 : kinds t = 6
    · rw [if_pos q6, if_pos (Or.inr q6), rd_nI ht (by decide)]
    rw [if_neg q6, if_neg (fun h => h.elim q5 q6)]
  unfold F_X7_willSay
  simp only [nm]
  rw [rd_nI ht (by decide)]
  unfold wS
  by_cases qh : hears t = -1
  · rw [if_pos qh]
    have e := key (btI s (nI t))
    rw [show ((s >>> (nI t &&& 31)) &&& 1) = btI s (nI t) from rfl, e]
    by_cases q2 : kinds t = 2
    · rw [if_pos q2, if_pos q2]
    rw [if_neg q2, if_neg q2]
    by_cases q3 : kinds t = 3
    · rw [if_pos q3, if_pos q3]
    rw [if_neg q3, if_neg q3, if_pos qh]
    by_cases q4 : kinds t = 4
    · rw [if_pos q4]
      by_cases qn : near t = -1
      · rw [if_pos qn, if_pos qh]
      · rw [if_neg qn]
        by_cases qe : btI s (near t) = btI s (nI t)
        · rw [if_pos qe, if_pos qh]
        · rw [if_neg qe, if_pos qh]
    rw [if_neg q4]
    by_cases q56 : kinds t = 5 ∨ kinds t = 6
    · rw [if_pos q56, if_pos qh]
    · rw [if_neg q56, if_pos qh]
  · rw [if_neg qh, rd_nI ht (by decide)]
    have e := key (btI s (hears t))
    rw [show ((s >>> (nI t &&& 31)) &&& 1) = btI s (nI t) from rfl, show ((s >>> (hears t &&& 31)) &&& 1) = btI s (hears t) from rfl, e]
    by_cases q2 : kinds t = 2
    · rw [if_pos q2, if_pos q2]
    rw [if_neg q2, if_neg q2]
    by_cases q3 : kinds t = 3
    · rw [if_pos q3, if_pos q3]
    rw [if_neg q3, if_neg q3, if_neg qh, if_neg qh]
    by_cases q4 : kinds t = 4
    · rw [if_pos q4, if_neg (show ¬ kinds t = 5 from by rw [q4]; decide), if_neg (show ¬ kinds t = 6 from by rw [q4]; decide), if_pos q4]
      by_cases qn : near t = -1
      · rw [if_pos qn, if_pos qn]
      · rw [if_neg qn, if_neg qn]
        by_cases qe : btI s (near t) = btI s (hears t)
        · rw [if_pos qe, if_pos qe]
        · rw [if_neg qe, if_neg qe]
    rw [if_neg q4]
    by_cases q5 : kinds t = 5
    · rw [if_pos (Or.inl q5), if_pos q5]
    by_cases q6 : kinds t = 6
    · rw [if_pos (Or.inr q6), if_neg q5, if_pos q6]
    rw [if_neg (show ¬ (kinds t = 5 ∨ kinds t = 6) from fun h => h.elim q5 q6), if_neg q5, if_neg q6, if_neg q4]
theorem wS_congr {kinds h1 n1 h2 n2 : Nat → Int32} {s : Int32} {t : Nat} (hh : h1 t = h2 t) (hn : n1 t = n2 t) : wS kinds h1 n1 s t = wS kinds h2 n2 s t := by
  unfold wS
  rw [hh, hn]
theorem bt_01 (s x : Int32) : btI s x = 0 ∨ btI s x = 1 := by
  obtain ⟨j, hj, e⟩ := pk_andE (s >>> (x &&& 31)) (m := 1) 1 (by decide)
  unfold btI
  rw [e]
  rcases (show j = 0 ∨ j = 1 by omega) with rfl | rfl
  · exact Or.inl rfl
  · exact Or.inr rfl
theorem sub_01 {v : Int32} (h : v = 0 ∨ v = 1) : 1 - v = 0 ∨ 1 - v = 1 := by
  rcases h with rfl | rfl
  · exact Or.inr rfl
  · exact Or.inl rfl
theorem wS_01 (kinds hears near : Nat → Int32) (s : Int32) (t : Nat) : wS kinds hears near s t = 0 ∨ wS kinds hears near s t = 1 := by
  unfold wS
  split
  · exact Or.inr rfl
  split
  · exact bt_01 _ _
  split
  · exact bt_01 _ _
  split
  · exact sub_01 (bt_01 _ _)
  split
  · exact sub_01 (bt_01 _ _)
  split
  · split
    · exact bt_01 _ _
    split
    · exact bt_01 _ _
    · exact bt_01 _ _
  · exact bt_01 _ _
/-- the bits of k tents from i on -/
def bitsF (w : Nat → Int32) : Nat → Nat → Int32 → Int32
  | 0, _, a => a
  | k + 1, i, a => bitsF w k (i + 1) (a ||| (w i <<< (nI i &&& 31)))
theorem bitsF_congr {w1 w2 : Nat → Int32} : ∀ (k i : Nat) (a : Int32), (∀ j : Nat, i ≤ j → j < i + k → w1 j = w2 j) → bitsF w1 k i a = bitsF w2 k i a := by
  intro k
  induction k with
  | zero => intro i a _; rfl
  | succ k ih =>
    intro i a h
    unfold bitsF
    rw [h i (by omega) (by omega)]
    exact ih (i + 1) _ (fun j h1 h2 => h j (by omega) (by omega))
theorem bitsF_rg {w : Nat → Int32} (hw : ∀ t, w t = 0 ∨ w t = 1) : ∀ (k i m : Nat), i + k ≤ 10 → m < 2 ^ i → ∃ m' : Nat, m' < 2 ^ (i + k) ∧ bitsF w k i (nI m) = nI m' := by
  intro k
  induction k with
  | zero => intro i m _ h; exact ⟨m, h, rfl⟩
  | succ k ih =>
    intro i m h1 h2
    unfold bitsF
    have e : i + (k + 1) = i + 1 + k := by omega
    rw [e]
    rcases hw i with h | h
    · rw [h, Int32.zero_shiftLeft, Int32.or_zero]
      exact ih (i + 1) m (by omega) (by rw [Nat.pow_succ]; omega)
    · obtain ⟨m', a1, a2⟩ := set_rg (N := i + 1) (m := m) (t := i) (by omega) (by rw [Nat.pow_succ]; omega) (by omega)
      rw [h]
      have e2 : nI m ||| ((1 : Int32) <<< (nI i &&& 31)) = nI m' := a2
      rw [e2]
      exact ih (i + 1) m' (by omega) a1
theorem next_r {n0 N : Nat} {kinds hears near : Nat → Int32} {s : Int32} (hN : N ≤ 10) : ∀ (k i n : Nat) (a : Int32), i + k = N → k < n → L_X1_nextSaid_4 (nI N) n0 hears near kinds s n a (nI i) = some (bitsF (wS kinds hears near s) k i a) := by
  intro k
  induction k with
  | zero =>
    intro i n a h1 h2
    obtain ⟨n, rfl⟩ : ∃ q, n = q + 1 := ⟨n - 1, by omega⟩
    rw [L_X1_nextSaid_4_u, if_pos (nI_le (by omega) (by omega))]
    rfl
  | succ k ih =>
    intro i n a h1 h2
    obtain ⟨n, rfl⟩ : ∃ q, n = q + 1 := ⟨n - 1, by omega⟩
    rw [L_X1_nextSaid_4_u, if_neg (nI_ge (by omega) (by omega)), will_s (by omega)]
    simp only [bd1, nm]
    rw [nI_1, ih (i + 1) n _ (by omega) (by omega)]
    rfl
theorem mnext_r {n0 N : Nat} {d kinds hears near : Nat → Int32} {s : Int32} (hN : N ≤ 10) (hd : d 0 = nI N) (hk : ∀ i : Nat, i < 10 → d (10 + i) = kinds i) : ∀ (k i n : Nat) (a : Int32), i + k = N → k < n → L_X7_nextOf_4 d n0 hears near s n a (nI i) = some (bitsF (wS kinds hears near s) k i a) := by
  intro k
  induction k with
  | zero =>
    intro i n a h1 h2
    obtain ⟨n, rfl⟩ : ∃ q, n = q + 1 := ⟨n - 1, by omega⟩
    rw [L_X7_nextOf_4_u, rd_l 0 l0 (by decide) (by decide), hd, if_pos (nI_le (by omega) (by omega))]
    rfl
  | succ k ih =>
    intro i n a h1 h2
    obtain ⟨n, rfl⟩ : ∃ q, n = q + 1 := ⟨n - 1, by omega⟩
    rw [L_X7_nextOf_4_u, rd_l 0 l0 (by decide) (by decide), hd, if_neg (nI_ge (by omega) (by omega)), mwill_s (by omega) (hk i (by omega))]
    simp only [bd1, nm]
    rw [nI_1, ih (i + 1) n _ (by omega) (by omega)]
    rfl
/-- what is said next, with those heard as in H, the nearest as in M -/
def nxS (kinds H M : Nat → Int32) (N : Nat) (s : Int32) : Int32 := bitsF (wS kinds H M s) N 0 0
theorem next_s {n0 N : Nat} {kinds hears near H M : Nat → Int32} {s : Int32} (hn : 2000000 ≤ n0) (hN : N ≤ 10) (hh : ∀ j : Nat, j < N → hears j = H j ∧ near j = M j) : F_X1_nextSaid n0 (nI N) hears near kinds s = some (nxS kinds H M N s) := by
  unfold F_X1_nextSaid
  rw [show (some (nxS kinds H M N s)) = some (bitsF (wS kinds hears near s) N 0 0) from congrArg some (bitsF_congr N 0 0 (fun j _ h => (wS_congr (hh j (by omega)).1 (hh j (by omega)).2).symm))]
  have := next_r (n0 := n0) (kinds := kinds) (hears := hears) (near := near) (s := s) hN N 0 n0 0 (by omega) (by omega)
  rw [nI_0] at this
  exact this
theorem mnext_s {n0 N : Nat} {d kinds hears near H M : Nat → Int32} {s : Int32} (hn : 2000000 ≤ n0) (hN : N ≤ 10) (hd : d 0 = nI N) (hk : ∀ i : Nat, i < 10 → d (10 + i) = kinds i) (hh : ∀ j : Nat, j < N → hears j = H j ∧ near j = M j) : F_X7_nextOf n0 d hears near s = some (nxS kinds H M N s) := by
  unfold F_X7_nextOf
  rw [show (some (nxS kinds H M N s)) = some (bitsF (wS kinds hears near s) N 0 0) from congrArg some (bitsF_congr N 0 0 (fun j _ h => (wS_congr (hh j (by omega)).1 (hh j (by omega)).2).symm))]
  have := mnext_r (n0 := n0) (kinds := kinds) (hears := hears) (near := near) (s := s) hN hd hk N 0 n0 0 (by omega) (by omega)
  rw [nI_0] at this
  exact this
theorem nxS_rg {kinds H M : Nat → Int32} {N : Nat} (hN : N ≤ 10) (s : Int32) : ∃ m : Nat, m < 2 ^ N ∧ nxS kinds H M N s = nI m := by
  obtain ⟨m, h1, h2⟩ := bitsF_rg (w := wS kinds H M s) (wS_01 kinds H M s) N 0 0 (by omega) (by decide)
  rw [Nat.zero_add] at h1
  exact ⟨m, h1, h2⟩
/-- days on -/
def itS (f : Int32 → Int32) : Nat → Int32 → Int32
  | 0, x => x
  | n + 1, x => itS f n (f x)
theorem itS_add (f : Int32 → Int32) : ∀ (a b : Nat) (x : Int32), itS f (a + b) x = itS f b (itS f a x) := by
  intro a
  induction a with
  | zero => intro b x; rw [Nat.zero_add]; rfl
  | succ a ih => intro b x; rw [Nat.succ_add]; exact ih b (f x)
theorem itS_succ (f : Int32 → Int32) (n : Nat) (x : Int32) : itS f (n + 1) x = f (itS f n x) := itS_add f n 1 x
theorem ahead_r {n0 N p : Nat} {d kinds hears near H M : Nat → Int32} (hn : 2000000 ≤ n0) (hN : N ≤ 10) (hd : d 0 = nI N) (hk : ∀ i : Nat, i < 10 → d (10 + i) = kinds i) (hh : ∀ j : Nat, j < N → hears j = H j ∧ near j = M j) (hp : p < 1000000) : ∀ (k i n : Nat) (s : Int32), i + k = p → k < n → L_X7_ahead_5 (nI p) n0 d hears near n s (nI i) = some (itS (nxS kinds H M N) k s) := by
  intro k
  induction k with
  | zero =>
    intro i n s h1 h2
    obtain ⟨n, rfl⟩ : ∃ q, n = q + 1 := ⟨n - 1, by omega⟩
    rw [L_X7_ahead_5_u, if_pos (nI_le (by omega) (by omega))]
    rfl
  | succ k ih =>
    intro i n s h1 h2
    obtain ⟨n, rfl⟩ : ∃ q, n = q + 1 := ⟨n - 1, by omega⟩
    rw [L_X7_ahead_5_u, if_neg (nI_ge (by omega) (by omega)), mnext_s hn hN hd hk hh]
    simp only [bd1, nm]
    rw [nI_1, ih (i + 1) n _ (by omega) (by omega)]
    rfl
theorem ahead_s {n0 N p : Nat} {d kinds hears near H M : Nat → Int32} {s : Int32} (hn : 2000000 ≤ n0) (hN : N ≤ 10) (hd : d 0 = nI N) (hk : ∀ i : Nat, i < 10 → d (10 + i) = kinds i) (hh : ∀ j : Nat, j < N → hears j = H j ∧ near j = M j) (hp : p < 1000000) : F_X7_ahead n0 d hears near s (nI p) = some (itS (nxS kinds H M N) p s) := by
  unfold F_X7_ahead
  have := ahead_r (kinds := kinds) hn hN hd hk hh hp p 0 n0 s (by omega) (by omega)
  rw [nI_0] at this
  exact this
