/-! days ahead: the class's marks, the reference's first days -/
theorem dvn_k {Ro : Type} {y v : Int32} {k : Int32 → Option Ro} (h : ¬ y = 0) : dvn y v k = k v := if_neg h
theorem it_mul {f : Int32 → Int32} {p : Nat} {x : Int32} (h : itS f p x = x) : ∀ q : Nat, itS f (p * q) x = x := by
  intro q
  induction q with
  | zero => rfl
  | succ q ih => rw [Nat.mul_succ, itS_add, ih, h]
theorem it_mod {f : Int32 → Int32} {p : Nat} {x : Int32} (h : itS f p x = x) (n : Nat) : itS f (n % p) x = itS f n x := by
  have e : itS f n x = itS f (p * (n / p) + n % p) x := by rw [Nat.div_add_mod]
  rw [e, itS_add, it_mul h]
theorem said_r {n0 N : Nat} {kinds hears near H M : Nat → Int32} (hn : 2000000 ≤ n0) (hN : N ≤ 10) (hh : ∀ j : Nat, j < N → hears j = H j ∧ near j = M j) : ∀ (L fu c left : Nat) (at0 mk sp : Int32), left ≤ L → left < fu → c + left ≤ 1000000 → itS (nxS kinds H M N) c mk = at0 → L_X1_saidAfter_14 n0 (nI N) hears near kinds fu at0 mk (nI c) sp (nI left) = some (itS (nxS kinds H M N) left at0) := by
  intro L
  induction L with
  | zero =>
    intro fu c left at0 mk sp h1 h2 h3 h4
    obtain ⟨fu, rfl⟩ : ∃ q, fu = q + 1 := ⟨fu - 1, by omega⟩
    have e : left = 0 := by omega
    subst e
    rw [L_X1_saidAfter_14_u, if_pos (show nI 0 ≤ 0 from by decide)]
    rfl
  | succ L ih =>
    intro fu c left at0 mk sp h1 h2 h3 h4
    obtain ⟨fu, rfl⟩ : ∃ q, fu = q + 1 := ⟨fu - 1, by omega⟩
    by_cases hl : left = 0
    · subst hl
      rw [L_X1_saidAfter_14_u, if_pos (show nI 0 ≤ 0 from by decide)]
      rfl
    · obtain ⟨l, rfl⟩ : ∃ q, left = q + 1 := ⟨left - 1, by omega⟩
      rw [L_X1_saidAfter_14_u, if_neg (nI_nle (by omega) (by omega)), next_s hn hN hh]
      simp only [bd1, nm]
      rw [pk_m1, nI_1]
      have hgo : itS (nxS kinds H M N) (l + 1) at0 = itS (nxS kinds H M N) l (nxS kinds H M N at0) := rfl
      have hst : itS (nxS kinds H M N) (c + 1) mk = nxS kinds H M N at0 := by rw [itS_succ, h4]
      by_cases he : nxS kinds H M N at0 = mk
      · rw [if_pos he]
        rw [dvn_k (nI_ne0 (by omega) (by omega)), pk_rem (by omega) (by omega) (by omega), hgo]
        have hper : itS (nxS kinds H M N) (c + 1) (nxS kinds H M N at0) = nxS kinds H M N at0 := by
          rw [he] at hst ⊢
          exact hst
        have hlt : l % (c + 1) ≤ l := Nat.mod_le _ _
        have hlt2 : l % (c + 1) < c + 1 := Nat.mod_lt _ (by omega)
        rw [ih fu (c + 1) (l % (c + 1)) _ mk sp (by omega) (by omega) (by omega) hst, it_mod hper]
      · rw [if_neg he, hgo]
        by_cases hs : nI (c + 1) < sp
        · rw [if_pos hs]
          exact ih fu (c + 1) l _ mk sp (by omega) (by omega) (by omega) hst
        · rw [if_neg hs]
          exact ih fu 0 l _ _ _ (by omega) (by omega) (by omega) rfl
theorem said_s {n0 N p : Nat} {kinds hears near H M : Nat → Int32} {s : Int32} (hn : 2000000 ≤ n0) (hN : N ≤ 10) (hh : ∀ j : Nat, j < N → hears j = H j ∧ near j = M j) (hp : p ≤ 999999) : F_X1_saidAfter n0 (nI N) hears near kinds s (nI p) = some (itS (nxS kinds H M N) p s) := by
  unfold F_X1_saidAfter
  exact said_r hn hN hh p n0 0 p s s 1 (by omega) (by omega) (by omega) rfl
/-! the first saying that comes again -/
def Rho (s : Nat → Int32) (B R : Nat) : Prop := 0 < R ∧ B + R ≤ 1024 ∧ s (B + R) = s B ∧ ∀ i j : Nat, i < j → j < B + R → s i ≠ s j
theorem rho_ex {s : Nat → Int32} (hs : ∀ k : Nat, ∃ m : Nat, m < 1024 ∧ s k = nI m) : ∃ B R : Nat, Rho s B R := by
  have h1 : ∃ n : Nat, ∃ a : Nat, a < n ∧ n ≤ 1024 ∧ s a = s n := by
    obtain ⟨a, b, h1, h2, h3⟩ := php 1024 (fun k => (s k).toNatClampNeg) (fun i _ => by
      obtain ⟨m, a1, a2⟩ := hs i
      show (s i).toNatClampNeg < 1024
      rw [a2, nI_clamp (by omega)]
      exact a1)
    refine ⟨b, a, h1, h2, ?_⟩
    obtain ⟨m1, a1, a2⟩ := hs a
    obtain ⟨m2, b1, b2⟩ := hs b
    have h4 : (s a).toNatClampNeg = (s b).toNatClampNeg := h3
    rw [a2, b2, nI_clamp (by omega), nI_clamp (by omega)] at h4
    rw [a2, b2, h4]
  obtain ⟨n, ⟨a, h2, h3, h4⟩, h5⟩ := pk_least (fun n => ∃ a : Nat, a < n ∧ n ≤ 1024 ∧ s a = s n) h1
  refine ⟨a, n - a, by omega, by omega, by rw [show a + (n - a) = n by omega]; exact h4.symm, fun i j hij hj he => ?_⟩
  exact h5 j (by omega) ⟨i, hij, by omega, he⟩
theorem rho_per {f : Int32 → Int32} {x : Int32} {B R : Nat} (h : Rho (fun k => itS f k x) B R) (j : Nat) : itS f (B + j % R) x = itS f (B + j) x := by
  have h1 : itS f R (itS f B x) = itS f B x := by
    rw [← itS_add]
    exact h.2.2.1
  rw [itS_add, itS_add, it_mod h1]
/-- the reference's rows after n days -/
def GT (s : Nat → Int32) (n : Nat) (fd daily : Nat → Int32) : Prop := (∀ i : Nat, i < n → fd (s i).toNatClampNeg = nI (i + 1)) ∧ (∀ m : Nat, m < 1024 → (∀ i : Nat, i < n → s i ≠ nI m) → fd m = 0) ∧ ∀ i : Nat, i < n → daily i = s i
theorem gt_r {n0 N B R : Nat} {d kinds hears near H M : Nat → Int32} {x : Int32} (hn : 2000000 ≤ n0) (hN : N ≤ 10) (hd : d 0 = nI N) (hk : ∀ i : Nat, i < 10 → d (10 + i) = kinds i) (hh : ∀ j : Nat, j < N → hears j = H j ∧ near j = M j) (hs : ∀ k : Nat, ∃ m : Nat, m < 1024 ∧ itS (nxS kinds H M N) k x = nI m) (hR : Rho (fun k => itS (nxS kinds H M N) k x) B R) : ∀ (k n fu : Nat) (daily fd : Nat → Int32), n + k = B + R → k < fu → GT (fun k => itS (nxS kinds H M N) k x) n fd daily → ∃ daily' fd' : Nat → Int32, L_X7_goThrough_26 n0 d hears near fu (itS (nxS kinds H M N) n x) (nI n) daily fd = some (nI B, nI R, daily', fd') ∧ ∀ i : Nat, i < B + R → daily' i = itS (nxS kinds H M N) i x := by
  obtain ⟨hR0, hR1, hR2, hR3⟩ := hR
  intro k
  induction k with
  | zero =>
    intro n fu daily fd h1 h2 ⟨g1, g2, g3⟩
    obtain ⟨fu, rfl⟩ : ∃ q, fu = q + 1 := ⟨fu - 1, by omega⟩
    have e : n = B + R := by omega
    obtain ⟨m, hm1, hm2⟩ := hs B
    have hx : itS (nxS kinds H M N) n x = nI m := by rw [e, ← hm2]; exact hR2
    have hf : fd m = nI (B + 1) := by
      have := g1 B (by omega)
      simp only [] at this
      rw [hm2, nI_clamp (by omega)] at this
      exact this
    rw [hx, L_X7_goThrough_26_u, rd_nI (by omega) (by decide), hf, if_neg (nI_ne0 (by omega) (by omega)), rd_nI (by omega) (by decide), hf]
    simp only [nm]
    rw [nI_pred, e, pk_sub (by omega), show B + R - B = R by omega]
    exact ⟨daily, fd, rfl, fun i hi => g3 i (by omega)⟩
  | succ k ih =>
    intro n fu daily fd h1 h2 ⟨g1, g2, g3⟩
    obtain ⟨fu, rfl⟩ : ∃ q, fu = q + 1 := ⟨fu - 1, by omega⟩
    obtain ⟨m, hm1, hm2⟩ := hs n
    have hno : ∀ i : Nat, i < n → itS (nxS kinds H M N) i x ≠ nI m := fun i hi he => hR3 i n hi (by omega) (by
      show itS (nxS kinds H M N) i x = itS (nxS kinds H M N) n x
      rw [he, hm2])
    have hf : fd m = 0 := g2 m hm1 hno
    rw [L_X7_goThrough_26_u, hm2, rd_nI (by omega) (by decide), hf, if_pos rfl]
    simp only [nm]
    rw [nI_1, wrt_nI (by omega) (by decide), wrt_nI (by omega) (by decide), mnext_s hn hN hd hk hh]
    simp only [bd1]
    rw [← hm2, ← itS_succ (nxS kinds H M N) n x]
    refine ih (n + 1) fu _ _ (by omega) (by omega) ⟨fun i hi => ?_, fun q hq hno2 => ?_, fun i hi => ?_⟩
    · show upd fd m (nI (n + 1)) (itS (nxS kinds H M N) i x).toNatClampNeg = nI (i + 1)
      by_cases h : i = n
      · subst h
        rw [hm2, nI_clamp (by omega), pk_us]
      · obtain ⟨q, hq1, hq2⟩ := hs i
        have hqm : q ≠ m := fun e => hno i (by omega) (by rw [hq2, e])
        rw [hq2, nI_clamp (by omega), pk_un hqm]
        have := g1 i (by omega)
        simp only [] at this
        rw [hq2, nI_clamp (by omega)] at this
        exact this
    · have h5 : q ≠ m := fun e => hno2 n (by omega) (by show itS (nxS kinds H M N) n x = nI q; rw [hm2, e])
      rw [pk_un h5]
      exact g2 q hq (fun i hi => hno2 i (by omega))
    · show upd daily n (itS (nxS kinds H M N) n x) i = itS (nxS kinds H M N) i x
      by_cases h : i = n
      · subst h; rw [pk_us]
      · rw [pk_un h]; exact g3 i (by omega)
theorem gz_r {n0 : Nat} {d hears near daily : Nat → Int32} {p1 : Int32} : ∀ (k i n : Nat) (t2 : Nat → Int32), i + k = 1024 → k < n → (∀ j : Nat, j < i → t2 j = 0) → ∃ t' : Nat → Int32, (∀ j : Nat, j < 1024 → t' j = 0) ∧ L_X7_goThrough_2 n0 d hears near p1 daily n (nI i) t2 = L_X7_goThrough_26 n0 d hears near n0 p1 0 daily t' := by
  intro k
  induction k with
  | zero =>
    intro i n t2 h1 h2 h3
    obtain ⟨n, rfl⟩ : ∃ q, n = q + 1 := ⟨n - 1, by omega⟩
    rw [L_X7_goThrough_2_u, if_pos (show (1024 : Int32) ≤ nI i from nI_le (a := 1024) (by omega) (by omega))]
    exact ⟨t2, fun j hj => h3 j (by omega), rfl⟩
  | succ k ih =>
    intro i n t2 h1 h2 h3
    obtain ⟨n, rfl⟩ : ∃ q, n = q + 1 := ⟨n - 1, by omega⟩
    rw [L_X7_goThrough_2_u, if_neg (show ¬ (1024 : Int32) ≤ nI i from nI_ge (b := 1024) (by omega) (by decide)), wrt_nI (by omega) (by decide), nm, nI_1]
    refine ih (i + 1) n _ (by omega) (by omega) (fun j hj => ?_)
    by_cases h : j = i
    · subst h; rw [pk_us]
    · rw [pk_un h]; exact h3 j (by omega)
theorem gt_s {n0 N B R : Nat} {d kinds hears near H M daily fd : Nat → Int32} {x vb vr : Int32} (hn : 2000000 ≤ n0) (hN : N ≤ 10) (hd : d 0 = nI N) (hk : ∀ i : Nat, i < 10 → d (10 + i) = kinds i) (hh : ∀ j : Nat, j < N → hears j = H j ∧ near j = M j) (hs : ∀ k : Nat, ∃ m : Nat, m < 1024 ∧ itS (nxS kinds H M N) k x = nI m) (hR : Rho (fun k => itS (nxS kinds H M N) k x) B R) : ∃ daily' fd' : Nat → Int32, F_X7_goThrough n0 vb vr d daily fd hears near x = some (nI B, nI R, daily', fd') ∧ ∀ i : Nat, i < B + R → daily' i = itS (nxS kinds H M N) i x := by
  unfold F_X7_goThrough
  obtain ⟨t', h1, h2⟩ := gz_r (n0 := n0) (d := d) (hears := hears) (near := near) (daily := daily) (p1 := x) 1024 0 n0 fd (by omega) (by omega) (fun j hj => absurd hj (Nat.not_lt_zero j))
  rw [nI_0] at h2
  rw [h2]
  exact gt_r hn hN hd hk hh hs hR (B + R) 0 n0 daily t' (by omega) (by have := hR.2.1; omega) ⟨fun i hi => absurd hi (Nat.not_lt_zero i), fun m hm _ => h1 m hm, fun i hi => absurd hi (Nat.not_lt_zero i)⟩
theorem sb_s {n0 B R p : Nat} {f : Int32 → Int32} {x : Int32} {daily : Nat → Int32} (hR : Rho (fun k => itS f k x) B R) (hdl : ∀ i : Nat, i < B + R → daily i = itS f i x) (hp : p ≤ 999999) : F_X7_saidBehind n0 (nI B) (nI R) daily (nI p) = some (itS f p x) := by
  have hR1 := hR.2.1
  have hR0 := hR.1
  unfold F_X7_saidBehind
  by_cases h : B ≤ p
  · have hm : (p - B) % R < R := Nat.mod_lt _ hR0
    rw [if_pos (nI_le h (by omega)), nm, pk_sub h]
    rw [dvn_k (nI_ne0 hR0 (by omega)), pk_rem (by omega) hR0 (by omega), nm, nI_add, rd_nI (by omega) (by decide), hdl _ (by omega), rho_per hR, show B + (p - B) = p by omega]
  · rw [if_neg (nI_ge (by omega) (by omega)), rd_nI (by omega) (by decide), hdl p (by omega)]
/-! the class's walk -/
def lmN (mx : Nat → Bool) : Nat → Nat
  | 0 => 0
  | n + 1 => if mx n = true then n + 1 else lmN mx n
theorem lmN_le (mx : Nat → Bool) : ∀ n : Nat, lmN mx n ≤ n := by
  intro n
  induction n with
  | zero => exact Nat.le_refl 0
  | succ n ih =>
    show (if mx n = true then n + 1 else lmN mx n) ≤ n + 1
    split
    · omega
    · omega
def allI (N : Nat) : Int32 := (1 <<< (nI N &&& 31)) - 1
def mxB (s : Nat → Int32) (N i : Nat) : Bool := !decide (s i = 0) && !decide (s i = allI N)
def WK (s : Nat → Int32) (n : Nat) (dy : Nat → Int32) : Prop := (∀ i : Nat, i < n → dy (s i).toNatClampNeg = nI i) ∧ ∀ m : Nat, m < 1024 → (∀ i : Nat, i < n → s i ≠ nI m) → dy m = -1
theorem nI_sub1 (n : Nat) : nI (n + 1) - 1 = nI n := nI_pred n
theorem wk_r {n0 N B R : Nat} {kinds hears near gaps H M : Nat → Int32} {x : Int32} (hn : 2000000 ≤ n0) (hN : N ≤ 10) (hh : ∀ j : Nat, j < N → hears j = H j ∧ near j = M j) (hs : ∀ k : Nat, ∃ m : Nat, m < 1024 ∧ itS (nxS kinds H M N) k x = nI m) (hR : Rho (fun k => itS (nxS kinds H M N) k x) B R) : ∀ (k n fu : Nat) (dy : Nat → Int32), n + k = B + R → k < fu → WK (fun k => itS (nxS kinds H M N) k x) n dy → ∃ dy' : Nat → Int32, L_X5_go_43 gaps hears near n0 (nI N) kinds fu (itS (nxS kinds H M N) n x) (nI n) dy (nI (lmN (mxB (fun k => itS (nxS kinds H M N) k x) N) n) - 1) = some (nI B, nI R, nI (lmN (mxB (fun k => itS (nxS kinds H M N) k x) N) (B + R)) - 1, dy', gaps, hears, near) := by
  obtain ⟨hR0, hR1, hR2, hR3⟩ := hR
  intro k
  induction k with
  | zero =>
    intro n fu dy h1 h2 ⟨g1, g2⟩
    obtain ⟨fu, rfl⟩ : ∃ q, fu = q + 1 := ⟨fu - 1, by omega⟩
    have e : n = B + R := by omega
    obtain ⟨m, hm1, hm2⟩ := hs B
    have hx : itS (nxS kinds H M N) n x = nI m := by rw [e, ← hm2]; exact hR2
    have hf : dy m = nI B := by
      have := g1 B (by omega)
      simp only [] at this
      rw [hm2, nI_clamp (by omega)] at this
      exact this
    rw [hx, L_X5_go_43_u, if_neg (show ¬ (1024 : Int32) < nI n from nI_nlt (a := 1024) (by omega) (by decide)), if_neg (nI_pos (by omega)), if_neg (show ¬ (1024 : Int32) ≤ nI m from nI_ge (b := 1024) hm1 (by decide)), rd_nI hm1 (by decide), hf, if_neg (nI_pos (by omega)), rd_nI hm1 (by decide), hf, nm, e, pk_sub (by omega), show B + R - B = R by omega]
    exact ⟨dy, rfl⟩
  | succ k ih =>
    intro n fu dy h1 h2 ⟨g1, g2⟩
    obtain ⟨fu, rfl⟩ : ∃ q, fu = q + 1 := ⟨fu - 1, by omega⟩
    obtain ⟨m, hm1, hm2⟩ := hs n
    have hno : ∀ i : Nat, i < n → itS (nxS kinds H M N) i x ≠ nI m := fun i hi he => hR3 i n hi (by omega) (by
      show itS (nxS kinds H M N) i x = itS (nxS kinds H M N) n x
      rw [he, hm2])
    have hf : dy m = -1 := g2 m hm1 hno
    have hW : WK (fun k => itS (nxS kinds H M N) k x) (n + 1) (upd dy m (nI n)) := by
      refine ⟨fun i hi => ?_, fun q hq hno2 => ?_⟩
      · show upd dy m (nI n) (itS (nxS kinds H M N) i x).toNatClampNeg = nI i
        by_cases h : i = n
        · subst h
          rw [hm2, nI_clamp (by omega), pk_us]
        · obtain ⟨q, hq1, hq2⟩ := hs i
          have hqm : q ≠ m := fun e => hno i (by omega) (by rw [hq2, e])
          rw [hq2, nI_clamp (by omega), pk_un hqm]
          have := g1 i (by omega)
          simp only [] at this
          rw [hq2, nI_clamp (by omega)] at this
          exact this
      · have h5 : q ≠ m := fun e => hno2 n (by omega) (by show itS (nxS kinds H M N) n x = nI q; rw [hm2, e])
        rw [pk_un h5]
        exact g2 q hq (fun i hi => hno2 i (by omega))
    have hJ : ∀ u : Int32, u = nI (lmN (mxB (fun k => itS (nxS kinds H M N) k x) N) (n + 1)) - 1 → ∃ dy' : Nat → Int32, J_X5_go_121 n0 (nI N) hears near kinds (nI m) (nI n) (fun a b c u => L_X5_go_43 gaps hears near n0 (nI N) kinds fu a b c u) (upd dy m (nI n)) u = some (nI B, nI R, nI (lmN (mxB (fun k => itS (nxS kinds H M N) k x) N) (B + R)) - 1, dy', gaps, hears, near) := by
      intro u hu
      unfold J_X5_go_121
      rw [next_s hn hN hh]
      simp only [bd1, nm]
      rw [← hm2, ← itS_succ (nxS kinds H M N) n x, nI_1, hu]
      exact ih (n + 1) fu _ (by omega) (by omega) hW
    rw [hm2, L_X5_go_43_u, if_neg (show ¬ (1024 : Int32) < nI n from nI_nlt (a := 1024) (by omega) (by decide)), if_neg (nI_pos (by omega)), if_neg (show ¬ (1024 : Int32) ≤ nI m from nI_ge (b := 1024) hm1 (by decide)), rd_nI hm1 (by decide), hf, if_pos (show (-1 : Int32) < 0 from by decide), wrt_nI hm1 (by decide)]
    have hmx : mxB (fun k => itS (nxS kinds H M N) k x) N n = (!decide (nI m = 0) && !decide (nI m = allI N)) := by
      unfold mxB
      simp only [hm2]
    by_cases z0 : nI m = 0
    · rw [if_pos z0]
      refine hJ _ ?_
      rw [decide_eq_true z0] at hmx
      show _ = nI (if mxB (fun k => itS (nxS kinds H M N) k x) N n = true then n + 1 else lmN _ n) - 1
      rw [hmx]
      rfl
    · rw [if_neg z0, show F_X0_all n0 (nI N) = some (allI N) from rfl]
      simp only [bd1]
      by_cases z1 : nI m = allI N
      · rw [if_pos z1]
        refine hJ _ ?_
        rw [decide_eq_false z0, decide_eq_true z1] at hmx
        show _ = nI (if mxB (fun k => itS (nxS kinds H M N) k x) N n = true then n + 1 else lmN _ n) - 1
        rw [hmx]
        rfl
      · rw [if_neg z1]
        refine hJ _ ?_
        rw [decide_eq_false z0, decide_eq_false z1] at hmx
        show _ = nI (if mxB (fun k => itS (nxS kinds H M N) k x) N n = true then n + 1 else lmN _ n) - 1
        rw [hmx]
        show nI n = nI (n + 1) - 1
        rw [nI_sub1]
