/-! texts: bytes and tokens -/
def clsN (b : Nat) : Nat := if 97 ≤ b ∧ b ≤ 122 then 1 else if 48 ≤ b ∧ b ≤ 57 then 2 else if b = 59 then 3 else if b = 32 then 4 else 5
def srtE (x : Int32) : Option Int32 := if x < 97 then J_X3_sortAt_41 x else if 122 < x then J_X3_sortAt_41 x else some 1
theorem srt_t : ∀ b : Nat, b < 256 → srtE (nI b) = some (nI (clsN b)) := by decide +kernel
/-- the signed byte -/
def sbI (b : Nat) : Int32 := (nI b).toInt8.toInt32
theorem sb_t : ∀ b : Nat, b < 256 → (sbI b = 32 ↔ clsN b = 4) ∧ (sbI b = 59 ↔ clsN b = 3) ∧ F_X7_letter 0 (sbI b) = some (if clsN b = 1 then nI (b - 96) else 0) ∧ F_X7_isDigit 0 (sbI b) = some (if clsN b = 2 then 1 else 0) ∧ (clsN b = 2 → sbI b = nI b) := by decide +kernel
theorem cls_1 : ∀ b : Nat, b < 256 → clsN b = 1 → 97 ≤ b ∧ b ≤ 122 := by decide +kernel
theorem cls_2 : ∀ b : Nat, b < 256 → clsN b = 2 → 48 ≤ b ∧ b ≤ 57 := by decide +kernel
theorem cls_r : ∀ b : Nat, b < 256 → clsN b = 1 ∨ clsN b = 2 ∨ clsN b = 3 ∨ clsN b = 4 ∨ clsN b = 5 := by decide +kernel
theorem letter_0 {n0 : Nat} {x : Int32} : F_X7_letter n0 x = F_X7_letter 0 x := rfl
theorem digit_0 {n0 : Nat} {x : Int32} : F_X7_isDigit n0 x = F_X7_isDigit 0 x := rfl
/-- the two tapes -/
def tbR (T : Nat) (B : Nat → Nat) (bytes tape : Nat → Int32) : Prop := T ≤ 120 ∧ ∀ i : Nat, i < T → B i < 256 ∧ bytes i = nI (B i) ∧ tape i = sbI (B i)
theorem TR_tb {size taped : Int32} {bytes tape : Nat → Int32} (h : TR size bytes tape taped) : ∃ (T : Nat) (B : Nat → Nat), size = nI T ∧ taped = nI T ∧ tbR T B bytes tape := by
  obtain ⟨T, h1, h2, h3, h4⟩ := h
  refine ⟨T, fun i => yN bytes i, h2, h3, h1, fun i hi => ?_⟩
  obtain ⟨w, a1, a2, a3⟩ := h4 i hi
  have e : yN bytes i = w := by unfold yN; rw [a2, nI_clamp (by omega)]
  show yN bytes i < 256 ∧ bytes i = nI (yN bytes i) ∧ tape i = sbI (yN bytes i)
  rw [e]
  exact ⟨a1, a2, a3⟩
section
variable {n0 T : Nat} {B : Nat → Nat} {bytes tape : Nat → Int32}
theorem sortAt_in (hB : tbR T B bytes tape) {i : Nat} (hi : i < T) : F_X3_sortAt n0 (nI T) bytes (nI i) = some (nI (clsN (B i))) := by
  obtain ⟨hT, h⟩ := hB
  obtain ⟨h1, h2, h3⟩ := h i hi
  unfold F_X3_sortAt
  rw [if_neg (nI_pos (by omega)), if_neg (nI_ge hi (by omega)), if_pos (show nI i < 120 from nI_lt (b := 120) (by omega) (by decide)), rd_nI (by omega) (by decide), h2]
  exact srt_t (B i) h1
theorem sortAt_out (hB : tbR T B bytes tape) {i : Nat} (hi : T ≤ i) (hi2 : i ≤ 120) : F_X3_sortAt n0 (nI T) bytes (nI i) = some 0 := by
  unfold F_X3_sortAt
  rw [if_neg (nI_pos (by omega)), if_pos (nI_le hi (by omega))]
theorem byteAt_in (hB : tbR T B bytes tape) {i : Nat} (hi : i < T) : F_X7_byteAt n0 (nI T) tape (nI i) = some (sbI (B i)) := by
  obtain ⟨hT, h⟩ := hB
  obtain ⟨h1, h2, h3⟩ := h i hi
  unfold F_X7_byteAt
  rw [if_neg (nI_ge hi (by omega)), rd_nI (by omega) (by decide), h3]
theorem byteAt_out (hB : tbR T B bytes tape) {i : Nat} (hi : T ≤ i) (hi2 : i ≤ 120) : F_X7_byteAt n0 (nI T) tape (nI i) = some (-1) := by
  unfold F_X7_byteAt
  rw [if_pos (nI_le hi (by omega))]
theorem skip_r (hB : tbR T B bytes tape) : ∀ (k u n m : Nat), u + k = T → k < n → k < m → ∃ p : Nat, u ≤ p ∧ p ≤ T ∧ (p < T → clsN (B p) ≠ 4) ∧ L_X3_step_0 (nI T) n0 bytes n (nI u) = J_X3_step_36 n0 (nI T) bytes (nI p) ∧ L_X7_next_0 n0 (nI T) tape m (nI u) = L_X7_next_0 n0 (nI T) tape (0 + 1) (nI p) := by
  have hT := hB.1
  intro k
  induction k with
  | zero =>
    intro u n m h1 h2 h3
    obtain ⟨n, rfl⟩ : ∃ q, n = q + 1 := ⟨n - 1, by omega⟩
    obtain ⟨m, rfl⟩ : ∃ q, m = q + 1 := ⟨m - 1, by omega⟩
    refine ⟨u, Nat.le_refl u, by omega, fun h => by omega, ?_, ?_⟩
    · rw [L_X3_step_0_u, if_pos (nI_le (by omega) (by omega))]
    · rw [L_X7_next_0_u, L_X7_next_0_u, byteAt_out hB (by omega) (by omega), bd1_k, bd1_k, if_neg (show ¬ (-1 : Int32) = 32 from by decide), bd1_k, if_neg (show ¬ (-1 : Int32) = 32 from by decide)]
  | succ k ih =>
    intro u n m h1 h2 h3
    obtain ⟨n, rfl⟩ : ∃ q, n = q + 1 := ⟨n - 1, by omega⟩
    obtain ⟨m, rfl⟩ : ∃ q, m = q + 1 := ⟨m - 1, by omega⟩
    have hu : u < T := by omega
    have hb := (hB.2 u hu).1
    by_cases h4 : clsN (B u) = 4
    · obtain ⟨p, a1, a2, a3, a4, a5⟩ := ih (u + 1) n m (by omega) (by omega) (by omega)
      refine ⟨p, by omega, a2, a3, ?_, ?_⟩
      · rw [L_X3_step_0_u, if_neg (nI_ge hu (by omega)), sortAt_in hB hu, bd1_k, h4, if_pos (show nI 4 = 4 from rfl), nmq, nI_1]
        exact a4
      · rw [L_X7_next_0_u (n := m), byteAt_in hB hu, bd1_k, if_pos ((sb_t (B u) hb).1.mpr h4), nmq, nI_1]
        exact a5
    · refine ⟨u, Nat.le_refl u, by omega, fun _ => h4, ?_, ?_⟩
      · have hr := cls_r (B u) hb
        rw [L_X3_step_0_u, if_neg (nI_ge hu (by omega)), sortAt_in hB hu, bd1_k, if_neg (show ¬ nI (clsN (B u)) = 4 from fun e => h4 ((nI_eq (a := clsN (B u)) (b := 4) (by omega) (by decide)).mp e))]
      · have h5 : ¬ sbI (B u) = 32 := fun e => h4 ((sb_t (B u) hb).1.mp e)
        rw [L_X7_next_0_u, L_X7_next_0_u, byteAt_in hB hu, bd1_k, bd1_k, if_neg h5, bd1_k, if_neg h5]
/-- a run of bytes of one sort, in the class -/
theorem run_c (hB : tbR T B bytes tape) {p q : Nat} (hq : q = 1 ∨ q = 5) : ∀ (k e n : Nat), e + k = T → k < n → ∃ e' : Nat, e ≤ e' ∧ e' ≤ T ∧ (∀ i : Nat, e ≤ i → i < e' → clsN (B i) = q) ∧ (e' < T → clsN (B e') ≠ q) ∧ L_X3_step_61 (nI T) (nI p) (nI q) n0 bytes n (nI e) 0 = some (nI p, nI e', nI q, 0) := by
  have hT := hB.1
  intro k
  induction k with
  | zero =>
    intro e n h1 h2
    obtain ⟨n, rfl⟩ : ∃ q, n = q + 1 := ⟨n - 1, by omega⟩
    refine ⟨e, Nat.le_refl e, by omega, fun i h3 h4 => by omega, fun h => by omega, ?_⟩
    rw [L_X3_step_61_u, if_pos (nI_le (by omega) (by omega))]
  | succ k ih =>
    intro e n h1 h2
    obtain ⟨n, rfl⟩ : ∃ q, n = q + 1 := ⟨n - 1, by omega⟩
    have he : e < T := by omega
    have hb := (hB.2 e he).1
    have hr := cls_r (B e) hb
    by_cases h4 : clsN (B e) = q
    · obtain ⟨e', a1, a2, a3, a4, a5⟩ := ih (e + 1) n (by omega) (by omega)
      refine ⟨e', by omega, a2, fun i h5 h6 => ?_, a4, ?_⟩
      · by_cases h7 : i = e
        · rw [h7]; exact h4
        · exact a3 i (by omega) h6
      · rw [L_X3_step_61_u, if_neg (nI_ge he (by omega)), if_neg (show ¬ (120 : Int32) ≤ nI e from nI_ge (b := 120) (by omega) (by decide)), sortAt_in hB he, bd1_k, if_pos (by rw [h4])]
        have e2 : ¬ nI q = 2 := fun h => by have := (nI_eq (a := q) (b := 2) (by omega) (by decide)).mp h; omega
        have e3 : ¬ nI q = 3 := fun h => by have := (nI_eq (a := q) (b := 3) (by omega) (by decide)).mp h; omega
        unfold J_X3_step_127
        rw [if_neg e2, nmq, if_neg e3, nI_1]
        exact a5
    · refine ⟨e, Nat.le_refl e, by omega, fun i h5 h6 => by omega, fun _ => h4, ?_⟩
      rw [L_X3_step_61_u, if_neg (nI_ge he (by omega)), if_neg (show ¬ (120 : Int32) ≤ nI e from nI_ge (b := 120) (by omega) (by decide)), sortAt_in hB he, bd1_k, if_neg (fun h => h4 ((nI_eq (by omega) (by omega)).mp h))]
/-- a word's number in the reference: it stops growing when it is great -/
def cvN (B : Nat → Nat) (p : Nat) : Nat → Nat
  | 0 => 0
  | j + 1 => if 100000000000000000 < cvN B p j then cvN B p j else cvN B p j * 27 + (B (p + j) - 96)
theorem cvN_s (B : Nat → Nat) (p j : Nat) : cvN B p (j + 1) = if 100000000000000000 < cvN B p j then cvN B p j else cvN B p j * 27 + (B (p + j) - 96) := rfl
theorem cv_lt {p : Nat} : ∀ (j : Nat), (∀ i : Nat, i < j → B (p + i) ≤ 122) → cvN B p j ≤ 2700000000000000026 := by
  intro j
  induction j with
  | zero => intro _; exact Nat.zero_le _
  | succ j ih =>
    intro h
    have h1 := ih (fun i hi => h i (by omega))
    have h2 := h j (by omega)
    rw [cvN_s]
    by_cases h3 : 100000000000000000 < cvN B p j
    · rw [if_pos h3]; exact h1
    · rw [if_neg h3]; omega
theorem lw_c : (100000000000000000 : Int64) = lN 100000000000000000 := rfl
theorem run_m (hB : tbR T B bytes tape) {p e : Nat} (he : e ≤ T) (hl : ∀ i : Nat, p ≤ i → i < e → clsN (B i) = 1) (hx : e < T → clsN (B e) ≠ 1) : ∀ (k j n : Nat), p + j + k = e → k < n → L_X7_next_103 n0 (nI T) tape (nI p) n (nI (p + j)) (lN (cvN B p j)) = some (nI e, 1, nI p, lN (cvN B p (e - p))) := by
  have hT := hB.1
  intro k
  induction k with
  | zero =>
    intro j n h1 h2
    obtain ⟨n, rfl⟩ : ∃ q, n = q + 1 := ⟨n - 1, by omega⟩
    have e1 : p + j = e := by omega
    have e2 : e - p = j := by omega
    rw [L_X7_next_103_u, e1, e2]
    by_cases h3 : e < T
    · have hb := (hB.2 e h3).1
      rw [byteAt_in hB h3, bd1_k, letter_0, (sb_t (B e) hb).2.2.1, bd1_k, if_neg (hx h3), if_pos (show (0 : Int32) ≤ 0 from by decide)]
    · rw [byteAt_out hB (by omega) (by omega), bd1_k, show F_X7_letter n0 (-1) = some 0 from rfl, bd1_k, if_pos (show (0 : Int32) ≤ 0 from by decide)]
  | succ k ih =>
    intro j n h1 h2
    obtain ⟨n, rfl⟩ : ∃ q, n = q + 1 := ⟨n - 1, by omega⟩
    have hj : p + j < T := by omega
    have hb := (hB.2 (p + j) hj).1
    have hc := hl (p + j) (by omega) (by omega)
    have hr := cls_1 (B (p + j)) hb hc
    have hlt := cv_lt (B := B) (p := p) j (fun i hi => (cls_1 (B (p + i)) (hB.2 (p + i) (by omega)).1 (hl (p + i) (by omega) (by omega))).2)
    have hih := ih (j + 1) n (by omega) (by omega)
    rw [cvN_s] at hih
    have hlet : F_X7_letter n0 (sbI (B (p + j))) = some (nI (B (p + j) - 96)) := by
      rw [letter_0, (sb_t (B (p + j)) hb).2.2.1, if_pos hc]
    rw [L_X7_next_103_u, byteAt_in hB hj, bd1_k, hlet, bd1_k, if_neg (nI_nle (by omega) (by omega)), nmq, lw_c]
    unfold J_X7_next_157
    by_cases h3 : 100000000000000000 < cvN B p j
    · rw [if_pos h3] at hih
      rw [if_neg (fun h => (cmp_le.mp h) ((pk_lLT (by omega) (by omega)).mpr h3)), nmq, nI_1]
      exact hih
    · rw [if_neg h3] at hih
      rw [if_pos (cmp_le.mpr (fun h => h3 ((pk_lLT (by omega) (by omega)).mp h))), nmq, bd1_k, hlet, bd1_k, nmq, nmq, nmq, nI_1, nI_l (by omega), show (27 : Int64) = lN 27 from rfl, lN_mul, lN_add]
      exact hih
/-- numbers: the class's and the reference's -/
def numR (c v : Nat) : Prop := (v ≤ 999 ∧ c = v) ∨ (999 < v ∧ 1000 ≤ c ∧ c ≤ 10000 ∧ v ≤ 10000)
theorem run_n (hB : tbR T B bytes tape) {p : Nat} : ∀ (k e n m c v : Nat), e + k = T → k < n → k < m → numR c v → ∃ e' c' v' : Nat, e ≤ e' ∧ e' ≤ T ∧ numR c' v' ∧ L_X3_step_61 (nI T) (nI p) (nI 2) n0 bytes n (nI e) (nI c) = some (nI p, nI e', nI 2, nI c') ∧ L_X7_next_185 n0 (nI T) tape (nI p) m (nI e) (lN v) = some (nI e', 2, nI p, lN v') := by
  have hT := hB.1
  intro k
  induction k with
  | zero =>
    intro e n m c v h1 h2 h3 hv
    obtain ⟨n, rfl⟩ : ∃ q, n = q + 1 := ⟨n - 1, by omega⟩
    obtain ⟨m, rfl⟩ : ∃ q, m = q + 1 := ⟨m - 1, by omega⟩
    refine ⟨e, c, v, Nat.le_refl e, by omega, hv, ?_, ?_⟩
    · rw [L_X3_step_61_u, if_pos (nI_le (by omega) (by omega))]
    · rw [L_X7_next_185_u, byteAt_out hB (by omega) (by omega), bd1_k, show F_X7_isDigit n0 (-1) = some 0 from rfl, bd1_k, if_pos rfl]
  | succ k ih =>
    intro e n m c v h1 h2 h3 hv
    obtain ⟨n, rfl⟩ : ∃ q, n = q + 1 := ⟨n - 1, by omega⟩
    obtain ⟨m, rfl⟩ : ∃ q, m = q + 1 := ⟨m - 1, by omega⟩
    have he : e < T := by omega
    obtain ⟨hb, hby, _⟩ := hB.2 e he
    have hr := cls_r (B e) hb
    by_cases h4 : clsN (B e) = 2
    · have hd := cls_2 (B e) hb h4
      have hcb : c ≤ 10000 := by unfold numR at hv; omega
      have hvb : v ≤ 10000 := by unfold numR at hv; omega
      have hnew : numR (if c < 1000 then 10 * c + (B e - 48) else 1000) (if 999 < v then v else v * 10 + B e - 48) := by
        unfold numR at hv ⊢
        by_cases h5 : 999 < v
        · rw [if_pos h5, if_neg (by omega)]; omega
        · rw [if_neg h5, if_pos (by omega)]; omega
      obtain ⟨e', c', v', a1, a2, a3, a4, a5⟩ := ih (e + 1) n m _ _ (by omega) (by omega) (by omega) hnew
      refine ⟨e', c', v', by omega, a2, a3, ?_, ?_⟩
      · have hg : F_X3_grown n0 (nI c) (nI (B e) - 48) = some (nI (if c < 1000 then 10 * c + (B e - 48) else 1000)) := by
          unfold F_X3_grown
          by_cases h5 : c < 1000
          · rw [if_pos (show nI c < 1000 from nI_lt (b := 1000) h5 (by decide)), if_pos h5, nmq, nmq, show (10 : Int32) = nI 10 from rfl, show (48 : Int32) = nI 48 from rfl, pk_mul, pk_sub hd.1, nI_add]
          · rw [if_neg (show ¬ nI c < 1000 from nI_nlt (b := 1000) (by omega) (by omega)), if_neg h5]
            rfl
        rw [L_X3_step_61_u, if_neg (nI_ge he (by omega)), if_neg (show ¬ (120 : Int32) ≤ nI e from nI_ge (b := 120) (by omega) (by decide)), sortAt_in hB he, bd1_k, if_pos (by rw [h4]), if_pos (show nI 2 = 2 from rfl), rd_nI (by omega) (by decide), hby, nmq, hg, bd1_k]
        unfold J_X3_step_127
        rw [nmq, if_neg (show ¬ nI 2 = 3 from by decide), nI_1]
        exact a4
      · rw [L_X7_next_185_u, byteAt_in hB he, bd1_k, digit_0, (sb_t (B e) hb).2.2.2.1, if_pos h4, bd1_k, one0, nmq, show (999 : Int64) = lN 999 from rfl]
        unfold J_X7_next_240
        by_cases h5 : 999 < v
        · rw [if_pos h5] at a5
          rw [if_neg (fun h => (cmp_le.mp h) ((pk_lLT (by omega) (by omega)).mpr h5)), nmq, nI_1]
          exact a5
        · rw [if_neg h5] at a5
          rw [if_pos (cmp_le.mpr (fun h => h5 ((pk_lLT (by omega) (by omega)).mp h))), nmq, bd1_k, nmq, nmq, nmq, nmq, nI_1, (sb_t (B e) hb).2.2.2.2 h4, nI_l (by omega), show (10 : Int64) = lN 10 from rfl, show (48 : Int64) = lN 48 from rfl, lN_mul, lN_add, lN_sub (by omega)]
          exact a5
    · refine ⟨e, c, v, Nat.le_refl e, by omega, hv, ?_, ?_⟩
      · rw [L_X3_step_61_u, if_neg (nI_ge he (by omega)), if_neg (show ¬ (120 : Int32) ≤ nI e from nI_ge (b := 120) (by omega) (by decide)), sortAt_in hB he, bd1_k, if_neg (fun h => h4 ((nI_eq (b := 2) (by omega) (by decide)).mp h))]
      · rw [L_X7_next_185_u, byteAt_in hB he, bd1_k, digit_0, (sb_t (B e) hb).2.2.2.1, if_neg h4, bd1_k, if_pos rfl]
/-- the token at hand -/
def tkR (T : Nat) (B : Nat → Nat) (p e : Nat) (st be so nu ma ms fr : Int32) (va : Int64) : Prop := p ≤ e ∧ e ≤ T ∧ st = nI p ∧ fr = nI p ∧ ((p = T ∧ so = 0 ∧ ms = 0 ∧ be = nI e ∧ ma = nI e) ∨ (p < e ∧ so = 3 ∧ ms = 3 ∧ be = nI e ∧ ma = nI e) ∨ (so = 1 ∧ ms = 1 ∧ be = nI e ∧ ma = nI e ∧ va = lN (cvN B p (e - p)) ∧ ∀ i : Nat, p ≤ i → i < e → clsN (B i) = 1) ∨ (so = 2 ∧ ms = 2 ∧ be = nI e ∧ ma = nI e ∧ ∃ c v : Nat, nu = nI c ∧ va = lN v ∧ numR c v) ∨ (so = 5 ∧ ms = 4))
theorem tok_s (hn : 2000000 ≤ n0) (hB : tbR T B bytes tape) {u : Nat} (hu : u ≤ T) {a1 a2 a3 b1 b2 : Int32} {b3 : Int64} : ∃ (p e : Nat) (st be so nu ma ms fr : Int32) (va : Int64), u ≤ p ∧ tkR T B p e st be so nu ma ms fr va ∧ F_X3_step n0 (nI T) a1 (nI u) a2 a3 bytes = some (st, be, so, nu) ∧ F_X7_next n0 (nI T) (nI u) b1 b2 b3 tape = some (ma, ms, fr, va) := by
  have hT := hB.1
  obtain ⟨p, h1, h2, h3, h4, h5⟩ := skip_r (n0 := n0) hB (T - u) u n0 n0 (by omega) (by omega) (by omega)
  have hX : ∀ r : Option (Int32 × Int32 × Int32 × Int32), J_X3_step_36 n0 (nI T) bytes (nI p) = r → F_X3_step n0 (nI T) a1 (nI u) a2 a3 bytes = r := fun r hr => h4.trans hr
  have hM : ∀ r : Option (Int32 × Int32 × Int32 × Int64), L_X7_next_0 n0 (nI T) tape (0 + 1) (nI p) = r → F_X7_next n0 (nI T) (nI u) b1 b2 b3 tape = r := fun r hr => h5.trans hr
  by_cases hp : p = T
  · refine ⟨p, p, nI p, nI p, 0, 0, nI p, 0, nI p, 0, h1, ⟨Nat.le_refl p, h2, rfl, rfl, Or.inl ⟨hp, rfl, rfl, rfl, rfl⟩⟩, hX _ ?_, hM _ ?_⟩
    · unfold J_X3_step_36
      obtain ⟨q, rfl⟩ : ∃ q, n0 = q + 1 := ⟨n0 - 1, by omega⟩
      rw [sortAt_out hB (by omega) (by omega), bd1_k, L_X3_step_61_u, if_pos (nI_le (by omega) (by omega))]
    · rw [L_X7_next_0_u, byteAt_out hB (by omega) (by omega), bd1_k, if_neg (show ¬ (-1 : Int32) = 32 from by decide), bd1_k, if_pos (show nI p = nI T from by rw [hp])]
  · have hpT : p < T := by omega
    have hb := (hB.2 p hpT).1
    have hne : ¬ nI p = nI T := fun h => hp ((nI_eq (by omega) (by omega)).mp h)
    obtain ⟨t1, t2, t3, t4, t5⟩ := sb_t (B p) hb
    have hM2 : ∀ r : Option (Int32 × Int32 × Int32 × Int64), (if sbI (B p) = 59 then some (nI (p + 1), 3, nI p, 0) else (if (if clsN (B p) = 1 then nI (B p - 96) else 0) ≤ 0 then (if (if clsN (B p) = 2 then (1 : Int32) else 0) = 0 then some (nI p, 4, nI p, 0) else L_X7_next_185 n0 (nI T) tape (nI p) n0 (nI p) 0) else L_X7_next_103 n0 (nI T) tape (nI p) n0 (nI p) 0)) = r → F_X7_next n0 (nI T) (nI u) b1 b2 b3 tape = r := fun r hr => by
      refine hM r ?_
      rw [← hr, L_X7_next_0_u, byteAt_in hB hpT, bd1_k, if_neg (fun h => h3 hpT (t1.mp h)), bd1_k, if_neg hne, nmq, nI_1, letter_0, t3, bd1_k, digit_0, t4, bd1_k]
    have hX2 : ∀ r : Option (Int32 × Int32 × Int32 × Int32), L_X3_step_61 (nI T) (nI p) (nI (clsN (B p))) n0 bytes n0 (nI p) 0 = r → F_X3_step n0 (nI T) a1 (nI u) a2 a3 bytes = r := fun r hr => by
      refine hX r ?_
      unfold J_X3_step_36
      rw [sortAt_in hB hpT, bd1_k]
      exact hr
    rcases cls_r (B p) hb with h | h | h | h | h
    · obtain ⟨e, c1, c2, c3, c4, c5⟩ := run_c (n0 := n0) (p := p) hB (Or.inl (rfl : 1 = 1)) (T - p) p n0 (by omega) (by omega)
      have hrm := run_m (n0 := n0) hB (p := p) c2 c3 c4 (e - p) 0 n0 (by omega) (by omega)
      have hc1 := cls_1 (B p) hb h
      refine ⟨p, e, nI p, nI e, nI 1, 0, nI e, 1, nI p, lN (cvN B p (e - p)), h1, ⟨c1, c2, rfl, rfl, Or.inr (Or.inr (Or.inl ⟨rfl, rfl, rfl, rfl, rfl, c3⟩))⟩, hX2 _ ?_, hM2 _ ?_⟩
      · rw [h]; exact c5
      · rw [if_neg (fun h9 => by have := t2.mp h9; omega), if_pos h, if_neg (nI_nle (by omega) (by omega))]
        exact hrm
    · obtain ⟨e, c, v, c1, c2, c3, c4, c5⟩ := run_n (n0 := n0) (p := p) hB (T - p) p n0 n0 0 0 (by omega) (by omega) (by omega) (Or.inl ⟨by omega, rfl⟩)
      refine ⟨p, e, nI p, nI e, nI 2, nI c, nI e, 2, nI p, lN v, h1, ⟨c1, c2, rfl, rfl, Or.inr (Or.inr (Or.inr (Or.inl ⟨rfl, rfl, rfl, rfl, c, v, rfl, rfl, c3⟩)))⟩, hX2 _ ?_, hM2 _ ?_⟩
      · rw [h]; exact c4
      · rw [if_neg (fun h9 => by have := t2.mp h9; omega), if_neg (show ¬ clsN (B p) = 1 by omega), if_pos (show (0 : Int32) ≤ 0 from by decide), if_pos h, one0]
        exact c5
    · refine ⟨p, p + 1, nI p, nI (p + 1), nI 3, 0, nI (p + 1), 3, nI p, 0, h1, ⟨by omega, by omega, rfl, rfl, Or.inr (Or.inl ⟨by omega, rfl, rfl, rfl, rfl⟩)⟩, hX2 _ ?_, hM2 _ ?_⟩
      · obtain ⟨q, hq⟩ : ∃ q, n0 = q + 1 := ⟨n0 - 1, by omega⟩
        rw [h]
        have e1 : L_X3_step_61 (nI T) (nI p) (nI 3) n0 bytes (q + 1) (nI p) 0 = some (nI p, nI (p + 1), nI 3, 0) := by
          rw [L_X3_step_61_u, if_neg (nI_ge hpT (by omega)), if_neg (show ¬ (120 : Int32) ≤ nI p from nI_ge (b := 120) (by omega) (by decide)), sortAt_in hB hpT, bd1_k, if_pos (by rw [h]), if_neg (show ¬ nI 3 = 2 from by decide)]
          unfold J_X3_step_127
          rw [nmq, if_pos (show nI 3 = 3 from rfl), nI_1]
        rw [← hq] at e1
        exact e1
      · rw [if_pos (t2.mpr h)]
    · exact absurd h (h3 hpT)
    · obtain ⟨e, c1, c2, c3, c4, c5⟩ := run_c (n0 := n0) (p := p) hB (Or.inr (rfl : 5 = 5)) (T - p) p n0 (by omega) (by omega)
      refine ⟨p, e, nI p, nI e, nI 5, 0, nI p, 4, nI p, 0, h1, ⟨c1, c2, rfl, rfl, Or.inr (Or.inr (Or.inr (Or.inr ⟨rfl, rfl⟩)))⟩, hX2 _ ?_, hM2 _ ?_⟩
      · rw [h]; exact c5
      · rw [if_neg (fun h9 => by have := t2.mp h9; omega), if_neg (show ¬ clsN (B p) = 1 by omega), if_pos (show (0 : Int32) ≤ 0 from by decide), if_neg (show ¬ clsN (B p) = 2 by omega), if_pos rfl]
end
