/-! copy -/
theorem sub_lt40 {z a b : Nat} (hz : z ≤ 40) (ha : a < 2 ^ 31) (hb : b < 2 ^ 31) : nI z - nI a < nI b ↔ z < a + b := by
  rw [Int32.lt_iff_toInt_lt, nI_toInt hb, Int32.toInt_sub, nI_toInt (by omega), nI_toInt ha]
  rw [Int.bmod_eq_of_le (by omega) (by omega)]
  omega
/-- the numbers from p on, q of them, lie on a sheet of z -/
def hfP (z : Nat) (p q : Int32) : Prop := ∃ a c : Nat, a + c ≤ z ∧ p = nI a ∧ q = nI c
theorem hasF_t {n0 z : Nat} {p q : Int32} (hz : z ≤ 40) (h : hfP z p q) : F_X2_hasFrom n0 (nI z) p q = some 1 := by
  obtain ⟨a, c, h1, rfl, rfl⟩ := h
  unfold F_X2_hasFrom
  rw [if_neg (nI_pos (by omega)), if_neg (nI_pos (by omega)), nm, if_neg (fun h => by rw [sub_lt40 hz (by omega) (by omega)] at h; omega)]
theorem hasF_f {n0 z : Nat} {p q : Int32} (hz : z ≤ 40) (h : ¬ hfP z p q) : F_X2_hasFrom n0 (nI z) p q = some 0 := by
  unfold F_X2_hasFrom
  by_cases h1 : p < 0
  · rw [if_pos h1]
  · rw [if_neg h1]
    by_cases h2 : q < 0
    · rw [if_pos h2]
    · rw [if_neg h2]
      obtain ⟨a, ha, rfl⟩ := nI_of h1
      obtain ⟨c, hc, rfl⟩ := nI_of h2
      rw [nm, if_pos ((sub_lt40 hz ha hc).mpr (by
        by_cases h3 : z < a + c
        · exact h3
        · exact absurd ⟨a, c, by omega, rfl, rfl⟩ h))]
theorem cmp_pos {u v : Int64} : 0 < lg_cmp u v ↔ v < u := by
  unfold lg_cmp
  by_cases h1 : u > v
  · rw [if_pos h1]
    exact ⟨fun _ => h1, fun _ => by decide⟩
  · rw [if_neg h1]
    by_cases h2 : u = v
    · rw [if_pos h2]
      exact ⟨fun h => absurd h (by decide), fun h => absurd h h1⟩
    · rw [if_neg h2]
      exact ⟨fun h => absurd h (by decide), fun h => absurd h h1⟩
theorem cmp_le {u v : Int64} : lg_cmp u v ≤ 0 ↔ ¬ v < u := by
  rw [← cmp_pos, Int32.not_lt]
theorem lsum {a c z : Nat} (ha : a < 2 ^ 31) (hc : c < 2 ^ 31) (hz : z < 2 ^ 31) : (nI z).toInt64 < (nI a).toInt64 + (nI c).toInt64 ↔ z < a + c := by
  rw [nI_l ha, nI_l hc, nI_l hz, lN_add, pk_lLT (by omega) (by omega)]
theorem cpyi_t {Ro : Type} {f g : Nat → Int32} {a b c : Nat} {k : (Nat → Int32) → Option Ro} (ha : a + c ≤ 40) (hb : b + c ≤ 40) : cpyi f 40 (nI a) g 40 (nI b) (nI c) k = k (va_cpy f g a b c) := by
  unfold cpyi
  rw [nI_toInt (by omega), nI_toInt (by omega), nI_toInt (by omega), nI_clamp (by omega), nI_clamp (by omega), nI_clamp (by omega), if_pos ⟨by omega, by omega, by omega, by omega, by omega⟩]
theorem cix {k a i : Nat} : (40 : Int32) * nI k + nI a + nI i = nI (40 * k + a + i) := by rw [num_ix, nI_add]
theorem cp2_r {l b c : Nat} {found pas : Nat → Int32} (hl : l < 4) (hb : b + c ≤ 40) : ∀ (q i n : Nat) (t : Nat → Int32), i + q = c → q < n → ∃ t' : Nat → Int32, (∀ j : Nat, i ≤ j → j < c → t' (40 * l + b + j) = pas j) ∧ (∀ m : Nat, ¬ (40 * l + b + i ≤ m ∧ m < 40 * l + b + c) → t' m = t m) ∧ L_X7_copy_160 (nI c) found pas (nI l) (nI b) n (nI i) t = some (nI c, found, t', pas) := by
  intro q
  induction q with
  | zero =>
    intro i n t h1 h2
    obtain ⟨n, rfl⟩ : ∃ q, n = q + 1 := ⟨n - 1, by omega⟩
    rw [L_X7_copy_160_u, if_pos (nI_le (by omega) (by omega))]
    exact ⟨t, fun j h3 h4 => absurd h4 (by omega), fun _ _ => rfl, rfl⟩
  | succ q ih =>
    intro i n t h1 h2
    obtain ⟨n, rfl⟩ : ∃ q, n = q + 1 := ⟨n - 1, by omega⟩
    rw [L_X7_copy_160_u, if_neg (nI_ge (by omega) (by omega))]
    simp only [nm]
    rw [cix, rd_nI (by omega) (by decide), wrt_nI (by omega) (by decide), nI_1]
    obtain ⟨t', e1, e2, e3⟩ := ih (i + 1) n (upd t (40 * l + b + i) (pas i)) (by omega) (by omega)
    refine ⟨t', fun j h3 h4 => ?_, fun m hm => ?_, e3⟩
    · by_cases h : j = i
      · subst h
        rw [e2 _ (by omega), pk_us]
      · exact e1 j (by omega) h4
    · rw [e2 m (fun h => hm ⟨by omega, h.2⟩), pk_un (fun h => hm ⟨by omega, by omega⟩)]
theorem cp1_r {n0 k a l b c : Nat} {found number : Nat → Int32} (hk : k < 4) (ha : a + c ≤ 40) : ∀ (q i n : Nat) (t : Nat → Int32), i + q = c → q < n → ∃ t' : Nat → Int32, (∀ j : Nat, i ≤ j → j < c → t' j = number (40 * k + a + j)) ∧ (∀ j : Nat, j < i → t' j = t j) ∧ L_X7_copy_123 (nI c) found (nI l) (nI b) n0 number (nI k) (nI a) n (nI i) t = L_X7_copy_160 (nI c) found t' (nI l) (nI b) n0 0 number := by
  intro q
  induction q with
  | zero =>
    intro i n t h1 h2
    obtain ⟨n, rfl⟩ : ∃ q, n = q + 1 := ⟨n - 1, by omega⟩
    rw [L_X7_copy_123_u, if_pos (nI_le (by omega) (by omega))]
    exact ⟨t, fun j h3 h4 => absurd h4 (by omega), fun _ _ => rfl, rfl⟩
  | succ q ih =>
    intro i n t h1 h2
    obtain ⟨n, rfl⟩ : ∃ q, n = q + 1 := ⟨n - 1, by omega⟩
    rw [L_X7_copy_123_u, if_neg (nI_ge (by omega) (by omega))]
    simp only [nm]
    rw [cix, rd_nI (by omega) (by decide), wrt_nI (by omega) (by decide), nI_1]
    obtain ⟨t', e1, e2, e3⟩ := ih (i + 1) n (upd t i (number (40 * k + a + i))) (by omega) (by omega)
    refine ⟨t', fun j h3 h4 => ?_, fun j h3 => ?_, e3⟩
    · by_cases h : j = i
      · subst h
        rw [e2 j (by omega), pk_us]
      · exact e1 j (by omega) h4
    · rw [e2 j (by omega), pk_un (by omega)]
theorem copy_core {n0 k l : Nat} (hn : 2000000 ≤ n0) (hk4 : k < 4) (hl4 : l < 4) {b1 s1 b3 s3 p1 p2 p3 p4 p5 : Int32} {nb1 nb3 found mfound bitsOf sizeOf number passing : Nat → Int32} (hk : ixb p1 4 = true → p1 = nI k) (hl : ixb p3 4 = true → p3 = nI l) (hF : ∀ i : Nat, i < 7 → mfound i = found i) (hS1 : SR k nb1 b1 s1 bitsOf sizeOf number) (hS3 : SR l nb3 b3 s3 bitsOf sizeOf number) : ∃ (r : Int32) (o0 o1 w0 w1 w2 : Nat → Int32), F_X6_copy n0 found b1 s1 b3 s3 nb1 nb3 p1 p2 p3 p4 p5 = some (r, o0, o1) ∧ F_X7_copy n0 bitsOf mfound number passing sizeOf p1 p2 p3 p4 p5 = some (r, w0, w1, w2) ∧ (∀ i : Nat, i < 7 → w0 i = o0 i) ∧ SR l o1 b3 s3 bitsOf sizeOf w1 ∧ ∀ j : Nat, j < 4 → j ≠ l → ∀ (nb : Nat → Int32) (b s : Int32), SR j nb b s bitsOf sizeOf number → SR j nb b s bitsOf sizeOf w1 := by
  have hS3' := hS3
  obtain ⟨hbk, hzk, hbb1, ⟨z1, hz1, hz1e, _⟩, hnu1⟩ := hS1
  obtain ⟨hbl, hzl, hbb3, ⟨z3, hz3, hz3e, _⟩, hnu3⟩ := hS3
  by_cases hs1 : inR 0 3 p1
  · have hp1 := hk (ixb_r.mpr hs1)
    subst hp1
    by_cases hs3 : inR 0 3 p3
    · have hp3 := hl (ixb_r.mpr hs3)
      subst hp3
      by_cases hb1 : b1 = 0
      · have hx : F_X6_copy n0 found b1 s1 b3 s3 nb1 nb3 (nI k) p2 (nI l) p4 p5 = some (-1000006, upd found 5 (found 5 + 1), nb3) := by
          unfold F_X6_copy
          rw [isSheet_t hs1, isSheet_t hs3]
          simp only [bd1, one0]
          rw [ixq_t hk4, miss_t hb1]
          rfl
        have hm : F_X7_copy n0 bitsOf mfound number passing sizeOf (nI k) p2 (nI l) p4 p5 = some (-1000006, upd mfound 5 (mfound 5 + 1), number, passing) := by
          unfold F_X7_copy
          rw [mSheet_t hs1, mSheet_t hs3]
          simp only [bd1, one0]
          rw [rd_nI hk4 (by decide), hbk, if_pos hb1]
          rfl
        exact ⟨_, _, _, _, _, _, hx, hm, fnd_u hF 5 (by decide), hS3', fun _ _ _ _ _ _ h => h⟩
      · by_cases hb3 : b3 = 0
        · have hx : F_X6_copy n0 found b1 s1 b3 s3 nb1 nb3 (nI k) p2 (nI l) p4 p5 = some (-1000006, upd found 5 (found 5 + 1), nb3) := by
            unfold F_X6_copy
            rw [isSheet_t hs1, isSheet_t hs3]
            simp only [bd1, one0]
            rw [ixq_t hk4, miss_f hb1]
            simp only [zero0]
            rw [ixq_t hl4, miss_t hb3]
            rfl
          have hm : F_X7_copy n0 bitsOf mfound number passing sizeOf (nI k) p2 (nI l) p4 p5 = some (-1000006, upd mfound 5 (mfound 5 + 1), number, passing) := by
            unfold F_X7_copy
            rw [mSheet_t hs1, mSheet_t hs3]
            simp only [bd1, one0]
            rw [rd_nI hk4 (by decide), hbk, if_neg hb1, rd_nI hl4 (by decide), hbl, if_pos hb3]
            rfl
          exact ⟨_, _, _, _, _, _, hx, hm, fnd_u hF 5 (by decide), hS3', fun _ _ _ _ _ _ h => h⟩
        · by_cases hbe : b1 = b3
          · have hx0 : F_X6_copy n0 found b1 s1 b3 s3 nb1 nb3 (nI k) p2 (nI l) p4 p5 = bd1 (F_X2_hasFrom n0 (nI z1) p2 p5) (fun x9 => (if x9 = 0 then bd2 (F_X6_finding n0 found ((-1000001))) (fun x10 g11 => some (x10, g11, nb3)) else bd1 (F_X2_hasFrom n0 (nI z3) p4 p5) (fun x12 => (if x12 = 0 then bd2 (F_X6_finding n0 found ((-1000001))) (fun x14 g15 => some (x14, g15, nb3)) else cpyi nb1 40 p2 nb3 40 p4 p5 (fun g13 => some (p5, found, g13)))))) := by
              unfold F_X6_copy
              rw [isSheet_t hs1, isSheet_t hs3]
              simp only [bd1, one0]
              rw [ixq_t hk4, miss_f hb1]
              simp only [zero0]
              rw [ixq_t hl4, miss_f hb3]
              simp only [zero0]
              rw [ixq_t hk4, ixq_t hl4, if_pos hbe, ixq_t hk4, hz1e, hz3e]
              simp only [ixq_t hk4, ixq_t hl4, if_true]
            have hm0 : F_X7_copy n0 bitsOf mfound number passing sizeOf (nI k) p2 (nI l) p4 p5 = (if p2 < 0 then some (-1000001, upd mfound 0 (mfound 0 + 1), number, passing) else if p4 < 0 then some (-1000001, upd mfound 0 (mfound 0 + 1), number, passing) else if p5 < 0 then some (-1000001, upd mfound 0 (mfound 0 + 1), number, passing) else if 0 < lg_cmp (p2.toInt64 + p5.toInt64) (nI z1).toInt64 then some (-1000001, upd mfound 0 (mfound 0 + 1), number, passing) else if lg_cmp (p4.toInt64 + p5.toInt64) (nI z3).toInt64 ≤ 0 then L_X7_copy_123 p5 mfound (nI l) p4 n0 number (nI k) p2 n0 0 passing else some (-1000001, upd mfound 0 (mfound 0 + 1), number, passing)) := by
              unfold F_X7_copy
              rw [mSheet_t hs1, mSheet_t hs3]
              simp only [bd1, one0, nm]
              rw [rd_nI hk4 (by decide), hbk, if_neg hb1, rd_nI hl4 (by decide), hbl, if_neg hb3, rd_nI hk4 (by decide), rd_nI hl4 (by decide), hbk, hbl, if_pos hbe, rd_nI hk4 (by decide), rd_nI hl4 (by decide), hzk, hzl, hz1e, hz3e]
              rfl
            by_cases hok : hfP z1 p2 p5 ∧ hfP z3 p4 p5
            · obtain ⟨⟨a, c, ha, ha2, hc2⟩, ⟨b, c', hb, hb2, hc3⟩⟩ := hok
              have ec : c' = c := (nI_eq (by omega) (by omega)).mp (hc3.symm.trans hc2)
              subst ec
              have hf1 : hfP z1 p2 p5 := ⟨a, c', ha, ha2, hc2⟩
              have hf3 : hfP z3 p4 p5 := ⟨b, c', hb, hb2, hc3⟩
              obtain ⟨t1, e1, _, e3⟩ := cp1_r (n0 := n0) (l := l) (b := b) (found := mfound) (number := number) hk4 (a := a) (c := c') (by omega) c' 0 n0 passing (by omega) (by omega)
              obtain ⟨t2, f1, f2, f3⟩ := cp2_r (found := mfound) (pas := t1) hl4 (b := b) (c := c') (by omega) c' 0 n0 number (by omega) (by omega)
              have hx : F_X6_copy n0 found b1 s1 b3 s3 nb1 nb3 (nI k) p2 (nI l) p4 p5 = some (p5, found, va_cpy nb1 nb3 a b c') := by
                rw [hx0, hasF_t hz1 hf1, hasF_t hz3 hf3]
                simp only [bd1, one0]
                rw [ha2, hb2, hc2, cpyi_t (by omega) (by omega)]
              have hm : F_X7_copy n0 bitsOf mfound number passing sizeOf (nI k) p2 (nI l) p4 p5 = some (p5, mfound, t2, t1) := by
                rw [hm0, ha2, hb2, hc2, if_neg (nI_pos (by omega)), if_neg (nI_pos (by omega)), if_neg (nI_pos (by omega)), if_neg (fun h => by rw [cmp_pos, lsum (by omega) (by omega) (by omega)] at h; omega), if_pos (cmp_le.mpr (fun h => by rw [lsum (by omega) (by omega) (by omega)] at h; omega))]
                rw [nI_0] at e3 f3
                rw [e3, f3]
              refine ⟨_, _, _, _, _, _, hx, hm, hF, ⟨hbl, hzl, hbb3, ⟨z3, hz3, hz3e, by assumption⟩, fun i hi => ?_⟩, fun j hj hjl nb b' s' hSj => ?_⟩
              · by_cases hin : b ≤ i ∧ i < b + c'
                · rw [pk_cpy_in hin.1 hin.2, show 40 * l + i = 40 * l + b + (i - b) by omega, f1 (i - b) (by omega) (by omega), e1 (i - b) (by omega) (by omega), show 40 * k + a + (i - b) = 40 * k + (a + (i - b)) by omega, hnu1 _ (by omega)]
                · rw [pk_cpy_out (by omega), f2 _ (fun h => hin ⟨by omega, by omega⟩)]
                  exact hnu3 i hi
              · exact SR_of hSj rfl rfl (fun i hi => f2 _ (fun h => by omega))
            · have hx : F_X6_copy n0 found b1 s1 b3 s3 nb1 nb3 (nI k) p2 (nI l) p4 p5 = some (-1000001, upd found 0 (found 0 + 1), nb3) := by
                rw [hx0]
                by_cases hf1 : hfP z1 p2 p5
                · rw [hasF_t hz1 hf1, hasF_f hz3 (fun h => hok ⟨hf1, h⟩)]
                  rfl
                · rw [hasF_f hz1 hf1]
                  rfl
              have hm : F_X7_copy n0 bitsOf mfound number passing sizeOf (nI k) p2 (nI l) p4 p5 = some (-1000001, upd mfound 0 (mfound 0 + 1), number, passing) := by
                rw [hm0]
                by_cases q2 : p2 < 0
                · rw [if_pos q2]
                rw [if_neg q2]
                by_cases q4 : p4 < 0
                · rw [if_pos q4]
                rw [if_neg q4]
                by_cases q5 : p5 < 0
                · rw [if_pos q5]
                rw [if_neg q5]
                obtain ⟨a, ha, rfl⟩ := nI_of q2
                obtain ⟨b, hb, rfl⟩ := nI_of q4
                obtain ⟨c, hc, rfl⟩ := nI_of q5
                by_cases g1 : z1 < a + c
                · rw [if_pos (cmp_pos.mpr ((lsum ha hc (by omega)).mpr g1))]
                · rw [if_neg (fun h => g1 ((lsum ha hc (by omega)).mp (cmp_pos.mp h))), if_neg (fun h => (cmp_le.mp h) ((lsum hb hc (by omega)).mpr (by
                    by_cases g3 : z3 < b + c
                    · exact g3
                    · exact absurd ⟨⟨a, c, by omega, rfl, rfl⟩, ⟨b, c, by omega, rfl, rfl⟩⟩ hok)))]
              exact ⟨_, _, _, _, _, _, hx, hm, fnd_u hF 0 (by decide), hS3', fun _ _ _ _ _ _ h => h⟩
          · have hx : F_X6_copy n0 found b1 s1 b3 s3 nb1 nb3 (nI k) p2 (nI l) p4 p5 = some (-1000003, upd found 2 (found 2 + 1), nb3) := by
              unfold F_X6_copy
              rw [isSheet_t hs1, isSheet_t hs3]
              simp only [bd1, one0]
              rw [ixq_t hk4, miss_f hb1]
              simp only [zero0]
              rw [ixq_t hl4, miss_f hb3]
              simp only [zero0]
              rw [ixq_t hk4, ixq_t hl4, if_neg hbe]
              rfl
            have hm : F_X7_copy n0 bitsOf mfound number passing sizeOf (nI k) p2 (nI l) p4 p5 = some (-1000003, upd mfound 2 (mfound 2 + 1), number, passing) := by
              unfold F_X7_copy
              rw [mSheet_t hs1, mSheet_t hs3]
              simp only [bd1, one0]
              rw [rd_nI hk4 (by decide), hbk, if_neg hb1, rd_nI hl4 (by decide), hbl, if_neg hb3, rd_nI hk4 (by decide), rd_nI hl4 (by decide), hbk, hbl, if_neg hbe]
              rfl
            exact ⟨_, _, _, _, _, _, hx, hm, fnd_u hF 2 (by decide), hS3', fun _ _ _ _ _ _ h => h⟩
    · have hx : F_X6_copy n0 found b1 s1 b3 s3 nb1 nb3 (nI k) p2 p3 p4 p5 = some (-1000001, upd found 0 (found 0 + 1), nb3) := by
        unfold F_X6_copy
        rw [isSheet_t hs1, isSheet_f hs3]
        rfl
      have hm : F_X7_copy n0 bitsOf mfound number passing sizeOf (nI k) p2 p3 p4 p5 = some (-1000001, upd mfound 0 (mfound 0 + 1), number, passing) := by
        unfold F_X7_copy
        rw [mSheet_t hs1, mSheet_f hs3]
        rfl
      exact ⟨_, _, _, _, _, _, hx, hm, fnd_u hF 0 (by decide), hS3', fun _ _ _ _ _ _ h => h⟩
  · have hx : F_X6_copy n0 found b1 s1 b3 s3 nb1 nb3 p1 p2 p3 p4 p5 = some (-1000001, upd found 0 (found 0 + 1), nb3) := by
      unfold F_X6_copy
      rw [isSheet_f hs1]
      rfl
    have hm : F_X7_copy n0 bitsOf mfound number passing sizeOf p1 p2 p3 p4 p5 = some (-1000001, upd mfound 0 (mfound 0 + 1), number, passing) := by
      unfold F_X7_copy
      rw [mSheet_f hs1]
      rfl
    exact ⟨_, _, _, _, _, _, hx, hm, fnd_u hF 0 (by decide), hS3', fun _ _ _ _ _ _ h => h⟩
theorem copye_eq {n0 : Nat} {found nb : Nat → Int32} {b s p1 p2 p3 p4 p5 : Int32} : F_X6_copye n0 found b s nb p1 p2 p3 p4 p5 = F_X6_copy n0 found b s b s nb nb p1 p2 p3 p4 p5 := rfl
theorem st_copye_0_0 {n0 : Nat} (hn : 2000000 ≤ n0) : St_copye_0_0 n0 := by
  intro xv_isKept xf_found xv_camp_tents xv_camp_said xv_camp_wall xv_camp_bridge xv_camp_counted xv_camp_day xv_camp_z xf_camp_kinds xf_camp_yards xf_camp_spots xv_kept_tents xv_kept_said xv_kept_wall xv_kept_bridge xv_kept_counted xv_kept_day xv_kept_z xf_kept_kinds xf_kept_yards xf_kept_spots xv_tape_size xf_tape_bytes xv_sheets_0_bits xv_sheets_0_size xf_sheets_0_numbers xv_sheets_1_bits xv_sheets_1_size xf_sheets_1_numbers xv_sheets_2_bits xv_sheets_2_size xf_sheets_2_numbers xv_sheets_3_bits xv_sheets_3_size xf_sheets_3_numbers mv_isKept mv_taped mv_gone mf_d mf_kept mf_found mf_tape mf_bitsOf mf_sizeOf mf_number mf_passing hI p1 p2 p3 p4 p5 hk1 hk3
  obtain ⟨hC, hK1, hK2, hK3, hF, hT, hS0, hS1, hS2, hS3, hG⟩ := hI
  obtain ⟨r, o0, o1, w0, w1, w2, hx, hm, h1, h2, h3⟩ := copy_core (p2 := p2) (p4 := p4) (p5 := p5) (passing := mf_passing) hn (by decide) (by decide) hk1 hk3 hF hS0 hS0
  rw [← copye_eq] at hx
  exact ⟨r, o0, o1, w0, w1, w2, hx, hm, hC, hK1, hK2, hK3, h1, hT, h2, h3 1 (by decide) (by decide) _ _ _ hS1, h3 2 (by decide) (by decide) _ _ _ hS2, h3 3 (by decide) (by decide) _ _ _ hS3, hG⟩
theorem st_copy_0_1 {n0 : Nat} (hn : 2000000 ≤ n0) : St_copy_0_1 n0 := by
  intro xv_isKept xf_found xv_camp_tents xv_camp_said xv_camp_wall xv_camp_bridge xv_camp_counted xv_camp_day xv_camp_z xf_camp_kinds xf_camp_yards xf_camp_spots xv_kept_tents xv_kept_said xv_kept_wall xv_kept_bridge xv_kept_counted xv_kept_day xv_kept_z xf_kept_kinds xf_kept_yards xf_kept_spots xv_tape_size xf_tape_bytes xv_sheets_0_bits xv_sheets_0_size xf_sheets_0_numbers xv_sheets_1_bits xv_sheets_1_size xf_sheets_1_numbers xv_sheets_2_bits xv_sheets_2_size xf_sheets_2_numbers xv_sheets_3_bits xv_sheets_3_size xf_sheets_3_numbers mv_isKept mv_taped mv_gone mf_d mf_kept mf_found mf_tape mf_bitsOf mf_sizeOf mf_number mf_passing hI p1 p2 p3 p4 p5 hk1 hk3
  obtain ⟨hC, hK1, hK2, hK3, hF, hT, hS0, hS1, hS2, hS3, hG⟩ := hI
  obtain ⟨r, o0, o1, w0, w1, w2, hx, hm, h1, h2, h3⟩ := copy_core (p2 := p2) (p4 := p4) (p5 := p5) (passing := mf_passing) hn (by decide) (by decide) hk1 hk3 hF hS0 hS1
  exact ⟨r, o0, o1, w0, w1, w2, hx, hm, hC, hK1, hK2, hK3, h1, hT, h3 0 (by decide) (by decide) _ _ _ hS0, h2, h3 2 (by decide) (by decide) _ _ _ hS2, h3 3 (by decide) (by decide) _ _ _ hS3, hG⟩
theorem st_copy_0_2 {n0 : Nat} (hn : 2000000 ≤ n0) : St_copy_0_2 n0 := by
  intro xv_isKept xf_found xv_camp_tents xv_camp_said xv_camp_wall xv_camp_bridge xv_camp_counted xv_camp_day xv_camp_z xf_camp_kinds xf_camp_yards xf_camp_spots xv_kept_tents xv_kept_said xv_kept_wall xv_kept_bridge xv_kept_counted xv_kept_day xv_kept_z xf_kept_kinds xf_kept_yards xf_kept_spots xv_tape_size xf_tape_bytes xv_sheets_0_bits xv_sheets_0_size xf_sheets_0_numbers xv_sheets_1_bits xv_sheets_1_size xf_sheets_1_numbers xv_sheets_2_bits xv_sheets_2_size xf_sheets_2_numbers xv_sheets_3_bits xv_sheets_3_size xf_sheets_3_numbers mv_isKept mv_taped mv_gone mf_d mf_kept mf_found mf_tape mf_bitsOf mf_sizeOf mf_number mf_passing hI p1 p2 p3 p4 p5 hk1 hk3
  obtain ⟨hC, hK1, hK2, hK3, hF, hT, hS0, hS1, hS2, hS3, hG⟩ := hI
  obtain ⟨r, o0, o1, w0, w1, w2, hx, hm, h1, h2, h3⟩ := copy_core (p2 := p2) (p4 := p4) (p5 := p5) (passing := mf_passing) hn (by decide) (by decide) hk1 hk3 hF hS0 hS2
  exact ⟨r, o0, o1, w0, w1, w2, hx, hm, hC, hK1, hK2, hK3, h1, hT, h3 0 (by decide) (by decide) _ _ _ hS0, h3 1 (by decide) (by decide) _ _ _ hS1, h2, h3 3 (by decide) (by decide) _ _ _ hS3, hG⟩
theorem st_copy_0_3 {n0 : Nat} (hn : 2000000 ≤ n0) : St_copy_0_3 n0 := by
  intro xv_isKept xf_found xv_camp_tents xv_camp_said xv_camp_wall xv_camp_bridge xv_camp_counted xv_camp_day xv_camp_z xf_camp_kinds xf_camp_yards xf_camp_spots xv_kept_tents xv_kept_said xv_kept_wall xv_kept_bridge xv_kept_counted xv_kept_day xv_kept_z xf_kept_kinds xf_kept_yards xf_kept_spots xv_tape_size xf_tape_bytes xv_sheets_0_bits xv_sheets_0_size xf_sheets_0_numbers xv_sheets_1_bits xv_sheets_1_size xf_sheets_1_numbers xv_sheets_2_bits xv_sheets_2_size xf_sheets_2_numbers xv_sheets_3_bits xv_sheets_3_size xf_sheets_3_numbers mv_isKept mv_taped mv_gone mf_d mf_kept mf_found mf_tape mf_bitsOf mf_sizeOf mf_number mf_passing hI p1 p2 p3 p4 p5 hk1 hk3
  obtain ⟨hC, hK1, hK2, hK3, hF, hT, hS0, hS1, hS2, hS3, hG⟩ := hI
  obtain ⟨r, o0, o1, w0, w1, w2, hx, hm, h1, h2, h3⟩ := copy_core (p2 := p2) (p4 := p4) (p5 := p5) (passing := mf_passing) hn (by decide) (by decide) hk1 hk3 hF hS0 hS3
  exact ⟨r, o0, o1, w0, w1, w2, hx, hm, hC, hK1, hK2, hK3, h1, hT, h3 0 (by decide) (by decide) _ _ _ hS0, h3 1 (by decide) (by decide) _ _ _ hS1, h3 2 (by decide) (by decide) _ _ _ hS2, h2, hG⟩
theorem st_copy_1_0 {n0 : Nat} (hn : 2000000 ≤ n0) : St_copy_1_0 n0 := by
  intro xv_isKept xf_found xv_camp_tents xv_camp_said xv_camp_wall xv_camp_bridge xv_camp_counted xv_camp_day xv_camp_z xf_camp_kinds xf_camp_yards xf_camp_spots xv_kept_tents xv_kept_said xv_kept_wall xv_kept_bridge xv_kept_counted xv_kept_day xv_kept_z xf_kept_kinds xf_kept_yards xf_kept_spots xv_tape_size xf_tape_bytes xv_sheets_0_bits xv_sheets_0_size xf_sheets_0_numbers xv_sheets_1_bits xv_sheets_1_size xf_sheets_1_numbers xv_sheets_2_bits xv_sheets_2_size xf_sheets_2_numbers xv_sheets_3_bits xv_sheets_3_size xf_sheets_3_numbers mv_isKept mv_taped mv_gone mf_d mf_kept mf_found mf_tape mf_bitsOf mf_sizeOf mf_number mf_passing hI p1 p2 p3 p4 p5 hk1 hk3
  obtain ⟨hC, hK1, hK2, hK3, hF, hT, hS0, hS1, hS2, hS3, hG⟩ := hI
  obtain ⟨r, o0, o1, w0, w1, w2, hx, hm, h1, h2, h3⟩ := copy_core (p2 := p2) (p4 := p4) (p5 := p5) (passing := mf_passing) hn (by decide) (by decide) hk1 hk3 hF hS1 hS0
  exact ⟨r, o0, o1, w0, w1, w2, hx, hm, hC, hK1, hK2, hK3, h1, hT, h2, h3 1 (by decide) (by decide) _ _ _ hS1, h3 2 (by decide) (by decide) _ _ _ hS2, h3 3 (by decide) (by decide) _ _ _ hS3, hG⟩
theorem st_copye_1_1 {n0 : Nat} (hn : 2000000 ≤ n0) : St_copye_1_1 n0 := by
  intro xv_isKept xf_found xv_camp_tents xv_camp_said xv_camp_wall xv_camp_bridge xv_camp_counted xv_camp_day xv_camp_z xf_camp_kinds xf_camp_yards xf_camp_spots xv_kept_tents xv_kept_said xv_kept_wall xv_kept_bridge xv_kept_counted xv_kept_day xv_kept_z xf_kept_kinds xf_kept_yards xf_kept_spots xv_tape_size xf_tape_bytes xv_sheets_0_bits xv_sheets_0_size xf_sheets_0_numbers xv_sheets_1_bits xv_sheets_1_size xf_sheets_1_numbers xv_sheets_2_bits xv_sheets_2_size xf_sheets_2_numbers xv_sheets_3_bits xv_sheets_3_size xf_sheets_3_numbers mv_isKept mv_taped mv_gone mf_d mf_kept mf_found mf_tape mf_bitsOf mf_sizeOf mf_number mf_passing hI p1 p2 p3 p4 p5 hk1 hk3
  obtain ⟨hC, hK1, hK2, hK3, hF, hT, hS0, hS1, hS2, hS3, hG⟩ := hI
  obtain ⟨r, o0, o1, w0, w1, w2, hx, hm, h1, h2, h3⟩ := copy_core (p2 := p2) (p4 := p4) (p5 := p5) (passing := mf_passing) hn (by decide) (by decide) hk1 hk3 hF hS1 hS1
  rw [← copye_eq] at hx
  exact ⟨r, o0, o1, w0, w1, w2, hx, hm, hC, hK1, hK2, hK3, h1, hT, h3 0 (by decide) (by decide) _ _ _ hS0, h2, h3 2 (by decide) (by decide) _ _ _ hS2, h3 3 (by decide) (by decide) _ _ _ hS3, hG⟩
theorem st_copy_1_2 {n0 : Nat} (hn : 2000000 ≤ n0) : St_copy_1_2 n0 := by
  intro xv_isKept xf_found xv_camp_tents xv_camp_said xv_camp_wall xv_camp_bridge xv_camp_counted xv_camp_day xv_camp_z xf_camp_kinds xf_camp_yards xf_camp_spots xv_kept_tents xv_kept_said xv_kept_wall xv_kept_bridge xv_kept_counted xv_kept_day xv_kept_z xf_kept_kinds xf_kept_yards xf_kept_spots xv_tape_size xf_tape_bytes xv_sheets_0_bits xv_sheets_0_size xf_sheets_0_numbers xv_sheets_1_bits xv_sheets_1_size xf_sheets_1_numbers xv_sheets_2_bits xv_sheets_2_size xf_sheets_2_numbers xv_sheets_3_bits xv_sheets_3_size xf_sheets_3_numbers mv_isKept mv_taped mv_gone mf_d mf_kept mf_found mf_tape mf_bitsOf mf_sizeOf mf_number mf_passing hI p1 p2 p3 p4 p5 hk1 hk3
  obtain ⟨hC, hK1, hK2, hK3, hF, hT, hS0, hS1, hS2, hS3, hG⟩ := hI
  obtain ⟨r, o0, o1, w0, w1, w2, hx, hm, h1, h2, h3⟩ := copy_core (p2 := p2) (p4 := p4) (p5 := p5) (passing := mf_passing) hn (by decide) (by decide) hk1 hk3 hF hS1 hS2
  exact ⟨r, o0, o1, w0, w1, w2, hx, hm, hC, hK1, hK2, hK3, h1, hT, h3 0 (by decide) (by decide) _ _ _ hS0, h3 1 (by decide) (by decide) _ _ _ hS1, h2, h3 3 (by decide) (by decide) _ _ _ hS3, hG⟩
theorem st_copy_1_3 {n0 : Nat} (hn : 2000000 ≤ n0) : St_copy_1_3 n0 := by
  intro xv_isKept xf_found xv_camp_tents xv_camp_said xv_camp_wall xv_camp_bridge xv_camp_counted xv_camp_day xv_camp_z xf_camp_kinds xf_camp_yards xf_camp_spots xv_kept_tents xv_kept_said xv_kept_wall xv_kept_bridge xv_kept_counted xv_kept_day xv_kept_z xf_kept_kinds xf_kept_yards xf_kept_spots xv_tape_size xf_tape_bytes xv_sheets_0_bits xv_sheets_0_size xf_sheets_0_numbers xv_sheets_1_bits xv_sheets_1_size xf_sheets_1_numbers xv_sheets_2_bits xv_sheets_2_size xf_sheets_2_numbers xv_sheets_3_bits xv_sheets_3_size xf_sheets_3_numbers mv_isKept mv_taped mv_gone mf_d mf_kept mf_found mf_tape mf_bitsOf mf_sizeOf mf_number mf_passing hI p1 p2 p3 p4 p5 hk1 hk3
  obtain ⟨hC, hK1, hK2, hK3, hF, hT, hS0, hS1, hS2, hS3, hG⟩ := hI
  obtain ⟨r, o0, o1, w0, w1, w2, hx, hm, h1, h2, h3⟩ := copy_core (p2 := p2) (p4 := p4) (p5 := p5) (passing := mf_passing) hn (by decide) (by decide) hk1 hk3 hF hS1 hS3
  exact ⟨r, o0, o1, w0, w1, w2, hx, hm, hC, hK1, hK2, hK3, h1, hT, h3 0 (by decide) (by decide) _ _ _ hS0, h3 1 (by decide) (by decide) _ _ _ hS1, h3 2 (by decide) (by decide) _ _ _ hS2, h2, hG⟩
theorem st_copy_2_0 {n0 : Nat} (hn : 2000000 ≤ n0) : St_copy_2_0 n0 := by
  intro xv_isKept xf_found xv_camp_tents xv_camp_said xv_camp_wall xv_camp_bridge xv_camp_counted xv_camp_day xv_camp_z xf_camp_kinds xf_camp_yards xf_camp_spots xv_kept_tents xv_kept_said xv_kept_wall xv_kept_bridge xv_kept_counted xv_kept_day xv_kept_z xf_kept_kinds xf_kept_yards xf_kept_spots xv_tape_size xf_tape_bytes xv_sheets_0_bits xv_sheets_0_size xf_sheets_0_numbers xv_sheets_1_bits xv_sheets_1_size xf_sheets_1_numbers xv_sheets_2_bits xv_sheets_2_size xf_sheets_2_numbers xv_sheets_3_bits xv_sheets_3_size xf_sheets_3_numbers mv_isKept mv_taped mv_gone mf_d mf_kept mf_found mf_tape mf_bitsOf mf_sizeOf mf_number mf_passing hI p1 p2 p3 p4 p5 hk1 hk3
  obtain ⟨hC, hK1, hK2, hK3, hF, hT, hS0, hS1, hS2, hS3, hG⟩ := hI
  obtain ⟨r, o0, o1, w0, w1, w2, hx, hm, h1, h2, h3⟩ := copy_core (p2 := p2) (p4 := p4) (p5 := p5) (passing := mf_passing) hn (by decide) (by decide) hk1 hk3 hF hS2 hS0
  exact ⟨r, o0, o1, w0, w1, w2, hx, hm, hC, hK1, hK2, hK3, h1, hT, h2, h3 1 (by decide) (by decide) _ _ _ hS1, h3 2 (by decide) (by decide) _ _ _ hS2, h3 3 (by decide) (by decide) _ _ _ hS3, hG⟩
theorem st_copy_2_1 {n0 : Nat} (hn : 2000000 ≤ n0) : St_copy_2_1 n0 := by
  intro xv_isKept xf_found xv_camp_tents xv_camp_said xv_camp_wall xv_camp_bridge xv_camp_counted xv_camp_day xv_camp_z xf_camp_kinds xf_camp_yards xf_camp_spots xv_kept_tents xv_kept_said xv_kept_wall xv_kept_bridge xv_kept_counted xv_kept_day xv_kept_z xf_kept_kinds xf_kept_yards xf_kept_spots xv_tape_size xf_tape_bytes xv_sheets_0_bits xv_sheets_0_size xf_sheets_0_numbers xv_sheets_1_bits xv_sheets_1_size xf_sheets_1_numbers xv_sheets_2_bits xv_sheets_2_size xf_sheets_2_numbers xv_sheets_3_bits xv_sheets_3_size xf_sheets_3_numbers mv_isKept mv_taped mv_gone mf_d mf_kept mf_found mf_tape mf_bitsOf mf_sizeOf mf_number mf_passing hI p1 p2 p3 p4 p5 hk1 hk3
  obtain ⟨hC, hK1, hK2, hK3, hF, hT, hS0, hS1, hS2, hS3, hG⟩ := hI
  obtain ⟨r, o0, o1, w0, w1, w2, hx, hm, h1, h2, h3⟩ := copy_core (p2 := p2) (p4 := p4) (p5 := p5) (passing := mf_passing) hn (by decide) (by decide) hk1 hk3 hF hS2 hS1
  exact ⟨r, o0, o1, w0, w1, w2, hx, hm, hC, hK1, hK2, hK3, h1, hT, h3 0 (by decide) (by decide) _ _ _ hS0, h2, h3 2 (by decide) (by decide) _ _ _ hS2, h3 3 (by decide) (by decide) _ _ _ hS3, hG⟩
theorem st_copye_2_2 {n0 : Nat} (hn : 2000000 ≤ n0) : St_copye_2_2 n0 := by
  intro xv_isKept xf_found xv_camp_tents xv_camp_said xv_camp_wall xv_camp_bridge xv_camp_counted xv_camp_day xv_camp_z xf_camp_kinds xf_camp_yards xf_camp_spots xv_kept_tents xv_kept_said xv_kept_wall xv_kept_bridge xv_kept_counted xv_kept_day xv_kept_z xf_kept_kinds xf_kept_yards xf_kept_spots xv_tape_size xf_tape_bytes xv_sheets_0_bits xv_sheets_0_size xf_sheets_0_numbers xv_sheets_1_bits xv_sheets_1_size xf_sheets_1_numbers xv_sheets_2_bits xv_sheets_2_size xf_sheets_2_numbers xv_sheets_3_bits xv_sheets_3_size xf_sheets_3_numbers mv_isKept mv_taped mv_gone mf_d mf_kept mf_found mf_tape mf_bitsOf mf_sizeOf mf_number mf_passing hI p1 p2 p3 p4 p5 hk1 hk3
  obtain ⟨hC, hK1, hK2, hK3, hF, hT, hS0, hS1, hS2, hS3, hG⟩ := hI
  obtain ⟨r, o0, o1, w0, w1, w2, hx, hm, h1, h2, h3⟩ := copy_core (p2 := p2) (p4 := p4) (p5 := p5) (passing := mf_passing) hn (by decide) (by decide) hk1 hk3 hF hS2 hS2
  rw [← copye_eq] at hx
  exact ⟨r, o0, o1, w0, w1, w2, hx, hm, hC, hK1, hK2, hK3, h1, hT, h3 0 (by decide) (by decide) _ _ _ hS0, h3 1 (by decide) (by decide) _ _ _ hS1, h2, h3 3 (by decide) (by decide) _ _ _ hS3, hG⟩
theorem st_copy_2_3 {n0 : Nat} (hn : 2000000 ≤ n0) : St_copy_2_3 n0 := by
  intro xv_isKept xf_found xv_camp_tents xv_camp_said xv_camp_wall xv_camp_bridge xv_camp_counted xv_camp_day xv_camp_z xf_camp_kinds xf_camp_yards xf_camp_spots xv_kept_tents xv_kept_said xv_kept_wall xv_kept_bridge xv_kept_counted xv_kept_day xv_kept_z xf_kept_kinds xf_kept_yards xf_kept_spots xv_tape_size xf_tape_bytes xv_sheets_0_bits xv_sheets_0_size xf_sheets_0_numbers xv_sheets_1_bits xv_sheets_1_size xf_sheets_1_numbers xv_sheets_2_bits xv_sheets_2_size xf_sheets_2_numbers xv_sheets_3_bits xv_sheets_3_size xf_sheets_3_numbers mv_isKept mv_taped mv_gone mf_d mf_kept mf_found mf_tape mf_bitsOf mf_sizeOf mf_number mf_passing hI p1 p2 p3 p4 p5 hk1 hk3
  obtain ⟨hC, hK1, hK2, hK3, hF, hT, hS0, hS1, hS2, hS3, hG⟩ := hI
  obtain ⟨r, o0, o1, w0, w1, w2, hx, hm, h1, h2, h3⟩ := copy_core (p2 := p2) (p4 := p4) (p5 := p5) (passing := mf_passing) hn (by decide) (by decide) hk1 hk3 hF hS2 hS3
  exact ⟨r, o0, o1, w0, w1, w2, hx, hm, hC, hK1, hK2, hK3, h1, hT, h3 0 (by decide) (by decide) _ _ _ hS0, h3 1 (by decide) (by decide) _ _ _ hS1, h3 2 (by decide) (by decide) _ _ _ hS2, h2, hG⟩
theorem st_copy_3_0 {n0 : Nat} (hn : 2000000 ≤ n0) : St_copy_3_0 n0 := by
  intro xv_isKept xf_found xv_camp_tents xv_camp_said xv_camp_wall xv_camp_bridge xv_camp_counted xv_camp_day xv_camp_z xf_camp_kinds xf_camp_yards xf_camp_spots xv_kept_tents xv_kept_said xv_kept_wall xv_kept_bridge xv_kept_counted xv_kept_day xv_kept_z xf_kept_kinds xf_kept_yards xf_kept_spots xv_tape_size xf_tape_bytes xv_sheets_0_bits xv_sheets_0_size xf_sheets_0_numbers xv_sheets_1_bits xv_sheets_1_size xf_sheets_1_numbers xv_sheets_2_bits xv_sheets_2_size xf_sheets_2_numbers xv_sheets_3_bits xv_sheets_3_size xf_sheets_3_numbers mv_isKept mv_taped mv_gone mf_d mf_kept mf_found mf_tape mf_bitsOf mf_sizeOf mf_number mf_passing hI p1 p2 p3 p4 p5 hk1 hk3
  obtain ⟨hC, hK1, hK2, hK3, hF, hT, hS0, hS1, hS2, hS3, hG⟩ := hI
  obtain ⟨r, o0, o1, w0, w1, w2, hx, hm, h1, h2, h3⟩ := copy_core (p2 := p2) (p4 := p4) (p5 := p5) (passing := mf_passing) hn (by decide) (by decide) hk1 hk3 hF hS3 hS0
  exact ⟨r, o0, o1, w0, w1, w2, hx, hm, hC, hK1, hK2, hK3, h1, hT, h2, h3 1 (by decide) (by decide) _ _ _ hS1, h3 2 (by decide) (by decide) _ _ _ hS2, h3 3 (by decide) (by decide) _ _ _ hS3, hG⟩
theorem st_copy_3_1 {n0 : Nat} (hn : 2000000 ≤ n0) : St_copy_3_1 n0 := by
  intro xv_isKept xf_found xv_camp_tents xv_camp_said xv_camp_wall xv_camp_bridge xv_camp_counted xv_camp_day xv_camp_z xf_camp_kinds xf_camp_yards xf_camp_spots xv_kept_tents xv_kept_said xv_kept_wall xv_kept_bridge xv_kept_counted xv_kept_day xv_kept_z xf_kept_kinds xf_kept_yards xf_kept_spots xv_tape_size xf_tape_bytes xv_sheets_0_bits xv_sheets_0_size xf_sheets_0_numbers xv_sheets_1_bits xv_sheets_1_size xf_sheets_1_numbers xv_sheets_2_bits xv_sheets_2_size xf_sheets_2_numbers xv_sheets_3_bits xv_sheets_3_size xf_sheets_3_numbers mv_isKept mv_taped mv_gone mf_d mf_kept mf_found mf_tape mf_bitsOf mf_sizeOf mf_number mf_passing hI p1 p2 p3 p4 p5 hk1 hk3
  obtain ⟨hC, hK1, hK2, hK3, hF, hT, hS0, hS1, hS2, hS3, hG⟩ := hI
  obtain ⟨r, o0, o1, w0, w1, w2, hx, hm, h1, h2, h3⟩ := copy_core (p2 := p2) (p4 := p4) (p5 := p5) (passing := mf_passing) hn (by decide) (by decide) hk1 hk3 hF hS3 hS1
  exact ⟨r, o0, o1, w0, w1, w2, hx, hm, hC, hK1, hK2, hK3, h1, hT, h3 0 (by decide) (by decide) _ _ _ hS0, h2, h3 2 (by decide) (by decide) _ _ _ hS2, h3 3 (by decide) (by decide) _ _ _ hS3, hG⟩
theorem st_copy_3_2 {n0 : Nat} (hn : 2000000 ≤ n0) : St_copy_3_2 n0 := by
  intro xv_isKept xf_found xv_camp_tents xv_camp_said xv_camp_wall xv_camp_bridge xv_camp_counted xv_camp_day xv_camp_z xf_camp_kinds xf_camp_yards xf_camp_spots xv_kept_tents xv_kept_said xv_kept_wall xv_kept_bridge xv_kept_counted xv_kept_day xv_kept_z xf_kept_kinds xf_kept_yards xf_kept_spots xv_tape_size xf_tape_bytes xv_sheets_0_bits xv_sheets_0_size xf_sheets_0_numbers xv_sheets_1_bits xv_sheets_1_size xf_sheets_1_numbers xv_sheets_2_bits xv_sheets_2_size xf_sheets_2_numbers xv_sheets_3_bits xv_sheets_3_size xf_sheets_3_numbers mv_isKept mv_taped mv_gone mf_d mf_kept mf_found mf_tape mf_bitsOf mf_sizeOf mf_number mf_passing hI p1 p2 p3 p4 p5 hk1 hk3
  obtain ⟨hC, hK1, hK2, hK3, hF, hT, hS0, hS1, hS2, hS3, hG⟩ := hI
  obtain ⟨r, o0, o1, w0, w1, w2, hx, hm, h1, h2, h3⟩ := copy_core (p2 := p2) (p4 := p4) (p5 := p5) (passing := mf_passing) hn (by decide) (by decide) hk1 hk3 hF hS3 hS2
  exact ⟨r, o0, o1, w0, w1, w2, hx, hm, hC, hK1, hK2, hK3, h1, hT, h3 0 (by decide) (by decide) _ _ _ hS0, h3 1 (by decide) (by decide) _ _ _ hS1, h2, h3 3 (by decide) (by decide) _ _ _ hS3, hG⟩
theorem st_copye_3_3 {n0 : Nat} (hn : 2000000 ≤ n0) : St_copye_3_3 n0 := by
  intro xv_isKept xf_found xv_camp_tents xv_camp_said xv_camp_wall xv_camp_bridge xv_camp_counted xv_camp_day xv_camp_z xf_camp_kinds xf_camp_yards xf_camp_spots xv_kept_tents xv_kept_said xv_kept_wall xv_kept_bridge xv_kept_counted xv_kept_day xv_kept_z xf_kept_kinds xf_kept_yards xf_kept_spots xv_tape_size xf_tape_bytes xv_sheets_0_bits xv_sheets_0_size xf_sheets_0_numbers xv_sheets_1_bits xv_sheets_1_size xf_sheets_1_numbers xv_sheets_2_bits xv_sheets_2_size xf_sheets_2_numbers xv_sheets_3_bits xv_sheets_3_size xf_sheets_3_numbers mv_isKept mv_taped mv_gone mf_d mf_kept mf_found mf_tape mf_bitsOf mf_sizeOf mf_number mf_passing hI p1 p2 p3 p4 p5 hk1 hk3
  obtain ⟨hC, hK1, hK2, hK3, hF, hT, hS0, hS1, hS2, hS3, hG⟩ := hI
  obtain ⟨r, o0, o1, w0, w1, w2, hx, hm, h1, h2, h3⟩ := copy_core (p2 := p2) (p4 := p4) (p5 := p5) (passing := mf_passing) hn (by decide) (by decide) hk1 hk3 hF hS3 hS3
  rw [← copye_eq] at hx
  exact ⟨r, o0, o1, w0, w1, w2, hx, hm, hC, hK1, hK2, hK3, h1, hT, h3 0 (by decide) (by decide) _ _ _ hS0, h3 1 (by decide) (by decide) _ _ _ hS1, h3 2 (by decide) (by decide) _ _ _ hS2, h2, hG⟩
