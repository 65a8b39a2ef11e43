/-! text -/
theorem bd7_k {A0 A1 A2 A3 A4 A5 A6 Ro : Type} {a : A0} {b : A1} {c : A2} {d : A3} {e : A4} {f : A5} {g : A6} {k : A0 → A1 → A2 → A3 → A4 → A5 → A6 → Option Ro} : bd7 (some (a, b, c, d, e, f, g)) k = k a b c d e f g := rfl
theorem bd9_k {A0 A1 A2 A3 A4 A5 A6 A7 A8 Ro : Type} {a : A0} {b : A1} {c : A2} {d : A3} {e : A4} {f : A5} {g : A6} {h : A7} {i : A8} {k : A0 → A1 → A2 → A3 → A4 → A5 → A6 → A7 → A8 → Option Ro} : bd9 (some (a, b, c, d, e, f, g, h, i)) k = k a b c d e f g h i := rfl
theorem bd12_k {A0 A1 A2 A3 A4 A5 A6 A7 A8 A9 A10 A11 Ro : Type} {a : A0} {b : A1} {c : A2} {d : A3} {e : A4} {f : A5} {g : A6} {h : A7} {i : A8} {j : A9} {l : A10} {m : A11} {k : A0 → A1 → A2 → A3 → A4 → A5 → A6 → A7 → A8 → A9 → A10 → A11 → Option Ro} : bd12 (some (a, b, c, d, e, f, g, h, i, j, l, m)) k = k a b c d e f g h i j l m := rfl
/-- both have read an item, or both have found the same fault -/
def itR (T : Nat) (B : Nat → Nat) (p : Nat) (spots : Nat → Int32) (day z : Int32) (X : Option (Int32 × Int32 × Int32 × Int32 × Int32 × Int32 × Int32 × Int32 × Int32 × Int32 × (Nat → Int32) × (Nat → Int32))) (M : Option (Int32 × Int32 × Int32 × Int64 × Int32 × (Nat → Int32))) : Prop :=
  (∃ (p' e' : Nat) (st be so nu ma ms fr : Int32) (va : Int64) (N' : Nat) (said' wall' bridge' counted' : Int32) (kinds' yards' d' : Nat → Int32), p ≤ p' ∧ tkR T B p' e' st be so nu ma ms fr va ∧ N' ≤ 10 ∧ CR kinds' yards' spots (nI N') said' wall' bridge' counted' day z d' ∧ X = some (1, st, be, so, nu, nI N', said', wall', bridge', counted', kinds', yards') ∧ M = some (ma, ms, fr, va, -1, d')) ∨
  (∃ (f : Nat) (x1 x2 x3 x4 x5 x6 x7 x8 : Int32) (g1 g2 : Nat → Int32) (y1 y2 y3 : Int32) (y4 : Int64) (y5 : Nat → Int32), f ≤ T ∧ X = some (0, nI f, x1, x2, x3, x4, x5, x6, x7, x8, g1, g2) ∧ M = some (y1, y2, y3, y4, nI f, y5))
theorem tent_it {T p : Nat} {B : Nat → Nat} {spots : Nat → Int32} {wall bridge counted day z : Int32} {X : Option (Int32 × Int32 × Int32 × Int32 × Int32 × Int32 × Int32 × (Nat → Int32) × (Nat → Int32))} {M : Option (Int32 × Int32 × Int32 × Int64 × Int32 × (Nat → Int32))} (h : ttR T B p spots wall bridge counted day z X M) : itR T B p spots day z (bd9 X (fun x19 x20 x21 x22 x23 x24 x25 g26 g27 => bz x19 (some (x19, x20, x21, x22, x23, x24, x25, wall, bridge, counted, g26, g27)))) (bd6 M (fun x23 x24 x25 x26 x27 g28 => some (x23, x24, x25, x26, x27, g28))) := by
  rcases h with ⟨p', e', st, be, so, nu, ma, ms, fr, va, N', said', kinds', yards', d', h1, h2, h3, h4, h5, h6⟩ | ⟨f, x1, x2, x3, x4, x5, x6, x7, y1, y2, y3, y4, y5, h1, h2, h3⟩
  · rw [h5, h6, bd9_k, bd6_k, bz_t (Or.inr rfl)]
    exact Or.inl ⟨p', e', st, be, so, nu, ma, ms, fr, va, N', said', wall, bridge, counted, kinds', yards', d', h1, h2, h3, h4, rfl, rfl⟩
  · rw [h2, h3, bd9_k, bd6_k, bz_t (Or.inl rfl)]
    exact Or.inr ⟨f, _, _, _, _, _, _, _, _, _, _, _, _, _, _, _, h1, rfl, rfl⟩
theorem wall_it {T p N : Nat} {B : Nat → Nat} {kinds yards spots : Nat → Int32} {said counted day z : Int32} {X : Option (Int32 × Int32 × Int32 × Int32 × Int32 × Int32 × Int32)} {M : Option (Int32 × Int32 × Int32 × Int64 × Int32 × (Nat → Int32))} (hN : N ≤ 10) (h : waR T B p kinds yards spots (nI N) said counted day z X M) : itR T B p spots day z (bd7 X (fun x9 x10 x11 x12 x13 x14 x15 => bz x9 (some (x9, x10, x11, x12, x13, nI N, said, x14, x15, counted, kinds, yards)))) (bd6 M (fun x17 x18 x19 x20 x21 g22 => some (x17, x18, x19, x20, x21, g22))) := by
  rcases h with ⟨p', e', st, be, so, nu, ma, ms, fr, va, wall', bridge', d', h1, h2, h4, h5, h6⟩ | ⟨f, x1, x2, x3, x4, x5, y1, y2, y3, y4, y5, h1, h2, h3⟩
  · rw [h5, h6, bd7_k, bd6_k, bz_t (Or.inr rfl)]
    exact Or.inl ⟨p', e', st, be, so, nu, ma, ms, fr, va, N, said, wall', bridge', counted, kinds, yards, d', h1, h2, hN, h4, rfl, rfl⟩
  · rw [h2, h3, bd7_k, bd6_k, bz_t (Or.inl rfl)]
    exact Or.inr ⟨f, _, _, _, _, _, _, _, _, _, _, _, _, _, _, _, h1, rfl, rfl⟩
def nmI (k : Nat) : Nat := ([12, 6, 7, 8, 9, 10, 11] : List Nat).getD k 0
theorem nm_0 {n0 : Nat} {x : Int32} : F_X3_nameOf n0 x = F_X3_nameOf 0 x := rfl
theorem nm_t : ∀ k : Nat, k < 7 → F_X3_nameOf 0 (nI k) = some (nmI k) ∧ nmI k < 13 := by decide +kernel
theorem six_t {Ro : Type} {i : Nat} {k : Option Ro} (h : i < 13) : six i k = k := if_pos h
section
variable {n0 T p e : Nat} {B : Nat → Nat} {bytes tape : Nat → Int32} {st be so nu ma ms fr : Int32} {va : Int64} {tents said wall bridge counted : Int32} {kinds yards : Nat → Int32}
theorem ri_go (hn : 2000000 ≤ n0) (hB : tbR T B bytes tape) (hk : tkR T B p e st be so nu ma ms fr va) {i n : Nat} (hi : i < 7) (h : wdB B p e so (nmI i) = false) : L_X3_readItem_2 n0 st be so bytes nu tents said wall bridge counted kinds yards (nI T) (n + 1) (nI i) = L_X3_readItem_2 n0 st be so bytes nu tents said wall bridge counted kinds yards (nI T) n (nI (i + 1)) := by
  obtain ⟨a1, a2⟩ := nm_t i hi
  rw [L_X3_readItem_2_u, if_neg (show ¬ (7 : Int32) ≤ nI i from nI_ge (b := 7) hi (by decide)), nm_0, a1, bd1_k, six_t a2, word_x hn hB hk a2, bd1_k, h, if_pos bI0, nmq, nI_1]
theorem ri_hit (hn : 2000000 ≤ n0) (hB : tbR T B bytes tape) (hk : tkR T B p e st be so nu ma ms fr va) {i n : Nat} (hi : i < 7) (h : wdB B p e so (nmI i) = true) : L_X3_readItem_2 n0 st be so bytes nu tents said wall bridge counted kinds yards (nI T) (n + 1) (nI i) = bd9 (F_X3_readTent n0 (nI T) st be so nu bytes tents said kinds yards (nI i)) (fun x19 x20 x21 x22 x23 x24 x25 g26 g27 => bz x19 (some (x19, x20, x21, x22, x23, x24, x25, wall, bridge, counted, g26, g27))) := by
  obtain ⟨a1, a2⟩ := nm_t i hi
  rw [L_X3_readItem_2_u, if_neg (show ¬ (7 : Int32) ≤ nI i from nI_ge (b := 7) hi (by decide)), nm_0, a1, bd1_k, six_t a2, word_x hn hB hk a2, bd1_k, h, if_neg bI1]
theorem ri_pre (hn : 2000000 ≤ n0) (hB : tbR T B bytes tape) (hk : tkR T B p e st be so nu ma ms fr va) : ∀ (i n : Nat), i ≤ 7 → (∀ j : Nat, j < i → wdB B p e so (nmI j) = false) → L_X3_readItem_2 n0 st be so bytes nu tents said wall bridge counted kinds yards (nI T) (n + i) (nI 0) = L_X3_readItem_2 n0 st be so bytes nu tents said wall bridge counted kinds yards (nI T) n (nI i) := by
  intro i
  induction i with
  | zero => intro n _ _; rfl
  | succ i ih =>
    intro n h1 h2
    have e1 := ih (n + 1) (by omega) (fun j hj => h2 j (by omega))
    rw [show n + (i + 1) = n + 1 + i by omega, e1]
    exact ri_go hn hB hk (by omega) (h2 i (by omega))
theorem kd_0 (hB : tbR T B bytes tape) (hk : tkR T B p e st be so nu ma ms fr va) (h0 : wdB B p e so 12 = true) : F_X7_kindHere n0 ms va = some (nI 0) := by
  unfold F_X7_kindHere
  rw [w_12, word_m hB hk (show 12 < 13 by decide), bd1_k, h0, if_neg bI1]
  rfl
theorem kd_1 (hB : tbR T B bytes tape) (hk : tkR T B p e st be so nu ma ms fr va) (h0 : wdB B p e so 12 = false) (h1 : wdB B p e so 6 = true) : F_X7_kindHere n0 ms va = some (nI 1) := by
  unfold F_X7_kindHere
  rw [w_12, word_m hB hk (show 12 < 13 by decide), bd1_k, h0, if_pos bI0]
  rw [w_6, word_m hB hk (show 6 < 13 by decide), bd1_k, h1, if_neg bI1]
  rfl
theorem kd_2 (hB : tbR T B bytes tape) (hk : tkR T B p e st be so nu ma ms fr va) (h0 : wdB B p e so 12 = false) (h1 : wdB B p e so 6 = false) (h2 : wdB B p e so 7 = true) : F_X7_kindHere n0 ms va = some (nI 2) := by
  unfold F_X7_kindHere
  rw [w_12, word_m hB hk (show 12 < 13 by decide), bd1_k, h0, if_pos bI0]
  rw [w_6, word_m hB hk (show 6 < 13 by decide), bd1_k, h1, if_pos bI0]
  rw [w_7, word_m hB hk (show 7 < 13 by decide), bd1_k, h2, if_neg bI1]
  rfl
theorem kd_3 (hB : tbR T B bytes tape) (hk : tkR T B p e st be so nu ma ms fr va) (h0 : wdB B p e so 12 = false) (h1 : wdB B p e so 6 = false) (h2 : wdB B p e so 7 = false) (h3 : wdB B p e so 8 = true) : F_X7_kindHere n0 ms va = some (nI 3) := by
  unfold F_X7_kindHere
  rw [w_12, word_m hB hk (show 12 < 13 by decide), bd1_k, h0, if_pos bI0]
  rw [w_6, word_m hB hk (show 6 < 13 by decide), bd1_k, h1, if_pos bI0]
  rw [w_7, word_m hB hk (show 7 < 13 by decide), bd1_k, h2, if_pos bI0]
  rw [w_8, word_m hB hk (show 8 < 13 by decide), bd1_k, h3, if_neg bI1]
  rfl
theorem kd_4 (hB : tbR T B bytes tape) (hk : tkR T B p e st be so nu ma ms fr va) (h0 : wdB B p e so 12 = false) (h1 : wdB B p e so 6 = false) (h2 : wdB B p e so 7 = false) (h3 : wdB B p e so 8 = false) (h4 : wdB B p e so 9 = true) : F_X7_kindHere n0 ms va = some (nI 4) := by
  unfold F_X7_kindHere
  rw [w_12, word_m hB hk (show 12 < 13 by decide), bd1_k, h0, if_pos bI0]
  rw [w_6, word_m hB hk (show 6 < 13 by decide), bd1_k, h1, if_pos bI0]
  rw [w_7, word_m hB hk (show 7 < 13 by decide), bd1_k, h2, if_pos bI0]
  rw [w_8, word_m hB hk (show 8 < 13 by decide), bd1_k, h3, if_pos bI0]
  rw [w_9, word_m hB hk (show 9 < 13 by decide), bd1_k, h4, if_neg bI1]
  rfl
theorem kd_5 (hB : tbR T B bytes tape) (hk : tkR T B p e st be so nu ma ms fr va) (h0 : wdB B p e so 12 = false) (h1 : wdB B p e so 6 = false) (h2 : wdB B p e so 7 = false) (h3 : wdB B p e so 8 = false) (h4 : wdB B p e so 9 = false) (h5 : wdB B p e so 10 = true) : F_X7_kindHere n0 ms va = some (nI 5) := by
  unfold F_X7_kindHere
  rw [w_12, word_m hB hk (show 12 < 13 by decide), bd1_k, h0, if_pos bI0]
  rw [w_6, word_m hB hk (show 6 < 13 by decide), bd1_k, h1, if_pos bI0]
  rw [w_7, word_m hB hk (show 7 < 13 by decide), bd1_k, h2, if_pos bI0]
  rw [w_8, word_m hB hk (show 8 < 13 by decide), bd1_k, h3, if_pos bI0]
  rw [w_9, word_m hB hk (show 9 < 13 by decide), bd1_k, h4, if_pos bI0]
  rw [w_10, word_m hB hk (show 10 < 13 by decide), bd1_k, h5, if_neg bI1]
  rfl
theorem kd_6 (hB : tbR T B bytes tape) (hk : tkR T B p e st be so nu ma ms fr va) (h0 : wdB B p e so 12 = false) (h1 : wdB B p e so 6 = false) (h2 : wdB B p e so 7 = false) (h3 : wdB B p e so 8 = false) (h4 : wdB B p e so 9 = false) (h5 : wdB B p e so 10 = false) (h6 : wdB B p e so 11 = true) : F_X7_kindHere n0 ms va = some (nI 6) := by
  unfold F_X7_kindHere
  rw [w_12, word_m hB hk (show 12 < 13 by decide), bd1_k, h0, if_pos bI0]
  rw [w_6, word_m hB hk (show 6 < 13 by decide), bd1_k, h1, if_pos bI0]
  rw [w_7, word_m hB hk (show 7 < 13 by decide), bd1_k, h2, if_pos bI0]
  rw [w_8, word_m hB hk (show 8 < 13 by decide), bd1_k, h3, if_pos bI0]
  rw [w_9, word_m hB hk (show 9 < 13 by decide), bd1_k, h4, if_pos bI0]
  rw [w_10, word_m hB hk (show 10 < 13 by decide), bd1_k, h5, if_pos bI0]
  rw [w_11, word_m hB hk (show 11 < 13 by decide), bd1_k, h6, if_neg bI1]
  rfl
theorem kd_7 (hB : tbR T B bytes tape) (hk : tkR T B p e st be so nu ma ms fr va) (h0 : wdB B p e so 12 = false) (h1 : wdB B p e so 6 = false) (h2 : wdB B p e so 7 = false) (h3 : wdB B p e so 8 = false) (h4 : wdB B p e so 9 = false) (h5 : wdB B p e so 10 = false) (h6 : wdB B p e so 11 = false) : F_X7_kindHere n0 ms va = some (-1) := by
  unfold F_X7_kindHere
  rw [w_12, word_m hB hk (show 12 < 13 by decide), bd1_k, h0, if_pos bI0]
  rw [w_6, word_m hB hk (show 6 < 13 by decide), bd1_k, h1, if_pos bI0]
  rw [w_7, word_m hB hk (show 7 < 13 by decide), bd1_k, h2, if_pos bI0]
  rw [w_8, word_m hB hk (show 8 < 13 by decide), bd1_k, h3, if_pos bI0]
  rw [w_9, word_m hB hk (show 9 < 13 by decide), bd1_k, h4, if_pos bI0]
  rw [w_10, word_m hB hk (show 10 < 13 by decide), bd1_k, h5, if_pos bI0]
  rw [w_11, word_m hB hk (show 11 < 13 by decide), bd1_k, h6, if_pos bI0]
theorem item_t {N : Nat} {spots d : Nat → Int32} {day z : Int32} (hn : 2000000 ≤ n0) (hB : tbR T B bytes tape) (hk : tkR T B p e st be so nu ma ms fr va) (hN : N ≤ 10) (hC : CR kinds yards spots (nI N) said wall bridge counted day z d) : itR T B p spots day z (F_X3_readItem n0 (nI T) st be so nu bytes (nI N) said wall bridge counted kinds yards) (F_X7_item n0 (nI T) ma ms fr va (-1) d tape) := by
  have hT := hB.1
  obtain ⟨q1, q2, q3, q4⟩ := tk_p hk
  have hhit : ∀ k : Nat, k < 7 → (∀ j : Nat, j < k → wdB B p e so (nmI j) = false) → wdB B p e so (nmI k) = true → F_X7_kindHere n0 ms va = some (nI k) → itR T B p spots day z (F_X3_readItem n0 (nI T) st be so nu bytes (nI N) said wall bridge counted kinds yards) (F_X7_item n0 (nI T) ma ms fr va (-1) d tape) := by
    intro k hk7 hf ht hkh
    obtain ⟨r1, r2⟩ := word_t hk ht
    have e1 := ri_pre (tents := nI N) (said := said) (wall := wall) (bridge := bridge) (counted := counted) (kinds := kinds) (yards := yards) hn hB hk k (n0 - k - 1 + 1) (by omega) hf
    rw [ri_hit hn hB hk hk7 ht, show n0 - k - 1 + 1 + k = n0 by omega] at e1
    have e2 : F_X3_readItem n0 (nI T) st be so nu bytes (nI N) said wall bridge counted kinds yards = _ := e1
    rw [e2]
    unfold F_X7_item
    rw [hkh, bd1_k, if_neg (nI_pos (by omega))]
    exact tent_it (tent_t hn hB hk r1 r2 hN hk7 hC)
  cases h0 : wdB B p e so 12 with
  | true =>
    exact hhit 0 (by decide) (fun j hj => absurd hj (Nat.not_lt_zero j)) h0 (kd_0 hB hk h0)
  | false =>
    cases h1 : wdB B p e so 6 with
    | true =>
      exact hhit 1 (by decide) (fun j hj => by
        have e9 : j = 0 := by omega
        subst e9
        exact h0) h1 (kd_1 hB hk h0 h1)
    | false =>
      cases h2 : wdB B p e so 7 with
      | true =>
        exact hhit 2 (by decide) (fun j hj => by
          rcases (show j = 0 ∨ j = 1 by omega) with rfl | rfl
          · exact h0
          · exact h1) h2 (kd_2 hB hk h0 h1 h2)
      | false =>
        cases h3 : wdB B p e so 8 with
        | true =>
          exact hhit 3 (by decide) (fun j hj => by
            rcases (show j = 0 ∨ j = 1 ∨ j = 2 by omega) with rfl | rfl | rfl
            · exact h0
            · exact h1
            · exact h2) h3 (kd_3 hB hk h0 h1 h2 h3)
        | false =>
          cases h4 : wdB B p e so 9 with
          | true =>
            exact hhit 4 (by decide) (fun j hj => by
              rcases (show j = 0 ∨ j = 1 ∨ j = 2 ∨ j = 3 by omega) with rfl | rfl | rfl | rfl
              · exact h0
              · exact h1
              · exact h2
              · exact h3) h4 (kd_4 hB hk h0 h1 h2 h3 h4)
          | false =>
            cases h5 : wdB B p e so 10 with
            | true =>
              exact hhit 5 (by decide) (fun j hj => by
                rcases (show j = 0 ∨ j = 1 ∨ j = 2 ∨ j = 3 ∨ j = 4 by omega) with rfl | rfl | rfl | rfl | rfl
                · exact h0
                · exact h1
                · exact h2
                · exact h3
                · exact h4) h5 (kd_5 hB hk h0 h1 h2 h3 h4 h5)
            | false =>
              cases h6 : wdB B p e so 11 with
              | true =>
                exact hhit 6 (by decide) (fun j hj => by
                  rcases (show j = 0 ∨ j = 1 ∨ j = 2 ∨ j = 3 ∨ j = 4 ∨ j = 5 by omega) with rfl | rfl | rfl | rfl | rfl | rfl
                  · exact h0
                  · exact h1
                  · exact h2
                  · exact h3
                  · exact h4
                  · exact h5) h6 (kd_6 hB hk h0 h1 h2 h3 h4 h5 h6)
              | false =>
                have hkh := kd_7 (n0 := n0) hB hk h0 h1 h2 h3 h4 h5 h6
                have e1 := ri_pre (tents := nI N) (said := said) (wall := wall) (bridge := bridge) (counted := counted) (kinds := kinds) (yards := yards) hn hB hk 7 (n0 - 8 + 1) (by omega) (fun j hj => by
                  rcases (show j = 0 ∨ j = 1 ∨ j = 2 ∨ j = 3 ∨ j = 4 ∨ j = 5 ∨ j = 6 by omega) with rfl | rfl | rfl | rfl | rfl | rfl | rfl
                  · exact h0
                  · exact h1
                  · exact h2
                  · exact h3
                  · exact h4
                  · exact h5
                  · exact h6)
                rw [show n0 - 8 + 1 + 7 = n0 by omega, L_X3_readItem_2_u, if_pos (show (7 : Int32) ≤ nI 7 from by decide)] at e1
                have e2 : F_X3_readItem n0 (nI T) st be so nu bytes (nI N) said wall bridge counted kinds yards = _ := e1
                rw [e2]
                unfold F_X7_item
                rw [hkh, bd1_k, if_pos (show (-1 : Int32) < 0 from by decide), word_x hn hB hk (show 0 < 13 by decide), bd1_k, w_0, word_m hB hk (show 0 < 13 by decide), bd1_k]
                cases h7 : wdB B p e so 0 with
                | true =>
                  obtain ⟨r1, r2⟩ := word_t hk h7
                  rw [if_neg bI1, if_neg bI1]
                  exact wall_it hN (wall_t hn hB hk r1 r2 hC)
                | false =>
                  rw [if_pos bI0, if_pos bI0, word_x hn hB hk (show 1 < 13 by decide), bd1_k, w_1, word_m hB hk (show 1 < 13 by decide), bd1_k]
                  have hcf : ∀ v : Int32, (v = 0 ∨ v = 1) → be = nI e → ma = nI e → (∃ x : Option (Int32 × Int32 × Int32 × Int64 × Int32 × (Nat → Int32)), J_X7_item_54 n0 ms va d (nI T) ma fr tape (-1) = x) → bI (wdB B p e so 1) = v → itR T B p spots day z (J_X3_readItem_67 v n0 (nI T) st be so nu bytes (nI N) said wall bridge kinds yards) (J_X7_item_54 n0 ms va d (nI T) ma fr tape (-1)) := by
                    intro v hv r1 r2 _ hw
                    obtain ⟨p1, e1, st1, be1, so1, nu1, ma1, ms1, fr1, va1, a1, t1, x1, m1⟩ := tok_s (n0 := n0) (a1 := st) (a2 := so) (a3 := nu) (b1 := ms) (b2 := fr) (b3 := va) hn hB q2
                    unfold J_X3_readItem_67 J_X7_item_54
                    rw [bz_t hv, r1, r2, x1, bd4_k, w_1, word_m hB hk (show 1 < 13 by decide), bd1_k, hw]
                    rcases hv with rfl | rfl
                    · rw [if_pos rfl, wrt_l 5 l5 (by decide) (by decide), m1, bd4_k]
                      exact Or.inl ⟨p1, e1, st1, be1, so1, nu1, ma1, ms1, fr1, va1, N, said, wall, bridge, 0, kinds, yards, _, by omega, t1, hN, CR_counted (Or.inl rfl) hC, rfl, rfl⟩
                    · rw [one0, wrt_l 5 l5 (by decide) (by decide), m1, bd4_k]
                      exact Or.inl ⟨p1, e1, st1, be1, so1, nu1, ma1, ms1, fr1, va1, N, said, wall, bridge, 1, kinds, yards, _, by omega, t1, hN, CR_counted (Or.inr rfl) hC, rfl, rfl⟩
                  cases h8 : wdB B p e so 1 with
                  | true =>
                    obtain ⟨r1, r2⟩ := word_t hk h8
                    rw [if_neg bI1, if_neg bI1]
                    exact hcf (bI true) (Or.inr rfl) r1 r2 ⟨_, rfl⟩ (by rw [h8])
                  | false =>
                    rw [if_pos bI0, if_pos bI0, word_x hn hB hk (show 2 < 13 by decide), bd1_k, w_2, word_m hB hk (show 2 < 13 by decide), bd1_k]
                    cases h9 : wdB B p e so 2 with
                    | true =>
                      obtain ⟨r1, r2⟩ := word_t hk h9
                      rw [if_neg bI1, if_neg bI1]
                      exact hcf (bI false) (Or.inl rfl) r1 r2 ⟨_, rfl⟩ (by rw [h8])
                    | false =>
                      rw [if_pos bI0, if_pos bI0, wrong_s, bd1_k, q3, q4]
                      exact Or.inr ⟨p, _, _, _, _, _, _, _, _, _, _, _, _, _, _, _, by omega, rfl, rfl⟩
end
/-- both have read the text, or both have found the same fault -/
def txR (T : Nat) (spots : Nat → Int32) (day z : Int32) (X : Option (Int32 × Int32 × Int32 × Int32 × Int32 × Int32 × Int32 × Int32 × Int32 × Int32 × (Nat → Int32) × (Nat → Int32))) (M : Option (Int32 × Int32 × Int32 × Int32 × Int64 × Int32 × (Nat → Int32))) : Prop :=
  (∃ (s : Nat) (st be so nu : Int32) (N' : Nat) (said' wall' bridge' counted' : Int32) (kinds' yards' d' : Nat → Int32) (y1 y2 y3 : Int32) (y4 : Int64), s ≤ 121 ∧ N' ≤ 10 ∧ CR kinds' yards' spots (nI N') said' wall' bridge' counted' day z d' ∧ X = some (nI s, st, be, so, nu, nI N', said', wall', bridge', counted', kinds', yards') ∧ M = some (nI s, y1, y2, y3, y4, -1, d')) ∨
  (∃ (f : Nat) (x1 x2 x3 x4 x5 x6 x7 x8 x9 : Int32) (g1 g2 : Nat → Int32) (y0 y1 y2 y3 : Int32) (y4 : Int64) (y5 : Nat → Int32), f ≤ T ∧ X = some (-1 - nI f, x1, x2, x3, x4, x5, x6, x7, x8, x9, g1, g2) ∧ M = some (y0, y1, y2, y3, y4, nI f, y5))
theorem next_end {n0 T : Nat} {B : Nat → Nat} {bytes tape : Nat → Int32} {b1 b2 : Int32} {b3 : Int64} (hn : 2000000 ≤ n0) (hB : tbR T B bytes tape) : F_X7_next n0 (nI T) (nI T) b1 b2 b3 tape = some (nI T, 0, nI T, 0) := by
  have hT := hB.1
  have h : ∀ m : Nat, L_X7_next_0 n0 (nI T) tape (m + 1) (nI T) = some (nI T, 0, nI T, 0) := fun m => by
    rw [L_X7_next_0_u, byteAt_out hB (by omega) (by omega), bd1_k, if_neg (show ¬ (-1 : Int32) = 32 from by decide), bd1_k, if_pos rfl]
  have h2 := h (n0 - 1)
  rw [show n0 - 1 + 1 = n0 by omega] at h2
  exact h2
theorem tx_f {n0 m : Nat} {T f : Nat} {tape d : Nat → Int32} {c u13 u15 u16 : Int32} {u17 : Int64} (hf : f ≤ 120) : ∃ (y0 y1 y2 y3 : Int32) (y4 : Int64) (y5 : Nat → Int32), L_X7_items_20 n0 (nI T) tape (m + 1) c d u13 (nI f) u15 u16 u17 = some (y0, y1, y2, y3, y4, nI f, y5) := by
  rw [L_X7_items_20_u, if_pos (nI_pos' (by omega))]
  unfold J_X7_items_49
  rw [if_pos (nI_pos' (by omega))]
  exact ⟨_, _, _, _, _, _, rfl⟩
theorem tx_r {n0 T : Nat} {B : Nat → Nat} {bytes tape spots : Nat → Int32} {day z : Int32} (hn : 2000000 ≤ n0) (hB : tbR T B bytes tape) : ∀ (k s u n m N : Nat) (c x10 x11 x12 b1 b2 : Int32) (b3 : Int64) (said wall bridge counted : Int32) (kinds yards d : Nat → Int32), s + k = 121 → k < n → k < m → s ≤ u + 1 → u ≤ T → c = nI s → N ≤ 10 → CR kinds yards spots (nI N) said wall bridge counted day z d → txR T spots day z (L_X3_readText_7 (nI T) n0 bytes n (nI s) kinds yards bridge counted said (nI N) wall (nI u) x10 x11 x12) (bd4 (F_X7_next n0 (nI T) (nI u) b1 b2 b3 tape) (fun x19 x20 x21 x22 => bd6 (F_X7_item n0 (nI T) x19 x20 x21 x22 (-1) d tape) (fun x23 x24 x25 x26 x27 g28 => L_X7_items_20 n0 (nI T) tape m c g28 x23 x27 x25 x24 x26))) := by
  have hT := hB.1
  intro k
  induction k with
  | zero =>
    intro s u n m N c x10 x11 x12 b1 b2 b3 said wall bridge counted kinds yards d h1 h2 h3 h4 h5 hc hN hC
    obtain ⟨n, rfl⟩ : ∃ q, n = q + 1 := ⟨n - 1, by omega⟩
    obtain ⟨m, rfl⟩ : ∃ q, m = q + 1 := ⟨m - 1, by omega⟩
    have eu : u = T := by omega
    subst eu
    have hit : F_X7_item n0 (nI u) (nI u) 0 (nI u) 0 (-1) d tape = some (nI u, 0, nI u, 0, nI u, d) := rfl
    rw [L_X3_readText_7_u, if_pos (show (120 : Int32) < nI s from nI_lt (a := 120) (by omega) (by omega)), nmq, next_end hn hB, bd4_k, hit, bd6_k]
    obtain ⟨y0, y1, y2, y3, y4, y5, e1⟩ := tx_f (n0 := n0) (m := m) (T := u) (f := u) (tape := tape) (d := d) (c := c) (u13 := nI u) (u15 := nI u) (u16 := 0) (u17 := 0) (by omega)
    rw [e1]
    exact Or.inr ⟨u, _, _, _, _, _, _, _, _, _, _, _, _, _, _, _, _, _, Nat.le_refl u, rfl, rfl⟩
  | succ k ih =>
    intro s u n m N c x10 x11 x12 b1 b2 b3 said wall bridge counted kinds yards d h1 h2 h3 h4 h5 hc hN hC
    obtain ⟨n, rfl⟩ : ∃ q, n = q + 1 := ⟨n - 1, by omega⟩
    obtain ⟨m, rfl⟩ : ∃ q, m = q + 1 := ⟨m - 1, by omega⟩
    obtain ⟨p1, e1, st1, be1, so1, nu1, ma1, ms1, fr1, va1, a1, t1, X1, M1⟩ := tok_s (n0 := n0) (a1 := x12) (a2 := x11) (a3 := x10) (b1 := b1) (b2 := b2) (b3 := b3) hn hB h5
    rw [L_X3_readText_7_u, if_neg (show ¬ (120 : Int32) < nI s from nI_nlt (a := 120) (by omega) (by decide)), X1, M1, bd4_k, bd4_k]
    rcases item_t hn hB t1 hN hC with ⟨p', e', st, be, so, nu, ma, ms, fr, va, N', said', wall', bridge', counted', kinds', yards', d', g1, g2, g3, g4, g5, g6⟩ | ⟨f, w1, w2, w3, w4, w5, w6, w7, w8, v1, v2, y1, y2, y3, y4, y5, g1, g2, g3⟩
    · obtain ⟨q1, q2, q3, q4⟩ := tk_p g2
      rw [g5, g6, bd12_k, bd6_k, one0, L_X7_items_20_u, if_neg (show ¬ (0 : Int32) ≤ -1 from by decide)]
      have hJ : ms ≠ 0 → J_X7_items_49 (-1) c ma ms fr va d' n0 = some (c, ma, ms, fr, va, fr, d') := fun h => by
        unfold J_X7_items_49
        rw [if_neg (show ¬ (0 : Int32) ≤ -1 from by decide), if_neg h, wrong_s, bd1_k]
      have hbad : ¬ so = 0 → ¬ so = 3 → ms ≠ 0 → ms ≠ 3 → txR T spots day z (if so = 0 then some (nI s, st, be, so, nu, nI N', said', wall', bridge', counted', kinds', yards') else (if so = 3 then nm (nI s + 1) (fun x30 => L_X3_readText_7 (nI T) n0 bytes n x30 kinds' yards' bridge' counted' said' (nI N') wall' be nu so st) else nm (((-1)) - st) (fun x31 => some (x31, st, be, so, nu, nI N', said', wall', bridge', counted', kinds', yards')))) (if ms = 3 then bd4 (F_X7_next n0 (nI T) ma ms fr va tape) (fun x19 x20 x21 x22 => bd6 (F_X7_item n0 (nI T) x19 x20 x21 x22 (-1) d' tape) (fun x23 x24 x25 x26 x27 g28 => nm (c + 1) (fun x29 => L_X7_items_20 n0 (nI T) tape m x29 g28 x23 x27 x25 x24 x26))) else J_X7_items_49 (-1) c ma ms fr va d' n0) := fun i1 i2 i3 i4 => by
        rw [if_neg i1, if_neg i2, if_neg i4, hJ i3, nmq, q3, q4]
        exact Or.inr ⟨p', _, _, _, _, _, _, _, _, _, _, _, _, _, _, _, _, _, by omega, rfl, rfl⟩
      rcases g2.2.2.2.2 with ⟨_, i1, i2, _, _⟩ | ⟨i0, i1, i2, i3, i4⟩ | ⟨i1, i2, _⟩ | ⟨i1, i2, _⟩ | ⟨i1, i2⟩
      · rw [if_pos i1, if_neg (show ¬ ms = 3 from by rw [i2]; decide)]
        unfold J_X7_items_49
        rw [if_neg (show ¬ (0 : Int32) ≤ -1 from by decide), if_pos i2, hc]
        exact Or.inl ⟨s, _, _, _, _, N', _, _, _, _, _, _, _, _, _, _, _, by omega, g3, g4, rfl, rfl⟩
      · rw [if_neg (show ¬ so = 0 from by rw [i1]; decide), if_pos i1, if_pos i2, nmq, nI_1, i3, i4]
        exact ih (s + 1) e' n m N' (c + 1) _ _ _ _ _ _ _ _ _ _ _ _ _ (by omega) (by omega) (by omega) (by omega) q2 (by rw [hc, nI_1]) g3 g4
      · exact hbad (by rw [i1]; decide) (by rw [i1]; decide) (by rw [i2]; decide) (by rw [i2]; decide)
      · exact hbad (by rw [i1]; decide) (by rw [i1]; decide) (by rw [i2]; decide) (by rw [i2]; decide)
      · exact hbad (by rw [i1]; decide) (by rw [i1]; decide) (by rw [i2]; decide) (by rw [i2]; decide)
    · rw [g2, g3, bd12_k, bd6_k, if_pos rfl, nmq]
      obtain ⟨z0, z1, z2, z3, z4, z5, e9⟩ := tx_f (n0 := n0) (m := m) (T := T) (f := f) (tape := tape) (d := y5) (c := c) (u13 := y1) (u15 := y3) (u16 := y2) (u17 := y4) (by omega)
      rw [e9]
      exact Or.inr ⟨f, _, _, _, _, _, _, _, _, _, _, _, _, _, _, _, _, _, g1, rfl, rfl⟩
theorem neg_t : ∀ f : Nat, f < 121 → (-1 : Int32) - nI f < 0 := by decide +kernel
theorem st_text {n0 : Nat} (hn : 2000000 ≤ n0) : St_text n0 := by
  intro xv_isKept xf_found xv_camp_tents xv_camp_said xv_camp_wall xv_camp_bridge xv_camp_counted xv_camp_day xv_camp_z xf_camp_kinds xf_camp_yards xf_camp_spots xv_kept_tents xv_kept_said xv_kept_wall xv_kept_bridge xv_kept_counted xv_kept_day xv_kept_z xf_kept_kinds xf_kept_yards xf_kept_spots xv_trials_trial_tents xv_trials_trial_said xv_trials_trial_wall xv_trials_trial_bridge xv_trials_trial_counted xv_trials_trial_day xv_trials_trial_z xf_trials_trial_kinds xf_trials_trial_yards xf_trials_trial_spots xv_tape_size xv_tape_start xv_tape_behind xv_tape_sort xv_tape_number xf_tape_bytes xv_sheets_0_bits xv_sheets_0_size xf_sheets_0_numbers xv_sheets_1_bits xv_sheets_1_size xf_sheets_1_numbers xv_sheets_2_bits xv_sheets_2_size xf_sheets_2_numbers xv_sheets_3_bits xv_sheets_3_size xf_sheets_3_numbers mv_isKept mv_taped mv_gone mv_at mv_sort mv_from mv_value mv_fault mf_d mf_e mf_kept mf_found mf_tape mf_bitsOf mf_sizeOf mf_number hI
  obtain ⟨hC, hK1, hK2, hK3, hF, hT, hS0, hS1, hS2, hS3, hG⟩ := hI
  have hC0 := hC
  obtain ⟨N, hN, h0, hd0, hd1, hd2, hd3, hd4, hd5, hd6, hct, hwl, hbr, hdy, hsa, hA, hKi, hYa, hSp⟩ := hC
  have hC1 := hC0
  rw [h0] at hC1
  obtain ⟨T, B, hT1, hT2, hB⟩ := TR_tb hT
  have hTl := hB.1
  have hC2 : CR (va_cpy xf_camp_kinds xf_trials_trial_kinds 0 0 10) (va_cpy xf_camp_yards xf_trials_trial_yards 0 0 10) (va_cpy xf_camp_spots xf_trials_trial_spots 0 0 10) (nI N) xv_camp_said xv_camp_wall xv_camp_bridge xv_camp_counted xv_camp_day xv_camp_z mf_d := CR_copy hC1 (fun i hi => cpy10 hi) (fun i hi => cpy10 hi) (fun i hi => cpy10 hi) (fun _ _ => rfl)
  have hT0 : TR 0 xf_tape_bytes mf_tape 0 := ⟨0, by omega, rfl, rfl, fun i hi => absurd hi (Nat.not_lt_zero i)⟩
  have hR := tx_r (n0 := n0) hn hB 120 1 0 n0 n0 N 1 xv_tape_number xv_tape_sort xv_tape_start mv_sort mv_from mv_value _ _ _ _ _ _ _ (by omega) (by omega) (by omega) (by omega) (by omega) rfl hN hC2
  rw [nI_0] at hR
  have eX : F_X3_readText n0 (nI T) xv_tape_start xv_tape_behind xv_tape_sort xv_tape_number xf_tape_bytes (nI N) xv_camp_said xv_camp_wall xv_camp_bridge xv_camp_counted (va_cpy xf_camp_kinds xf_trials_trial_kinds 0 0 10) (va_cpy xf_camp_yards xf_trials_trial_yards 0 0 10) = L_X3_readText_7 (nI T) n0 xf_tape_bytes n0 (nI 1) (va_cpy xf_camp_kinds xf_trials_trial_kinds 0 0 10) (va_cpy xf_camp_yards xf_trials_trial_yards 0 0 10) xv_camp_bridge xv_camp_counted xv_camp_said (nI N) xv_camp_wall 0 xv_tape_number xv_tape_sort xv_tape_start := rfl
  have eM : F_X7_items n0 (nI T) mv_at mv_sort mv_from mv_value mv_fault mf_d mf_tape = bd4 (F_X7_next n0 (nI T) 0 mv_sort mv_from mv_value mf_tape) (fun x19 x20 x21 x22 => bd6 (F_X7_item n0 (nI T) x19 x20 x21 x22 (-1) mf_d mf_tape) (fun x23 x24 x25 x26 x27 g28 => L_X7_items_20 n0 (nI T) mf_tape n0 1 g28 x23 x27 x25 x24 x26)) := rfl
  rw [← eX, ← eM] at hR
  rcases hR with ⟨s, st, be, so, nu, N', said', wall', bridge', counted', kinds', yards', d', y1, y2, y3, y4, r1, r2, r3, r4, r5⟩ | ⟨f, x1, x2, x3, x4, x5, x6, x7, x8, x9, g1, g2, y0, y1, y2, y3, y4, y5, r1, r2, r3⟩
  · obtain ⟨hct', _, _, _, _, _, _, _⟩ := CR_parts r2 r3
    have hx : F_X6_text n0 xv_camp_tents xv_camp_said xv_camp_wall xv_camp_bridge xv_camp_counted xv_camp_day xv_camp_z xv_tape_size xv_tape_start xv_tape_behind xv_tape_sort xv_tape_number xf_camp_kinds xf_camp_spots xf_camp_yards xf_tape_bytes xv_trials_trial_tents xv_trials_trial_said xv_trials_trial_wall xv_trials_trial_bridge xv_trials_trial_counted xv_trials_trial_day xv_trials_trial_z xf_trials_trial_kinds xf_trials_trial_spots xf_trials_trial_yards = some (nI s, nI N', said', wall', bridge', counted', xv_camp_day, xv_camp_z, 0, st, be, so, nu, va_cpy kinds' xf_camp_kinds 0 0 10, va_cpy (va_cpy xf_camp_spots xf_trials_trial_spots 0 0 10) xf_camp_spots 0 0 10, va_cpy yards' xf_camp_yards 0 0 10, nI N', said', wall', bridge', counted', xv_camp_day, xv_camp_z, kinds', va_cpy xf_camp_spots xf_trials_trial_spots 0 0 10, yards') := by
      unfold F_X6_text F_X4_read
      rw [become_s hct]
      simp only [bd10]
      rw [h0, hT1, r4, bd12_k, if_neg (nI_pos (by omega)), become_s hct']
      rfl
    have hm : F_X7_text n0 mv_taped mv_at mv_sort mv_from mv_value mv_fault mf_d mf_e mf_tape = some (nI s, 0, y1, y2, y3, y4, -1, d', (fun j => if j < 40 then mf_d j else mf_e j)) := by
      unfold F_X7_text
      rw [hT2, copies_s hn, bd1_k, r5, bd7_k, if_pos (show (-1 : Int32) < 0 from by decide)]
    have hC9 := CR_copy (k1 := va_cpy kinds' xf_camp_kinds 0 0 10) (y1 := va_cpy yards' xf_camp_yards 0 0 10) (s1 := va_cpy (va_cpy xf_camp_spots xf_trials_trial_spots 0 0 10) xf_camp_spots 0 0 10) r3 (fun i hi => cpy10 hi) (fun i hi => cpy10 hi) (fun i hi => cpy10 hi) (fun _ _ => rfl)
    exact ⟨_, _, _, _, _, _, _, _, _, _, _, _, _, _, _, _, _, _, _, _, _, _, _, _, _, _, _, _, _, _, _, _, _, _, hx, hm, hC9, hK1, hK2, hK3, hF, hT0, hS0, hS1, hS2, hS3, hG⟩
  · have hx : F_X6_text n0 xv_camp_tents xv_camp_said xv_camp_wall xv_camp_bridge xv_camp_counted xv_camp_day xv_camp_z xv_tape_size xv_tape_start xv_tape_behind xv_tape_sort xv_tape_number xf_camp_kinds xf_camp_spots xf_camp_yards xf_tape_bytes xv_trials_trial_tents xv_trials_trial_said xv_trials_trial_wall xv_trials_trial_bridge xv_trials_trial_counted xv_trials_trial_day xv_trials_trial_z xf_trials_trial_kinds xf_trials_trial_spots xf_trials_trial_yards = some (-1 - nI f, nI N, xv_camp_said, xv_camp_wall, xv_camp_bridge, xv_camp_counted, xv_camp_day, xv_camp_z, 0, x1, x2, x3, x4, xf_camp_kinds, xf_camp_spots, xf_camp_yards, x5, x6, x7, x8, x9, xv_camp_day, xv_camp_z, g1, va_cpy xf_camp_spots xf_trials_trial_spots 0 0 10, g2) := by
      unfold F_X6_text F_X4_read
      rw [become_s hct]
      simp only [bd10]
      rw [h0, hT1, r2, bd12_k, if_pos (neg_t f (by omega))]
      rfl
    have hm : F_X7_text n0 mv_taped mv_at mv_sort mv_from mv_value mv_fault mf_d mf_e mf_tape = some (-1 - nI f, 0, y1, y2, y3, y4, nI f, (fun j => if j < 40 then (fun j => if j < 40 then mf_d j else mf_e j) j else y5 j), (fun j => if j < 40 then mf_d j else mf_e j)) := by
      unfold F_X7_text
      rw [hT2, copies_s hn, bd1_k, r3, bd7_k, if_neg (nI_pos (by omega)), copies_s hn, bd1_k, nmq]
    have hC9 : CR xf_camp_kinds xf_camp_yards xf_camp_spots (nI N) xv_camp_said xv_camp_wall xv_camp_bridge xv_camp_counted xv_camp_day xv_camp_z (fun j => if j < 40 then (fun j => if j < 40 then mf_d j else mf_e j) j else y5 j) := CR_copy hC1 (fun _ _ => rfl) (fun _ _ => rfl) (fun _ _ => rfl) (fun j hj => by
      show (if j < 40 then (if j < 40 then mf_d j else mf_e j) else y5 j) = mf_d j
      rw [if_pos hj, if_pos hj])
    exact ⟨_, _, _, _, _, _, _, _, _, _, _, _, _, _, _, _, _, _, _, _, _, _, _, _, _, _, _, _, _, _, _, _, _, _, hx, hm, hC9, hK1, hK2, hK3, hF, hT0, hS0, hS1, hS2, hS3, hG⟩
