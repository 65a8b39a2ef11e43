/-! items -/
theorem w_0 : (453774 : Int64) = lN (wdN 0) := by decide +kernel
theorem w_1 : (1388945614 : Int64) = lN (wdN 1) := by decide +kernel
theorem w_2 : (131360 : Int64) = lN (wdN 2) := by decide +kernel
theorem w_3 : (47 : Int64) = lN (wdN 3) := by decide +kernel
theorem w_4 : (419 : Int64) = lN (wdN 4) := by decide +kernel
theorem w_5 : (38444009 : Int64) = lN (wdN 5) := by decide +kernel
theorem w_6 : (2111526979 : Int64) = lN (wdN 6) := by decide +kernel
theorem w_7 : (6465300680 : Int64) = lN (wdN 7) := by decide +kernel
theorem w_8 : (271733 : Int64) = lN (wdN 8) := by decide +kernel
theorem w_9 : (47955510682 : Int64) = lN (wdN 9) := by decide +kernel
theorem w_10 : (37404235996 : Int64) = lN (wdN 10) := by decide +kernel
theorem w_11 : (46231794825781 : Int64) = lN (wdN 11) := by decide +kernel
theorem w_12 : (397703 : Int64) = lN (wdN 12) := by decide +kernel
theorem e11L : (11 : Int64) = lN 11 := rfl
theorem bd5_k {A0 A1 A2 A3 A4 Ro : Type} {a : A0} {b : A1} {c : A2} {d : A3} {e : A4} {k : A0 → A1 → A2 → A3 → A4 → Option Ro} : bd5 (some (a, b, c, d, e)) k = k a b c d e := rfl
theorem bd6_k {A0 A1 A2 A3 A4 A5 Ro : Type} {a : A0} {b : A1} {c : A2} {d : A3} {e : A4} {f : A5} {k : A0 → A1 → A2 → A3 → A4 → A5 → Option Ro} : bd6 (some (a, b, c, d, e, f)) k = k a b c d e f := rfl
theorem wrong_s {n0 : Nat} {fr : Int32} : F_X7_wrongHere n0 fr (-1) = some fr := rfl
theorem said_on {N m : Nat} (hN : N < 10) (hm : m < 2 ^ N) : ∃ w : Nat, w < 2 ^ (N + 1) ∧ clrB (nI m) N ||| ((1 : Int32) <<< (nI N &&& 31)) = nI w := by
  have hp := pow10 (show N ≤ 10 by omega)
  rw [clr_set N hN m (by omega)]
  exact set_rg (N := N + 1) (m := m) (t := N) (by omega) (by rw [Nat.pow_succ]; omega) (by omega)
/-- both have read a tent, or both have found the same fault -/
def ttR (T : Nat) (B : Nat → Nat) (p : Nat) (spots : Nat → Int32) (wall bridge counted day z : Int32) (X : Option (Int32 × Int32 × Int32 × Int32 × Int32 × Int32 × Int32 × (Nat → Int32) × (Nat → Int32))) (M : Option (Int32 × Int32 × Int32 × Int64 × Int32 × (Nat → Int32))) : Prop :=
  (∃ (p' e' : Nat) (st be so nu ma ms fr : Int32) (va : Int64) (N' : Nat) (said' : Int32) (kinds' yards' d' : Nat → Int32), p ≤ p' ∧ tkR T B p' e' st be so nu ma ms fr va ∧ N' ≤ 10 ∧ CR kinds' yards' spots (nI N') said' wall bridge counted day z d' ∧ X = some (1, st, be, so, nu, nI N', said', kinds', yards') ∧ M = some (ma, ms, fr, va, -1, d')) ∨
  (∃ (f : Nat) (x1 x2 x3 x4 x5 : Int32) (x6 x7 : Nat → Int32) (y1 y2 y3 : Int32) (y4 : Int64) (y5 : Nat → Int32), f ≤ T ∧ X = some (0, nI f, x1, x2, x3, x4, x5, x6, x7) ∧ M = some (y1, y2, y3, y4, nI f, y5))
section
variable {n0 T : Nat} {B : Nat → Nat} {bytes tape : Nat → Int32}
theorem tk_p {p e : Nat} {st be so nu ma ms fr : Int32} {va : Int64} (hk : tkR T B p e st be so nu ma ms fr va) : p ≤ e ∧ e ≤ T ∧ st = nI p ∧ fr = nI p := ⟨hk.1, hk.2.1, hk.2.2.1, hk.2.2.2.1⟩
theorem tent_t {p e N kd : Nat} {st be so nu ma ms fr : Int32} {va : Int64} {kinds yards spots d : Nat → Int32} {said wall bridge counted day z : Int32} (hn : 2000000 ≤ n0) (hB : tbR T B bytes tape) (hk : tkR T B p e st be so nu ma ms fr va) (hbe : be = nI e) (hma : ma = nI e) (hN : N ≤ 10) (hkd : kd < 7) (hC : CR kinds yards spots (nI N) said wall bridge counted day z d) : ttR T B p spots wall bridge counted day z (F_X3_readTent n0 (nI T) st be so nu bytes (nI N) said kinds yards (nI kd)) (F_X7_tentHere n0 (nI T) ma ms fr va (-1) d tape (nI kd)) := by
  have hT := hB.1
  obtain ⟨k1, k2, k3, k4⟩ := tk_p hk
  obtain ⟨hd0, _, hdy⟩ := CR_N hN hC
  obtain ⟨_, _, _, _, ⟨m, hm, hsa⟩, hd6, _, _⟩ := CR_parts hN hC
  unfold F_X3_readTent F_X7_tentHere
  rw [rd_l 0 l0 (by decide) (by decide), hd0]
  by_cases hlt : N < 10
  · rw [if_pos (show nI N < 10 from nI_lt (b := 10) hlt (by decide)), if_neg (show ¬ nI N = 10 from fun h => by have := (nI_eq (a := N) (b := 10) (by omega) (by decide)).mp h; omega), hbe, hma]
    obtain ⟨p1, e1, st1, be1, so1, nu1, ma1, ms1, fr1, va1, a1, t1, x1, m1⟩ := tok_s (n0 := n0) (a1 := st) (a2 := so) (a3 := nu) (b1 := ms) (b2 := fr) (b3 := va) hn hB k2
    obtain ⟨q1, q2, q3, q4⟩ := tk_p t1
    rw [x1, m1, bd4_k, bd4_k, word_x hn hB t1 (show 3 < 13 by decide), w_3, word_m hB t1 (show 3 < 13 by decide), bd1_k, bd1_k]
    cases hb1 : wdB B p1 e1 so1 3 with
    | false =>
      rw [if_pos bI0, if_pos bI0, wrong_s, bd1_k, q3, q4]
      exact Or.inr ⟨p1, _, _, _, _, _, _, _, _, _, _, _, _, by omega, rfl, rfl⟩
    | true =>
      obtain ⟨r1, r2⟩ := word_t t1 hb1
      rw [if_neg bI1, if_neg bI1, r1, r2]
      obtain ⟨p2, e2, st2, be2, so2, nu2, ma2, ms2, fr2, va2, a2, t2, x2, m2⟩ := tok_s (n0 := n0) (a1 := st1) (a2 := so1) (a3 := nu1) (b1 := ms1) (b2 := fr1) (b3 := va1) hn hB q2
      obtain ⟨q5, q6, q7, q8⟩ := tk_p t2
      rw [x2, m2, bd4_k, bd4_k]
      rcases num_c (n0 := n0) t2 with ⟨x, hx, s1, s2, s3, s4, s5, s6⟩ | ⟨s1, s2⟩
      · subst s1
        subst s2
        rw [s3, s4, s5, s6, side_t hx, bd1_k, one0]
        obtain ⟨p3, e3, st3, be3, so3, nu3, ma3, ms3, fr3, va3, a3, t3, x3, m3⟩ := tok_s (n0 := n0) (a1 := st2) (a2 := 2) (a3 := nI x) (b1 := 2) (b2 := fr2) (b3 := lN x) hn hB q6
        obtain ⟨q9, q10, q11, q12⟩ := tk_p t3
        rw [x3, bd4_k, numH_t hx m3, bd6_k, if_pos (show (-1 : Int32) < 0 from by decide)]
        rcases num_c (n0 := n0) t3 with ⟨y, hy, s7, s8, s9, s10, s11, s12⟩ | ⟨s7, s8⟩
        · subst s7
          subst s8
          have hxy : 12 * y + x < 144 := by omega
          rw [s9, s10, s11, s12, side_t hy, bd1_k, one0, show F_X6_yardOf n0 (nI x) (nI y) = some (nI (12 * y + x)) from by rw [← yard_nI]; rfl, bd1_k, tentOn_s hn hN, bd1_k, if_pos rfl, nmq, e11L, if_neg (show ¬ 0 < lg_cmp (lN y) (lN 11) from fun h => by have := (pk_lLT (a := 11) (b := y) (by omega) (by omega)).mp (cmp_pos.mp h); omega), nmq, nmq, nmq, lN_i, yard_nI, whoIs_s hn hN hd0 hdy, bd1_k]
          by_cases hf : whoR yards (nI (12 * y + x)) N 0 = -1
          · rw [if_pos hf, bd1_k, if_pos hf]
            obtain ⟨p4, e4, st4, be4, so4, nu4, ma4, ms4, fr4, va4, a4, t4, x4, m4⟩ := tok_s (n0 := n0) (a1 := st3) (a2 := 2) (a3 := nI y) (b1 := 2) (b2 := fr3) (b3 := lN y) hn hB q10
            obtain ⟨q13, q14, q15, q16⟩ := tk_p t4
            have hCp := CR_pitch (k := kd) (y := 12 * y + x) hlt hkd hxy hC
            unfold J_X7_tentHere_91 J_X7_tentHere_96
            rw [if_neg (show ¬ (1 : Int32) = 0 from by decide), numH_t hy m4, bd6_k, if_pos (show (-1 : Int32) < 0 from by decide), nmq, nmq, yard_nI, comes_s hlt hd0, bd2_k, x4, bd4_k, word_x hn hB t4 (show 4 < 13 by decide), w_4, word_m hB t4 (show 4 < 13 by decide), bd1_k, bd1_k]
            cases hb4 : wdB B p4 e4 so4 4 with
            | false =>
              unfold J_X3_readTent_106
              rw [if_pos bI0, if_pos bI0, pitch_s hlt, bd5_k, gw_0]
              exact Or.inl ⟨p4, e4, st4, be4, so4, nu4, ma4, ms4, fr4, va4, N + 1, clrB said N, _, _, _, by omega, t4, by omega, hCp, rfl, rfl⟩
            | true =>
              obtain ⟨r3, r4⟩ := word_t t4 hb4
              obtain ⟨p5, e5, st5, be5, so5, nu5, ma5, ms5, fr5, va5, a5, t5, x5, m5⟩ := tok_s (n0 := n0) (a1 := st4) (a2 := so4) (a3 := nu4) (b1 := ms4) (b2 := fr4) (b3 := va4) hn hB q14
              obtain ⟨w, hw1, hw2⟩ := said_on hlt hm
              have hd6' : comesD d N (nI kd) (nI (12 * y + x)) 6 = clrB said N := by
                rw [comesD, pk_un (by decide), pk_us, hd6]
              have hset : setB (clrB said N) N = nI w := by
                rw [hsa]
                exact hw2
              have hpit : clrB said N ||| ((1 : Int32) <<< (nI N &&& 31)) = nI w := hset
              have hC5 := CR_said (N := N + 1) (w := w) (by omega) hw1 hCp
              unfold J_X3_readTent_106
              rw [if_neg bI1, if_neg bI1, r3, r4, x5, bd4_k, pitch_s hlt, bd5_k, sayOf_1, bd1_k, m5, bd4_k, hd6', hset, hpit]
              exact Or.inl ⟨p5, e5, st5, be5, so5, nu5, ma5, ms5, fr5, va5, N + 1, nI w, _, _, _, by omega, t5, by omega, hC5, rfl, rfl⟩
          · unfold J_X7_tentHere_96
            rw [if_neg hf, bd1_k, if_neg hf, if_pos rfl, wrong_s, bd1_k, q11, q12]
            exact Or.inr ⟨p3, _, _, _, _, _, _, _, _, _, _, _, _, by omega, rfl, rfl⟩
        · have hJ : J_X7_tentHere_91 n0 fr3 (-1) ma3 ms3 va3 d (nI T) tape (nI x) (nI kd) = some (ma3, ms3, fr3, va3, fr3, d) := by
            unfold J_X7_tentHere_91 J_X7_tentHere_96
            rw [if_neg (show ¬ (1 : Int32) = 0 from by decide), numH_f s8, bd6_k, if_neg (show ¬ fr3 < 0 from by rw [q12]; exact nI_pos (by omega))]
          rw [s7, bd1_k, if_pos rfl]
          rcases s8 with s8 | ⟨s8, v, s9, s10, s11⟩
          · rw [if_neg s8, hJ, q11, q12]
            exact Or.inr ⟨p3, _, _, _, _, _, _, _, _, _, _, _, _, by omega, rfl, rfl⟩
          · rw [if_pos s8, nmq, e11L, if_pos (cmp_pos.mpr (by rw [s11]; exact (pk_lLT (a := 11) (b := v) (by omega) (by omega)).mpr s9)), hJ, q11, q12]
            exact Or.inr ⟨p3, _, _, _, _, _, _, _, _, _, _, _, _, by omega, rfl, rfl⟩
      · rw [s1, bd1_k, if_pos rfl, numH_f s2, bd6_k, if_neg (show ¬ fr2 < 0 from by rw [q8]; exact nI_pos (by omega)), q7, q8]
        exact Or.inr ⟨p2, _, _, _, _, _, _, _, _, _, _, _, _, by omega, rfl, rfl⟩
  · rw [if_neg (show ¬ nI N < 10 from nI_nlt (b := 10) (by omega) (by omega)), if_pos (show nI N = 10 from by rw [show N = 10 by omega]; rfl), wrong_s, bd1_k, k3, k4]
    exact Or.inr ⟨p, _, _, _, _, _, _, _, _, _, _, _, _, by omega, rfl, rfl⟩
def waR (T : Nat) (B : Nat → Nat) (p : Nat) (kinds yards spots : Nat → Int32) (tents said counted day z : Int32) (X : Option (Int32 × Int32 × Int32 × Int32 × Int32 × Int32 × Int32)) (M : Option (Int32 × Int32 × Int32 × Int64 × Int32 × (Nat → Int32))) : Prop :=
  (∃ (p' e' : Nat) (st be so nu ma ms fr : Int32) (va : Int64) (wall' bridge' : Int32) (d' : Nat → Int32), p ≤ p' ∧ tkR T B p' e' st be so nu ma ms fr va ∧ CR kinds yards spots tents said wall' bridge' counted day z d' ∧ X = some (1, st, be, so, nu, wall', bridge') ∧ M = some (ma, ms, fr, va, -1, d')) ∨
  (∃ (f : Nat) (x1 x2 x3 x4 x5 : Int32) (y1 y2 y3 : Int32) (y4 : Int64) (y5 : Nat → Int32), f ≤ T ∧ X = some (0, nI f, x1, x2, x3, x4, x5) ∧ M = some (y1, y2, y3, y4, nI f, y5))
theorem wall_t {p e : Nat} {st be so nu ma ms fr : Int32} {va : Int64} {kinds yards spots d : Nat → Int32} {tents said wall bridge counted day z : Int32} (hn : 2000000 ≤ n0) (hB : tbR T B bytes tape) (hk : tkR T B p e st be so nu ma ms fr va) (hbe : be = nI e) (hma : ma = nI e) (hC : CR kinds yards spots tents said wall bridge counted day z d) : waR T B p kinds yards spots tents said counted day z (F_X3_readWall n0 (nI T) st be so nu bytes wall bridge) (F_X7_wallHere n0 (nI T) ma ms fr va (-1) d tape) := by
  have hT := hB.1
  obtain ⟨k1, k2, k3, k4⟩ := tk_p hk
  unfold F_X3_readWall F_X7_wallHere
  rw [hbe, hma]
  obtain ⟨p2, e2, st2, be2, so2, nu2, ma2, ms2, fr2, va2, a2, t2, x2, m2⟩ := tok_s (n0 := n0) (a1 := st) (a2 := so) (a3 := nu) (b1 := ms) (b2 := fr) (b3 := va) hn hB k2
  obtain ⟨q5, q6, q7, q8⟩ := tk_p t2
  rw [x2, m2, bd4_k, bd4_k]
  rcases num_c (n0 := n0) t2 with ⟨x, hx, s1, s2, s3, s4, s5, s6⟩ | ⟨s1, s2⟩
  · subst s1
    subst s2
    rw [s3, s4, s5, s6, side_t hx, bd1_k, one0]
    obtain ⟨p3, e3, st3, be3, so3, nu3, ma3, ms3, fr3, va3, a3, t3, x3, m3⟩ := tok_s (n0 := n0) (a1 := st2) (a2 := 2) (a3 := nI x) (b1 := 2) (b2 := fr2) (b3 := lN x) hn hB q6
    obtain ⟨q9, q10, q11, q12⟩ := tk_p t3
    have hC3 := CR_wall (w := x) hx hC
    rw [x3, bd4_k, numH_t hx m3, bd6_k, if_pos (show (-1 : Int32) < 0 from by decide), wrt_l 3 l3 (by decide) (by decide), word_x hn hB t3 (show 5 < 13 by decide), w_5, word_m hB t3 (show 5 < 13 by decide), bd1_k, bd1_k]
    cases hb3 : wdB B p3 e3 so3 5 with
    | false =>
      rw [if_pos bI0, if_pos bI0]
      exact Or.inl ⟨p3, e3, st3, be3, so3, nu3, ma3, ms3, fr3, va3, nI x, bridge, _, by omega, t3, hC3, rfl, rfl⟩
    | true =>
      obtain ⟨r1, r2⟩ := word_t t3 hb3
      rw [if_neg bI1, if_neg bI1, r1, r2]
      obtain ⟨p4, e4, st4, be4, so4, nu4, ma4, ms4, fr4, va4, a4, t4, x4, m4⟩ := tok_s (n0 := n0) (a1 := st3) (a2 := so3) (a3 := nu3) (b1 := ms3) (b2 := fr3) (b3 := va3) hn hB q10
      obtain ⟨q13, q14, q15, q16⟩ := tk_p t4
      rw [x4, m4, bd4_k, bd4_k]
      rcases num_c (n0 := n0) t4 with ⟨y, hy, s7, s8, s9, s10, s11, s12⟩ | ⟨s7, s8⟩
      · subst s7
        subst s8
        rw [s9, s10, s11, s12, side_t hy, bd1_k, one0]
        obtain ⟨p5, e5, st5, be5, so5, nu5, ma5, ms5, fr5, va5, a5, t5, x5, m5⟩ := tok_s (n0 := n0) (a1 := st4) (a2 := 2) (a3 := nI y) (b1 := 2) (b2 := fr4) (b3 := lN y) hn hB q14
        have hC5 := CR_bridge (w := y) hy hC3
        rw [x5, bd4_k, numH_t hy m5, bd6_k, if_neg (show ¬ (0 : Int32) ≤ -1 from by decide), wrt_l 4 l4 (by decide) (by decide)]
        exact Or.inl ⟨p5, e5, st5, be5, so5, nu5, ma5, ms5, fr5, va5, nI x, nI y, _, by omega, t5, hC5, rfl, rfl⟩
      · rw [s7, bd1_k, if_pos rfl, numH_f s8, bd6_k, if_pos (show 0 ≤ fr4 from by rw [q16]; exact nI_pos' (by omega)), rd_l 4 l4 (by decide) (by decide), wrt_l 4 l4 (by decide) (by decide), q15, q16]
        exact Or.inr ⟨p4, _, _, _, _, _, _, _, _, _, _, by omega, rfl, rfl⟩
  · rw [s1, bd1_k, if_pos rfl, numH_f s2, bd6_k, if_neg (show ¬ fr2 < 0 from by rw [q8]; exact nI_pos (by omega)), q7, q8]
    exact Or.inr ⟨p2, _, _, _, _, _, _, _, _, _, _, by omega, rfl, rfl⟩
end
