set_option maxRecDepth 20000 in
theorem tw_ai : Cond.arrayClass .int ∈ lw_tbl := lt1 _ (List.mem_of_getElem? (i := 90) rfl)
set_option maxRecDepth 20000 in
theorem tw_ab : Cond.arrayClass .byte ∈ lw_tbl := lt4 _ (List.mem_of_getElem? (i := 59) rfl)
set_option maxRecDepth 20000 in
theorem tw_ao : Cond.arrayOver (.object RX2) ∈ lw_tbl := lt1 _ (List.mem_of_getElem? (i := 189) rfl)
set_option maxRecDepth 20000 in
theorem tw_ls_kab : Cond.laysStatic "NearestTents" "KIND_ABOVE" "[I" ∈ lw_tbl := lt4 _ (List.mem_of_getElem? (i := 76) rfl)
set_option maxRecDepth 20000 in
theorem tw_ls_cst : Cond.laysStatic "java/lang/String" "COMPACT_STRINGS" "Z" ∈ lw_tbl := lt3 _ (List.mem_of_getElem? (i := 239) rfl)
set_option maxRecDepth 20000 in
theorem tw_ls_fmt : Cond.laysStatic "jdk/internal/util/Preconditions" "SIOOBE_FORMATTER" "Ljava/util/function/BiFunction;" ∈ lw_tbl := lt4 _ (List.mem_of_getElem? (i := 15) rfl)
set_option maxRecDepth 20000 in
theorem tw_in_nt : Cond.initialized "NearestTents" ∈ lw_tbl := lt1 _ (List.mem_of_getElem? (i := 1) rfl)
set_option maxRecDepth 20000 in
theorem tw_in_str : Cond.initialized "java/lang/String" ∈ lw_tbl := lt1 _ (List.mem_of_getElem? (i := 13) rfl)
set_option maxRecDepth 20000 in
theorem tw_in_pre : Cond.initialized "jdk/internal/util/Preconditions" ∈ lw_tbl := lt1 _ (List.mem_of_getElem? (i := 15) rfl)
set_option maxRecDepth 20000 in
theorem tw_n46 : Cond.methodLinkNest RX6 46 yX3_init RX6 ∈ lw_tbl := lt1 _ (List.mem_of_getElem? (i := 164) rfl)
set_option maxRecDepth 20000 in
theorem tw_n61 : Cond.methodLinkNest RX6 61 yX2_init RX6 ∈ lw_tbl := lt1 _ (List.mem_of_getElem? (i := 191) rfl)
set_option maxRecDepth 20000 in
theorem tw_n73 : Cond.methodLinkNest RX3 73 yX6_yardOf RX6 ∈ lw_tbl := lt4 _ (List.mem_of_getElem? (i := 47) rfl)
set_option maxRecDepth 20000 in
theorem tw_str : ∀ i, i < 13 → Cond.stringRef RX3 (poS i) (txS i) ∈ lw_tbl := by
  intro i hi
  rcases (show i = 0 ∨ i = 1 ∨ i = 2 ∨ i = 3 ∨ i = 4 ∨ i = 5 ∨ i = 6 ∨ i = 7 ∨ i = 8 ∨ i = 9 ∨ i = 10 ∨ i = 11 ∨ i = 12 by omega) with rfl | rfl | rfl | rfl | rfl | rfl | rfl | rfl | rfl | rfl | rfl | rfl | rfl
  · exact lt4 _ (List.mem_of_getElem? (i := 51) rfl)
  · exact lt4 _ (List.mem_of_getElem? (i := 57) rfl)
  · exact lt4 _ (List.mem_of_getElem? (i := 58) rfl)
  · exact lt4 _ (List.mem_of_getElem? (i := 42) rfl)
  · exact lt4 _ (List.mem_of_getElem? (i := 49) rfl)
  · exact lt4 _ (List.mem_of_getElem? (i := 56) rfl)
  · exact lt3 _ (List.mem_of_getElem? (i := 219) rfl)
  · exact lt3 _ (List.mem_of_getElem? (i := 220) rfl)
  · exact lt3 _ (List.mem_of_getElem? (i := 221) rfl)
  · exact lt3 _ (List.mem_of_getElem? (i := 222) rfl)
  · exact lt3 _ (List.mem_of_getElem? (i := 223) rfl)
  · exact lt3 _ (List.mem_of_getElem? (i := 224) rfl)
  · exact lt3 _ (List.mem_of_getElem? (i := 225) rfl)
abbrev stC : Cond := Jvm.Cond.and given_1 narrow_1
abbrev tmK : Term := .static RX6 "KIND_ABOVE" "[I"
abbrev tmS (i : Nat) : Term := .string RX3 (poS i)
theorem sf_arr : Cond.arrayOf tmK .int ∈ flatC stC := by decide +kernel
theorem sf_len : Cond.eq (.length tmK) (.int 7) ∈ flatC stC := by decide +kernel
theorem sf_el : ∀ j, j < 7 → Cond.eq (.elem tmK (.int (Int32.ofNat j))) (.int (KA j)) ∈ flatC stC := by decide +kernel
theorem sf_cst : Cond.eq (.static "java/lang/String" "COMPACT_STRINGS" "Z") (.int 1) ∈ flatC stC := by decide +kernel
theorem sf_fmt : Cond.isRef (.static "jdk/internal/util/Preconditions" "SIOOBE_FORMATTER" "Ljava/util/function/BiFunction;") ∈ flatC stC := by decide +kernel
theorem sf_ex : ∀ i, i < 13 → Cond.exactly (tmS i) "java/lang/String" ∈ flatC stC := by decide +kernel
theorem sf_co : ∀ i, i < 13 → Cond.eq (.field (tmS i) "java/lang/String" "coder" "B") (.int 0) ∈ flatC stC := by decide +kernel
theorem sf_ar : ∀ i, i < 13 → Cond.arrayOf (.field (tmS i) "java/lang/String" "value" "[B") .byte ∈ flatC stC := by decide +kernel
theorem sf_le : ∀ i, i < 13 → Cond.eq (.length (.field (tmS i) "java/lang/String" "value" "[B")) (.int (Int32.ofNat (lenS.getD i 0))) ∈ flatC stC := by decide +kernel
theorem sf_se : ∀ i, i < 13 → ∀ j, j < lenS.getD i 0 → Cond.eq (.elem (.field (tmS i) "java/lang/String" "value" "[B") (.int (Int32.ofNat j))) (.int ((bytS.getD i []).getD j 0)) ∈ flatC stC := by decide +kernel
theorem sf_ne_0 : ∀ j, j < 13 → 0 ≠ j → Cond.not (Cond.eq (tmS 0) (tmS j)) ∈ flatC stC ∨ Cond.not (Cond.eq (tmS j) (tmS 0)) ∈ flatC stC := by decide +kernel
theorem sf_ne_1 : ∀ j, j < 13 → 1 ≠ j → Cond.not (Cond.eq (tmS 1) (tmS j)) ∈ flatC stC ∨ Cond.not (Cond.eq (tmS j) (tmS 1)) ∈ flatC stC := by decide +kernel
theorem sf_ne_2 : ∀ j, j < 13 → 2 ≠ j → Cond.not (Cond.eq (tmS 2) (tmS j)) ∈ flatC stC ∨ Cond.not (Cond.eq (tmS j) (tmS 2)) ∈ flatC stC := by decide +kernel
theorem sf_ne_3 : ∀ j, j < 13 → 3 ≠ j → Cond.not (Cond.eq (tmS 3) (tmS j)) ∈ flatC stC ∨ Cond.not (Cond.eq (tmS j) (tmS 3)) ∈ flatC stC := by decide +kernel
theorem sf_ne_4 : ∀ j, j < 13 → 4 ≠ j → Cond.not (Cond.eq (tmS 4) (tmS j)) ∈ flatC stC ∨ Cond.not (Cond.eq (tmS j) (tmS 4)) ∈ flatC stC := by decide +kernel
theorem sf_ne_5 : ∀ j, j < 13 → 5 ≠ j → Cond.not (Cond.eq (tmS 5) (tmS j)) ∈ flatC stC ∨ Cond.not (Cond.eq (tmS j) (tmS 5)) ∈ flatC stC := by decide +kernel
theorem sf_ne_6 : ∀ j, j < 13 → 6 ≠ j → Cond.not (Cond.eq (tmS 6) (tmS j)) ∈ flatC stC ∨ Cond.not (Cond.eq (tmS j) (tmS 6)) ∈ flatC stC := by decide +kernel
theorem sf_ne_7 : ∀ j, j < 13 → 7 ≠ j → Cond.not (Cond.eq (tmS 7) (tmS j)) ∈ flatC stC ∨ Cond.not (Cond.eq (tmS j) (tmS 7)) ∈ flatC stC := by decide +kernel
theorem sf_ne_8 : ∀ j, j < 13 → 8 ≠ j → Cond.not (Cond.eq (tmS 8) (tmS j)) ∈ flatC stC ∨ Cond.not (Cond.eq (tmS j) (tmS 8)) ∈ flatC stC := by decide +kernel
theorem sf_ne_9 : ∀ j, j < 13 → 9 ≠ j → Cond.not (Cond.eq (tmS 9) (tmS j)) ∈ flatC stC ∨ Cond.not (Cond.eq (tmS j) (tmS 9)) ∈ flatC stC := by decide +kernel
theorem sf_ne_10 : ∀ j, j < 13 → 10 ≠ j → Cond.not (Cond.eq (tmS 10) (tmS j)) ∈ flatC stC ∨ Cond.not (Cond.eq (tmS j) (tmS 10)) ∈ flatC stC := by decide +kernel
theorem sf_ne_11 : ∀ j, j < 13 → 11 ≠ j → Cond.not (Cond.eq (tmS 11) (tmS j)) ∈ flatC stC ∨ Cond.not (Cond.eq (tmS j) (tmS 11)) ∈ flatC stC := by decide +kernel
theorem sf_ne_12 : ∀ j, j < 13 → 12 ≠ j → Cond.not (Cond.eq (tmS 12) (tmS j)) ∈ flatC stC ∨ Cond.not (Cond.eq (tmS j) (tmS 12)) ∈ flatC stC := by decide +kernel
theorem sf_ne : ∀ i, i < 13 → ∀ j, j < 13 → i ≠ j → Cond.not (Cond.eq (tmS i) (tmS j)) ∈ flatC stC ∨ Cond.not (Cond.eq (tmS j) (tmS i)) ∈ flatC stC := by
  intro i hi
  rcases (show i = 0 ∨ i = 1 ∨ i = 2 ∨ i = 3 ∨ i = 4 ∨ i = 5 ∨ i = 6 ∨ i = 7 ∨ i = 8 ∨ i = 9 ∨ i = 10 ∨ i = 11 ∨ i = 12 by omega) with rfl | rfl | rfl | rfl | rfl | rfl | rfl | rfl | rfl | rfl | rfl | rfl | rfl
  · exact sf_ne_0
  · exact sf_ne_1
  · exact sf_ne_2
  · exact sf_ne_3
  · exact sf_ne_4
  · exact sf_ne_5
  · exact sf_ne_6
  · exact sf_ne_7
  · exact sf_ne_8
  · exact sf_ne_9
  · exact sf_ne_10
  · exact sf_ne_11
  · exact sf_ne_12
theorem gE_start {s : State} {b : Nat} (hts : ∀ w ∈ lw_tbl, w.before #[Value.ref b] s = true) (hgv : stC.before #[Value.ref b] s = true) : ∃ (tK : Nat) (adK adV : Nat → Nat) (vF : Value), gE tK adK adV vF (fun q => s.heap.size ≤ q) s s.heap := by
  have hs := flat_of_before _ hgv
  have hA : ∀ a : Nat, a < s.heap.size → ¬ (fun q => s.heap.size ≤ q) a := fun a h => Nat.not_le.mpr h
  obtain ⟨tK, h1, h2⟩ := va_Tof (f := fun j => .int (KA j)) (A := fun q => s.heap.size ≤ q) (by decide) (hs _ sf_arr) (va_eqt (hs _ sf_len)) (fun j hj => va_eqt (hs _ (sf_el j hj))) hA
  obtain ⟨adK, adV, h3, h4⟩ := vk_Sof (N := 13) (tm := tmS) (len := lenS) (byt := bytS) (A := fun q => s.heap.size ≤ q) (by decide +kernel) (fun i hi => hs _ (sf_ex i hi)) (fun i hi => hs _ (sf_co i hi)) (fun i hi => hs _ (sf_ar i hi)) (fun i hi => hs _ (sf_le i hi)) (fun i hi j hj => hs _ (sf_se i hi j hj)) (fun i j hi hj hne => (sf_ne i hi j hj hne).imp (fun h => hs _ h) (fun h => hs _ h)) hA
  have hZ1 := va_Zref (hts _ tw_ls_kab) (hts _ tw_in_nt) h1 hA
  have hZ2 := va_Zof (hts _ tw_ls_cst) (hts _ tw_in_str) (va_eqi (hs _ sf_cst)) hA
  have hR : ∀ i, i < 13 → vk_R RX3 (poS i) (txS i) (adK i) s := fun i hi => vk_R.of (hts _ (tw_str i hi)) (h4 i hi)
  have hN : va_Nw (.methodLinkNest RX3 73 yX6_yardOf RX6) s := va_Nw.of rfl (hts _ tw_n73)
  rcases va_Zqof (hts _ tw_ls_fmt) (hts _ tw_in_pre) (hs _ sf_fmt) hA with hq | ⟨t, hq⟩
  · exact ⟨tK, adK, adV, .null, hZ1, h2, h3, hR, hZ2, hq, hN, rfl⟩
  · exact ⟨tK, adK, adV, .ref t, hZ1, h2, h3, hR, hZ2, hq, hN, rfl⟩
theorem arr_start {s : State} {b : Nat} (hts : ∀ w ∈ lw_tbl, w.before #[Value.ref b] s = true) : ∃ cI cB cO : ClassId, ∀ (k : Nat) (q : ClassId × FieldType), (gT cI cB cO)[k]? = some q → ArrOfT s q.1 q.2 ∧ va_RA s q.1 q.2 := by
  obtain ⟨cI, kI, pI, a1, a2, a3⟩ := Cond.arrayClass_spec (hts _ tw_ai)
  obtain ⟨cB, kB, pB, b1, b2, b3⟩ := Cond.arrayClass_spec (hts _ tw_ab)
  obtain ⟨pO, cO, kO, c1, c2, c3, c4, c5⟩ := Cond.arrayOver_spec (hts _ tw_ao)
  refine ⟨cI, cB, cO, fun k q h => ?_⟩
  match k, h with
  | 0, h => cases h; exact ⟨fun n z => ⟨fun k h => (by cases h), kI, a2, pI, a3⟩, a1⟩
  | 1, h => cases h; exact ⟨fun n z => ⟨fun k h => (by cases h), kB, b2, pB, b3⟩, b1⟩
  | 2, h => cases h; exact ⟨fun n z => ⟨fun k h => (by cases h), kO, c3, pO, c4⟩, kO, pO, c3, c4, c1, c5⟩
  | k + 3, h => simp [gT] at h
set_option maxRecDepth 20000 in
theorem inv_start : Inv zf zf spF 0 0 0 0 1 0 1 zf zf spF 0 0 0 0 1 0 1 0 zf 0 zf zf 0 0 zf 0 0 zf 0 0 zf 0 0 (upd (upd zf 2 1) 5 1) zf 0 zf zf 0 ((-1)) zf zf zf := by
  refine ⟨⟨0, by decide, rfl, rfl, rfl, rfl, rfl, rfl, rfl, rfl, Or.inr rfl, ⟨0, by decide, rfl⟩, ⟨0, by decide, rfl⟩, ⟨0, by decide, rfl⟩, ⟨0, by decide, rfl⟩, ?_, fun i _ => ⟨0, by decide, rfl⟩, fun i _ => ⟨0, by decide, rfl⟩, ?_⟩, rfl, Or.inl rfl, fun h => absurd h (by decide), fun _ _ => rfl, ⟨0, by decide, rfl, rfl, fun i h => absurd h (Nat.not_lt_zero i)⟩, ?_, ?_, ?_, ?_, rfl⟩
  · intro i hi
    rcases (show i = 0 ∨ i = 1 ∨ i = 2 ∨ i = 3 ∨ i = 4 ∨ i = 5 ∨ i = 6 ∨ i = 7 ∨ i = 8 ∨ i = 9 by omega) with rfl | rfl | rfl | rfl | rfl | rfl | rfl | rfl | rfl | rfl <;> exact ⟨rfl, rfl, rfl⟩
  · intro i hi
    refine ⟨0, Nat.le_refl _, ?_⟩
    rw [spF, if_pos hi]
    rfl
  all_goals exact ⟨rfl, rfl, Or.inl rfl, ⟨0, by decide, rfl, fun _ => rfl⟩, fun _ _ => rfl⟩
set_option maxRecDepth 20000 in
theorem gV_perm {D : va_G} {tys : List (ClassId × FieldType)} {A : Nat → Prop} {H0 : Heap} {s : State} {ws ws' : va_W} {H : Heap} {locs : List Loc} {isP : List Nat} (hV : gV D tys A H0 s ws H locs) (hPs : isP.map (fun i => ws[i]?) = ws'.map some) (hn : va_nd isP = true) : gV D tys A H0 s ws' H locs := ⟨hV.1, g_Psub hV.2.1 hPs, hV.2.2.1.sub isP hn hPs, hV.2.2.2⟩
set_option maxRecDepth 100000 in
set_option maxHeartbeats 8000000 in
theorem start_open {p : Program} {e : Env} {s : State} {m : MethodId} {below : List Frame} {meth : Method} {c : Code} (l : Launch) (hS : StAll 2000000) {b L : Nat} {xs : Nat → Int32} (hL : L ≤ 3072) (C0 : lw_At p s m meth c b L xs) : W p l e room_1 s m #[Value.ref b] below meth c s.heap [] 0 0 (lw_Z below #[Value.ref b] s) (entryFrame m ([Value.ref b] : List Value).toArray 4) := by
  obtain ⟨hx, hb, hr, hml, hown, hts, hX, hbl, hlocks, hgv⟩ := id C0
  have C : CallFix p m c cL_law 4 s #[Value.ref b] lw_tbl RL := ⟨hx, hb, hml, hown, hts⟩
  have hbA : ¬ s.heap.size ≤ b := Nat.not_le.mpr hbl
  obtain ⟨tK, adK, adV, vF, hE⟩ := gE_start hts hgv
  obtain ⟨cI, cB, cO, hT⟩ := arr_start hts
  obtain ⟨c0, iS0, hKn0⟩ := u_known (C := RX0) (T := TX0) (N := 10) (n := 10) hts inX0 (hts _ lit_X0)
  obtain ⟨c1, iS1, hKn1⟩ := u_known (C := RX1) (T := TX1) (N := 4) (n := 4) hts inX1 (hts _ lit_X1)
  obtain ⟨c2, iS2, hKn2⟩ := u_known (C := RX2) (T := TX2) (N := 3) (n := 3) hts inX2 (hts _ lit_X2)
  obtain ⟨c3, iS3, hKn3⟩ := u_known (C := RX3) (T := TX3) (N := 6) (n := 6) hts inX3 (hts _ lit_X3)
  obtain ⟨c4, iS4, hKn4⟩ := u_known (C := RX4) (T := TX4) (N := 4) (n := 4) hts inX4 (hts _ lit_X4)
  obtain ⟨c5, iS5, hKn5⟩ := u_known (C := RX5) (T := TX5) (N := 5) (n := 5) hts inX5 (hts _ lit_X5)
  obtain ⟨c6, iS6, hKn6⟩ := u_known (C := RX6) (T := TX6) (N := 9) (n := 9) hts inX6 (hts _ lit_X6)
  obtain ⟨c7, iS7, hKn7⟩ := u_known (C := RX7) (T := TX7) (N := 28) (n := 28) hts inX7 (hts _ lit_X7)
  obtain ⟨dC, dI, hKc⟩ : ∃ (dC : Nat → ClassId) (dI : Nat → Nat → Nat), ∀ (k : Nat) (q : vw_C), vwCl[k]? = some q → u_Kn s q.1 q.2.1 q.2.2 (dC k) (dI k) := by
    refine ⟨fun k => ([c0, c1, c2, c3, c4, c5, c6, c7] : List ClassId).getD k c0, fun k => ([iS0, iS1, iS2, iS3, iS4, iS5, iS6, iS7] : List (Nat → Nat)).getD k iS0, ?_⟩
    intro k q hq
    match k, hq with
    | 0, hq => cases hq; exact hKn0
    | 1, hq => cases hq; exact hKn1
    | 2, hq => cases hq; exact hKn2
    | 3, hq => cases hq; exact hKn3
    | 4, hq => cases hq; exact hKn4
    | 5, hq => cases hq; exact hKn5
    | 6, hq => cases hq; exact hKn6
    | 7, hq => cases hq; exact hKn7
    | k + 8, hq => simp [vwCl] at hq
  have hV : gV (dC, dI) (gT cI cB cO) (fun q => s.heap.size ≤ q) s.heap s [] s.heap [] := ⟨⟨hKc, hT⟩, fun k q h => by simp at h, ⟨fun i j p q h => by simp at h, fun k q h => by simp at h⟩, va_S.rf, fun q h => h⟩
  have hl := lv_entry ([.ref b]) (n := 4) (Nat.le_of_ble_eq_true rfl)
  rw [lg_entry_eq]
  generalize (lg_sl ([.ref b]) ++ List.replicate (4 - (lg_sl ([.ref b])).length) Slot.unset).toArray = ls at hl ⊢
  have hl : lv_has ls 4 [(0, .ref b)] := hl
  refine g_new C hV (ci := 6) (Cn := RX6) (T := TX6) (N := 9) rfl inX6 tyX6 tyX6_ok lcl_X6 lis_X6 lni_X6 [.null, .null, .null, .null, .null, .null, .null, .null, .int 0] (fun j hj => by rcases (show j = 0 ∨ j = 1 ∨ j = 2 ∨ j = 3 ∨ j = 4 ∨ j = 5 ∨ j = 6 ∨ j = 7 ∨ j = 8 by omega) with rfl | rfl | rfl | rfl | rfl | rfl | rfl | rfl | rfl <;> rfl) (Nat.le_of_ble_eq_true rfl) (Nat.le_of_ble_eq_true rfl) dL_law_0 (fun xo H hV => ?_)
  have hV : gV (dC, dI) (gT cI cB cO) (fun q => s.heap.size ≤ q) s.heap s [(xo, .inr (6, [.null, .null, .null, .null, .null, .null, .null, .null, .int 0]))] H [] := hV
  refine W.widen (k := 1) (n := 9) (Nat.le_of_ble_eq_true rfl) (Nat.le_of_ble_eq_true rfl) ?_
  refine lv_dup C.1 C.2.1 dL_law_3 rfl ?_
  refine g_cI (X := fun U => va_Nw (.methodLinkNest RX6 46 yX3_init RX6) U ∧ va_Nw (.methodLinkNest RX6 61 yX2_init RX6) U ∧ va_AO RX2 U) (wr := []) (w1 := w1X6 cI cB cO xo) C hV (kc_X6 l dC dI cI cB cO 2000000 H.size xo (by decide)) (fun a U g mk h => ⟨h.1.same rfl rfl, h.2.1.same rfl rfl, h.2.2.moved (Vm.Alike.refl U.vm)⟩) (fun U hW => ⟨(va_Nw.of rfl (hts _ tw_n46)).warmM hW, (va_Nw.of rfl (hts _ tw_n61)).warmM hW, (va_AO.of (hts _ tw_ao)).moved hW.alike⟩) mdcX6 gL_law_X6_init lml_X6 lni_X6 lim_X6 rfl rfl rfl ⟨Nat.le_of_ble_eq_true rfl, Nat.le_of_ble_eq_true rfl⟩ ⟨Nat.le_of_ble_eq_true rfl, Nat.le_of_ble_eq_true rfl⟩ [0] [] rfl rfl rfl rfl rfl rfl hl.1 (Nat.le_of_ble_eq_true rfl) rfl dL_law_4 (fun u H locs hV => ?_)
  obtain ⟨u0, u1, u2, u3, u4, u5, u6, u7, u8, u9, u10, u11, u12, u13, u14, u15, u16, u17, u18, u19, u20, u21, u22, u23, u24, u25, u26, u27, u28, u29, u30, u31, u32, u33, u34, u35⟩ := u
  refine W.widen (k := 37) (n := 1729) (Nat.le_of_ble_eq_true rfl) (Nat.le_of_ble_eq_true rfl) ?_
  refine lv_astore_n (lv' := [(1, .ref xo), (0, .ref b)]) C.1 C.2.1 dL_law_7 rfl hl (by decide) rfl (fun ls hl => ?_)
  refine g_new C hV (ci := 7) (Cn := RX7) (T := TX7) (N := 28) rfl inX7 tyX7 tyX7_ok lcl_X7 lis_X7 lni_X7 [.null, .null, .null, .int 0, .null, .null, .int 0, .int 0, .null, .null, .null, .null, .int 0, .int 0, .int 0, .int 0, .int 0, .null, .int 0, .int 0, .int 0, .int 0, .long 0, .int 0, .null, .null, .null, .null] (fun j hj => by rcases (show j = 0 ∨ j = 1 ∨ j = 2 ∨ j = 3 ∨ j = 4 ∨ j = 5 ∨ j = 6 ∨ j = 7 ∨ j = 8 ∨ j = 9 ∨ j = 10 ∨ j = 11 ∨ j = 12 ∨ j = 13 ∨ j = 14 ∨ j = 15 ∨ j = 16 ∨ j = 17 ∨ j = 18 ∨ j = 19 ∨ j = 20 ∨ j = 21 ∨ j = 22 ∨ j = 23 ∨ j = 24 ∨ j = 25 ∨ j = 26 ∨ j = 27 by omega) with rfl | rfl | rfl | rfl | rfl | rfl | rfl | rfl | rfl | rfl | rfl | rfl | rfl | rfl | rfl | rfl | rfl | rfl | rfl | rfl | rfl | rfl | rfl | rfl | rfl | rfl | rfl | rfl <;> rfl) (Nat.le_of_ble_eq_true rfl) (Nat.le_of_ble_eq_true rfl) dL_law_8 (fun mo H hV => ?_)
  refine W.widen (k := 38) (n := 1757) (Nat.le_of_ble_eq_true rfl) (Nat.le_of_ble_eq_true rfl) ?_
  refine lv_dup C.1 C.2.1 dL_law_11 rfl ?_
  have hV : gV (dC, dI) (gT cI cB cO) (fun q => s.heap.size ≤ q) s.heap s ([oX6 xo u0 u4 u8 u12 u14 u24 u26 u27 0, oX0 u0 u1 u2 u3 0 0 0 0 1 0 1, aA cI u1 10 zf, aA cI u2 10 zf, aA cI u3 10 spF, oX0 u4 u5 u6 u7 0 0 0 0 1 0 1, aA cI u5 10 zf, aA cI u6 10 zf, aA cI u7 10 spF, oX1 u8 u0 u9 u10 u11, aA cI u9 10 zf, aA cI u10 10 zf, aA cI u11 100 zf, oX5 u12 0 0 0 u8 u13, aA cI u13 1024 zf, oX4 u14 u0 u15 u19 u23, oX0 u15 u16 u17 u18 0 0 0 0 1 0 1, aA cI u16 10 zf, aA cI u17 10 zf, aA cI u18 10 spF, oX1 u19 u15 u20 u21 u22, aA cI u20 10 zf, aA cI u21 10 zf, aA cI u22 100 zf, aA cI u23 10 zf, oX3 u24 0 u25 0 0 0 0, aA cI u25 120 zf, aQ cO u26 4 (va_up (va_up (va_up (va_up ((fun _ => none)) 0 (some u28)) 1 (some u30)) 2 (some u32)) 3 (some u34)), aA cI u27 7 zf, oX2 u28 u29 0 0, aA cI u29 40 zf, oX2 u30 u31 0 0, aA cI u31 40 zf, oX2 u32 u33 0 0, aA cI u33 40 zf, oX2 u34 u35 0 0, aA cI u35 40 zf] ++ [(mo, .inr (7, [.null, .null, .null, .int 0, .null, .null, .int 0, .int 0, .null, .null, .null, .null, .int 0, .int 0, .int 0, .int 0, .int 0, .null, .int 0, .int 0, .int 0, .int 0, .long 0, .int 0, .null, .null, .null, .null]))]) H locs := hV
  refine g_cI (X := fun _ => True) (wr := [oX6 xo u0 u4 u8 u12 u14 u24 u26 u27 0, oX0 u0 u1 u2 u3 0 0 0 0 1 0 1, aA cI u1 10 zf, aA cI u2 10 zf, aA cI u3 10 spF, oX0 u4 u5 u6 u7 0 0 0 0 1 0 1, aA cI u5 10 zf, aA cI u6 10 zf, aA cI u7 10 spF, oX1 u8 u0 u9 u10 u11, aA cI u9 10 zf, aA cI u10 10 zf, aA cI u11 100 zf, oX5 u12 0 0 0 u8 u13, aA cI u13 1024 zf, oX4 u14 u0 u15 u19 u23, oX0 u15 u16 u17 u18 0 0 0 0 1 0 1, aA cI u16 10 zf, aA cI u17 10 zf, aA cI u18 10 spF, oX1 u19 u15 u20 u21 u22, aA cI u20 10 zf, aA cI u21 10 zf, aA cI u22 100 zf, aA cI u23 10 zf, oX3 u24 0 u25 0 0 0 0, aA cI u25 120 zf, aQ cO u26 4 (va_up (va_up (va_up (va_up ((fun _ => none)) 0 (some u28)) 1 (some u30)) 2 (some u32)) 3 (some u34)), aA cI u27 7 zf, oX2 u28 u29 0 0, aA cI u29 40 zf, oX2 u30 u31 0 0, aA cI u31 40 zf, oX2 u32 u33 0 0, aA cI u33 40 zf, oX2 u34 u35 0 0, aA cI u35 40 zf]) (w1 := w1X7 cI cB cO mo) C hV (kc_X7 l dC dI cI cB cO 2000000 H.size mo (by decide)) (fun _ _ _ _ _ => trivial) (fun _ _ => trivial) mdcX7 gL_law_X7_init lml_X7 lni_X7 lim_X7 rfl rfl rfl ⟨Nat.le_of_ble_eq_true rfl, Nat.le_of_ble_eq_true rfl⟩ ⟨Nat.le_of_ble_eq_true rfl, Nat.le_of_ble_eq_true rfl⟩ [37] [0, 1, 2, 3, 4, 5, 6, 7, 8, 9, 10, 11, 12, 13, 14, 15, 16, 17, 18, 19, 20, 21, 22, 23, 24, 25, 26, 27, 28, 29, 30, 31, 32, 33, 34, 35, 36] rfl rfl rfl rfl rfl rfl hl.1 (Nat.le_of_ble_eq_true rfl) rfl dL_law_12 (fun u H locs hV => ?_)
  obtain ⟨y0, y1, y2, y3, y4, y5, y6, y7, y8, y9, y10, y11, y12, y13⟩ := u
  refine W.widen (k := 52) (n := 4292) (Nat.le_of_ble_eq_true rfl) (Nat.le_of_ble_eq_true rfl) ?_
  refine lv_astore_n (lv' := [(2, .ref mo), (1, .ref xo), (0, .ref b)]) C.1 C.2.1 dL_law_15 rfl hl (by decide) rfl (fun ls hl => ?_)
  refine lv_iconst (v := 0) C.1 C.2.1 dL_law_16 rfl ?_
  refine lv_istore_n (lv' := [(3, .int 0), (2, .ref mo), (1, .ref xo), (0, .ref b)]) C.1 C.2.1 dL_law_17 rfl hl (by decide) rfl (fun ls hl => ?_)
  have hV2 := gV_perm (isP := [0, 28, 1, 2, 3, 4, 5, 6, 7, 8, 9, 10, 11, 12, 13, 14, 15, 24, 16, 17, 18, 19, 20, 21, 22, 23, 25, 26, 27, 29, 30, 31, 32, 33, 34, 35, 36, 37, 38, 39, 40, 41, 42, 43, 44, 45, 46, 47, 48, 49, 50, 51]) (ws' := [oX6 xo u0 u4 u8 u12 u14 u24 u26 u27 0, aA cI u27 7 zf, oX0 u0 u1 u2 u3 0 0 0 0 1 0 1, aA cI u1 10 zf, aA cI u2 10 zf, aA cI u3 10 spF, oX0 u4 u5 u6 u7 0 0 0 0 1 0 1, aA cI u5 10 zf, aA cI u6 10 zf, aA cI u7 10 spF, oX1 u8 u0 u9 u10 u11, aA cI u9 10 zf, aA cI u10 10 zf, aA cI u11 100 zf, oX5 u12 0 0 0 u8 u13, aA cI u13 1024 zf, oX4 u14 u0 u15 u19 u23, aA cI u23 10 zf, oX0 u15 u16 u17 u18 0 0 0 0 1 0 1, aA cI u16 10 zf, aA cI u17 10 zf, aA cI u18 10 spF, oX1 u19 u15 u20 u21 u22, aA cI u20 10 zf, aA cI u21 10 zf, aA cI u22 100 zf, oX3 u24 0 u25 0 0 0 0, aA cI u25 120 zf, aQ cO u26 4 (va_up (va_up (va_up (va_up ((fun _ => none)) 0 (some u28)) 1 (some u30)) 2 (some u32)) 3 (some u34)), oX2 u28 u29 0 0, aA cI u29 40 zf, oX2 u30 u31 0 0, aA cI u31 40 zf, oX2 u32 u33 0 0, aA cI u33 40 zf, oX2 u34 u35 0 0, aA cI u35 40 zf, oX7 mo y0 y1 y2 0 y3 y4 0 ((-1)) y5 y6 y7 y8 0 0 0 0 0 y9 0 0 0 0 0 0 y10 y11 y12 y13, aA cI y0 40 (upd (upd zf 2 1) 5 1), aA cI y1 40 zf, aA cI y2 40 zf, aA cI y3 7 zf, aA cB y4 120 zf, aA cI y5 10 zf, aA cI y6 10 zf, aA cI y7 1024 zf, aA cI y8 1026 zf, aA cI y9 10 zf, aA cI y10 4 zf, aA cI y11 4 zf, aA cI y12 160 zf, aA cI y13 40 zf]) hV rfl rfl
  obtain ⟨xq, hxq⟩ : ∃ f : Nat → Option Nat, f = va_up (va_up (va_up (va_up ((fun _ => none)) 0 (some u28)) 1 (some u30)) 2 (some u32)) 3 (some u34) := ⟨_, rfl⟩
  have hq0 : xq 0 = some u28 := by rw [hxq]; rfl
  have hq1 : xq 1 = some u30 := by rw [hxq]; rfl
  have hq2 : xq 2 = some u32 := by rw [hxq]; rfl
  have hq3 : xq 3 = some u34 := by rw [hxq]; rfl
  rw [← hxq] at hV2
  exact law_loop (ax := fun j => ([xo, u27, u0, u1, u2, u3, u4, u5, u6, u7, u8, u9, u10, u11, u12, u13, u14, u23, u15, u16, u17, u18, u19, u20, u21, u22, u24, u25, u26, u28, u29, u30, u31, u32, u33, u34, u35, mo, y0, y1, y2, y3, y4, y5, y6, y7, y8, y9, y10, y11, y12, y13] : List Nat).getD j 0) hL C hX hbl hbA hE hq0 hq1 hq2 hq3 hr hlocks hS (L + 1) 0 (by omega) (by omega) 0 zf 0 0 0 0 1 0 1 zf zf spF 0 0 0 0 1 0 1 zf zf spF zf zf zf 0 0 0 zf zf 0 0 0 0 1 0 1 zf zf spF zf zf zf 0 0 0 0 0 zf 0 0 zf 0 0 zf 0 0 zf 0 0 zf 0 0 ((-1)) 0 0 0 0 0 0 0 0 0 0 0 (upd (upd zf 2 1) 5 1) zf zf zf zf zf zf zf zf zf zf zf zf zf H locs ls inv_start hV2 (lv_sub hl [3, 2, 1, 0] rfl)
