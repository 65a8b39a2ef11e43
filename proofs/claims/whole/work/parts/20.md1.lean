abbrev rmX7_finds : Room := { frames := 0, cells := 0, slots := 0, locals := 0 }
theorem mdX7_finds : gMd yX7_finds wsX7_finds cX7_finds 2 (some .int) 1 := ⟨⟨_, rfl⟩, by decide +kernel⟩
theorem flX7_finds_19 : gFL wsX7_finds RX7 19 7 4 RX7 TX7 28 := ⟨rfl, fun w h => List.mem_cons_of_mem _ (List.mem_append_right _ (h)), Nat.le_of_ble_eq_true rfl, List.mem_cons_of_mem _ (List.mem_append_left _ (List.mem_of_getElem? (i := 0) rfl))⟩
theorem ctX7_finds_57 : Cond.constant RX7 57 (-1000001) ∈ wsX7_finds := List.mem_cons_of_mem _ (List.mem_append_left _ (List.mem_of_getElem? (i := 1) rfl))
def F_X7_finds (n0 : Nat) (f_found : Nat → Int32) (p1 : Int32) : Option (Int32 × (Nat → Int32)) := rd f_found 7 p1 (fun x1 => nm (x1 + 1) (fun x2 => wrt f_found 7 p1 x2 (fun g3 => nm (((-1000001)) - p1) (fun x4 => some (x4, g3)))))
set_option maxRecDepth 100000 in
set_option maxHeartbeats 4000000 in
theorem k_X7_finds (l : Launch) (dC : Nat → ClassId) (dI : Nat → Nat → Nat) (cI cB cO : ClassId) (n0 sz : Nat) (a_t : Nat) (a_d : Nat) (a_e : Nat) (a_kept : Nat) (a_found : Nat) (a_tape : Nat) (a_hears : Nat) (a_near : Nat) (a_firstDay : Nat) (a_daily : Nat) (a_heardNow : Nat) (a_bitsOf : Nat) (a_sizeOf : Nat) (a_number : Nat) (a_passing : Nat)   (v_isKept : Int32) (v_taped : Int32) (v_gone : Int32) (v_begin : Int32) (v_round : Int32) (v_leastFar : Int32) (v_leastWhere : Int32) (v_mostLed : Int32) (v_firstMove : Int32) (v_at : Int32) (v_sort : Int32) (v_from : Int32) (v_value : Int64) (v_fault : Int32) (f_found : Nat → Int32) (p1 : Int32)  {ro : Int32} {o0 : Nat → Int32} (hF : F_X7_finds n0 f_found p1 = some (ro, o0)) : Met l yX7_finds wsX7_finds rmX7_finds (va_Pc [.ref a_t, .int p1] (gPre (dC, dI) (gT cI cB cO) sz [oX7 a_t a_d a_e a_kept v_isKept a_found a_tape v_taped v_gone a_hears a_near a_firstDay a_daily v_begin v_round v_leastFar v_leastWhere v_mostLed a_heardNow v_firstMove v_at v_sort v_from v_value v_fault a_bitsOf a_sizeOf a_number a_passing, aA cI a_found 7 f_found])) (gQi (dC, dI) (gT cI cB cO) sz [oX7 a_t a_d a_e a_kept v_isKept a_found a_tape v_taped v_gone a_hears a_near a_firstDay a_daily v_begin v_round v_leastFar v_leastWhere v_mostLed a_heardNow v_firstMove v_at v_sort v_from v_value v_fault a_bitsOf a_sizeOf a_number a_passing, aA cI a_found 7 f_found] ro [oX7 a_t a_d a_e a_kept v_isKept a_found a_tape v_taped v_gone a_hears a_near a_firstDay a_daily v_begin v_round v_leastFar v_leastWhere v_mostLed a_heardNow v_firstMove v_at v_sort v_from v_value v_fault a_bitsOf a_sizeOf a_number a_passing, aA cI a_found 7 o0]) 0 0 (va_A [oX7 a_t a_d a_e a_kept v_isKept a_found a_tape v_taped v_gone a_hears a_near a_firstDay a_daily v_begin v_round v_leastFar v_leastWhere v_mostLed a_heardNow v_firstMove v_at v_sort v_from v_value v_fault a_bitsOf a_sizeOf a_number a_passing, aA cI a_found 7 f_found] sz) := by
  refine g_metI (Out := Int32 × (Nat → Int32)) (fun oo => oo.1) (fun oo => [oX7 a_t a_d a_e a_kept v_isKept a_found a_tape v_taped v_gone a_hears a_near a_firstDay a_daily v_begin v_round v_leastFar v_leastWhere v_mostLed a_heardNow v_firstMove v_at v_sort v_from v_value v_fault a_bitsOf a_sizeOf a_number a_passing, aA cI a_found 7 oo.2]) (ro, o0) (own := RX7) (lv := [(0, .ref a_t), (1, .int p1)]) (by decide) rfl rfl (Nat.le_of_ble_eq_true rfl) rfl ?_
  intro p e s m args below meth c Q ls C hret hV hl
  obtain ⟨out, hout⟩ : ∃ z : Int32 × (Nat → Int32), z = (ro, o0) := ⟨_, rfl⟩
  rw [← hout] at hF hret
  obtain ⟨H0, hH0⟩ : ∃ z : Heap, z = s.heap := ⟨_, rfl⟩
  obtain ⟨A0, hA0⟩ : ∃ z : Nat → Prop, z = va_A [oX7 a_t a_d a_e a_kept v_isKept a_found a_tape v_taped v_gone a_hears a_near a_firstDay a_daily v_begin v_round v_leastFar v_leastWhere v_mostLed a_heardNow v_firstMove v_at v_sort v_from v_value v_fault a_bitsOf a_sizeOf a_number a_passing, aA cI a_found 7 f_found] s.heap.size := ⟨_, rfl⟩
  rw [← hA0] at hret hV
  rw [← hH0] at hret hV
  rw [← hH0]
  obtain ⟨H, locs, hH⟩ : ∃ (z : Heap) (y : List Loc), z = H0 ∧ y = [] := ⟨_, _, rfl, rfl⟩
  rw [← hH.1, ← hH.2]
  have hV : gV (dC, dI) (gT cI cB cO) A0 H0 s [oX7 a_t a_d a_e a_kept v_isKept a_found a_tape v_taped v_gone a_hears a_near a_firstDay a_daily v_begin v_round v_leastFar v_leastWhere v_mostLed a_heardNow v_firstMove v_at v_sort v_from v_value v_fault a_bitsOf a_sizeOf a_number a_passing, aA cI a_found 7 f_found] H locs := by rw [hH.1, hH.2]; exact hV
  unfold F_X7_finds at hF
  refine lv_aload_n C.1 C.2.1 dX7_finds_0 rfl (lv_at hl 0 rfl) ?_
  refine g_get C hV flX7_finds_19 0 rfl rfl dX7_finds_1 ?_
  refine lv_iload_n C.1 C.2.1 dX7_finds_4 rfl (lv_at hl 1 rfl) ?_
  refine lv_dup2_11 C.1 C.2.1 dX7_finds_5 rfl rfl ?_
  refine g_iald C hV 1 rfl hF dX7_finds_6 (fun x1 hF => ?_)
  refine lv_iconst (v := 1) C.1 C.2.1 dX7_finds_7 rfl ?_
  refine g_iadd C hF dX7_finds_8 (fun x2 hF => ?_)
  refine g_iast C hV 1 rfl hF (fun gq => [oX7 a_t a_d a_e a_kept v_isKept a_found a_tape v_taped v_gone a_hears a_near a_firstDay a_daily v_begin v_round v_leastFar v_leastWhere v_mostLed a_heardNow v_firstMove v_at v_sort v_from v_value v_fault a_bitsOf a_sizeOf a_number a_passing, aA cI a_found 7 gq]) (fun _ => rfl) dX7_finds_9 (fun g3 H locs hF hV => ?_)
  refine lv_ldc (v := (-1000001)) C.1 C.2.1 C.2.2.2.1 (C.2.2.2.2 _ ctX7_finds_57) dX7_finds_10 ?_
  refine lv_iload_n C.1 C.2.1 dX7_finds_12 rfl (lv_at hl 1 rfl) ?_
  refine g_isub C hF dX7_finds_13 (fun x4 hF => ?_)
  exact hret (x4, g3) _ _ _ _ dX7_finds_14 hF hV
abbrev rmX7_in : Room := { frames := 0, cells := 0, slots := 0, locals := 0 }
theorem mdX7_in : gMd yX7_in wsX7_in cX7_in 6 (some .boolean) 3 := ⟨⟨_, rfl⟩, by decide +kernel⟩
def F_X7_in (n0 : Nat) (p1 : Int64) (p2 : Int64) (p3 : Int64) : Option (Int32) := nm (lg_cmp p1 p2) (fun x1 => (if x1 < 0 then some (0 : Int32) else nm (lg_cmp p1 p3) (fun x2 => (if 0 < x2 then some (0 : Int32) else some (1 : Int32)))))
set_option maxRecDepth 100000 in
set_option maxHeartbeats 4000000 in
theorem k_X7_in (l : Launch) (dC : Nat → ClassId) (dI : Nat → Nat → Nat) (cI cB cO : ClassId) (n0 sz : Nat)     (p1 : Int64) (p2 : Int64) (p3 : Int64)  {ro : Int32} (hF : F_X7_in n0 p1 p2 p3 = some ro) : Met l yX7_in wsX7_in rmX7_in (va_Pc [.long p1, .long p2, .long p3] (gPre (dC, dI) (gT cI cB cO) sz [])) (gQi (dC, dI) (gT cI cB cO) sz [] ro []) 0 0 (va_A [] sz) := by
  refine g_metZ (Out := Int32) (fun oo => oo) (fun oo => []) ro (own := RX7) (lv := [(0, .long p1), (2, .long p2), (4, .long p3)]) (by decide) rfl rfl (Nat.le_of_ble_eq_true rfl) rfl ?_
  intro p e s m args below meth c Q ls C hret hV hl
  obtain ⟨out, hout⟩ : ∃ z : Int32, z = ro := ⟨_, rfl⟩
  rw [← hout] at hF hret
  obtain ⟨H0, hH0⟩ : ∃ z : Heap, z = s.heap := ⟨_, rfl⟩
  obtain ⟨A0, hA0⟩ : ∃ z : Nat → Prop, z = va_A [] s.heap.size := ⟨_, rfl⟩
  rw [← hA0] at hret hV
  rw [← hH0] at hret hV
  rw [← hH0]
  obtain ⟨H, locs, hH⟩ : ∃ (z : Heap) (y : List Loc), z = H0 ∧ y = [] := ⟨_, _, rfl, rfl⟩
  rw [← hH.1, ← hH.2]
  have hV : gV (dC, dI) (gT cI cB cO) A0 H0 s [] H locs := by rw [hH.1, hH.2]; exact hV
  unfold F_X7_in at hF
  refine lv_lload_n C.1 C.2.1 dX7_in_0 rfl (lv_at hl 0 rfl) ?_
  refine lv_lload_n C.1 C.2.1 dX7_in_1 rfl (lv_at hl 1 rfl) ?_
  refine g_lcmp C hF dX7_in_2 (fun x1 hF => ?_)
  refine g_if_lt (tgt := 17) C hF dX7_in_3 rfl (fun hF => ?_) (fun hF => ?_)
  · refine lv_iconst (v := 0) C.1 C.2.1 dX7_in_17 rfl ?_
    exact hret (0 : Int32) _ _ _ _ dX7_in_18 hF (Or.inl rfl) hV
  refine lv_lload_n C.1 C.2.1 dX7_in_6 rfl (lv_at hl 0 rfl) ?_
  refine lv_lload C.1 C.2.1 dX7_in_7 (lv_at hl 2 rfl) ?_
  refine g_lcmp C hF dX7_in_9 (fun x2 hF => ?_)
  refine g_if_gt (tgt := 17) C hF dX7_in_10 rfl (fun hF => ?_) (fun hF => ?_)
  · refine lv_iconst (v := 0) C.1 C.2.1 dX7_in_17 rfl ?_
    exact hret (0 : Int32) _ _ _ _ dX7_in_18 hF (Or.inl rfl) hV
  refine lv_iconst (v := 1) C.1 C.2.1 dX7_in_13 rfl ?_
  refine lv_goto (tgt := 18) C.1 C.2.1 dX7_in_14 rfl ?_
  exact hret (1 : Int32) _ _ _ _ dX7_in_18 hF (Or.inr rfl) hV
abbrev rmX7_copies : Room := { frames := 0, cells := 0, slots := 0, locals := 0 }
theorem mdX7_copies : gMd yX7_copies wsX7_copies cX7_copies 3 none 2 := ⟨⟨_, rfl⟩, by decide +kernel⟩
def L_X7_copies_2 (f_a1 : Nat → Int32) (n_a1 : Nat) (n_a2 : Nat) : Nat → Int32 → (Nat → Int32) → Option ((Nat → Int32)) := lpp2 (fun s1 t2 kk2 => (if 40 ≤ s1 then some t2 else rd f_a1 n_a1 s1 (fun x3 => wrt t2 n_a2 s1 x3 (fun g4 => nm (s1 + 1) (fun x5 => kk2 x5 g4)))))
def F_X7_copies (n0 : Nat) (n_a1 : Nat) (n_a2 : Nat) (f_a1 : Nat → Int32) (f_a2 : Nat → Int32) : Option ((Nat → Int32)) := L_X7_copies_2 f_a1 n_a1 n_a2 n0 0 f_a2
set_option maxRecDepth 100000 in
set_option maxHeartbeats 4000000 in
theorem k_X7_copies (l : Launch) (dC : Nat → ClassId) (dI : Nat → Nat → Nat) (cI cB cO : ClassId) (n0 sz : Nat) (a_a1 : Nat) (a_a2 : Nat) (n_a1 : Nat) (n_a2 : Nat)  (f_a1 : Nat → Int32) (f_a2 : Nat → Int32)   {o0 : Nat → Int32} (hF : F_X7_copies n0 n_a1 n_a2 f_a1 f_a2 = some o0) : Met l yX7_copies wsX7_copies rmX7_copies (va_Pc [.ref a_a1, .ref a_a2] (gPre (dC, dI) (gT cI cB cO) sz [aA cI a_a1 n_a1 f_a1, aA cI a_a2 n_a2 f_a2])) (gQv (dC, dI) (gT cI cB cO) sz [aA cI a_a1 n_a1 f_a1, aA cI a_a2 n_a2 f_a2] [aA cI a_a1 n_a1 f_a1, aA cI a_a2 n_a2 o0]) 0 0 (va_A [aA cI a_a1 n_a1 f_a1, aA cI a_a2 n_a2 f_a2] sz) := by
  refine g_metV (Out := (Nat → Int32)) (fun oo => [aA cI a_a1 n_a1 f_a1, aA cI a_a2 n_a2 oo]) o0 (own := RX7) (lv := [(0, .ref a_a1), (1, .ref a_a2)]) (by decide) rfl rfl (Nat.le_of_ble_eq_true rfl) rfl ?_
  intro p e s m args below meth c Q ls C hret hV hl
  obtain ⟨out, hout⟩ : ∃ z : (Nat → Int32), z = o0 := ⟨_, rfl⟩
  rw [← hout] at hF hret
  obtain ⟨H0, hH0⟩ : ∃ z : Heap, z = s.heap := ⟨_, rfl⟩
  obtain ⟨A0, hA0⟩ : ∃ z : Nat → Prop, z = va_A [aA cI a_a1 n_a1 f_a1, aA cI a_a2 n_a2 f_a2] s.heap.size := ⟨_, rfl⟩
  rw [← hA0] at hret hV
  rw [← hH0] at hret hV
  rw [← hH0]
  obtain ⟨H, locs, hH⟩ : ∃ (z : Heap) (y : List Loc), z = H0 ∧ y = [] := ⟨_, _, rfl, rfl⟩
  rw [← hH.1, ← hH.2]
  have hV : gV (dC, dI) (gT cI cB cO) A0 H0 s [aA cI a_a1 n_a1 f_a1, aA cI a_a2 n_a2 f_a2] H locs := by rw [hH.1, hH.2]; exact hV
  unfold F_X7_copies at hF
  refine lv_iconst (v := 0) C.1 C.2.1 dX7_copies_0 rfl ?_
  refine lv_istore_n (lv' := [(2, .int 0), (0, .ref a_a1), (1, .ref a_a2)]) C.1 C.2.1 dX7_copies_1 rfl hl (by decide) rfl (fun ls hl => ?_)
  have hL2 : ∀ (n : Nat) (s1 : Int32) (t2 : Nat → Int32) (H : Heap) (locs : List Loc) (ls : Array Slot), gV (dC, dI) (gT cI cB cO) A0 H0 s [aA cI a_a1 n_a1 f_a1, aA cI a_a2 n_a2 t2] H locs → lv_has ls 3 [(0, .ref a_a1), (1, .ref a_a2), (2, .int s1)] → L_X7_copies_2 f_a1 n_a1 n_a2 n s1 t2 = some out → W p l e rmX7_copies s m args below meth c H locs 0 0 Q (F0 m 2 ls []) := by
    intro n
    induction n with
    | zero => intro s1 t2 H locs ls hV hl hF; exact lpp2_z hF
    | succ n ih2 =>
      intro s1 t2 H locs ls hV hl hF
      obtain ⟨kk2, hk2, hF⟩ := lpp2_g hF
      have hq2 : ∀ (s1 : Int32) (t2 : Nat → Int32), kk2 s1 t2 = some out → L_X7_copies_2 f_a1 n_a1 n_a2 n s1 t2 = some out := fun _ _ h => by rw [hk2] at h; exact h
      refine lv_iload_n C.1 C.2.1 dX7_copies_2 rfl (lv_at hl 2 rfl) ?_
      refine lv_bipush (v := 40) C.1 C.2.1 dX7_copies_3 rfl ?_
      refine g_icmp_ge (tgt := 20) C hF dX7_copies_5 rfl (fun hF => ?_) (fun hF => ?_)
      · exact hret t2 _ _ _ _ dX7_copies_20 hF hV
      refine lv_aload_n C.1 C.2.1 dX7_copies_8 rfl (lv_at hl 1 rfl) ?_
      refine lv_iload_n C.1 C.2.1 dX7_copies_9 rfl (lv_at hl 2 rfl) ?_
      refine lv_aload_n C.1 C.2.1 dX7_copies_10 rfl (lv_at hl 0 rfl) ?_
      refine lv_iload_n C.1 C.2.1 dX7_copies_11 rfl (lv_at hl 2 rfl) ?_
      refine g_iald C hV 0 rfl hF dX7_copies_12 (fun x3 hF => ?_)
      refine g_iast C hV 1 rfl hF (fun gq => [aA cI a_a1 n_a1 f_a1, aA cI a_a2 n_a2 gq]) (fun _ => rfl) dX7_copies_13 (fun g4 H locs hF hV => ?_)
      refine g_iinc C hF dX7_copies_14 (d := 1) rfl hl (j := 2) rfl (by decide) (fun y => [(2, .int y), (0, .ref a_a1), (1, .ref a_a2)]) (fun _ => rfl) (fun x5 ls hF hl => ?_)
      refine lv_goto (tgt := 2) C.1 C.2.1 dX7_copies_17 rfl ?_
      exact ih2 x5 g4 H locs ls hV (lv_sub hl [1, 2, 0] rfl) (hq2 x5 g4 hF)
  exact hL2 n0 0 f_a2 H locs ls hV (lv_sub hl [1, 2, 0] rfl) hF
abbrev rmX7_isTent : Room := { frames := 1, cells := 0, slots := 0, locals := 25 }
theorem mdX7_isTent : gMd yX7_isTent wsX7_isTent cX7_isTent 2 (some .boolean) 1 := ⟨⟨_, rfl⟩, by decide +kernel⟩
theorem flX7_isTent_7 : gFL wsX7_isTent RX7 7 7 0 RX7 TX7 28 := ⟨rfl, fun w h => List.mem_cons_of_mem _ (List.mem_append_right _ (h)), Nat.le_of_ble_eq_true rfl, List.mem_cons_of_mem _ (List.mem_append_left _ (List.mem_of_getElem? (i := 0) rfl))⟩
def F_X7_isTent (n0 : Nat) (f_d : Nat → Int32) (p1 : Int32) : Option (Int32) := nm (p1.toInt64) (fun x1 => rd f_d 40 0 (fun x2 => nm (x2 - 1) (fun x3 => nm (x3.toInt64) (fun x4 => bd1 (F_X7_in n0 x1 0 x4) (fun x5 => bz x5 (some x5))))))
set_option maxRecDepth 100000 in
set_option maxHeartbeats 4000000 in
theorem k_X7_isTent (l : Launch) (dC : Nat → ClassId) (dI : Nat → Nat → Nat) (cI cB cO : ClassId) (n0 sz : Nat) (a_t : Nat) (a_d : Nat) (a_e : Nat) (a_kept : Nat) (a_found : Nat) (a_tape : Nat) (a_hears : Nat) (a_near : Nat) (a_firstDay : Nat) (a_daily : Nat) (a_heardNow : Nat) (a_bitsOf : Nat) (a_sizeOf : Nat) (a_number : Nat) (a_passing : Nat)   (v_isKept : Int32) (v_taped : Int32) (v_gone : Int32) (v_begin : Int32) (v_round : Int32) (v_leastFar : Int32) (v_leastWhere : Int32) (v_mostLed : Int32) (v_firstMove : Int32) (v_at : Int32) (v_sort : Int32) (v_from : Int32) (v_value : Int64) (v_fault : Int32) (f_d : Nat → Int32) (p1 : Int32)  {ro : Int32} (hF : F_X7_isTent n0 f_d p1 = some ro) : Met l yX7_isTent wsX7_isTent rmX7_isTent (va_Pc [.ref a_t, .int p1] (gPre (dC, dI) (gT cI cB cO) sz [oX7 a_t a_d a_e a_kept v_isKept a_found a_tape v_taped v_gone a_hears a_near a_firstDay a_daily v_begin v_round v_leastFar v_leastWhere v_mostLed a_heardNow v_firstMove v_at v_sort v_from v_value v_fault a_bitsOf a_sizeOf a_number a_passing, aA cI a_d 40 f_d])) (gQi (dC, dI) (gT cI cB cO) sz [oX7 a_t a_d a_e a_kept v_isKept a_found a_tape v_taped v_gone a_hears a_near a_firstDay a_daily v_begin v_round v_leastFar v_leastWhere v_mostLed a_heardNow v_firstMove v_at v_sort v_from v_value v_fault a_bitsOf a_sizeOf a_number a_passing, aA cI a_d 40 f_d] ro [oX7 a_t a_d a_e a_kept v_isKept a_found a_tape v_taped v_gone a_hears a_near a_firstDay a_daily v_begin v_round v_leastFar v_leastWhere v_mostLed a_heardNow v_firstMove v_at v_sort v_from v_value v_fault a_bitsOf a_sizeOf a_number a_passing, aA cI a_d 40 f_d]) 0 0 (va_A [oX7 a_t a_d a_e a_kept v_isKept a_found a_tape v_taped v_gone a_hears a_near a_firstDay a_daily v_begin v_round v_leastFar v_leastWhere v_mostLed a_heardNow v_firstMove v_at v_sort v_from v_value v_fault a_bitsOf a_sizeOf a_number a_passing, aA cI a_d 40 f_d] sz) := by
  refine g_metZ (Out := Int32) (fun oo => oo) (fun oo => [oX7 a_t a_d a_e a_kept v_isKept a_found a_tape v_taped v_gone a_hears a_near a_firstDay a_daily v_begin v_round v_leastFar v_leastWhere v_mostLed a_heardNow v_firstMove v_at v_sort v_from v_value v_fault a_bitsOf a_sizeOf a_number a_passing, aA cI a_d 40 f_d]) ro (own := RX7) (lv := [(0, .ref a_t), (1, .int p1)]) (by decide) rfl rfl (Nat.le_of_ble_eq_true rfl) rfl ?_
  intro p e s m args below meth c Q ls C hret hV hl
  obtain ⟨out, hout⟩ : ∃ z : Int32, z = ro := ⟨_, rfl⟩
  rw [← hout] at hF hret
  obtain ⟨H0, hH0⟩ : ∃ z : Heap, z = s.heap := ⟨_, rfl⟩
  obtain ⟨A0, hA0⟩ : ∃ z : Nat → Prop, z = va_A [oX7 a_t a_d a_e a_kept v_isKept a_found a_tape v_taped v_gone a_hears a_near a_firstDay a_daily v_begin v_round v_leastFar v_leastWhere v_mostLed a_heardNow v_firstMove v_at v_sort v_from v_value v_fault a_bitsOf a_sizeOf a_number a_passing, aA cI a_d 40 f_d] s.heap.size := ⟨_, rfl⟩
  rw [← hA0] at hret hV
  rw [← hH0] at hret hV
  rw [← hH0]
  obtain ⟨H, locs, hH⟩ : ∃ (z : Heap) (y : List Loc), z = H0 ∧ y = [] := ⟨_, _, rfl, rfl⟩
  rw [← hH.1, ← hH.2]
  have hV : gV (dC, dI) (gT cI cB cO) A0 H0 s [oX7 a_t a_d a_e a_kept v_isKept a_found a_tape v_taped v_gone a_hears a_near a_firstDay a_daily v_begin v_round v_leastFar v_leastWhere v_mostLed a_heardNow v_firstMove v_at v_sort v_from v_value v_fault a_bitsOf a_sizeOf a_number a_passing, aA cI a_d 40 f_d] H locs := by rw [hH.1, hH.2]; exact hV
  unfold F_X7_isTent at hF
  refine lv_iload_n C.1 C.2.1 dX7_isTent_0 rfl (lv_at hl 1 rfl) ?_
  refine g_i2l C hF dX7_isTent_1 (fun x1 hF => ?_)
  refine lv_lconst (v := 0) C.1 C.2.1 dX7_isTent_2 rfl ?_
  refine lv_aload_n C.1 C.2.1 dX7_isTent_3 rfl (lv_at hl 0 rfl) ?_
  refine g_get C hV flX7_isTent_7 0 rfl rfl dX7_isTent_4 ?_
  refine lv_iconst (v := 0) C.1 C.2.1 dX7_isTent_7 rfl ?_
  refine g_iald C hV 1 rfl hF dX7_isTent_8 (fun x2 hF => ?_)
  refine lv_iconst (v := 1) C.1 C.2.1 dX7_isTent_9 rfl ?_
  refine g_isub C hF dX7_isTent_10 (fun x3 hF => ?_)
  refine g_i2l C hF dX7_isTent_11 (fun x4 hF => ?_)
  obtain ⟨x5, hc, hF⟩ := bd1_s hF
  refine g_cSi (ws' := [oX7 a_t a_d a_e a_kept v_isKept a_found a_tape v_taped v_gone a_hears a_near a_firstDay a_daily v_begin v_round v_leastFar v_leastWhere v_mostLed a_heardNow v_firstMove v_at v_sort v_from v_value v_fault a_bitsOf a_sizeOf a_number a_passing, aA cI a_d 40 f_d]) (wr := [oX7 a_t a_d a_e a_kept v_isKept a_found a_tape v_taped v_gone a_hears a_near a_firstDay a_daily v_begin v_round v_leastFar v_leastWhere v_mostLed a_heardNow v_firstMove v_at v_sort v_from v_value v_fault a_bitsOf a_sizeOf a_number a_passing, aA cI a_d 40 f_d]) C hV (k_X7_in l dC dI cI cB cO n0 H.size x1 0 x4 hc) mdX7_in gX7_isTent_X7_in rfl rfl ⟨Nat.le_of_ble_eq_true rfl, Nat.le_of_ble_eq_true rfl⟩ [] [0, 1] [0, 1] rfl rfl rfl rfl rfl rfl rfl rfl hl.1 (Nat.le_of_ble_eq_true rfl) rfl dX7_isTent_12 (fun H locs hV => ?_)
  obtain ⟨hz, hF⟩ := bz_s hF
  exact hret x5 _ _ _ _ dX7_isTent_15 hF hz hV
abbrev rmX7_isYard : Room := { frames := 1, cells := 0, slots := 0, locals := 25 }
theorem mdX7_isYard : gMd yX7_isYard wsX7_isYard cX7_isYard 2 (some .boolean) 2 := ⟨⟨_, rfl⟩, by decide +kernel⟩
theorem ctX7_isYard_62 : Cond.constantLong RX7 62 11 ∈ wsX7_isYard := List.mem_cons_of_mem _ (List.mem_of_getElem? (i := 0) rfl)
def F_X7_isYard (n0 : Nat) (p1 : Int32) (p2 : Int32) : Option (Int32) := nm (p1.toInt64) (fun x1 => bd1 (F_X7_in n0 x1 0 11) (fun x2 => (if x2 = 0 then some (0 : Int32) else nm (p2.toInt64) (fun x3 => bd1 (F_X7_in n0 x3 0 11) (fun x4 => (if x4 = 0 then some (0 : Int32) else some (1 : Int32)))))))
set_option maxRecDepth 100000 in
set_option maxHeartbeats 4000000 in
theorem k_X7_isYard (l : Launch) (dC : Nat → ClassId) (dI : Nat → Nat → Nat) (cI cB cO : ClassId) (n0 sz : Nat)     (p1 : Int32) (p2 : Int32)  {ro : Int32} (hF : F_X7_isYard n0 p1 p2 = some ro) : Met l yX7_isYard wsX7_isYard rmX7_isYard (va_Pc [.int p1, .int p2] (gPre (dC, dI) (gT cI cB cO) sz [])) (gQi (dC, dI) (gT cI cB cO) sz [] ro []) 0 0 (va_A [] sz) := by
  refine g_metZ (Out := Int32) (fun oo => oo) (fun oo => []) ro (own := RX7) (lv := [(0, .int p1), (1, .int p2)]) (by decide) rfl rfl (Nat.le_of_ble_eq_true rfl) rfl ?_
  intro p e s m args below meth c Q ls C hret hV hl
  obtain ⟨out, hout⟩ : ∃ z : Int32, z = ro := ⟨_, rfl⟩
  rw [← hout] at hF hret
  obtain ⟨H0, hH0⟩ : ∃ z : Heap, z = s.heap := ⟨_, rfl⟩
  obtain ⟨A0, hA0⟩ : ∃ z : Nat → Prop, z = va_A [] s.heap.size := ⟨_, rfl⟩
  rw [← hA0] at hret hV
  rw [← hH0] at hret hV
  rw [← hH0]
  obtain ⟨H, locs, hH⟩ : ∃ (z : Heap) (y : List Loc), z = H0 ∧ y = [] := ⟨_, _, rfl, rfl⟩
  rw [← hH.1, ← hH.2]
  have hV : gV (dC, dI) (gT cI cB cO) A0 H0 s [] H locs := by rw [hH.1, hH.2]; exact hV
  unfold F_X7_isYard at hF
  refine lv_iload_n C.1 C.2.1 dX7_isYard_0 rfl (lv_at hl 0 rfl) ?_
  refine g_i2l C hF dX7_isYard_1 (fun x1 hF => ?_)
  refine lv_lconst (v := 0) C.1 C.2.1 dX7_isYard_2 rfl ?_
  refine lv_ldc2 (v := 11) C.1 C.2.1 C.2.2.2.1 (C.2.2.2.2 _ ctX7_isYard_62) dX7_isYard_3 ?_
  obtain ⟨x2, hc, hF⟩ := bd1_s hF
  refine g_cSi (ws' := []) (wr := []) C hV (k_X7_in l dC dI cI cB cO n0 H.size x1 0 11 hc) mdX7_in gX7_isYard_X7_in rfl rfl ⟨Nat.le_of_ble_eq_true rfl, Nat.le_of_ble_eq_true rfl⟩ [] [] [] rfl rfl rfl rfl rfl rfl rfl rfl hl.1 (Nat.le_of_ble_eq_true rfl) rfl dX7_isYard_6 (fun H locs hV => ?_)
  refine g_if_eq (tgt := 28) C hF dX7_isYard_9 rfl (fun hF => ?_) (fun hF => ?_)
  · refine lv_iconst (v := 0) C.1 C.2.1 dX7_isYard_28 rfl ?_
    exact hret (0 : Int32) _ _ _ _ dX7_isYard_29 hF (Or.inl rfl) hV
  refine lv_iload_n C.1 C.2.1 dX7_isYard_12 rfl (lv_at hl 1 rfl) ?_
  refine g_i2l C hF dX7_isYard_13 (fun x3 hF => ?_)
  refine lv_lconst (v := 0) C.1 C.2.1 dX7_isYard_14 rfl ?_
  refine lv_ldc2 (v := 11) C.1 C.2.1 C.2.2.2.1 (C.2.2.2.2 _ ctX7_isYard_62) dX7_isYard_15 ?_
  obtain ⟨x4, hc, hF⟩ := bd1_s hF
  refine g_cSi (ws' := []) (wr := []) C hV (k_X7_in l dC dI cI cB cO n0 H.size x3 0 11 hc) mdX7_in gX7_isYard_X7_in rfl rfl ⟨Nat.le_of_ble_eq_true rfl, Nat.le_of_ble_eq_true rfl⟩ [] [] [] rfl rfl rfl rfl rfl rfl rfl rfl hl.1 (Nat.le_of_ble_eq_true rfl) rfl dX7_isYard_18 (fun H locs hV => ?_)
  refine g_if_eq (tgt := 28) C hF dX7_isYard_21 rfl (fun hF => ?_) (fun hF => ?_)
  · refine lv_iconst (v := 0) C.1 C.2.1 dX7_isYard_28 rfl ?_
    exact hret (0 : Int32) _ _ _ _ dX7_isYard_29 hF (Or.inl rfl) hV
  refine lv_iconst (v := 1) C.1 C.2.1 dX7_isYard_24 rfl ?_
  refine lv_goto (tgt := 29) C.1 C.2.1 dX7_isYard_25 rfl ?_
  exact hret (1 : Int32) _ _ _ _ dX7_isYard_29 hF (Or.inr rfl) hV
abbrev rmX7_kind : Room := { frames := 0, cells := 0, slots := 0, locals := 0 }
theorem mdX7_kind : gMd yX7_kind wsX7_kind cX7_kind 2 (some .int) 1 := ⟨⟨_, rfl⟩, by decide +kernel⟩
theorem flX7_kind_7 : gFL wsX7_kind RX7 7 7 0 RX7 TX7 28 := ⟨rfl, fun w h => List.mem_cons_of_mem _ (List.mem_append_right _ (h)), Nat.le_of_ble_eq_true rfl, List.mem_cons_of_mem _ (List.mem_append_left _ (List.mem_of_getElem? (i := 0) rfl))⟩
def F_X7_kind (n0 : Nat) (f_d : Nat → Int32) (p1 : Int32) : Option (Int32) := nm (10 + p1) (fun x1 => rd f_d 40 x1 (fun x2 => some x2))
set_option maxRecDepth 100000 in
set_option maxHeartbeats 4000000 in
theorem k_X7_kind (l : Launch) (dC : Nat → ClassId) (dI : Nat → Nat → Nat) (cI cB cO : ClassId) (n0 sz : Nat) (a_t : Nat) (a_d : Nat) (a_e : Nat) (a_kept : Nat) (a_found : Nat) (a_tape : Nat) (a_hears : Nat) (a_near : Nat) (a_firstDay : Nat) (a_daily : Nat) (a_heardNow : Nat) (a_bitsOf : Nat) (a_sizeOf : Nat) (a_number : Nat) (a_passing : Nat)   (v_isKept : Int32) (v_taped : Int32) (v_gone : Int32) (v_begin : Int32) (v_round : Int32) (v_leastFar : Int32) (v_leastWhere : Int32) (v_mostLed : Int32) (v_firstMove : Int32) (v_at : Int32) (v_sort : Int32) (v_from : Int32) (v_value : Int64) (v_fault : Int32) (f_d : Nat → Int32) (p1 : Int32)  {ro : Int32} (hF : F_X7_kind n0 f_d p1 = some ro) : Met l yX7_kind wsX7_kind rmX7_kind (va_Pc [.ref a_t, .int p1] (gPre (dC, dI) (gT cI cB cO) sz [oX7 a_t a_d a_e a_kept v_isKept a_found a_tape v_taped v_gone a_hears a_near a_firstDay a_daily v_begin v_round v_leastFar v_leastWhere v_mostLed a_heardNow v_firstMove v_at v_sort v_from v_value v_fault a_bitsOf a_sizeOf a_number a_passing, aA cI a_d 40 f_d])) (gQi (dC, dI) (gT cI cB cO) sz [oX7 a_t a_d a_e a_kept v_isKept a_found a_tape v_taped v_gone a_hears a_near a_firstDay a_daily v_begin v_round v_leastFar v_leastWhere v_mostLed a_heardNow v_firstMove v_at v_sort v_from v_value v_fault a_bitsOf a_sizeOf a_number a_passing, aA cI a_d 40 f_d] ro [oX7 a_t a_d a_e a_kept v_isKept a_found a_tape v_taped v_gone a_hears a_near a_firstDay a_daily v_begin v_round v_leastFar v_leastWhere v_mostLed a_heardNow v_firstMove v_at v_sort v_from v_value v_fault a_bitsOf a_sizeOf a_number a_passing, aA cI a_d 40 f_d]) 0 0 (va_A [oX7 a_t a_d a_e a_kept v_isKept a_found a_tape v_taped v_gone a_hears a_near a_firstDay a_daily v_begin v_round v_leastFar v_leastWhere v_mostLed a_heardNow v_firstMove v_at v_sort v_from v_value v_fault a_bitsOf a_sizeOf a_number a_passing, aA cI a_d 40 f_d] sz) := by
  refine g_metI (Out := Int32) (fun oo => oo) (fun oo => [oX7 a_t a_d a_e a_kept v_isKept a_found a_tape v_taped v_gone a_hears a_near a_firstDay a_daily v_begin v_round v_leastFar v_leastWhere v_mostLed a_heardNow v_firstMove v_at v_sort v_from v_value v_fault a_bitsOf a_sizeOf a_number a_passing, aA cI a_d 40 f_d]) ro (own := RX7) (lv := [(0, .ref a_t), (1, .int p1)]) (by decide) rfl rfl (Nat.le_of_ble_eq_true rfl) rfl ?_
  intro p e s m args below meth c Q ls C hret hV hl
  obtain ⟨out, hout⟩ : ∃ z : Int32, z = ro := ⟨_, rfl⟩
  rw [← hout] at hF hret
  obtain ⟨H0, hH0⟩ : ∃ z : Heap, z = s.heap := ⟨_, rfl⟩
  obtain ⟨A0, hA0⟩ : ∃ z : Nat → Prop, z = va_A [oX7 a_t a_d a_e a_kept v_isKept a_found a_tape v_taped v_gone a_hears a_near a_firstDay a_daily v_begin v_round v_leastFar v_leastWhere v_mostLed a_heardNow v_firstMove v_at v_sort v_from v_value v_fault a_bitsOf a_sizeOf a_number a_passing, aA cI a_d 40 f_d] s.heap.size := ⟨_, rfl⟩
  rw [← hA0] at hret hV
  rw [← hH0] at hret hV
  rw [← hH0]
  obtain ⟨H, locs, hH⟩ : ∃ (z : Heap) (y : List Loc), z = H0 ∧ y = [] := ⟨_, _, rfl, rfl⟩
  rw [← hH.1, ← hH.2]
  have hV : gV (dC, dI) (gT cI cB cO) A0 H0 s [oX7 a_t a_d a_e a_kept v_isKept a_found a_tape v_taped v_gone a_hears a_near a_firstDay a_daily v_begin v_round v_leastFar v_leastWhere v_mostLed a_heardNow v_firstMove v_at v_sort v_from v_value v_fault a_bitsOf a_sizeOf a_number a_passing, aA cI a_d 40 f_d] H locs := by rw [hH.1, hH.2]; exact hV
  unfold F_X7_kind at hF
  refine lv_aload_n C.1 C.2.1 dX7_kind_0 rfl (lv_at hl 0 rfl) ?_
  refine g_get C hV flX7_kind_7 0 rfl rfl dX7_kind_1 ?_
  refine lv_bipush (v := 10) C.1 C.2.1 dX7_kind_4 rfl ?_
  refine lv_iload_n C.1 C.2.1 dX7_kind_6 rfl (lv_at hl 1 rfl) ?_
  refine g_iadd C hF dX7_kind_7 (fun x1 hF => ?_)
  refine g_iald C hV 1 rfl hF dX7_kind_8 (fun x2 hF => ?_)
  exact hret x2 _ _ _ _ dX7_kind_9 hF hV
abbrev rmX7_yard : Room := { frames := 0, cells := 0, slots := 0, locals := 0 }
theorem mdX7_yard : gMd yX7_yard wsX7_yard cX7_yard 2 (some .int) 1 := ⟨⟨_, rfl⟩, by decide +kernel⟩
theorem flX7_yard_7 : gFL wsX7_yard RX7 7 7 0 RX7 TX7 28 := ⟨rfl, fun w h => List.mem_cons_of_mem _ (List.mem_append_right _ (h)), Nat.le_of_ble_eq_true rfl, List.mem_cons_of_mem _ (List.mem_append_left _ (List.mem_of_getElem? (i := 0) rfl))⟩
def F_X7_yard (n0 : Nat) (f_d : Nat → Int32) (p1 : Int32) : Option (Int32) := nm (20 + p1) (fun x1 => rd f_d 40 x1 (fun x2 => some x2))
set_option maxRecDepth 100000 in
set_option maxHeartbeats 4000000 in
theorem k_X7_yard (l : Launch) (dC : Nat → ClassId) (dI : Nat → Nat → Nat) (cI cB cO : ClassId) (n0 sz : Nat) (a_t : Nat) (a_d : Nat) (a_e : Nat) (a_kept : Nat) (a_found : Nat) (a_tape : Nat) (a_hears : Nat) (a_near : Nat) (a_firstDay : Nat) (a_daily : Nat) (a_heardNow : Nat) (a_bitsOf : Nat) (a_sizeOf : Nat) (a_number : Nat) (a_passing : Nat)   (v_isKept : Int32) (v_taped : Int32) (v_gone : Int32) (v_begin : Int32) (v_round : Int32) (v_leastFar : Int32) (v_leastWhere : Int32) (v_mostLed : Int32) (v_firstMove : Int32) (v_at : Int32) (v_sort : Int32) (v_from : Int32) (v_value : Int64) (v_fault : Int32) (f_d : Nat → Int32) (p1 : Int32)  {ro : Int32} (hF : F_X7_yard n0 f_d p1 = some ro) : Met l yX7_yard wsX7_yard rmX7_yard (va_Pc [.ref a_t, .int p1] (gPre (dC, dI) (gT cI cB cO) sz [oX7 a_t a_d a_e a_kept v_isKept a_found a_tape v_taped v_gone a_hears a_near a_firstDay a_daily v_begin v_round v_leastFar v_leastWhere v_mostLed a_heardNow v_firstMove v_at v_sort v_from v_value v_fault a_bitsOf a_sizeOf a_number a_passing, aA cI a_d 40 f_d])) (gQi (dC, dI) (gT cI cB cO) sz [oX7 a_t a_d a_e a_kept v_isKept a_found a_tape v_taped v_gone a_hears a_near a_firstDay a_daily v_begin v_round v_leastFar v_leastWhere v_mostLed a_heardNow v_firstMove v_at v_sort v_from v_value v_fault a_bitsOf a_sizeOf a_number a_passing, aA cI a_d 40 f_d] ro [oX7 a_t a_d a_e a_kept v_isKept a_found a_tape v_taped v_gone a_hears a_near a_firstDay a_daily v_begin v_round v_leastFar v_leastWhere v_mostLed a_heardNow v_firstMove v_at v_sort v_from v_value v_fault a_bitsOf a_sizeOf a_number a_passing, aA cI a_d 40 f_d]) 0 0 (va_A [oX7 a_t a_d a_e a_kept v_isKept a_found a_tape v_taped v_gone a_hears a_near a_firstDay a_daily v_begin v_round v_leastFar v_leastWhere v_mostLed a_heardNow v_firstMove v_at v_sort v_from v_value v_fault a_bitsOf a_sizeOf a_number a_passing, aA cI a_d 40 f_d] sz) := by
  refine g_metI (Out := Int32) (fun oo => oo) (fun oo => [oX7 a_t a_d a_e a_kept v_isKept a_found a_tape v_taped v_gone a_hears a_near a_firstDay a_daily v_begin v_round v_leastFar v_leastWhere v_mostLed a_heardNow v_firstMove v_at v_sort v_from v_value v_fault a_bitsOf a_sizeOf a_number a_passing, aA cI a_d 40 f_d]) ro (own := RX7) (lv := [(0, .ref a_t), (1, .int p1)]) (by decide) rfl rfl (Nat.le_of_ble_eq_true rfl) rfl ?_
  intro p e s m args below meth c Q ls C hret hV hl
  obtain ⟨out, hout⟩ : ∃ z : Int32, z = ro := ⟨_, rfl⟩
  rw [← hout] at hF hret
  obtain ⟨H0, hH0⟩ : ∃ z : Heap, z = s.heap := ⟨_, rfl⟩
  obtain ⟨A0, hA0⟩ : ∃ z : Nat → Prop, z = va_A [oX7 a_t a_d a_e a_kept v_isKept a_found a_tape v_taped v_gone a_hears a_near a_firstDay a_daily v_begin v_round v_leastFar v_leastWhere v_mostLed a_heardNow v_firstMove v_at v_sort v_from v_value v_fault a_bitsOf a_sizeOf a_number a_passing, aA cI a_d 40 f_d] s.heap.size := ⟨_, rfl⟩
  rw [← hA0] at hret hV
  rw [← hH0] at hret hV
  rw [← hH0]
  obtain ⟨H, locs, hH⟩ : ∃ (z : Heap) (y : List Loc), z = H0 ∧ y = [] := ⟨_, _, rfl, rfl⟩
  rw [← hH.1, ← hH.2]
  have hV : gV (dC, dI) (gT cI cB cO) A0 H0 s [oX7 a_t a_d a_e a_kept v_isKept a_found a_tape v_taped v_gone a_hears a_near a_firstDay a_daily v_begin v_round v_leastFar v_leastWhere v_mostLed a_heardNow v_firstMove v_at v_sort v_from v_value v_fault a_bitsOf a_sizeOf a_number a_passing, aA cI a_d 40 f_d] H locs := by rw [hH.1, hH.2]; exact hV
  unfold F_X7_yard at hF
  refine lv_aload_n C.1 C.2.1 dX7_yard_0 rfl (lv_at hl 0 rfl) ?_
  refine g_get C hV flX7_yard_7 0 rfl rfl dX7_yard_1 ?_
  refine lv_bipush (v := 20) C.1 C.2.1 dX7_yard_4 rfl ?_
  refine lv_iload_n C.1 C.2.1 dX7_yard_6 rfl (lv_at hl 1 rfl) ?_
  refine g_iadd C hF dX7_yard_7 (fun x1 hF => ?_)
  refine g_iald C hV 1 rfl hF dX7_yard_8 (fun x2 hF => ?_)
  exact hret x2 _ _ _ _ dX7_yard_9 hF hV
abbrev rmX7_saysNow : Room := { frames := 0, cells := 0, slots := 0, locals := 0 }
theorem mdX7_saysNow : gMd yX7_saysNow wsX7_saysNow cX7_saysNow 2 (some .int) 1 := ⟨⟨_, rfl⟩, by decide +kernel⟩
theorem flX7_saysNow_7 : gFL wsX7_saysNow RX7 7 7 0 RX7 TX7 28 := ⟨rfl, fun w h => List.mem_cons_of_mem _ (List.mem_append_right _ (h)), Nat.le_of_ble_eq_true rfl, List.mem_cons_of_mem _ (List.mem_append_left _ (List.mem_of_getElem? (i := 0) rfl))⟩
def F_X7_saysNow (n0 : Nat) (f_d : Nat → Int32) (p1 : Int32) : Option (Int32) := rd f_d 40 6 (fun x1 => nm (x1 >>> (p1 &&& 31)) (fun x2 => nm (x2 &&& 1) (fun x3 => some x3)))
set_option maxRecDepth 100000 in
set_option maxHeartbeats 4000000 in
theorem k_X7_saysNow (l : Launch) (dC : Nat → ClassId) (dI : Nat → Nat → Nat) (cI cB cO : ClassId) (n0 sz : Nat) (a_t : Nat) (a_d : Nat) (a_e : Nat) (a_kept : Nat) (a_found : Nat) (a_tape : Nat) (a_hears : Nat) (a_near : Nat) (a_firstDay : Nat) (a_daily : Nat) (a_heardNow : Nat) (a_bitsOf : Nat) (a_sizeOf : Nat) (a_number : Nat) (a_passing : Nat)   (v_isKept : Int32) (v_taped : Int32) (v_gone : Int32) (v_begin : Int32) (v_round : Int32) (v_leastFar : Int32) (v_leastWhere : Int32) (v_mostLed : Int32) (v_firstMove : Int32) (v_at : Int32) (v_sort : Int32) (v_from : Int32) (v_value : Int64) (v_fault : Int32) (f_d : Nat → Int32) (p1 : Int32)  {ro : Int32} (hF : F_X7_saysNow n0 f_d p1 = some ro) : Met l yX7_saysNow wsX7_saysNow rmX7_saysNow (va_Pc [.ref a_t, .int p1] (gPre (dC, dI) (gT cI cB cO) sz [oX7 a_t a_d a_e a_kept v_isKept a_found a_tape v_taped v_gone a_hears a_near a_firstDay a_daily v_begin v_round v_leastFar v_leastWhere v_mostLed a_heardNow v_firstMove v_at v_sort v_from v_value v_fault a_bitsOf a_sizeOf a_number a_passing, aA cI a_d 40 f_d])) (gQi (dC, dI) (gT cI cB cO) sz [oX7 a_t a_d a_e a_kept v_isKept a_found a_tape v_taped v_gone a_hears a_near a_firstDay a_daily v_begin v_round v_leastFar v_leastWhere v_mostLed a_heardNow v_firstMove v_at v_sort v_from v_value v_fault a_bitsOf a_sizeOf a_number a_passing, aA cI a_d 40 f_d] ro [oX7 a_t a_d a_e a_kept v_isKept a_found a_tape v_taped v_gone a_hears a_near a_firstDay a_daily v_begin v_round v_leastFar v_leastWhere v_mostLed a_heardNow v_firstMove v_at v_sort v_from v_value v_fault a_bitsOf a_sizeOf a_number a_passing, aA cI a_d 40 f_d]) 0 0 (va_A [oX7 a_t a_d a_e a_kept v_isKept a_found a_tape v_taped v_gone a_hears a_near a_firstDay a_daily v_begin v_round v_leastFar v_leastWhere v_mostLed a_heardNow v_firstMove v_at v_sort v_from v_value v_fault a_bitsOf a_sizeOf a_number a_passing, aA cI a_d 40 f_d] sz) := by
  refine g_metI (Out := Int32) (fun oo => oo) (fun oo => [oX7 a_t a_d a_e a_kept v_isKept a_found a_tape v_taped v_gone a_hears a_near a_firstDay a_daily v_begin v_round v_leastFar v_leastWhere v_mostLed a_heardNow v_firstMove v_at v_sort v_from v_value v_fault a_bitsOf a_sizeOf a_number a_passing, aA cI a_d 40 f_d]) ro (own := RX7) (lv := [(0, .ref a_t), (1, .int p1)]) (by decide) rfl rfl (Nat.le_of_ble_eq_true rfl) rfl ?_
  intro p e s m args below meth c Q ls C hret hV hl
  obtain ⟨out, hout⟩ : ∃ z : Int32, z = ro := ⟨_, rfl⟩
  rw [← hout] at hF hret
  obtain ⟨H0, hH0⟩ : ∃ z : Heap, z = s.heap := ⟨_, rfl⟩
  obtain ⟨A0, hA0⟩ : ∃ z : Nat → Prop, z = va_A [oX7 a_t a_d a_e a_kept v_isKept a_found a_tape v_taped v_gone a_hears a_near a_firstDay a_daily v_begin v_round v_leastFar v_leastWhere v_mostLed a_heardNow v_firstMove v_at v_sort v_from v_value v_fault a_bitsOf a_sizeOf a_number a_passing, aA cI a_d 40 f_d] s.heap.size := ⟨_, rfl⟩
  rw [← hA0] at hret hV
  rw [← hH0] at hret hV
  rw [← hH0]
  obtain ⟨H, locs, hH⟩ : ∃ (z : Heap) (y : List Loc), z = H0 ∧ y = [] := ⟨_, _, rfl, rfl⟩
  rw [← hH.1, ← hH.2]
  have hV : gV (dC, dI) (gT cI cB cO) A0 H0 s [oX7 a_t a_d a_e a_kept v_isKept a_found a_tape v_taped v_gone a_hears a_near a_firstDay a_daily v_begin v_round v_leastFar v_leastWhere v_mostLed a_heardNow v_firstMove v_at v_sort v_from v_value v_fault a_bitsOf a_sizeOf a_number a_passing, aA cI a_d 40 f_d] H locs := by rw [hH.1, hH.2]; exact hV
  unfold F_X7_saysNow at hF
  refine lv_aload_n C.1 C.2.1 dX7_saysNow_0 rfl (lv_at hl 0 rfl) ?_
  refine g_get C hV flX7_saysNow_7 0 rfl rfl dX7_saysNow_1 ?_
  refine lv_bipush (v := 6) C.1 C.2.1 dX7_saysNow_4 rfl ?_
  refine g_iald C hV 1 rfl hF dX7_saysNow_6 (fun x1 hF => ?_)
  refine lv_iload_n C.1 C.2.1 dX7_saysNow_7 rfl (lv_at hl 1 rfl) ?_
  refine g_ishr C hF dX7_saysNow_8 (fun x2 hF => ?_)
  refine lv_iconst (v := 1) C.1 C.2.1 dX7_saysNow_9 rfl ?_
  refine g_iand C hF dX7_saysNow_10 (fun x3 hF => ?_)
  exact hret x3 _ _ _ _ dX7_saysNow_11 hF hV
abbrev rmX7_ones : Room := { frames := 0, cells := 0, slots := 0, locals := 0 }
theorem mdX7_ones : gMd yX7_ones wsX7_ones cX7_ones 3 (some .int) 1 := ⟨⟨_, rfl⟩, by decide +kernel⟩
def L_X7_ones_4 (p1 : Int32) : Nat → Int32 → Int32 → Option (Int32) := lpp2 (fun s1 s2 kk4 => (if 10 ≤ s2 then some s1 else nm (p1 >>> (s2 &&& 31)) (fun x3 => nm (x3 &&& 1) (fun x4 => nm (s1 + x4) (fun x5 => nm (s2 + 1) (fun x6 => kk4 x5 x6))))))
def F_X7_ones (n0 : Nat) (p1 : Int32) : Option (Int32) := L_X7_ones_4 p1 n0 0 0
set_option maxRecDepth 100000 in
set_option maxHeartbeats 4000000 in
theorem k_X7_ones (l : Launch) (dC : Nat → ClassId) (dI : Nat → Nat → Nat) (cI cB cO : ClassId) (n0 sz : Nat)     (p1 : Int32)  {ro : Int32} (hF : F_X7_ones n0 p1 = some ro) : Met l yX7_ones wsX7_ones rmX7_ones (va_Pc [.int p1] (gPre (dC, dI) (gT cI cB cO) sz [])) (gQi (dC, dI) (gT cI cB cO) sz [] ro []) 0 0 (va_A [] sz) := by
  refine g_metI (Out := Int32) (fun oo => oo) (fun oo => []) ro (own := RX7) (lv := [(0, .int p1)]) (by decide) rfl rfl (Nat.le_of_ble_eq_true rfl) rfl ?_
  intro p e s m args below meth c Q ls C hret hV hl
  obtain ⟨out, hout⟩ : ∃ z : Int32, z = ro := ⟨_, rfl⟩
  rw [← hout] at hF hret
  obtain ⟨H0, hH0⟩ : ∃ z : Heap, z = s.heap := ⟨_, rfl⟩
  obtain ⟨A0, hA0⟩ : ∃ z : Nat → Prop, z = va_A [] s.heap.size := ⟨_, rfl⟩
  rw [← hA0] at hret hV
  rw [← hH0] at hret hV
  rw [← hH0]
  obtain ⟨H, locs, hH⟩ : ∃ (z : Heap) (y : List Loc), z = H0 ∧ y = [] := ⟨_, _, rfl, rfl⟩
  rw [← hH.1, ← hH.2]
  have hV : gV (dC, dI) (gT cI cB cO) A0 H0 s [] H locs := by rw [hH.1, hH.2]; exact hV
  unfold F_X7_ones at hF
  refine lv_iconst (v := 0) C.1 C.2.1 dX7_ones_0 rfl ?_
  refine lv_istore_n (lv' := [(1, .int 0), (0, .int p1)]) C.1 C.2.1 dX7_ones_1 rfl hl (by decide) rfl (fun ls hl => ?_)
  refine lv_iconst (v := 0) C.1 C.2.1 dX7_ones_2 rfl ?_
  refine lv_istore_n (lv' := [(2, .int 0), (1, .int 0), (0, .int p1)]) C.1 C.2.1 dX7_ones_3 rfl hl (by decide) rfl (fun ls hl => ?_)
  have hL4 : ∀ (n : Nat) (s1 : Int32) (s2 : Int32) (H : Heap) (locs : List Loc) (ls : Array Slot), gV (dC, dI) (gT cI cB cO) A0 H0 s [] H locs → lv_has ls 3 [(0, .int p1), (1, .int s1), (2, .int s2)] → L_X7_ones_4 p1 n s1 s2 = some out → W p l e rmX7_ones s m args below meth c H locs 0 0 Q (F0 m 4 ls []) := by
    intro n
    induction n with
    | zero => intro s1 s2 H locs ls hV hl hF; exact lpp2_z hF
    | succ n ih4 =>
      intro s1 s2 H locs ls hV hl hF
      obtain ⟨kk4, hk4, hF⟩ := lpp2_g hF
      have hq4 : ∀ (s1 : Int32) (s2 : Int32), kk4 s1 s2 = some out → L_X7_ones_4 p1 n s1 s2 = some out := fun _ _ h => by rw [hk4] at h; exact h
      refine lv_iload_n C.1 C.2.1 dX7_ones_4 rfl (lv_at hl 2 rfl) ?_
      refine lv_bipush (v := 10) C.1 C.2.1 dX7_ones_5 rfl ?_
      refine g_icmp_ge (tgt := 24) C hF dX7_ones_7 rfl (fun hF => ?_) (fun hF => ?_)
      · refine lv_iload_n C.1 C.2.1 dX7_ones_24 rfl (lv_at hl 1 rfl) ?_
        exact hret s1 _ _ _ _ dX7_ones_25 hF hV
      refine lv_iload_n C.1 C.2.1 dX7_ones_10 rfl (lv_at hl 1 rfl) ?_
      refine lv_iload_n C.1 C.2.1 dX7_ones_11 rfl (lv_at hl 0 rfl) ?_
      refine lv_iload_n C.1 C.2.1 dX7_ones_12 rfl (lv_at hl 2 rfl) ?_
      refine g_ishr C hF dX7_ones_13 (fun x3 hF => ?_)
      refine lv_iconst (v := 1) C.1 C.2.1 dX7_ones_14 rfl ?_
      refine g_iand C hF dX7_ones_15 (fun x4 hF => ?_)
      refine g_iadd C hF dX7_ones_16 (fun x5 hF => ?_)
      refine lv_istore_n (lv' := [(1, .int x5), (0, .int p1), (2, .int s2)]) C.1 C.2.1 dX7_ones_17 rfl hl (by decide) rfl (fun ls hl => ?_)
      refine g_iinc C hF dX7_ones_18 (d := 1) rfl hl (j := 2) rfl (by decide) (fun y => [(2, .int y), (1, .int x5), (0, .int p1)]) (fun _ => rfl) (fun x6 ls hF hl => ?_)
      refine lv_goto (tgt := 4) C.1 C.2.1 dX7_ones_21 rfl ?_
      exact ih4 x5 x6 H locs ls hV (lv_sub hl [2, 1, 0] rfl) (hq4 x5 x6 hF)
  exact hL4 n0 0 0 H locs ls hV (lv_sub hl [2, 1, 0] rfl) hF
abbrev rmX7_whoIs : Room := { frames := 1, cells := 0, slots := 0, locals := 21 }
theorem mdX7_whoIs : gMd yX7_whoIs wsX7_whoIs cX7_whoIs 3 (some .int) 1 := ⟨⟨_, rfl⟩, by decide +kernel⟩
theorem flX7_whoIs_7 : gFL wsX7_whoIs RX7 7 7 0 RX7 TX7 28 := ⟨rfl, fun w h => List.mem_cons_of_mem _ (List.mem_append_right _ (h)), Nat.le_of_ble_eq_true rfl, List.mem_cons_of_mem _ (List.mem_append_left _ (List.mem_of_getElem? (i := 0) rfl))⟩
def L_X7_whoIs_2 (f_d : Nat → Int32) (n0 : Nat) (p1 : Int32) : Nat → Int32 → Option (Int32) := lpp1 (fun s1 kk2 => rd f_d 40 0 (fun x2 => (if x2 ≤ s1 then some ((-1)) else bd1 (F_X7_yard n0 f_d s1) (fun x3 => (if x3 = p1 then some s1 else nm (s1 + 1) (fun x4 => kk2 x4))))))
def F_X7_whoIs (n0 : Nat) (f_d : Nat → Int32) (p1 : Int32) : Option (Int32) := L_X7_whoIs_2 f_d n0 p1 n0 0
set_option maxRecDepth 100000 in
set_option maxHeartbeats 4000000 in
theorem k_X7_whoIs (l : Launch) (dC : Nat → ClassId) (dI : Nat → Nat → Nat) (cI cB cO : ClassId) (n0 sz : Nat) (a_t : Nat) (a_d : Nat) (a_e : Nat) (a_kept : Nat) (a_found : Nat) (a_tape : Nat) (a_hears : Nat) (a_near : Nat) (a_firstDay : Nat) (a_daily : Nat) (a_heardNow : Nat) (a_bitsOf : Nat) (a_sizeOf : Nat) (a_number : Nat) (a_passing : Nat)   (v_isKept : Int32) (v_taped : Int32) (v_gone : Int32) (v_begin : Int32) (v_round : Int32) (v_leastFar : Int32) (v_leastWhere : Int32) (v_mostLed : Int32) (v_firstMove : Int32) (v_at : Int32) (v_sort : Int32) (v_from : Int32) (v_value : Int64) (v_fault : Int32) (f_d : Nat → Int32) (p1 : Int32)  {ro : Int32} (hF : F_X7_whoIs n0 f_d p1 = some ro) : Met l yX7_whoIs wsX7_whoIs rmX7_whoIs (va_Pc [.ref a_t, .int p1] (gPre (dC, dI) (gT cI cB cO) sz [oX7 a_t a_d a_e a_kept v_isKept a_found a_tape v_taped v_gone a_hears a_near a_firstDay a_daily v_begin v_round v_leastFar v_leastWhere v_mostLed a_heardNow v_firstMove v_at v_sort v_from v_value v_fault a_bitsOf a_sizeOf a_number a_passing, aA cI a_d 40 f_d])) (gQi (dC, dI) (gT cI cB cO) sz [oX7 a_t a_d a_e a_kept v_isKept a_found a_tape v_taped v_gone a_hears a_near a_firstDay a_daily v_begin v_round v_leastFar v_leastWhere v_mostLed a_heardNow v_firstMove v_at v_sort v_from v_value v_fault a_bitsOf a_sizeOf a_number a_passing, aA cI a_d 40 f_d] ro [oX7 a_t a_d a_e a_kept v_isKept a_found a_tape v_taped v_gone a_hears a_near a_firstDay a_daily v_begin v_round v_leastFar v_leastWhere v_mostLed a_heardNow v_firstMove v_at v_sort v_from v_value v_fault a_bitsOf a_sizeOf a_number a_passing, aA cI a_d 40 f_d]) 0 0 (va_A [oX7 a_t a_d a_e a_kept v_isKept a_found a_tape v_taped v_gone a_hears a_near a_firstDay a_daily v_begin v_round v_leastFar v_leastWhere v_mostLed a_heardNow v_firstMove v_at v_sort v_from v_value v_fault a_bitsOf a_sizeOf a_number a_passing, aA cI a_d 40 f_d] sz) := by
  refine g_metI (Out := Int32) (fun oo => oo) (fun oo => [oX7 a_t a_d a_e a_kept v_isKept a_found a_tape v_taped v_gone a_hears a_near a_firstDay a_daily v_begin v_round v_leastFar v_leastWhere v_mostLed a_heardNow v_firstMove v_at v_sort v_from v_value v_fault a_bitsOf a_sizeOf a_number a_passing, aA cI a_d 40 f_d]) ro (own := RX7) (lv := [(0, .ref a_t), (1, .int p1)]) (by decide) rfl rfl (Nat.le_of_ble_eq_true rfl) rfl ?_
  intro p e s m args below meth c Q ls C hret hV hl
  obtain ⟨out, hout⟩ : ∃ z : Int32, z = ro := ⟨_, rfl⟩
  rw [← hout] at hF hret
  obtain ⟨H0, hH0⟩ : ∃ z : Heap, z = s.heap := ⟨_, rfl⟩
  obtain ⟨A0, hA0⟩ : ∃ z : Nat → Prop, z = va_A [oX7 a_t a_d a_e a_kept v_isKept a_found a_tape v_taped v_gone a_hears a_near a_firstDay a_daily v_begin v_round v_leastFar v_leastWhere v_mostLed a_heardNow v_firstMove v_at v_sort v_from v_value v_fault a_bitsOf a_sizeOf a_number a_passing, aA cI a_d 40 f_d] s.heap.size := ⟨_, rfl⟩
  rw [← hA0] at hret hV
  rw [← hH0] at hret hV
  rw [← hH0]
  obtain ⟨H, locs, hH⟩ : ∃ (z : Heap) (y : List Loc), z = H0 ∧ y = [] := ⟨_, _, rfl, rfl⟩
  rw [← hH.1, ← hH.2]
  have hV : gV (dC, dI) (gT cI cB cO) A0 H0 s [oX7 a_t a_d a_e a_kept v_isKept a_found a_tape v_taped v_gone a_hears a_near a_firstDay a_daily v_begin v_round v_leastFar v_leastWhere v_mostLed a_heardNow v_firstMove v_at v_sort v_from v_value v_fault a_bitsOf a_sizeOf a_number a_passing, aA cI a_d 40 f_d] H locs := by rw [hH.1, hH.2]; exact hV
  unfold F_X7_whoIs at hF
  refine lv_iconst (v := 0) C.1 C.2.1 dX7_whoIs_0 rfl ?_
  refine lv_istore_n (lv' := [(2, .int 0), (0, .ref a_t), (1, .int p1)]) C.1 C.2.1 dX7_whoIs_1 rfl hl (by decide) rfl (fun ls hl => ?_)
  have hL2 : ∀ (n : Nat) (s1 : Int32) (H : Heap) (locs : List Loc) (ls : Array Slot), gV (dC, dI) (gT cI cB cO) A0 H0 s [oX7 a_t a_d a_e a_kept v_isKept a_found a_tape v_taped v_gone a_hears a_near a_firstDay a_daily v_begin v_round v_leastFar v_leastWhere v_mostLed a_heardNow v_firstMove v_at v_sort v_from v_value v_fault a_bitsOf a_sizeOf a_number a_passing, aA cI a_d 40 f_d] H locs → lv_has ls 3 [(0, .ref a_t), (1, .int p1), (2, .int s1)] → L_X7_whoIs_2 f_d n0 p1 n s1 = some out → W p l e rmX7_whoIs s m args below meth c H locs 0 0 Q (F0 m 2 ls []) := by
    intro n
    induction n with
    | zero => intro s1 H locs ls hV hl hF; exact lpp1_z hF
    | succ n ih2 =>
      intro s1 H locs ls hV hl hF
      obtain ⟨kk2, hk2, hF⟩ := lpp1_g hF
      have hq2 : ∀ (s1 : Int32), kk2 s1 = some out → L_X7_whoIs_2 f_d n0 p1 n s1 = some out := fun _ h => by rw [hk2] at h; exact h
      refine lv_iload_n C.1 C.2.1 dX7_whoIs_2 rfl (lv_at hl 2 rfl) ?_
      refine lv_aload_n C.1 C.2.1 dX7_whoIs_3 rfl (lv_at hl 0 rfl) ?_
      refine g_get C hV flX7_whoIs_7 0 rfl rfl dX7_whoIs_4 ?_
      refine lv_iconst (v := 0) C.1 C.2.1 dX7_whoIs_7 rfl ?_
      refine g_iald C hV 1 rfl hF dX7_whoIs_8 (fun x2 hF => ?_)
      refine g_icmp_ge (tgt := 29) C hF dX7_whoIs_9 rfl (fun hF => ?_) (fun hF => ?_)
      · refine lv_iconst (v := (-1)) C.1 C.2.1 dX7_whoIs_29 rfl ?_
        exact hret ((-1)) _ _ _ _ dX7_whoIs_30 hF hV
      refine lv_aload_n C.1 C.2.1 dX7_whoIs_12 rfl (lv_at hl 0 rfl) ?_
      refine lv_iload_n C.1 C.2.1 dX7_whoIs_13 rfl (lv_at hl 2 rfl) ?_
      obtain ⟨x3, hc, hF⟩ := bd1_s hF
      refine g_cVi (ws' := [oX7 a_t a_d a_e a_kept v_isKept a_found a_tape v_taped v_gone a_hears a_near a_firstDay a_daily v_begin v_round v_leastFar v_leastWhere v_mostLed a_heardNow v_firstMove v_at v_sort v_from v_value v_fault a_bitsOf a_sizeOf a_number a_passing, aA cI a_d 40 f_d]) (wr := []) C hV (k_X7_yard l dC dI cI cB cO n0 H.size a_t a_d a_e a_kept a_found a_tape a_hears a_near a_firstDay a_daily a_heardNow a_bitsOf a_sizeOf a_number a_passing v_isKept v_taped v_gone v_begin v_round v_leastFar v_leastWhere v_mostLed v_firstMove v_at v_sort v_from v_value v_fault f_d s1 hc) mdX7_yard gX7_whoIs_X7_yard rfl rfl ⟨Nat.le_of_ble_eq_true rfl, Nat.le_of_ble_eq_true rfl⟩ [0, 1] [] [0, 1] rfl rfl rfl rfl rfl rfl rfl rfl rfl rfl hl.1 (Nat.le_of_ble_eq_true rfl) rfl dX7_whoIs_14 (fun H locs hV => ?_)
      refine lv_iload_n C.1 C.2.1 dX7_whoIs_17 rfl (lv_at hl 1 rfl) ?_
      refine g_icmp_ne (tgt := 23) C hF dX7_whoIs_18 rfl (fun hF => ?_) (fun hF => ?_)
      · refine g_iinc C hF dX7_whoIs_23 (d := 1) rfl hl (j := 2) rfl (by decide) (fun y => [(2, .int y), (0, .ref a_t), (1, .int p1)]) (fun _ => rfl) (fun x4 ls hF hl => ?_)
        refine lv_goto (tgt := 2) C.1 C.2.1 dX7_whoIs_26 rfl ?_
        exact ih2 x4 H locs ls hV (lv_sub hl [1, 2, 0] rfl) (hq2 x4 hF)
      refine lv_iload_n C.1 C.2.1 dX7_whoIs_21 rfl (lv_at hl 2 rfl) ?_
      exact hret s1 _ _ _ _ dX7_whoIs_22 hF hV
  exact hL2 n0 0 H locs ls hV (lv_sub hl [1, 2, 0] rfl) hF
abbrev rmX7_size : Room := { frames := 0, cells := 0, slots := 0, locals := 0 }
theorem mdX7_size : gMd yX7_size wsX7_size cX7_size 1 (some .int) 1 := ⟨⟨_, rfl⟩, by decide +kernel⟩
def F_X7_size (n0 : Nat) (p1 : Int32) : Option (Int32) := (if 0 ≤ p1 then some p1 else nm (-p1) (fun x1 => some x1))
set_option maxRecDepth 100000 in
set_option maxHeartbeats 4000000 in
theorem k_X7_size (l : Launch) (dC : Nat → ClassId) (dI : Nat → Nat → Nat) (cI cB cO : ClassId) (n0 sz : Nat)     (p1 : Int32)  {ro : Int32} (hF : F_X7_size n0 p1 = some ro) : Met l yX7_size wsX7_size rmX7_size (va_Pc [.int p1] (gPre (dC, dI) (gT cI cB cO) sz [])) (gQi (dC, dI) (gT cI cB cO) sz [] ro []) 0 0 (va_A [] sz) := by
  refine g_metI (Out := Int32) (fun oo => oo) (fun oo => []) ro (own := RX7) (lv := [(0, .int p1)]) (by decide) rfl rfl (Nat.le_of_ble_eq_true rfl) rfl ?_
  intro p e s m args below meth c Q ls C hret hV hl
  obtain ⟨out, hout⟩ : ∃ z : Int32, z = ro := ⟨_, rfl⟩
  rw [← hout] at hF hret
  obtain ⟨H0, hH0⟩ : ∃ z : Heap, z = s.heap := ⟨_, rfl⟩
  obtain ⟨A0, hA0⟩ : ∃ z : Nat → Prop, z = va_A [] s.heap.size := ⟨_, rfl⟩
  rw [← hA0] at hret hV
  rw [← hH0] at hret hV
  rw [← hH0]
  obtain ⟨H, locs, hH⟩ : ∃ (z : Heap) (y : List Loc), z = H0 ∧ y = [] := ⟨_, _, rfl, rfl⟩
  rw [← hH.1, ← hH.2]
  have hV : gV (dC, dI) (gT cI cB cO) A0 H0 s [] H locs := by rw [hH.1, hH.2]; exact hV
  unfold F_X7_size at hF
  refine lv_iload_n C.1 C.2.1 dX7_size_0 rfl (lv_at hl 0 rfl) ?_
  refine g_if_ge (tgt := 9) C hF dX7_size_1 rfl (fun hF => ?_) (fun hF => ?_)
  · refine lv_iload_n C.1 C.2.1 dX7_size_9 rfl (lv_at hl 0 rfl) ?_
    exact hret p1 _ _ _ _ dX7_size_10 hF hV
  refine lv_iload_n C.1 C.2.1 dX7_size_4 rfl (lv_at hl 0 rfl) ?_
  refine g_ineg C hF dX7_size_5 (fun x1 hF => ?_)
  refine lv_goto (tgt := 10) C.1 C.2.1 dX7_size_6 rfl ?_
  exact hret x1 _ _ _ _ dX7_size_10 hF hV
abbrev rmX7_farOf : Room := { frames := 1, cells := 0, slots := 0, locals := 20 }
theorem mdX7_farOf : gMd yX7_farOf wsX7_farOf cX7_farOf 7 (some .int) 2 := ⟨⟨_, rfl⟩, by decide +kernel⟩
theorem flX7_farOf_7 : gFL wsX7_farOf RX7 7 7 0 RX7 TX7 28 := ⟨rfl, fun w h => List.mem_cons_of_mem _ (List.mem_append_right _ (h)), Nat.le_of_ble_eq_true rfl, List.mem_cons_of_mem _ (List.mem_append_left _ (List.mem_of_getElem? (i := 0) rfl))⟩
def J_X7_farOf_133 (x3 : Int32) (x6 : Int32) : Option (Int32) := nm (x3 * x3) (fun x16 => nm (x6 * x6) (fun x17 => nm (x16 + x17) (fun x18 => some x18)))
def J_X7_farOf_65 (f_d : Nat → Int32) (x3 : Int32) (x6 : Int32) (k14 : Int32) (n0 : Nat) (p1 : Int32) (p2 : Int32) : Option (Int32) := rd f_d 40 5 (fun x15 => (if x15 = 1 then rd f_d 40 3 (fun x19 => (if x19 ≤ 0 then J_X7_farOf_133 x3 x6 else (if k14 = 0 then J_X7_farOf_133 x3 x6 else bd1 (F_X7_size n0 x3) (fun x20 => dvn 12 (p1 / 12) (fun x21 => rd f_d 40 4 (fun x22 => nm (x21 - x22) (fun x23 => bd1 (F_X7_size n0 x23) (fun x24 => nm (x20 + x24) (fun x25 => dvn 12 (p2 / 12) (fun x26 => rd f_d 40 4 (fun x27 => nm (x26 - x27) (fun x28 => bd1 (F_X7_size n0 x28) (fun x29 => nm (x25 + x29) (fun x30 => nm (x30 * x30) (fun x31 => some x31))))))))))))))) else J_X7_farOf_133 x3 x6))
def J_X7_farOf_57 (k13 : Int32) (k12 : Int32) (f_d : Nat → Int32) (x3 : Int32) (x6 : Int32) (n0 : Nat) (p1 : Int32) (p2 : Int32) : Option (Int32) := (if k13 = k12 then J_X7_farOf_65 f_d x3 x6 0 n0 p1 p2 else J_X7_farOf_65 f_d x3 x6 1 n0 p1 p2)
def J_X7_farOf_39 (p2 : Int32) (f_d : Nat → Int32) (k9 : Int32) (x3 : Int32) (x6 : Int32) (n0 : Nat) (p1 : Int32) : Option (Int32) := dvn 12 (p2 - p2 / 12 * 12) (fun x10 => rd f_d 40 3 (fun x11 => (if x11 ≤ x10 then J_X7_farOf_57 k9 0 f_d x3 x6 n0 p1 p2 else J_X7_farOf_57 k9 1 f_d x3 x6 n0 p1 p2)))
def F_X7_farOf (n0 : Nat) (f_d : Nat → Int32) (p1 : Int32) (p2 : Int32) : Option (Int32) := dvn 12 (p1 - p1 / 12 * 12) (fun x1 => dvn 12 (p2 - p2 / 12 * 12) (fun x2 => nm (x1 - x2) (fun x3 => dvn 12 (p1 / 12) (fun x4 => dvn 12 (p2 / 12) (fun x5 => nm (x4 - x5) (fun x6 => dvn 12 (p1 - p1 / 12 * 12) (fun x7 => rd f_d 40 3 (fun x8 => (if x8 ≤ x7 then J_X7_farOf_39 p2 f_d 0 x3 x6 n0 p1 else J_X7_farOf_39 p2 f_d 1 x3 x6 n0 p1)))))))))
set_option maxRecDepth 100000 in
set_option maxHeartbeats 4000000 in
theorem k_X7_farOf (l : Launch) (dC : Nat → ClassId) (dI : Nat → Nat → Nat) (cI cB cO : ClassId) (n0 sz : Nat) (a_t : Nat) (a_d : Nat) (a_e : Nat) (a_kept : Nat) (a_found : Nat) (a_tape : Nat) (a_hears : Nat) (a_near : Nat) (a_firstDay : Nat) (a_daily : Nat) (a_heardNow : Nat) (a_bitsOf : Nat) (a_sizeOf : Nat) (a_number : Nat) (a_passing : Nat)   (v_isKept : Int32) (v_taped : Int32) (v_gone : Int32) (v_begin : Int32) (v_round : Int32) (v_leastFar : Int32) (v_leastWhere : Int32) (v_mostLed : Int32) (v_firstMove : Int32) (v_at : Int32) (v_sort : Int32) (v_from : Int32) (v_value : Int64) (v_fault : Int32) (f_d : Nat → Int32) (p1 : Int32) (p2 : Int32)  {ro : Int32} (hF : F_X7_farOf n0 f_d p1 p2 = some ro) : Met l yX7_farOf wsX7_farOf rmX7_farOf (va_Pc [.ref a_t, .int p1, .int p2] (gPre (dC, dI) (gT cI cB cO) sz [oX7 a_t a_d a_e a_kept v_isKept a_found a_tape v_taped v_gone a_hears a_near a_firstDay a_daily v_begin v_round v_leastFar v_leastWhere v_mostLed a_heardNow v_firstMove v_at v_sort v_from v_value v_fault a_bitsOf a_sizeOf a_number a_passing, aA cI a_d 40 f_d])) (gQi (dC, dI) (gT cI cB cO) sz [oX7 a_t a_d a_e a_kept v_isKept a_found a_tape v_taped v_gone a_hears a_near a_firstDay a_daily v_begin v_round v_leastFar v_leastWhere v_mostLed a_heardNow v_firstMove v_at v_sort v_from v_value v_fault a_bitsOf a_sizeOf a_number a_passing, aA cI a_d 40 f_d] ro [oX7 a_t a_d a_e a_kept v_isKept a_found a_tape v_taped v_gone a_hears a_near a_firstDay a_daily v_begin v_round v_leastFar v_leastWhere v_mostLed a_heardNow v_firstMove v_at v_sort v_from v_value v_fault a_bitsOf a_sizeOf a_number a_passing, aA cI a_d 40 f_d]) 0 0 (va_A [oX7 a_t a_d a_e a_kept v_isKept a_found a_tape v_taped v_gone a_hears a_near a_firstDay a_daily v_begin v_round v_leastFar v_leastWhere v_mostLed a_heardNow v_firstMove v_at v_sort v_from v_value v_fault a_bitsOf a_sizeOf a_number a_passing, aA cI a_d 40 f_d] sz) := by
  refine g_metI (Out := Int32) (fun oo => oo) (fun oo => [oX7 a_t a_d a_e a_kept v_isKept a_found a_tape v_taped v_gone a_hears a_near a_firstDay a_daily v_begin v_round v_leastFar v_leastWhere v_mostLed a_heardNow v_firstMove v_at v_sort v_from v_value v_fault a_bitsOf a_sizeOf a_number a_passing, aA cI a_d 40 f_d]) ro (own := RX7) (lv := [(0, .ref a_t), (1, .int p1), (2, .int p2)]) (by decide) rfl rfl (Nat.le_of_ble_eq_true rfl) rfl ?_
  intro p e s m args below meth c Q ls C hret hV hl
  obtain ⟨out, hout⟩ : ∃ z : Int32, z = ro := ⟨_, rfl⟩
  rw [← hout] at hF hret
  obtain ⟨H0, hH0⟩ : ∃ z : Heap, z = s.heap := ⟨_, rfl⟩
  obtain ⟨A0, hA0⟩ : ∃ z : Nat → Prop, z = va_A [oX7 a_t a_d a_e a_kept v_isKept a_found a_tape v_taped v_gone a_hears a_near a_firstDay a_daily v_begin v_round v_leastFar v_leastWhere v_mostLed a_heardNow v_firstMove v_at v_sort v_from v_value v_fault a_bitsOf a_sizeOf a_number a_passing, aA cI a_d 40 f_d] s.heap.size := ⟨_, rfl⟩
  rw [← hA0] at hret hV
  rw [← hH0] at hret hV
  rw [← hH0]
  obtain ⟨H, locs, hH⟩ : ∃ (z : Heap) (y : List Loc), z = H0 ∧ y = [] := ⟨_, _, rfl, rfl⟩
  rw [← hH.1, ← hH.2]
  have hV : gV (dC, dI) (gT cI cB cO) A0 H0 s [oX7 a_t a_d a_e a_kept v_isKept a_found a_tape v_taped v_gone a_hears a_near a_firstDay a_daily v_begin v_round v_leastFar v_leastWhere v_mostLed a_heardNow v_firstMove v_at v_sort v_from v_value v_fault a_bitsOf a_sizeOf a_number a_passing, aA cI a_d 40 f_d] H locs := by rw [hH.1, hH.2]; exact hV
  unfold F_X7_farOf at hF
  refine lv_iload_n C.1 C.2.1 dX7_farOf_0 rfl (lv_at hl 1 rfl) ?_
  refine lv_bipush (v := 12) C.1 C.2.1 dX7_farOf_1 rfl ?_
  refine g_irem C hF dX7_farOf_3 (fun x1 hF => ?_)
  refine lv_iload_n C.1 C.2.1 dX7_farOf_4 rfl (lv_at hl 2 rfl) ?_
  refine lv_bipush (v := 12) C.1 C.2.1 dX7_farOf_5 rfl ?_
  refine g_irem C hF dX7_farOf_7 (fun x2 hF => ?_)
  refine g_isub C hF dX7_farOf_8 (fun x3 hF => ?_)
  refine lv_istore_n (lv' := [(3, .int x3), (0, .ref a_t), (1, .int p1), (2, .int p2)]) C.1 C.2.1 dX7_farOf_9 rfl hl (by decide) rfl (fun ls hl => ?_)
  refine lv_iload_n C.1 C.2.1 dX7_farOf_10 rfl (lv_at hl 2 rfl) ?_
  refine lv_bipush (v := 12) C.1 C.2.1 dX7_farOf_11 rfl ?_
  refine g_idiv C hF dX7_farOf_13 (fun x4 hF => ?_)
  refine lv_iload_n C.1 C.2.1 dX7_farOf_14 rfl (lv_at hl 3 rfl) ?_
  refine lv_bipush (v := 12) C.1 C.2.1 dX7_farOf_15 rfl ?_
  refine g_idiv C hF dX7_farOf_17 (fun x5 hF => ?_)
  refine g_isub C hF dX7_farOf_18 (fun x6 hF => ?_)
  refine lv_istore (lv' := [(4, .int x6), (3, .int x3), (0, .ref a_t), (1, .int p1), (2, .int p2)]) C.1 C.2.1 dX7_farOf_19 hl (by decide) rfl (fun ls hl => ?_)
  refine lv_iload_n C.1 C.2.1 dX7_farOf_21 rfl (lv_at hl 3 rfl) ?_
  refine lv_bipush (v := 12) C.1 C.2.1 dX7_farOf_22 rfl ?_
  refine g_irem C hF dX7_farOf_24 (fun x7 hF => ?_)
  refine lv_aload_n C.1 C.2.1 dX7_farOf_25 rfl (lv_at hl 2 rfl) ?_
  refine g_get C hV flX7_farOf_7 0 rfl rfl dX7_farOf_26 ?_
  refine lv_iconst (v := 3) C.1 C.2.1 dX7_farOf_29 rfl ?_
  refine g_iald C hV 1 rfl hF dX7_farOf_30 (fun x8 hF => ?_)
  have hJ39 : ∀ (k9 : Int32) (H : Heap) (locs : List Loc) (ls : Array Slot), gV (dC, dI) (gT cI cB cO) A0 H0 s [oX7 a_t a_d a_e a_kept v_isKept a_found a_tape v_taped v_gone a_hears a_near a_firstDay a_daily v_begin v_round v_leastFar v_leastWhere v_mostLed a_heardNow v_firstMove v_at v_sort v_from v_value v_fault a_bitsOf a_sizeOf a_number a_passing, aA cI a_d 40 f_d] H locs → lv_has ls 7 [(0, .ref a_t), (1, .int p1), (2, .int p2), (3, .int x3), (4, .int x6)] → J_X7_farOf_39 p2 f_d k9 x3 x6 n0 p1 = some out → W p l e rmX7_farOf s m args below meth c H locs 0 0 Q (F0 m 39 ls [.int k9]) := by
    intro k9 H locs ls hV hl hF
    unfold J_X7_farOf_39 at hF
    refine lv_iload_n C.1 C.2.1 dX7_farOf_39 rfl (lv_at hl 2 rfl) ?_
    refine lv_bipush (v := 12) C.1 C.2.1 dX7_farOf_40 rfl ?_
    refine g_irem C hF dX7_farOf_42 (fun x10 hF => ?_)
    refine lv_aload_n C.1 C.2.1 dX7_farOf_43 rfl (lv_at hl 0 rfl) ?_
    refine g_get C hV flX7_farOf_7 0 rfl rfl dX7_farOf_44 ?_
    refine lv_iconst (v := 3) C.1 C.2.1 dX7_farOf_47 rfl ?_
    refine g_iald C hV 1 rfl hF dX7_farOf_48 (fun x11 hF => ?_)
    have hJ57 : ∀ (k12 : Int32) (k13 : Int32) (H : Heap) (locs : List Loc) (ls : Array Slot), gV (dC, dI) (gT cI cB cO) A0 H0 s [oX7 a_t a_d a_e a_kept v_isKept a_found a_tape v_taped v_gone a_hears a_near a_firstDay a_daily v_begin v_round v_leastFar v_leastWhere v_mostLed a_heardNow v_firstMove v_at v_sort v_from v_value v_fault a_bitsOf a_sizeOf a_number a_passing, aA cI a_d 40 f_d] H locs → lv_has ls 7 [(0, .ref a_t), (1, .int p1), (2, .int p2), (3, .int x3), (4, .int x6)] → J_X7_farOf_57 k13 k12 f_d x3 x6 n0 p1 p2 = some out → W p l e rmX7_farOf s m args below meth c H locs 0 0 Q (F0 m 57 ls [.int k12, .int k13]) := by
      intro k12 k13 H locs ls hV hl hF
      unfold J_X7_farOf_57 at hF
      have hJ65 : ∀ (k14 : Int32) (H : Heap) (locs : List Loc) (ls : Array Slot), gV (dC, dI) (gT cI cB cO) A0 H0 s [oX7 a_t a_d a_e a_kept v_isKept a_found a_tape v_taped v_gone a_hears a_near a_firstDay a_daily v_begin v_round v_leastFar v_leastWhere v_mostLed a_heardNow v_firstMove v_at v_sort v_from v_value v_fault a_bitsOf a_sizeOf a_number a_passing, aA cI a_d 40 f_d] H locs → lv_has ls 7 [(0, .ref a_t), (1, .int p1), (2, .int p2), (3, .int x3), (4, .int x6)] → J_X7_farOf_65 f_d x3 x6 k14 n0 p1 p2 = some out → W p l e rmX7_farOf s m args below meth c H locs 0 0 Q (F0 m 65 ls [.int k14]) := by
        intro k14 H locs ls hV hl hF
        unfold J_X7_farOf_65 at hF
        refine lv_istore (lv' := [(5, .int k14), (0, .ref a_t), (1, .int p1), (2, .int p2), (3, .int x3), (4, .int x6)]) C.1 C.2.1 dX7_farOf_65 hl (by decide) rfl (fun ls hl => ?_)
        refine lv_aload_n C.1 C.2.1 dX7_farOf_67 rfl (lv_at hl 1 rfl) ?_
        refine g_get C hV flX7_farOf_7 0 rfl rfl dX7_farOf_68 ?_
        refine lv_iconst (v := 5) C.1 C.2.1 dX7_farOf_71 rfl ?_
        refine g_iald C hV 1 rfl hF dX7_farOf_72 (fun x15 hF => ?_)
        refine lv_iconst (v := 1) C.1 C.2.1 dX7_farOf_73 rfl ?_
        have hJ133 : ∀  (H : Heap) (locs : List Loc) (ls : Array Slot), gV (dC, dI) (gT cI cB cO) A0 H0 s [oX7 a_t a_d a_e a_kept v_isKept a_found a_tape v_taped v_gone a_hears a_near a_firstDay a_daily v_begin v_round v_leastFar v_leastWhere v_mostLed a_heardNow v_firstMove v_at v_sort v_from v_value v_fault a_bitsOf a_sizeOf a_number a_passing, aA cI a_d 40 f_d] H locs → lv_has ls 7 [(3, .int x3), (4, .int x6)] → J_X7_farOf_133 x3 x6 = some out → W p l e rmX7_farOf s m args below meth c H locs 0 0 Q (F0 m 133 ls []) := by
          intro  H locs ls hV hl hF
          unfold J_X7_farOf_133 at hF
          refine lv_iload_n C.1 C.2.1 dX7_farOf_133 rfl (lv_at hl 0 rfl) ?_
          refine lv_iload_n C.1 C.2.1 dX7_farOf_134 rfl (lv_at hl 0 rfl) ?_
          refine g_imul C hF dX7_farOf_135 (fun x16 hF => ?_)
          refine lv_iload C.1 C.2.1 dX7_farOf_136 (lv_at hl 1 rfl) ?_
          refine lv_iload C.1 C.2.1 dX7_farOf_138 (lv_at hl 1 rfl) ?_
          refine g_imul C hF dX7_farOf_140 (fun x17 hF => ?_)
          refine g_iadd C hF dX7_farOf_141 (fun x18 hF => ?_)
          exact hret x18 _ _ _ _ dX7_farOf_142 hF hV
        refine g_icmp_ne (tgt := 133) C hF dX7_farOf_74 rfl (fun hF => ?_) (fun hF => ?_)
        · exact hJ133  H locs ls hV (lv_sub hl [4, 5] rfl) hF
        refine lv_aload_n C.1 C.2.1 dX7_farOf_77 rfl (lv_at hl 1 rfl) ?_
        refine g_get C hV flX7_farOf_7 0 rfl rfl dX7_farOf_78 ?_
        refine lv_iconst (v := 3) C.1 C.2.1 dX7_farOf_81 rfl ?_
        refine g_iald C hV 1 rfl hF dX7_farOf_82 (fun x19 hF => ?_)
        refine g_if_le (tgt := 133) C hF dX7_farOf_83 rfl (fun hF => ?_) (fun hF => ?_)
        · exact hJ133  H locs ls hV (lv_sub hl [4, 5] rfl) hF
        refine lv_iload C.1 C.2.1 dX7_farOf_86 (lv_at hl 0 rfl) ?_
        refine g_if_eq (tgt := 133) C hF dX7_farOf_88 rfl (fun hF => ?_) (fun hF => ?_)
        · exact hJ133  H locs ls hV (lv_sub hl [4, 5] rfl) hF
        refine lv_iload_n C.1 C.2.1 dX7_farOf_91 rfl (lv_at hl 4 rfl) ?_
        obtain ⟨x20, hc, hF⟩ := bd1_s hF
        refine g_cSi (ws' := [oX7 a_t a_d a_e a_kept v_isKept a_found a_tape v_taped v_gone a_hears a_near a_firstDay a_daily v_begin v_round v_leastFar v_leastWhere v_mostLed a_heardNow v_firstMove v_at v_sort v_from v_value v_fault a_bitsOf a_sizeOf a_number a_passing, aA cI a_d 40 f_d]) (wr := [oX7 a_t a_d a_e a_kept v_isKept a_found a_tape v_taped v_gone a_hears a_near a_firstDay a_daily v_begin v_round v_leastFar v_leastWhere v_mostLed a_heardNow v_firstMove v_at v_sort v_from v_value v_fault a_bitsOf a_sizeOf a_number a_passing, aA cI a_d 40 f_d]) C hV (k_X7_size l dC dI cI cB cO n0 H.size x3 hc) mdX7_size gX7_farOf_X7_size rfl rfl ⟨Nat.le_of_ble_eq_true rfl, Nat.le_of_ble_eq_true rfl⟩ [] [0, 1] [0, 1] rfl rfl rfl rfl rfl rfl rfl rfl hl.1 (Nat.le_of_ble_eq_true rfl) rfl dX7_farOf_92 (fun H locs hV => ?_)
        refine lv_iload_n C.1 C.2.1 dX7_farOf_95 rfl (lv_at hl 2 rfl) ?_
        refine lv_bipush (v := 12) C.1 C.2.1 dX7_farOf_96 rfl ?_
        refine g_idiv C hF dX7_farOf_98 (fun x21 hF => ?_)
        refine lv_aload_n C.1 C.2.1 dX7_farOf_99 rfl (lv_at hl 1 rfl) ?_
        refine g_get C hV flX7_farOf_7 0 rfl rfl dX7_farOf_100 ?_
        refine lv_iconst (v := 4) C.1 C.2.1 dX7_farOf_103 rfl ?_
        refine g_iald C hV 1 rfl hF dX7_farOf_104 (fun x22 hF => ?_)
        refine g_isub C hF dX7_farOf_105 (fun x23 hF => ?_)
        obtain ⟨x24, hc, hF⟩ := bd1_s hF
        refine g_cSi (ws' := [oX7 a_t a_d a_e a_kept v_isKept a_found a_tape v_taped v_gone a_hears a_near a_firstDay a_daily v_begin v_round v_leastFar v_leastWhere v_mostLed a_heardNow v_firstMove v_at v_sort v_from v_value v_fault a_bitsOf a_sizeOf a_number a_passing, aA cI a_d 40 f_d]) (wr := [oX7 a_t a_d a_e a_kept v_isKept a_found a_tape v_taped v_gone a_hears a_near a_firstDay a_daily v_begin v_round v_leastFar v_leastWhere v_mostLed a_heardNow v_firstMove v_at v_sort v_from v_value v_fault a_bitsOf a_sizeOf a_number a_passing, aA cI a_d 40 f_d]) C hV (k_X7_size l dC dI cI cB cO n0 H.size x23 hc) mdX7_size gX7_farOf_X7_size rfl rfl ⟨Nat.le_of_ble_eq_true rfl, Nat.le_of_ble_eq_true rfl⟩ [] [0, 1] [0, 1] rfl rfl rfl rfl rfl rfl rfl rfl hl.1 (Nat.le_of_ble_eq_true rfl) rfl dX7_farOf_106 (fun H locs hV => ?_)
        refine g_iadd C hF dX7_farOf_109 (fun x25 hF => ?_)
        refine lv_iload_n C.1 C.2.1 dX7_farOf_110 rfl (lv_at hl 3 rfl) ?_
        refine lv_bipush (v := 12) C.1 C.2.1 dX7_farOf_111 rfl ?_
        refine g_idiv C hF dX7_farOf_113 (fun x26 hF => ?_)
        refine lv_aload_n C.1 C.2.1 dX7_farOf_114 rfl (lv_at hl 1 rfl) ?_
        refine g_get C hV flX7_farOf_7 0 rfl rfl dX7_farOf_115 ?_
        refine lv_iconst (v := 4) C.1 C.2.1 dX7_farOf_118 rfl ?_
        refine g_iald C hV 1 rfl hF dX7_farOf_119 (fun x27 hF => ?_)
        refine g_isub C hF dX7_farOf_120 (fun x28 hF => ?_)
        obtain ⟨x29, hc, hF⟩ := bd1_s hF
        refine g_cSi (ws' := [oX7 a_t a_d a_e a_kept v_isKept a_found a_tape v_taped v_gone a_hears a_near a_firstDay a_daily v_begin v_round v_leastFar v_leastWhere v_mostLed a_heardNow v_firstMove v_at v_sort v_from v_value v_fault a_bitsOf a_sizeOf a_number a_passing, aA cI a_d 40 f_d]) (wr := [oX7 a_t a_d a_e a_kept v_isKept a_found a_tape v_taped v_gone a_hears a_near a_firstDay a_daily v_begin v_round v_leastFar v_leastWhere v_mostLed a_heardNow v_firstMove v_at v_sort v_from v_value v_fault a_bitsOf a_sizeOf a_number a_passing, aA cI a_d 40 f_d]) C hV (k_X7_size l dC dI cI cB cO n0 H.size x28 hc) mdX7_size gX7_farOf_X7_size rfl rfl ⟨Nat.le_of_ble_eq_true rfl, Nat.le_of_ble_eq_true rfl⟩ [] [0, 1] [0, 1] rfl rfl rfl rfl rfl rfl rfl rfl hl.1 (Nat.le_of_ble_eq_true rfl) rfl dX7_farOf_121 (fun H locs hV => ?_)
        refine g_iadd C hF dX7_farOf_124 (fun x30 hF => ?_)
        refine lv_istore (lv' := [(6, .int x30), (5, .int k14), (0, .ref a_t), (1, .int p1), (2, .int p2), (3, .int x3), (4, .int x6)]) C.1 C.2.1 dX7_farOf_125 hl (by decide) rfl (fun ls hl => ?_)
        refine lv_iload C.1 C.2.1 dX7_farOf_127 (lv_at hl 0 rfl) ?_
        refine lv_iload C.1 C.2.1 dX7_farOf_129 (lv_at hl 0 rfl) ?_
        refine g_imul C hF dX7_farOf_131 (fun x31 hF => ?_)
        exact hret x31 _ _ _ _ dX7_farOf_132 hF hV
      refine g_icmp_eq (tgt := 64) C hF dX7_farOf_57 rfl (fun hF => ?_) (fun hF => ?_)
      · refine lv_iconst (v := 0) C.1 C.2.1 dX7_farOf_64 rfl ?_
        exact hJ65 0 H locs ls hV (lv_sub hl [0, 1, 2, 3, 4] rfl) hF
      refine lv_iconst (v := 1) C.1 C.2.1 dX7_farOf_60 rfl ?_
      refine lv_goto (tgt := 65) C.1 C.2.1 dX7_farOf_61 rfl ?_
      exact hJ65 1 H locs ls hV (lv_sub hl [0, 1, 2, 3, 4] rfl) hF
    refine g_icmp_ge (tgt := 56) C hF dX7_farOf_49 rfl (fun hF => ?_) (fun hF => ?_)
    · refine lv_iconst (v := 0) C.1 C.2.1 dX7_farOf_56 rfl ?_
      exact hJ57 0 k9 H locs ls hV (lv_sub hl [0, 1, 2, 3, 4] rfl) hF
    refine lv_iconst (v := 1) C.1 C.2.1 dX7_farOf_52 rfl ?_
    refine lv_goto (tgt := 57) C.1 C.2.1 dX7_farOf_53 rfl ?_
    exact hJ57 1 k9 H locs ls hV (lv_sub hl [0, 1, 2, 3, 4] rfl) hF
  refine g_icmp_ge (tgt := 38) C hF dX7_farOf_31 rfl (fun hF => ?_) (fun hF => ?_)
  · refine lv_iconst (v := 0) C.1 C.2.1 dX7_farOf_38 rfl ?_
    exact hJ39 0 H locs ls hV (lv_sub hl [2, 3, 4, 1, 0] rfl) hF
  refine lv_iconst (v := 1) C.1 C.2.1 dX7_farOf_34 rfl ?_
  refine lv_goto (tgt := 39) C.1 C.2.1 dX7_farOf_35 rfl ?_
  exact hJ39 1 H locs ls hV (lv_sub hl [2, 3, 4, 1, 0] rfl) hF
abbrev rmX7_nearestOf : Room := { frames := 2, cells := 0, slots := 0, locals := 46 }
theorem mdX7_nearestOf : gMd yX7_nearestOf wsX7_nearestOf cX7_nearestOf 5 (some .int) 2 := ⟨⟨_, rfl⟩, by decide +kernel⟩
theorem flX7_nearestOf_26 : gFL wsX7_nearestOf RX7 26 7 7 RX7 TX7 28 := ⟨rfl, fun w h => List.mem_cons_of_mem _ (List.mem_append_right _ (h)), Nat.le_of_ble_eq_true rfl, List.mem_cons_of_mem _ (List.mem_append_left _ (List.mem_of_getElem? (i := 0) rfl))⟩
def L_X7_nearestOf_5 (p2 : Int32) (p1 : Int32) (v_gone : Int32) (n0 : Nat) (f_d : Nat → Int32) : Nat → Int32 → Int32 → Option (Int32) := lpp2 (fun s1 s2 kk5 => (if p2 ≤ s2 then some s1 else (if s2 = p1 then nm (s2 + 1) (fun x3 => kk5 s1 x3) else (if s2 = v_gone then nm (s2 + 1) (fun x13 => kk5 s1 x13) else (if s1 = ((-1)) then nm (s2 + 1) (fun x4 => kk5 s2 x4) else bd1 (F_X7_yard n0 f_d p1) (fun x5 => bd1 (F_X7_yard n0 f_d s2) (fun x6 => bd1 (F_X7_farOf n0 f_d x5 x6) (fun x7 => bd1 (F_X7_yard n0 f_d p1) (fun x8 => bd1 (F_X7_yard n0 f_d s1) (fun x9 => bd1 (F_X7_farOf n0 f_d x8 x9) (fun x10 => (if x10 ≤ x7 then nm (s2 + 1) (fun x11 => kk5 s1 x11) else nm (s2 + 1) (fun x12 => kk5 s2 x12)))))))))))))
def F_X7_nearestOf (n0 : Nat) (v_gone : Int32) (f_d : Nat → Int32) (p1 : Int32) (p2 : Int32) : Option (Int32) := L_X7_nearestOf_5 p2 p1 v_gone n0 f_d n0 ((-1)) 0
set_option maxRecDepth 100000 in
set_option maxHeartbeats 4000000 in
theorem k_X7_nearestOf (l : Launch) (dC : Nat → ClassId) (dI : Nat → Nat → Nat) (cI cB cO : ClassId) (n0 sz : Nat) (a_t : Nat) (a_d : Nat) (a_e : Nat) (a_kept : Nat) (a_found : Nat) (a_tape : Nat) (a_hears : Nat) (a_near : Nat) (a_firstDay : Nat) (a_daily : Nat) (a_heardNow : Nat) (a_bitsOf : Nat) (a_sizeOf : Nat) (a_number : Nat) (a_passing : Nat)   (v_isKept : Int32) (v_taped : Int32) (v_gone : Int32) (v_begin : Int32) (v_round : Int32) (v_leastFar : Int32) (v_leastWhere : Int32) (v_mostLed : Int32) (v_firstMove : Int32) (v_at : Int32) (v_sort : Int32) (v_from : Int32) (v_value : Int64) (v_fault : Int32) (f_d : Nat → Int32) (p1 : Int32) (p2 : Int32)  {ro : Int32} (hF : F_X7_nearestOf n0 v_gone f_d p1 p2 = some ro) : Met l yX7_nearestOf wsX7_nearestOf rmX7_nearestOf (va_Pc [.ref a_t, .int p1, .int p2] (gPre (dC, dI) (gT cI cB cO) sz [oX7 a_t a_d a_e a_kept v_isKept a_found a_tape v_taped v_gone a_hears a_near a_firstDay a_daily v_begin v_round v_leastFar v_leastWhere v_mostLed a_heardNow v_firstMove v_at v_sort v_from v_value v_fault a_bitsOf a_sizeOf a_number a_passing, aA cI a_d 40 f_d])) (gQi (dC, dI) (gT cI cB cO) sz [oX7 a_t a_d a_e a_kept v_isKept a_found a_tape v_taped v_gone a_hears a_near a_firstDay a_daily v_begin v_round v_leastFar v_leastWhere v_mostLed a_heardNow v_firstMove v_at v_sort v_from v_value v_fault a_bitsOf a_sizeOf a_number a_passing, aA cI a_d 40 f_d] ro [oX7 a_t a_d a_e a_kept v_isKept a_found a_tape v_taped v_gone a_hears a_near a_firstDay a_daily v_begin v_round v_leastFar v_leastWhere v_mostLed a_heardNow v_firstMove v_at v_sort v_from v_value v_fault a_bitsOf a_sizeOf a_number a_passing, aA cI a_d 40 f_d]) 0 0 (va_A [oX7 a_t a_d a_e a_kept v_isKept a_found a_tape v_taped v_gone a_hears a_near a_firstDay a_daily v_begin v_round v_leastFar v_leastWhere v_mostLed a_heardNow v_firstMove v_at v_sort v_from v_value v_fault a_bitsOf a_sizeOf a_number a_passing, aA cI a_d 40 f_d] sz) := by
  refine g_metI (Out := Int32) (fun oo => oo) (fun oo => [oX7 a_t a_d a_e a_kept v_isKept a_found a_tape v_taped v_gone a_hears a_near a_firstDay a_daily v_begin v_round v_leastFar v_leastWhere v_mostLed a_heardNow v_firstMove v_at v_sort v_from v_value v_fault a_bitsOf a_sizeOf a_number a_passing, aA cI a_d 40 f_d]) ro (own := RX7) (lv := [(0, .ref a_t), (1, .int p1), (2, .int p2)]) (by decide) rfl rfl (Nat.le_of_ble_eq_true rfl) rfl ?_
  intro p e s m args below meth c Q ls C hret hV hl
  obtain ⟨out, hout⟩ : ∃ z : Int32, z = ro := ⟨_, rfl⟩
  rw [← hout] at hF hret
  obtain ⟨H0, hH0⟩ : ∃ z : Heap, z = s.heap := ⟨_, rfl⟩
  obtain ⟨A0, hA0⟩ : ∃ z : Nat → Prop, z = va_A [oX7 a_t a_d a_e a_kept v_isKept a_found a_tape v_taped v_gone a_hears a_near a_firstDay a_daily v_begin v_round v_leastFar v_leastWhere v_mostLed a_heardNow v_firstMove v_at v_sort v_from v_value v_fault a_bitsOf a_sizeOf a_number a_passing, aA cI a_d 40 f_d] s.heap.size := ⟨_, rfl⟩
  rw [← hA0] at hret hV
  rw [← hH0] at hret hV
  rw [← hH0]
  obtain ⟨H, locs, hH⟩ : ∃ (z : Heap) (y : List Loc), z = H0 ∧ y = [] := ⟨_, _, rfl, rfl⟩
  rw [← hH.1, ← hH.2]
  have hV : gV (dC, dI) (gT cI cB cO) A0 H0 s [oX7 a_t a_d a_e a_kept v_isKept a_found a_tape v_taped v_gone a_hears a_near a_firstDay a_daily v_begin v_round v_leastFar v_leastWhere v_mostLed a_heardNow v_firstMove v_at v_sort v_from v_value v_fault a_bitsOf a_sizeOf a_number a_passing, aA cI a_d 40 f_d] H locs := by rw [hH.1, hH.2]; exact hV
  unfold F_X7_nearestOf at hF
  refine lv_iconst (v := (-1)) C.1 C.2.1 dX7_nearestOf_0 rfl ?_
  refine lv_istore_n (lv' := [(3, .int ((-1))), (0, .ref a_t), (1, .int p1), (2, .int p2)]) C.1 C.2.1 dX7_nearestOf_1 rfl hl (by decide) rfl (fun ls hl => ?_)
  refine lv_iconst (v := 0) C.1 C.2.1 dX7_nearestOf_2 rfl ?_
  refine lv_istore (lv' := [(4, .int 0), (3, .int ((-1))), (0, .ref a_t), (1, .int p1), (2, .int p2)]) C.1 C.2.1 dX7_nearestOf_3 hl (by decide) rfl (fun ls hl => ?_)
  have hL5 : ∀ (n : Nat) (s1 : Int32) (s2 : Int32) (H : Heap) (locs : List Loc) (ls : Array Slot), gV (dC, dI) (gT cI cB cO) A0 H0 s [oX7 a_t a_d a_e a_kept v_isKept a_found a_tape v_taped v_gone a_hears a_near a_firstDay a_daily v_begin v_round v_leastFar v_leastWhere v_mostLed a_heardNow v_firstMove v_at v_sort v_from v_value v_fault a_bitsOf a_sizeOf a_number a_passing, aA cI a_d 40 f_d] H locs → lv_has ls 5 [(0, .ref a_t), (1, .int p1), (2, .int p2), (3, .int s1), (4, .int s2)] → L_X7_nearestOf_5 p2 p1 v_gone n0 f_d n s1 s2 = some out → W p l e rmX7_nearestOf s m args below meth c H locs 0 0 Q (F0 m 5 ls []) := by
    intro n
    induction n with
    | zero => intro s1 s2 H locs ls hV hl hF; exact lpp2_z hF
    | succ n ih5 =>
      intro s1 s2 H locs ls hV hl hF
      obtain ⟨kk5, hk5, hF⟩ := lpp2_g hF
      have hq5 : ∀ (s1 : Int32) (s2 : Int32), kk5 s1 s2 = some out → L_X7_nearestOf_5 p2 p1 v_gone n0 f_d n s1 s2 = some out := fun _ _ h => by rw [hk5] at h; exact h
      refine lv_iload C.1 C.2.1 dX7_nearestOf_5 (lv_at hl 4 rfl) ?_
      refine lv_iload_n C.1 C.2.1 dX7_nearestOf_7 rfl (lv_at hl 2 rfl) ?_
      refine g_icmp_ge (tgt := 79) C hF dX7_nearestOf_8 rfl (fun hF => ?_) (fun hF => ?_)
      · refine lv_iload_n C.1 C.2.1 dX7_nearestOf_79 rfl (lv_at hl 3 rfl) ?_
        exact hret s1 _ _ _ _ dX7_nearestOf_80 hF hV
      refine lv_iload C.1 C.2.1 dX7_nearestOf_11 (lv_at hl 4 rfl) ?_
      refine lv_iload_n C.1 C.2.1 dX7_nearestOf_13 rfl (lv_at hl 1 rfl) ?_
      refine g_icmp_eq (tgt := 73) C hF dX7_nearestOf_14 rfl (fun hF => ?_) (fun hF => ?_)
      · refine g_iinc C hF dX7_nearestOf_73 (d := 1) rfl hl (j := 4) rfl (by decide) (fun y => [(4, .int y), (0, .ref a_t), (1, .int p1), (2, .int p2), (3, .int s1)]) (fun _ => rfl) (fun x3 ls hF hl => ?_)
        refine lv_goto (tgt := 5) C.1 C.2.1 dX7_nearestOf_76 rfl ?_
        exact ih5 s1 x3 H locs ls hV (lv_sub hl [1, 2, 3, 4, 0] rfl) (hq5 s1 x3 hF)
      refine lv_iload C.1 C.2.1 dX7_nearestOf_17 (lv_at hl 4 rfl) ?_
      refine lv_aload_n C.1 C.2.1 dX7_nearestOf_19 rfl (lv_at hl 0 rfl) ?_
      refine g_get C hV flX7_nearestOf_26 0 rfl rfl dX7_nearestOf_20 ?_
      refine g_icmp_ne (tgt := 29) C hF dX7_nearestOf_23 rfl (fun hF => ?_) (fun hF => ?_)
      · refine lv_iload_n C.1 C.2.1 dX7_nearestOf_29 rfl (lv_at hl 3 rfl) ?_
        refine lv_iconst (v := (-1)) C.1 C.2.1 dX7_nearestOf_30 rfl ?_
        refine g_icmp_eq (tgt := 66) C hF dX7_nearestOf_31 rfl (fun hF => ?_) (fun hF => ?_)
        · refine lv_iload C.1 C.2.1 dX7_nearestOf_66 (lv_at hl 4 rfl) ?_
          refine lv_goto (tgt := 72) C.1 C.2.1 dX7_nearestOf_68 rfl ?_
          refine lv_istore_n (lv' := [(3, .int s2), (0, .ref a_t), (1, .int p1), (2, .int p2), (4, .int s2)]) C.1 C.2.1 dX7_nearestOf_72 rfl hl (by decide) rfl (fun ls hl => ?_)
          refine g_iinc C hF dX7_nearestOf_73 (d := 1) rfl hl (j := 4) rfl (by decide) (fun y => [(4, .int y), (3, .int s2), (0, .ref a_t), (1, .int p1), (2, .int p2)]) (fun _ => rfl) (fun x4 ls hF hl => ?_)
          refine lv_goto (tgt := 5) C.1 C.2.1 dX7_nearestOf_76 rfl ?_
          exact ih5 s2 x4 H locs ls hV (lv_sub hl [2, 3, 4, 1, 0] rfl) (hq5 s2 x4 hF)
        refine lv_aload_n C.1 C.2.1 dX7_nearestOf_34 rfl (lv_at hl 0 rfl) ?_
        refine lv_aload_n C.1 C.2.1 dX7_nearestOf_35 rfl (lv_at hl 0 rfl) ?_
        refine lv_iload_n C.1 C.2.1 dX7_nearestOf_36 rfl (lv_at hl 1 rfl) ?_
        obtain ⟨x5, hc, hF⟩ := bd1_s hF
        refine g_cVi (ws' := [oX7 a_t a_d a_e a_kept v_isKept a_found a_tape v_taped v_gone a_hears a_near a_firstDay a_daily v_begin v_round v_leastFar v_leastWhere v_mostLed a_heardNow v_firstMove v_at v_sort v_from v_value v_fault a_bitsOf a_sizeOf a_number a_passing, aA cI a_d 40 f_d]) (wr := []) C hV (k_X7_yard l dC dI cI cB cO n0 H.size a_t a_d a_e a_kept a_found a_tape a_hears a_near a_firstDay a_daily a_heardNow a_bitsOf a_sizeOf a_number a_passing v_isKept v_taped v_gone v_begin v_round v_leastFar v_leastWhere v_mostLed v_firstMove v_at v_sort v_from v_value v_fault f_d p1 hc) mdX7_yard gX7_nearestOf_X7_yard rfl rfl ⟨Nat.le_of_ble_eq_true rfl, Nat.le_of_ble_eq_true rfl⟩ [0, 1] [] [0, 1] rfl rfl rfl rfl rfl rfl rfl rfl rfl rfl hl.1 (Nat.le_of_ble_eq_true rfl) rfl dX7_nearestOf_37 (fun H locs hV => ?_)
        refine lv_aload_n C.1 C.2.1 dX7_nearestOf_40 rfl (lv_at hl 0 rfl) ?_
        refine lv_iload C.1 C.2.1 dX7_nearestOf_41 (lv_at hl 4 rfl) ?_
        obtain ⟨x6, hc, hF⟩ := bd1_s hF
        refine g_cVi (ws' := [oX7 a_t a_d a_e a_kept v_isKept a_found a_tape v_taped v_gone a_hears a_near a_firstDay a_daily v_begin v_round v_leastFar v_leastWhere v_mostLed a_heardNow v_firstMove v_at v_sort v_from v_value v_fault a_bitsOf a_sizeOf a_number a_passing, aA cI a_d 40 f_d]) (wr := []) C hV (k_X7_yard l dC dI cI cB cO n0 H.size a_t a_d a_e a_kept a_found a_tape a_hears a_near a_firstDay a_daily a_heardNow a_bitsOf a_sizeOf a_number a_passing v_isKept v_taped v_gone v_begin v_round v_leastFar v_leastWhere v_mostLed v_firstMove v_at v_sort v_from v_value v_fault f_d s2 hc) mdX7_yard gX7_nearestOf_X7_yard rfl rfl ⟨Nat.le_of_ble_eq_true rfl, Nat.le_of_ble_eq_true rfl⟩ [0, 1] [] [0, 1] rfl rfl rfl rfl rfl rfl rfl rfl rfl rfl hl.1 (Nat.le_of_ble_eq_true rfl) rfl dX7_nearestOf_43 (fun H locs hV => ?_)
        obtain ⟨x7, hc, hF⟩ := bd1_s hF
        refine g_cVi (ws' := [oX7 a_t a_d a_e a_kept v_isKept a_found a_tape v_taped v_gone a_hears a_near a_firstDay a_daily v_begin v_round v_leastFar v_leastWhere v_mostLed a_heardNow v_firstMove v_at v_sort v_from v_value v_fault a_bitsOf a_sizeOf a_number a_passing, aA cI a_d 40 f_d]) (wr := []) C hV (k_X7_farOf l dC dI cI cB cO n0 H.size a_t a_d a_e a_kept a_found a_tape a_hears a_near a_firstDay a_daily a_heardNow a_bitsOf a_sizeOf a_number a_passing v_isKept v_taped v_gone v_begin v_round v_leastFar v_leastWhere v_mostLed v_firstMove v_at v_sort v_from v_value v_fault f_d x5 x6 hc) mdX7_farOf gX7_nearestOf_X7_farOf rfl rfl ⟨Nat.le_of_ble_eq_true rfl, Nat.le_of_ble_eq_true rfl⟩ [0, 1] [] [0, 1] rfl rfl rfl rfl rfl rfl rfl rfl rfl rfl hl.1 (Nat.le_of_ble_eq_true rfl) rfl dX7_nearestOf_46 (fun H locs hV => ?_)
        refine lv_aload_n C.1 C.2.1 dX7_nearestOf_49 rfl (lv_at hl 0 rfl) ?_
        refine lv_aload_n C.1 C.2.1 dX7_nearestOf_50 rfl (lv_at hl 0 rfl) ?_
        refine lv_iload_n C.1 C.2.1 dX7_nearestOf_51 rfl (lv_at hl 1 rfl) ?_
        obtain ⟨x8, hc, hF⟩ := bd1_s hF
        refine g_cVi (ws' := [oX7 a_t a_d a_e a_kept v_isKept a_found a_tape v_taped v_gone a_hears a_near a_firstDay a_daily v_begin v_round v_leastFar v_leastWhere v_mostLed a_heardNow v_firstMove v_at v_sort v_from v_value v_fault a_bitsOf a_sizeOf a_number a_passing, aA cI a_d 40 f_d]) (wr := []) C hV (k_X7_yard l dC dI cI cB cO n0 H.size a_t a_d a_e a_kept a_found a_tape a_hears a_near a_firstDay a_daily a_heardNow a_bitsOf a_sizeOf a_number a_passing v_isKept v_taped v_gone v_begin v_round v_leastFar v_leastWhere v_mostLed v_firstMove v_at v_sort v_from v_value v_fault f_d p1 hc) mdX7_yard gX7_nearestOf_X7_yard rfl rfl ⟨Nat.le_of_ble_eq_true rfl, Nat.le_of_ble_eq_true rfl⟩ [0, 1] [] [0, 1] rfl rfl rfl rfl rfl rfl rfl rfl rfl rfl hl.1 (Nat.le_of_ble_eq_true rfl) rfl dX7_nearestOf_52 (fun H locs hV => ?_)
        refine lv_aload_n C.1 C.2.1 dX7_nearestOf_55 rfl (lv_at hl 0 rfl) ?_
        refine lv_iload_n C.1 C.2.1 dX7_nearestOf_56 rfl (lv_at hl 3 rfl) ?_
        obtain ⟨x9, hc, hF⟩ := bd1_s hF
        refine g_cVi (ws' := [oX7 a_t a_d a_e a_kept v_isKept a_found a_tape v_taped v_gone a_hears a_near a_firstDay a_daily v_begin v_round v_leastFar v_leastWhere v_mostLed a_heardNow v_firstMove v_at v_sort v_from v_value v_fault a_bitsOf a_sizeOf a_number a_passing, aA cI a_d 40 f_d]) (wr := []) C hV (k_X7_yard l dC dI cI cB cO n0 H.size a_t a_d a_e a_kept a_found a_tape a_hears a_near a_firstDay a_daily a_heardNow a_bitsOf a_sizeOf a_number a_passing v_isKept v_taped v_gone v_begin v_round v_leastFar v_leastWhere v_mostLed v_firstMove v_at v_sort v_from v_value v_fault f_d s1 hc) mdX7_yard gX7_nearestOf_X7_yard rfl rfl ⟨Nat.le_of_ble_eq_true rfl, Nat.le_of_ble_eq_true rfl⟩ [0, 1] [] [0, 1] rfl rfl rfl rfl rfl rfl rfl rfl rfl rfl hl.1 (Nat.le_of_ble_eq_true rfl) rfl dX7_nearestOf_57 (fun H locs hV => ?_)
        obtain ⟨x10, hc, hF⟩ := bd1_s hF
        refine g_cVi (ws' := [oX7 a_t a_d a_e a_kept v_isKept a_found a_tape v_taped v_gone a_hears a_near a_firstDay a_daily v_begin v_round v_leastFar v_leastWhere v_mostLed a_heardNow v_firstMove v_at v_sort v_from v_value v_fault a_bitsOf a_sizeOf a_number a_passing, aA cI a_d 40 f_d]) (wr := []) C hV (k_X7_farOf l dC dI cI cB cO n0 H.size a_t a_d a_e a_kept a_found a_tape a_hears a_near a_firstDay a_daily a_heardNow a_bitsOf a_sizeOf a_number a_passing v_isKept v_taped v_gone v_begin v_round v_leastFar v_leastWhere v_mostLed v_firstMove v_at v_sort v_from v_value v_fault f_d x8 x9 hc) mdX7_farOf gX7_nearestOf_X7_farOf rfl rfl ⟨Nat.le_of_ble_eq_true rfl, Nat.le_of_ble_eq_true rfl⟩ [0, 1] [] [0, 1] rfl rfl rfl rfl rfl rfl rfl rfl rfl rfl hl.1 (Nat.le_of_ble_eq_true rfl) rfl dX7_nearestOf_60 (fun H locs hV => ?_)
        refine g_icmp_ge (tgt := 71) C hF dX7_nearestOf_63 rfl (fun hF => ?_) (fun hF => ?_)
        · refine lv_iload_n C.1 C.2.1 dX7_nearestOf_71 rfl (lv_at hl 3 rfl) ?_
          refine lv_istore_n (lv' := [(3, .int s1), (0, .ref a_t), (1, .int p1), (2, .int p2), (4, .int s2)]) C.1 C.2.1 dX7_nearestOf_72 rfl hl (by decide) rfl (fun ls hl => ?_)
          refine g_iinc C hF dX7_nearestOf_73 (d := 1) rfl hl (j := 4) rfl (by decide) (fun y => [(4, .int y), (3, .int s1), (0, .ref a_t), (1, .int p1), (2, .int p2)]) (fun _ => rfl) (fun x11 ls hF hl => ?_)
          refine lv_goto (tgt := 5) C.1 C.2.1 dX7_nearestOf_76 rfl ?_
          exact ih5 s1 x11 H locs ls hV (lv_sub hl [2, 3, 4, 1, 0] rfl) (hq5 s1 x11 hF)
        refine lv_iload C.1 C.2.1 dX7_nearestOf_66 (lv_at hl 4 rfl) ?_
        refine lv_goto (tgt := 72) C.1 C.2.1 dX7_nearestOf_68 rfl ?_
        refine lv_istore_n (lv' := [(3, .int s2), (0, .ref a_t), (1, .int p1), (2, .int p2), (4, .int s2)]) C.1 C.2.1 dX7_nearestOf_72 rfl hl (by decide) rfl (fun ls hl => ?_)
        refine g_iinc C hF dX7_nearestOf_73 (d := 1) rfl hl (j := 4) rfl (by decide) (fun y => [(4, .int y), (3, .int s2), (0, .ref a_t), (1, .int p1), (2, .int p2)]) (fun _ => rfl) (fun x12 ls hF hl => ?_)
        refine lv_goto (tgt := 5) C.1 C.2.1 dX7_nearestOf_76 rfl ?_
        exact ih5 s2 x12 H locs ls hV (lv_sub hl [2, 3, 4, 1, 0] rfl) (hq5 s2 x12 hF)
      refine lv_goto (tgt := 73) C.1 C.2.1 dX7_nearestOf_26 rfl ?_
      refine g_iinc C hF dX7_nearestOf_73 (d := 1) rfl hl (j := 4) rfl (by decide) (fun y => [(4, .int y), (0, .ref a_t), (1, .int p1), (2, .int p2), (3, .int s1)]) (fun _ => rfl) (fun x13 ls hF hl => ?_)
      refine lv_goto (tgt := 5) C.1 C.2.1 dX7_nearestOf_76 rfl ?_
      exact ih5 s1 x13 H locs ls hV (lv_sub hl [1, 2, 3, 4, 0] rfl) (hq5 s1 x13 hF)
  exact hL5 n0 ((-1)) 0 H locs ls hV (lv_sub hl [2, 3, 4, 1, 0] rfl) hF
abbrev rmX7_farthestOf : Room := { frames := 2, cells := 0, slots := 0, locals := 46 }
theorem mdX7_farthestOf : gMd yX7_farthestOf wsX7_farthestOf cX7_farthestOf 4 (some .int) 1 := ⟨⟨_, rfl⟩, by decide +kernel⟩
theorem flX7_farthestOf_7 : gFL wsX7_farthestOf RX7 7 7 0 RX7 TX7 28 := ⟨rfl, fun w h => List.mem_cons_of_mem _ (List.mem_append_right _ (h)), Nat.le_of_ble_eq_true rfl, List.mem_cons_of_mem _ (List.mem_append_left _ (List.mem_of_getElem? (i := 0) rfl))⟩
theorem flX7_farthestOf_26 : gFL wsX7_farthestOf RX7 26 7 7 RX7 TX7 28 := ⟨rfl, fun w h => List.mem_cons_of_mem _ (List.mem_append_right _ (h)), Nat.le_of_ble_eq_true rfl, List.mem_cons_of_mem _ (List.mem_append_left _ (List.mem_of_getElem? (i := 1) rfl))⟩
def L_X7_farthestOf_4 (f_d : Nat → Int32) (p1 : Int32) (v_gone : Int32) (n0 : Nat) : Nat → Int32 → Int32 → Option (Int32) := lpp2 (fun s1 s2 kk4 => rd f_d 40 0 (fun x3 => (if x3 ≤ s2 then some s1 else (if s2 = p1 then nm (s2 + 1) (fun x4 => kk4 s1 x4) else (if s2 = v_gone then nm (s2 + 1) (fun x14 => kk4 s1 x14) else (if s1 = ((-1)) then nm (s2 + 1) (fun x5 => kk4 s2 x5) else bd1 (F_X7_yard n0 f_d p1) (fun x6 => bd1 (F_X7_yard n0 f_d s2) (fun x7 => bd1 (F_X7_farOf n0 f_d x6 x7) (fun x8 => bd1 (F_X7_yard n0 f_d p1) (fun x9 => bd1 (F_X7_yard n0 f_d s1) (fun x10 => bd1 (F_X7_farOf n0 f_d x9 x10) (fun x11 => (if x8 ≤ x11 then nm (s2 + 1) (fun x12 => kk4 s1 x12) else nm (s2 + 1) (fun x13 => kk4 s2 x13))))))))))))))
def F_X7_farthestOf (n0 : Nat) (v_gone : Int32) (f_d : Nat → Int32) (p1 : Int32) : Option (Int32) := L_X7_farthestOf_4 f_d p1 v_gone n0 n0 ((-1)) 0
set_option maxRecDepth 100000 in
set_option maxHeartbeats 4000000 in
theorem k_X7_farthestOf (l : Launch) (dC : Nat → ClassId) (dI : Nat → Nat → Nat) (cI cB cO : ClassId) (n0 sz : Nat) (a_t : Nat) (a_d : Nat) (a_e : Nat) (a_kept : Nat) (a_found : Nat) (a_tape : Nat) (a_hears : Nat) (a_near : Nat) (a_firstDay : Nat) (a_daily : Nat) (a_heardNow : Nat) (a_bitsOf : Nat) (a_sizeOf : Nat) (a_number : Nat) (a_passing : Nat)   (v_isKept : Int32) (v_taped : Int32) (v_gone : Int32) (v_begin : Int32) (v_round : Int32) (v_leastFar : Int32) (v_leastWhere : Int32) (v_mostLed : Int32) (v_firstMove : Int32) (v_at : Int32) (v_sort : Int32) (v_from : Int32) (v_value : Int64) (v_fault : Int32) (f_d : Nat → Int32) (p1 : Int32)  {ro : Int32} (hF : F_X7_farthestOf n0 v_gone f_d p1 = some ro) : Met l yX7_farthestOf wsX7_farthestOf rmX7_farthestOf (va_Pc [.ref a_t, .int p1] (gPre (dC, dI) (gT cI cB cO) sz [oX7 a_t a_d a_e a_kept v_isKept a_found a_tape v_taped v_gone a_hears a_near a_firstDay a_daily v_begin v_round v_leastFar v_leastWhere v_mostLed a_heardNow v_firstMove v_at v_sort v_from v_value v_fault a_bitsOf a_sizeOf a_number a_passing, aA cI a_d 40 f_d])) (gQi (dC, dI) (gT cI cB cO) sz [oX7 a_t a_d a_e a_kept v_isKept a_found a_tape v_taped v_gone a_hears a_near a_firstDay a_daily v_begin v_round v_leastFar v_leastWhere v_mostLed a_heardNow v_firstMove v_at v_sort v_from v_value v_fault a_bitsOf a_sizeOf a_number a_passing, aA cI a_d 40 f_d] ro [oX7 a_t a_d a_e a_kept v_isKept a_found a_tape v_taped v_gone a_hears a_near a_firstDay a_daily v_begin v_round v_leastFar v_leastWhere v_mostLed a_heardNow v_firstMove v_at v_sort v_from v_value v_fault a_bitsOf a_sizeOf a_number a_passing, aA cI a_d 40 f_d]) 0 0 (va_A [oX7 a_t a_d a_e a_kept v_isKept a_found a_tape v_taped v_gone a_hears a_near a_firstDay a_daily v_begin v_round v_leastFar v_leastWhere v_mostLed a_heardNow v_firstMove v_at v_sort v_from v_value v_fault a_bitsOf a_sizeOf a_number a_passing, aA cI a_d 40 f_d] sz) := by
  refine g_metI (Out := Int32) (fun oo => oo) (fun oo => [oX7 a_t a_d a_e a_kept v_isKept a_found a_tape v_taped v_gone a_hears a_near a_firstDay a_daily v_begin v_round v_leastFar v_leastWhere v_mostLed a_heardNow v_firstMove v_at v_sort v_from v_value v_fault a_bitsOf a_sizeOf a_number a_passing, aA cI a_d 40 f_d]) ro (own := RX7) (lv := [(0, .ref a_t), (1, .int p1)]) (by decide) rfl rfl (Nat.le_of_ble_eq_true rfl) rfl ?_
  intro p e s m args below meth c Q ls C hret hV hl
  obtain ⟨out, hout⟩ : ∃ z : Int32, z = ro := ⟨_, rfl⟩
  rw [← hout] at hF hret
  obtain ⟨H0, hH0⟩ : ∃ z : Heap, z = s.heap := ⟨_, rfl⟩
  obtain ⟨A0, hA0⟩ : ∃ z : Nat → Prop, z = va_A [oX7 a_t a_d a_e a_kept v_isKept a_found a_tape v_taped v_gone a_hears a_near a_firstDay a_daily v_begin v_round v_leastFar v_leastWhere v_mostLed a_heardNow v_firstMove v_at v_sort v_from v_value v_fault a_bitsOf a_sizeOf a_number a_passing, aA cI a_d 40 f_d] s.heap.size := ⟨_, rfl⟩
  rw [← hA0] at hret hV
  rw [← hH0] at hret hV
  rw [← hH0]
  obtain ⟨H, locs, hH⟩ : ∃ (z : Heap) (y : List Loc), z = H0 ∧ y = [] := ⟨_, _, rfl, rfl⟩
  rw [← hH.1, ← hH.2]
  have hV : gV (dC, dI) (gT cI cB cO) A0 H0 s [oX7 a_t a_d a_e a_kept v_isKept a_found a_tape v_taped v_gone a_hears a_near a_firstDay a_daily v_begin v_round v_leastFar v_leastWhere v_mostLed a_heardNow v_firstMove v_at v_sort v_from v_value v_fault a_bitsOf a_sizeOf a_number a_passing, aA cI a_d 40 f_d] H locs := by rw [hH.1, hH.2]; exact hV
  unfold F_X7_farthestOf at hF
  refine lv_iconst (v := (-1)) C.1 C.2.1 dX7_farthestOf_0 rfl ?_
  refine lv_istore_n (lv' := [(2, .int ((-1))), (0, .ref a_t), (1, .int p1)]) C.1 C.2.1 dX7_farthestOf_1 rfl hl (by decide) rfl (fun ls hl => ?_)
  refine lv_iconst (v := 0) C.1 C.2.1 dX7_farthestOf_2 rfl ?_
  refine lv_istore_n (lv' := [(3, .int 0), (2, .int ((-1))), (0, .ref a_t), (1, .int p1)]) C.1 C.2.1 dX7_farthestOf_3 rfl hl (by decide) rfl (fun ls hl => ?_)
  have hL4 : ∀ (n : Nat) (s1 : Int32) (s2 : Int32) (H : Heap) (locs : List Loc) (ls : Array Slot), gV (dC, dI) (gT cI cB cO) A0 H0 s [oX7 a_t a_d a_e a_kept v_isKept a_found a_tape v_taped v_gone a_hears a_near a_firstDay a_daily v_begin v_round v_leastFar v_leastWhere v_mostLed a_heardNow v_firstMove v_at v_sort v_from v_value v_fault a_bitsOf a_sizeOf a_number a_passing, aA cI a_d 40 f_d] H locs → lv_has ls 4 [(0, .ref a_t), (1, .int p1), (2, .int s1), (3, .int s2)] → L_X7_farthestOf_4 f_d p1 v_gone n0 n s1 s2 = some out → W p l e rmX7_farthestOf s m args below meth c H locs 0 0 Q (F0 m 4 ls []) := by
    intro n
    induction n with
    | zero => intro s1 s2 H locs ls hV hl hF; exact lpp2_z hF
    | succ n ih4 =>
      intro s1 s2 H locs ls hV hl hF
      obtain ⟨kk4, hk4, hF⟩ := lpp2_g hF
      have hq4 : ∀ (s1 : Int32) (s2 : Int32), kk4 s1 s2 = some out → L_X7_farthestOf_4 f_d p1 v_gone n0 n s1 s2 = some out := fun _ _ h => by rw [hk4] at h; exact h
      refine lv_iload_n C.1 C.2.1 dX7_farthestOf_4 rfl (lv_at hl 3 rfl) ?_
      refine lv_aload_n C.1 C.2.1 dX7_farthestOf_5 rfl (lv_at hl 0 rfl) ?_
      refine g_get C hV flX7_farthestOf_7 0 rfl rfl dX7_farthestOf_6 ?_
      refine lv_iconst (v := 0) C.1 C.2.1 dX7_farthestOf_9 rfl ?_
      refine g_iald C hV 1 rfl hF dX7_farthestOf_10 (fun x3 hF => ?_)
      refine g_icmp_ge (tgt := 78) C hF dX7_farthestOf_11 rfl (fun hF => ?_) (fun hF => ?_)
      · refine lv_iload_n C.1 C.2.1 dX7_farthestOf_78 rfl (lv_at hl 2 rfl) ?_
        exact hret s1 _ _ _ _ dX7_farthestOf_79 hF hV
      refine lv_iload_n C.1 C.2.1 dX7_farthestOf_14 rfl (lv_at hl 3 rfl) ?_
      refine lv_iload_n C.1 C.2.1 dX7_farthestOf_15 rfl (lv_at hl 1 rfl) ?_
      refine g_icmp_eq (tgt := 72) C hF dX7_farthestOf_16 rfl (fun hF => ?_) (fun hF => ?_)
      · refine g_iinc C hF dX7_farthestOf_72 (d := 1) rfl hl (j := 3) rfl (by decide) (fun y => [(3, .int y), (0, .ref a_t), (1, .int p1), (2, .int s1)]) (fun _ => rfl) (fun x4 ls hF hl => ?_)
        refine lv_goto (tgt := 4) C.1 C.2.1 dX7_farthestOf_75 rfl ?_
        exact ih4 s1 x4 H locs ls hV (lv_sub hl [1, 2, 3, 0] rfl) (hq4 s1 x4 hF)
      refine lv_iload_n C.1 C.2.1 dX7_farthestOf_19 rfl (lv_at hl 3 rfl) ?_
      refine lv_aload_n C.1 C.2.1 dX7_farthestOf_20 rfl (lv_at hl 0 rfl) ?_
      refine g_get C hV flX7_farthestOf_26 0 rfl rfl dX7_farthestOf_21 ?_
      refine g_icmp_ne (tgt := 30) C hF dX7_farthestOf_24 rfl (fun hF => ?_) (fun hF => ?_)
      · refine lv_iload_n C.1 C.2.1 dX7_farthestOf_30 rfl (lv_at hl 2 rfl) ?_
        refine lv_iconst (v := (-1)) C.1 C.2.1 dX7_farthestOf_31 rfl ?_
        refine g_icmp_eq (tgt := 66) C hF dX7_farthestOf_32 rfl (fun hF => ?_) (fun hF => ?_)
        · refine lv_iload_n C.1 C.2.1 dX7_farthestOf_66 rfl (lv_at hl 3 rfl) ?_
          refine lv_goto (tgt := 71) C.1 C.2.1 dX7_farthestOf_67 rfl ?_
          refine lv_istore_n (lv' := [(2, .int s2), (0, .ref a_t), (1, .int p1), (3, .int s2)]) C.1 C.2.1 dX7_farthestOf_71 rfl hl (by decide) rfl (fun ls hl => ?_)
          refine g_iinc C hF dX7_farthestOf_72 (d := 1) rfl hl (j := 3) rfl (by decide) (fun y => [(3, .int y), (2, .int s2), (0, .ref a_t), (1, .int p1)]) (fun _ => rfl) (fun x5 ls hF hl => ?_)
          refine lv_goto (tgt := 4) C.1 C.2.1 dX7_farthestOf_75 rfl ?_
          exact ih4 s2 x5 H locs ls hV (lv_sub hl [2, 3, 1, 0] rfl) (hq4 s2 x5 hF)
        refine lv_aload_n C.1 C.2.1 dX7_farthestOf_35 rfl (lv_at hl 0 rfl) ?_
        refine lv_aload_n C.1 C.2.1 dX7_farthestOf_36 rfl (lv_at hl 0 rfl) ?_
        refine lv_iload_n C.1 C.2.1 dX7_farthestOf_37 rfl (lv_at hl 1 rfl) ?_
        obtain ⟨x6, hc, hF⟩ := bd1_s hF
        refine g_cVi (ws' := [oX7 a_t a_d a_e a_kept v_isKept a_found a_tape v_taped v_gone a_hears a_near a_firstDay a_daily v_begin v_round v_leastFar v_leastWhere v_mostLed a_heardNow v_firstMove v_at v_sort v_from v_value v_fault a_bitsOf a_sizeOf a_number a_passing, aA cI a_d 40 f_d]) (wr := []) C hV (k_X7_yard l dC dI cI cB cO n0 H.size a_t a_d a_e a_kept a_found a_tape a_hears a_near a_firstDay a_daily a_heardNow a_bitsOf a_sizeOf a_number a_passing v_isKept v_taped v_gone v_begin v_round v_leastFar v_leastWhere v_mostLed v_firstMove v_at v_sort v_from v_value v_fault f_d p1 hc) mdX7_yard gX7_farthestOf_X7_yard rfl rfl ⟨Nat.le_of_ble_eq_true rfl, Nat.le_of_ble_eq_true rfl⟩ [0, 1] [] [0, 1] rfl rfl rfl rfl rfl rfl rfl rfl rfl rfl hl.1 (Nat.le_of_ble_eq_true rfl) rfl dX7_farthestOf_38 (fun H locs hV => ?_)
        refine lv_aload_n C.1 C.2.1 dX7_farthestOf_41 rfl (lv_at hl 0 rfl) ?_
        refine lv_iload_n C.1 C.2.1 dX7_farthestOf_42 rfl (lv_at hl 3 rfl) ?_
        obtain ⟨x7, hc, hF⟩ := bd1_s hF
        refine g_cVi (ws' := [oX7 a_t a_d a_e a_kept v_isKept a_found a_tape v_taped v_gone a_hears a_near a_firstDay a_daily v_begin v_round v_leastFar v_leastWhere v_mostLed a_heardNow v_firstMove v_at v_sort v_from v_value v_fault a_bitsOf a_sizeOf a_number a_passing, aA cI a_d 40 f_d]) (wr := []) C hV (k_X7_yard l dC dI cI cB cO n0 H.size a_t a_d a_e a_kept a_found a_tape a_hears a_near a_firstDay a_daily a_heardNow a_bitsOf a_sizeOf a_number a_passing v_isKept v_taped v_gone v_begin v_round v_leastFar v_leastWhere v_mostLed v_firstMove v_at v_sort v_from v_value v_fault f_d s2 hc) mdX7_yard gX7_farthestOf_X7_yard rfl rfl ⟨Nat.le_of_ble_eq_true rfl, Nat.le_of_ble_eq_true rfl⟩ [0, 1] [] [0, 1] rfl rfl rfl rfl rfl rfl rfl rfl rfl rfl hl.1 (Nat.le_of_ble_eq_true rfl) rfl dX7_farthestOf_43 (fun H locs hV => ?_)
        obtain ⟨x8, hc, hF⟩ := bd1_s hF
        refine g_cVi (ws' := [oX7 a_t a_d a_e a_kept v_isKept a_found a_tape v_taped v_gone a_hears a_near a_firstDay a_daily v_begin v_round v_leastFar v_leastWhere v_mostLed a_heardNow v_firstMove v_at v_sort v_from v_value v_fault a_bitsOf a_sizeOf a_number a_passing, aA cI a_d 40 f_d]) (wr := []) C hV (k_X7_farOf l dC dI cI cB cO n0 H.size a_t a_d a_e a_kept a_found a_tape a_hears a_near a_firstDay a_daily a_heardNow a_bitsOf a_sizeOf a_number a_passing v_isKept v_taped v_gone v_begin v_round v_leastFar v_leastWhere v_mostLed v_firstMove v_at v_sort v_from v_value v_fault f_d x6 x7 hc) mdX7_farOf gX7_farthestOf_X7_farOf rfl rfl ⟨Nat.le_of_ble_eq_true rfl, Nat.le_of_ble_eq_true rfl⟩ [0, 1] [] [0, 1] rfl rfl rfl rfl rfl rfl rfl rfl rfl rfl hl.1 (Nat.le_of_ble_eq_true rfl) rfl dX7_farthestOf_46 (fun H locs hV => ?_)
        refine lv_aload_n C.1 C.2.1 dX7_farthestOf_49 rfl (lv_at hl 0 rfl) ?_
        refine lv_aload_n C.1 C.2.1 dX7_farthestOf_50 rfl (lv_at hl 0 rfl) ?_
        refine lv_iload_n C.1 C.2.1 dX7_farthestOf_51 rfl (lv_at hl 1 rfl) ?_
        obtain ⟨x9, hc, hF⟩ := bd1_s hF
        refine g_cVi (ws' := [oX7 a_t a_d a_e a_kept v_isKept a_found a_tape v_taped v_gone a_hears a_near a_firstDay a_daily v_begin v_round v_leastFar v_leastWhere v_mostLed a_heardNow v_firstMove v_at v_sort v_from v_value v_fault a_bitsOf a_sizeOf a_number a_passing, aA cI a_d 40 f_d]) (wr := []) C hV (k_X7_yard l dC dI cI cB cO n0 H.size a_t a_d a_e a_kept a_found a_tape a_hears a_near a_firstDay a_daily a_heardNow a_bitsOf a_sizeOf a_number a_passing v_isKept v_taped v_gone v_begin v_round v_leastFar v_leastWhere v_mostLed v_firstMove v_at v_sort v_from v_value v_fault f_d p1 hc) mdX7_yard gX7_farthestOf_X7_yard rfl rfl ⟨Nat.le_of_ble_eq_true rfl, Nat.le_of_ble_eq_true rfl⟩ [0, 1] [] [0, 1] rfl rfl rfl rfl rfl rfl rfl rfl rfl rfl hl.1 (Nat.le_of_ble_eq_true rfl) rfl dX7_farthestOf_52 (fun H locs hV => ?_)
        refine lv_aload_n C.1 C.2.1 dX7_farthestOf_55 rfl (lv_at hl 0 rfl) ?_
        refine lv_iload_n C.1 C.2.1 dX7_farthestOf_56 rfl (lv_at hl 2 rfl) ?_
        obtain ⟨x10, hc, hF⟩ := bd1_s hF
        refine g_cVi (ws' := [oX7 a_t a_d a_e a_kept v_isKept a_found a_tape v_taped v_gone a_hears a_near a_firstDay a_daily v_begin v_round v_leastFar v_leastWhere v_mostLed a_heardNow v_firstMove v_at v_sort v_from v_value v_fault a_bitsOf a_sizeOf a_number a_passing, aA cI a_d 40 f_d]) (wr := []) C hV (k_X7_yard l dC dI cI cB cO n0 H.size a_t a_d a_e a_kept a_found a_tape a_hears a_near a_firstDay a_daily a_heardNow a_bitsOf a_sizeOf a_number a_passing v_isKept v_taped v_gone v_begin v_round v_leastFar v_leastWhere v_mostLed v_firstMove v_at v_sort v_from v_value v_fault f_d s1 hc) mdX7_yard gX7_farthestOf_X7_yard rfl rfl ⟨Nat.le_of_ble_eq_true rfl, Nat.le_of_ble_eq_true rfl⟩ [0, 1] [] [0, 1] rfl rfl rfl rfl rfl rfl rfl rfl rfl rfl hl.1 (Nat.le_of_ble_eq_true rfl) rfl dX7_farthestOf_57 (fun H locs hV => ?_)
        obtain ⟨x11, hc, hF⟩ := bd1_s hF
        refine g_cVi (ws' := [oX7 a_t a_d a_e a_kept v_isKept a_found a_tape v_taped v_gone a_hears a_near a_firstDay a_daily v_begin v_round v_leastFar v_leastWhere v_mostLed a_heardNow v_firstMove v_at v_sort v_from v_value v_fault a_bitsOf a_sizeOf a_number a_passing, aA cI a_d 40 f_d]) (wr := []) C hV (k_X7_farOf l dC dI cI cB cO n0 H.size a_t a_d a_e a_kept a_found a_tape a_hears a_near a_firstDay a_daily a_heardNow a_bitsOf a_sizeOf a_number a_passing v_isKept v_taped v_gone v_begin v_round v_leastFar v_leastWhere v_mostLed v_firstMove v_at v_sort v_from v_value v_fault f_d x9 x10 hc) mdX7_farOf gX7_farthestOf_X7_farOf rfl rfl ⟨Nat.le_of_ble_eq_true rfl, Nat.le_of_ble_eq_true rfl⟩ [0, 1] [] [0, 1] rfl rfl rfl rfl rfl rfl rfl rfl rfl rfl hl.1 (Nat.le_of_ble_eq_true rfl) rfl dX7_farthestOf_60 (fun H locs hV => ?_)
        refine g_icmp_le (tgt := 70) C hF dX7_farthestOf_63 rfl (fun hF => ?_) (fun hF => ?_)
        · refine lv_iload_n C.1 C.2.1 dX7_farthestOf_70 rfl (lv_at hl 2 rfl) ?_
          refine lv_istore_n (lv' := [(2, .int s1), (0, .ref a_t), (1, .int p1), (3, .int s2)]) C.1 C.2.1 dX7_farthestOf_71 rfl hl (by decide) rfl (fun ls hl => ?_)
          refine g_iinc C hF dX7_farthestOf_72 (d := 1) rfl hl (j := 3) rfl (by decide) (fun y => [(3, .int y), (2, .int s1), (0, .ref a_t), (1, .int p1)]) (fun _ => rfl) (fun x12 ls hF hl => ?_)
          refine lv_goto (tgt := 4) C.1 C.2.1 dX7_farthestOf_75 rfl ?_
          exact ih4 s1 x12 H locs ls hV (lv_sub hl [2, 3, 1, 0] rfl) (hq4 s1 x12 hF)
        refine lv_iload_n C.1 C.2.1 dX7_farthestOf_66 rfl (lv_at hl 3 rfl) ?_
        refine lv_goto (tgt := 71) C.1 C.2.1 dX7_farthestOf_67 rfl ?_
        refine lv_istore_n (lv' := [(2, .int s2), (0, .ref a_t), (1, .int p1), (3, .int s2)]) C.1 C.2.1 dX7_farthestOf_71 rfl hl (by decide) rfl (fun ls hl => ?_)
        refine g_iinc C hF dX7_farthestOf_72 (d := 1) rfl hl (j := 3) rfl (by decide) (fun y => [(3, .int y), (2, .int s2), (0, .ref a_t), (1, .int p1)]) (fun _ => rfl) (fun x13 ls hF hl => ?_)
        refine lv_goto (tgt := 4) C.1 C.2.1 dX7_farthestOf_75 rfl ?_
        exact ih4 s2 x13 H locs ls hV (lv_sub hl [2, 3, 1, 0] rfl) (hq4 s2 x13 hF)
      refine lv_goto (tgt := 72) C.1 C.2.1 dX7_farthestOf_27 rfl ?_
      refine g_iinc C hF dX7_farthestOf_72 (d := 1) rfl hl (j := 3) rfl (by decide) (fun y => [(3, .int y), (0, .ref a_t), (1, .int p1), (2, .int s1)]) (fun _ => rfl) (fun x14 ls hF hl => ?_)
      refine lv_goto (tgt := 4) C.1 C.2.1 dX7_farthestOf_75 rfl ?_
      exact ih4 s1 x14 H locs ls hV (lv_sub hl [1, 2, 3, 0] rfl) (hq4 s1 x14 hF)
  exact hL4 n0 ((-1)) 0 H locs ls hV (lv_sub hl [2, 3, 1, 0] rfl) hF
abbrev rmX7_listen : Room := { frames := 3, cells := 0, slots := 0, locals := 70 }
theorem mdX7_listen : gMd yX7_listen wsX7_listen cX7_listen 3 none 0 := ⟨⟨_, rfl⟩, by decide +kernel⟩
theorem flX7_listen_7 : gFL wsX7_listen RX7 7 7 0 RX7 TX7 28 := ⟨rfl, fun w h => List.mem_cons_of_mem _ (List.mem_append_right _ (h)), Nat.le_of_ble_eq_true rfl, List.mem_cons_of_mem _ (List.mem_append_left _ (List.mem_append_left _ (List.mem_of_getElem? (i := 0) rfl)))⟩
theorem flX7_listen_33 : gFL wsX7_listen RX7 33 7 9 RX7 TX7 28 := ⟨rfl, fun w h => List.mem_cons_of_mem _ (List.mem_append_right _ (h)), Nat.le_of_ble_eq_true rfl, List.mem_cons_of_mem _ (List.mem_append_left _ (List.mem_append_left _ (List.mem_of_getElem? (i := 1) rfl)))⟩
theorem flX7_listen_30 : gFL wsX7_listen RX7 30 7 8 RX7 TX7 28 := ⟨rfl, fun w h => List.mem_cons_of_mem _ (List.mem_append_right _ (h)), Nat.le_of_ble_eq_true rfl, List.mem_cons_of_mem _ (List.mem_append_left _ (List.mem_append_left _ (List.mem_of_getElem? (i := 2) rfl)))⟩
def J_X7_listen_50 (n0 : Nat) (v_gone : Int32) (f_d : Nat → Int32) (s1 : Int32) (t2 : Nat → Int32) (k9 : Int32) (kk2 : Int32 → (Nat → Int32) → (Nat → Int32) → Option ((Nat → Int32) × (Nat → Int32))) (g8 : Nat → Int32) : Option ((Nat → Int32) × (Nat → Int32)) := bd1 (F_X7_nearestOf n0 v_gone f_d s1 s1) (fun x10 => wrt t2 10 k9 x10 (fun g11 => nm (s1 + 1) (fun x12 => kk2 x12 g11 g8)))
def L_X7_listen_2 (f_d : Nat → Int32) (n0 : Nat) (v_gone : Int32) : Nat → Int32 → (Nat → Int32) → (Nat → Int32) → Option ((Nat → Int32) × (Nat → Int32)) := lpp3 (fun s1 t2 t3 kk2 => rd f_d 40 0 (fun x4 => (if x4 ≤ s1 then some (t2, t3) else bd1 (F_X7_kind n0 f_d s1) (fun x5 => rd f_d 40 0 (fun x6 => bd1 (F_X7_nearestOf n0 v_gone f_d s1 x6) (fun x7 => wrt t3 10 s1 x7 (fun g8 => (if x5 = 1 then J_X7_listen_50 n0 v_gone f_d s1 t2 s1 kk2 g8 else (if x5 = 4 then J_X7_listen_50 n0 v_gone f_d s1 t2 s1 kk2 g8 else (if x5 = 6 then bd1 (F_X7_farthestOf n0 v_gone f_d s1) (fun x16 => wrt t2 10 s1 x16 (fun g17 => nm (s1 + 1) (fun x18 => kk2 x18 g17 g8))) else rd g8 10 s1 (fun x13 => wrt t2 10 s1 x13 (fun g14 => nm (s1 + 1) (fun x15 => kk2 x15 g14 g8)))))))))))))
def F_X7_listen (n0 : Nat) (v_gone : Int32) (f_d : Nat → Int32) (f_hears : Nat → Int32) (f_near : Nat → Int32) : Option ((Nat → Int32) × (Nat → Int32)) := L_X7_listen_2 f_d n0 v_gone n0 0 f_hears f_near
set_option maxRecDepth 100000 in
set_option maxHeartbeats 4000000 in
theorem k_X7_listen (l : Launch) (dC : Nat → ClassId) (dI : Nat → Nat → Nat) (cI cB cO : ClassId) (n0 sz : Nat) (a_t : Nat) (a_d : Nat) (a_e : Nat) (a_kept : Nat) (a_found : Nat) (a_tape : Nat) (a_hears : Nat) (a_near : Nat) (a_firstDay : Nat) (a_daily : Nat) (a_heardNow : Nat) (a_bitsOf : Nat) (a_sizeOf : Nat) (a_number : Nat) (a_passing : Nat)   (v_isKept : Int32) (v_taped : Int32) (v_gone : Int32) (v_begin : Int32) (v_round : Int32) (v_leastFar : Int32) (v_leastWhere : Int32) (v_mostLed : Int32) (v_firstMove : Int32) (v_at : Int32) (v_sort : Int32) (v_from : Int32) (v_value : Int64) (v_fault : Int32) (f_d : Nat → Int32) (f_hears : Nat → Int32) (f_near : Nat → Int32)   {o0 : Nat → Int32} {o1 : Nat → Int32} (hF : F_X7_listen n0 v_gone f_d f_hears f_near = some (o0, o1)) : Met l yX7_listen wsX7_listen rmX7_listen (va_Pc [.ref a_t] (gPre (dC, dI) (gT cI cB cO) sz [oX7 a_t a_d a_e a_kept v_isKept a_found a_tape v_taped v_gone a_hears a_near a_firstDay a_daily v_begin v_round v_leastFar v_leastWhere v_mostLed a_heardNow v_firstMove v_at v_sort v_from v_value v_fault a_bitsOf a_sizeOf a_number a_passing, aA cI a_d 40 f_d, aA cI a_hears 10 f_hears, aA cI a_near 10 f_near])) (gQv (dC, dI) (gT cI cB cO) sz [oX7 a_t a_d a_e a_kept v_isKept a_found a_tape v_taped v_gone a_hears a_near a_firstDay a_daily v_begin v_round v_leastFar v_leastWhere v_mostLed a_heardNow v_firstMove v_at v_sort v_from v_value v_fault a_bitsOf a_sizeOf a_number a_passing, aA cI a_d 40 f_d, aA cI a_hears 10 f_hears, aA cI a_near 10 f_near] [oX7 a_t a_d a_e a_kept v_isKept a_found a_tape v_taped v_gone a_hears a_near a_firstDay a_daily v_begin v_round v_leastFar v_leastWhere v_mostLed a_heardNow v_firstMove v_at v_sort v_from v_value v_fault a_bitsOf a_sizeOf a_number a_passing, aA cI a_d 40 f_d, aA cI a_hears 10 o0, aA cI a_near 10 o1]) 0 0 (va_A [oX7 a_t a_d a_e a_kept v_isKept a_found a_tape v_taped v_gone a_hears a_near a_firstDay a_daily v_begin v_round v_leastFar v_leastWhere v_mostLed a_heardNow v_firstMove v_at v_sort v_from v_value v_fault a_bitsOf a_sizeOf a_number a_passing, aA cI a_d 40 f_d, aA cI a_hears 10 f_hears, aA cI a_near 10 f_near] sz) := by
  refine g_metV (Out := (Nat → Int32) × (Nat → Int32)) (fun oo => [oX7 a_t a_d a_e a_kept v_isKept a_found a_tape v_taped v_gone a_hears a_near a_firstDay a_daily v_begin v_round v_leastFar v_leastWhere v_mostLed a_heardNow v_firstMove v_at v_sort v_from v_value v_fault a_bitsOf a_sizeOf a_number a_passing, aA cI a_d 40 f_d, aA cI a_hears 10 oo.1, aA cI a_near 10 oo.2]) (o0, o1) (own := RX7) (lv := [(0, .ref a_t)]) (by decide) rfl rfl (Nat.le_of_ble_eq_true rfl) rfl ?_
  intro p e s m args below meth c Q ls C hret hV hl
  obtain ⟨out, hout⟩ : ∃ z : (Nat → Int32) × (Nat → Int32), z = (o0, o1) := ⟨_, rfl⟩
  rw [← hout] at hF hret
  obtain ⟨H0, hH0⟩ : ∃ z : Heap, z = s.heap := ⟨_, rfl⟩
  obtain ⟨A0, hA0⟩ : ∃ z : Nat → Prop, z = va_A [oX7 a_t a_d a_e a_kept v_isKept a_found a_tape v_taped v_gone a_hears a_near a_firstDay a_daily v_begin v_round v_leastFar v_leastWhere v_mostLed a_heardNow v_firstMove v_at v_sort v_from v_value v_fault a_bitsOf a_sizeOf a_number a_passing, aA cI a_d 40 f_d, aA cI a_hears 10 f_hears, aA cI a_near 10 f_near] s.heap.size := ⟨_, rfl⟩
  rw [← hA0] at hret hV
  rw [← hH0] at hret hV
  rw [← hH0]
  obtain ⟨H, locs, hH⟩ : ∃ (z : Heap) (y : List Loc), z = H0 ∧ y = [] := ⟨_, _, rfl, rfl⟩
  rw [← hH.1, ← hH.2]
  have hV : gV (dC, dI) (gT cI cB cO) A0 H0 s [oX7 a_t a_d a_e a_kept v_isKept a_found a_tape v_taped v_gone a_hears a_near a_firstDay a_daily v_begin v_round v_leastFar v_leastWhere v_mostLed a_heardNow v_firstMove v_at v_sort v_from v_value v_fault a_bitsOf a_sizeOf a_number a_passing, aA cI a_d 40 f_d, aA cI a_hears 10 f_hears, aA cI a_near 10 f_near] H locs := by rw [hH.1, hH.2]; exact hV
  unfold F_X7_listen at hF
  refine lv_iconst (v := 0) C.1 C.2.1 dX7_listen_0 rfl ?_
  refine lv_istore_n (lv' := [(1, .int 0), (0, .ref a_t)]) C.1 C.2.1 dX7_listen_1 rfl hl (by decide) rfl (fun ls hl => ?_)
  have hL2 : ∀ (n : Nat) (s1 : Int32) (t2 : Nat → Int32) (t3 : Nat → Int32) (H : Heap) (locs : List Loc) (ls : Array Slot), gV (dC, dI) (gT cI cB cO) A0 H0 s [oX7 a_t a_d a_e a_kept v_isKept a_found a_tape v_taped v_gone a_hears a_near a_firstDay a_daily v_begin v_round v_leastFar v_leastWhere v_mostLed a_heardNow v_firstMove v_at v_sort v_from v_value v_fault a_bitsOf a_sizeOf a_number a_passing, aA cI a_d 40 f_d, aA cI a_hears 10 t2, aA cI a_near 10 t3] H locs → lv_has ls 3 [(0, .ref a_t), (1, .int s1)] → L_X7_listen_2 f_d n0 v_gone n s1 t2 t3 = some out → W p l e rmX7_listen s m args below meth c H locs 0 0 Q (F0 m 2 ls []) := by
    intro n
    induction n with
    | zero => intro s1 t2 t3 H locs ls hV hl hF; exact lpp3_z hF
    | succ n ih2 =>
      intro s1 t2 t3 H locs ls hV hl hF
      obtain ⟨kk2, hk2, hF⟩ := lpp3_g hF
      have hq2 : ∀ (s1 : Int32) (t2 : Nat → Int32) (t3 : Nat → Int32), kk2 s1 t2 t3 = some out → L_X7_listen_2 f_d n0 v_gone n s1 t2 t3 = some out := fun _ _ _ h => by rw [hk2] at h; exact h
      refine lv_iload_n C.1 C.2.1 dX7_listen_2 rfl (lv_at hl 1 rfl) ?_
      refine lv_aload_n C.1 C.2.1 dX7_listen_3 rfl (lv_at hl 0 rfl) ?_
      refine g_get C hV flX7_listen_7 0 rfl rfl dX7_listen_4 ?_
      refine lv_iconst (v := 0) C.1 C.2.1 dX7_listen_7 rfl ?_
      refine g_iald C hV 1 rfl hF dX7_listen_8 (fun x4 hF => ?_)
      refine g_icmp_ge (tgt := 86) C hF dX7_listen_9 rfl (fun hF => ?_) (fun hF => ?_)
      · exact hret (t2, t3) _ _ _ _ dX7_listen_86 hF hV
      refine lv_aload_n C.1 C.2.1 dX7_listen_12 rfl (lv_at hl 0 rfl) ?_
      refine lv_iload_n C.1 C.2.1 dX7_listen_13 rfl (lv_at hl 1 rfl) ?_
      obtain ⟨x5, hc, hF⟩ := bd1_s hF
      refine g_cVi (ws' := [oX7 a_t a_d a_e a_kept v_isKept a_found a_tape v_taped v_gone a_hears a_near a_firstDay a_daily v_begin v_round v_leastFar v_leastWhere v_mostLed a_heardNow v_firstMove v_at v_sort v_from v_value v_fault a_bitsOf a_sizeOf a_number a_passing, aA cI a_d 40 f_d, aA cI a_hears 10 t2, aA cI a_near 10 t3]) (wr := [aA cI a_hears 10 t2, aA cI a_near 10 t3]) C hV (k_X7_kind l dC dI cI cB cO n0 H.size a_t a_d a_e a_kept a_found a_tape a_hears a_near a_firstDay a_daily a_heardNow a_bitsOf a_sizeOf a_number a_passing v_isKept v_taped v_gone v_begin v_round v_leastFar v_leastWhere v_mostLed v_firstMove v_at v_sort v_from v_value v_fault f_d s1 hc) mdX7_kind gX7_listen_X7_kind rfl rfl ⟨Nat.le_of_ble_eq_true rfl, Nat.le_of_ble_eq_true rfl⟩ [0, 1] [2, 3] [2, 3, 0, 1] rfl rfl rfl rfl rfl rfl rfl rfl rfl rfl hl.1 (Nat.le_of_ble_eq_true rfl) rfl dX7_listen_14 (fun H locs hV => ?_)
      refine lv_istore_n (lv' := [(2, .int x5), (0, .ref a_t), (1, .int s1)]) C.1 C.2.1 dX7_listen_17 rfl hl (by decide) rfl (fun ls hl => ?_)
      refine lv_aload_n C.1 C.2.1 dX7_listen_18 rfl (lv_at hl 1 rfl) ?_
      refine g_get C hV flX7_listen_33 0 rfl rfl dX7_listen_19 ?_
      refine lv_iload_n C.1 C.2.1 dX7_listen_22 rfl (lv_at hl 2 rfl) ?_
      refine lv_aload_n C.1 C.2.1 dX7_listen_23 rfl (lv_at hl 1 rfl) ?_
      refine lv_iload_n C.1 C.2.1 dX7_listen_24 rfl (lv_at hl 2 rfl) ?_
      refine lv_aload_n C.1 C.2.1 dX7_listen_25 rfl (lv_at hl 1 rfl) ?_
      refine g_get C hV flX7_listen_7 0 rfl rfl dX7_listen_26 ?_
      refine lv_iconst (v := 0) C.1 C.2.1 dX7_listen_29 rfl ?_
      refine g_iald C hV 1 rfl hF dX7_listen_30 (fun x6 hF => ?_)
      obtain ⟨x7, hc, hF⟩ := bd1_s hF
      refine g_cVi (ws' := [oX7 a_t a_d a_e a_kept v_isKept a_found a_tape v_taped v_gone a_hears a_near a_firstDay a_daily v_begin v_round v_leastFar v_leastWhere v_mostLed a_heardNow v_firstMove v_at v_sort v_from v_value v_fault a_bitsOf a_sizeOf a_number a_passing, aA cI a_d 40 f_d, aA cI a_hears 10 t2, aA cI a_near 10 t3]) (wr := [aA cI a_hears 10 t2, aA cI a_near 10 t3]) C hV (k_X7_nearestOf l dC dI cI cB cO n0 H.size a_t a_d a_e a_kept a_found a_tape a_hears a_near a_firstDay a_daily a_heardNow a_bitsOf a_sizeOf a_number a_passing v_isKept v_taped v_gone v_begin v_round v_leastFar v_leastWhere v_mostLed v_firstMove v_at v_sort v_from v_value v_fault f_d s1 x6 hc) mdX7_nearestOf gX7_listen_X7_nearestOf rfl rfl ⟨Nat.le_of_ble_eq_true rfl, Nat.le_of_ble_eq_true rfl⟩ [0, 1] [2, 3] [2, 3, 0, 1] rfl rfl rfl rfl rfl rfl rfl rfl rfl rfl hl.1 (Nat.le_of_ble_eq_true rfl) rfl dX7_listen_31 (fun H locs hV => ?_)
      refine g_iast C hV 3 rfl hF (fun gq => [oX7 a_t a_d a_e a_kept v_isKept a_found a_tape v_taped v_gone a_hears a_near a_firstDay a_daily v_begin v_round v_leastFar v_leastWhere v_mostLed a_heardNow v_firstMove v_at v_sort v_from v_value v_fault a_bitsOf a_sizeOf a_number a_passing, aA cI a_d 40 f_d, aA cI a_hears 10 t2, aA cI a_near 10 gq]) (fun _ => rfl) dX7_listen_34 (fun g8 H locs hF hV => ?_)
      refine lv_aload_n C.1 C.2.1 dX7_listen_35 rfl (lv_at hl 1 rfl) ?_
      refine g_get C hV flX7_listen_30 0 rfl rfl dX7_listen_36 ?_
      refine lv_iload_n C.1 C.2.1 dX7_listen_39 rfl (lv_at hl 2 rfl) ?_
      refine lv_iload_n C.1 C.2.1 dX7_listen_40 rfl (lv_at hl 0 rfl) ?_
      refine lv_iconst (v := 1) C.1 C.2.1 dX7_listen_41 rfl ?_
      have hJ50 : ∀ (k9 : Int32) (H : Heap) (locs : List Loc) (ls : Array Slot), gV (dC, dI) (gT cI cB cO) A0 H0 s [oX7 a_t a_d a_e a_kept v_isKept a_found a_tape v_taped v_gone a_hears a_near a_firstDay a_daily v_begin v_round v_leastFar v_leastWhere v_mostLed a_heardNow v_firstMove v_at v_sort v_from v_value v_fault a_bitsOf a_sizeOf a_number a_passing, aA cI a_d 40 f_d, aA cI a_hears 10 t2, aA cI a_near 10 g8] H locs → lv_has ls 3 [(0, .ref a_t), (1, .int s1)] → J_X7_listen_50 n0 v_gone f_d s1 t2 k9 kk2 g8 = some out → W p l e rmX7_listen s m args below meth c H locs 0 0 Q (F0 m 50 ls [.int k9, .ref a_hears]) := by
        intro k9 H locs ls hV hl hF
        unfold J_X7_listen_50 at hF
        refine lv_aload_n C.1 C.2.1 dX7_listen_50 rfl (lv_at hl 0 rfl) ?_
        refine lv_iload_n C.1 C.2.1 dX7_listen_51 rfl (lv_at hl 1 rfl) ?_
        refine lv_iload_n C.1 C.2.1 dX7_listen_52 rfl (lv_at hl 1 rfl) ?_
        obtain ⟨x10, hc, hF⟩ := bd1_s hF
        refine g_cVi (ws' := [oX7 a_t a_d a_e a_kept v_isKept a_found a_tape v_taped v_gone a_hears a_near a_firstDay a_daily v_begin v_round v_leastFar v_leastWhere v_mostLed a_heardNow v_firstMove v_at v_sort v_from v_value v_fault a_bitsOf a_sizeOf a_number a_passing, aA cI a_d 40 f_d, aA cI a_hears 10 t2, aA cI a_near 10 g8]) (wr := [aA cI a_hears 10 t2, aA cI a_near 10 g8]) C hV (k_X7_nearestOf l dC dI cI cB cO n0 H.size a_t a_d a_e a_kept a_found a_tape a_hears a_near a_firstDay a_daily a_heardNow a_bitsOf a_sizeOf a_number a_passing v_isKept v_taped v_gone v_begin v_round v_leastFar v_leastWhere v_mostLed v_firstMove v_at v_sort v_from v_value v_fault f_d s1 s1 hc) mdX7_nearestOf gX7_listen_X7_nearestOf rfl rfl ⟨Nat.le_of_ble_eq_true rfl, Nat.le_of_ble_eq_true rfl⟩ [0, 1] [2, 3] [2, 3, 0, 1] rfl rfl rfl rfl rfl rfl rfl rfl rfl rfl hl.1 (Nat.le_of_ble_eq_true rfl) rfl dX7_listen_53 (fun H locs hV => ?_)
        refine lv_goto (tgt := 79) C.1 C.2.1 dX7_listen_56 rfl ?_
        refine g_iast C hV 2 rfl hF (fun gq => [oX7 a_t a_d a_e a_kept v_isKept a_found a_tape v_taped v_gone a_hears a_near a_firstDay a_daily v_begin v_round v_leastFar v_leastWhere v_mostLed a_heardNow v_firstMove v_at v_sort v_from v_value v_fault a_bitsOf a_sizeOf a_number a_passing, aA cI a_d 40 f_d, aA cI a_hears 10 gq, aA cI a_near 10 g8]) (fun _ => rfl) dX7_listen_79 (fun g11 H locs hF hV => ?_)
        refine g_iinc C hF dX7_listen_80 (d := 1) rfl hl (j := 1) rfl (by decide) (fun y => [(1, .int y), (0, .ref a_t)]) (fun _ => rfl) (fun x12 ls hF hl => ?_)
        refine lv_goto (tgt := 2) C.1 C.2.1 dX7_listen_83 rfl ?_
        exact ih2 x12 g11 g8 H locs ls hV (lv_sub hl [1, 0] rfl) (hq2 x12 g11 g8 hF)
      refine g_icmp_eq (tgt := 50) C hF dX7_listen_42 rfl (fun hF => ?_) (fun hF => ?_)
      · exact hJ50 s1 H locs ls hV (lv_sub hl [1, 2] rfl) hF
      refine lv_iload_n C.1 C.2.1 dX7_listen_45 rfl (lv_at hl 0 rfl) ?_
      refine lv_iconst (v := 4) C.1 C.2.1 dX7_listen_46 rfl ?_
      refine g_icmp_ne (tgt := 59) C hF dX7_listen_47 rfl (fun hF => ?_) (fun hF => ?_)
      · refine lv_iload_n C.1 C.2.1 dX7_listen_59 rfl (lv_at hl 0 rfl) ?_
        refine lv_bipush (v := 6) C.1 C.2.1 dX7_listen_60 rfl ?_
        refine g_icmp_ne (tgt := 73) C hF dX7_listen_62 rfl (fun hF => ?_) (fun hF => ?_)
        · refine lv_aload_n C.1 C.2.1 dX7_listen_73 rfl (lv_at hl 1 rfl) ?_
          refine g_get C hV flX7_listen_33 0 rfl rfl dX7_listen_74 ?_
          refine lv_iload_n C.1 C.2.1 dX7_listen_77 rfl (lv_at hl 2 rfl) ?_
          refine g_iald C hV 3 rfl hF dX7_listen_78 (fun x13 hF => ?_)
          refine g_iast C hV 2 rfl hF (fun gq => [oX7 a_t a_d a_e a_kept v_isKept a_found a_tape v_taped v_gone a_hears a_near a_firstDay a_daily v_begin v_round v_leastFar v_leastWhere v_mostLed a_heardNow v_firstMove v_at v_sort v_from v_value v_fault a_bitsOf a_sizeOf a_number a_passing, aA cI a_d 40 f_d, aA cI a_hears 10 gq, aA cI a_near 10 g8]) (fun _ => rfl) dX7_listen_79 (fun g14 H locs hF hV => ?_)
          refine g_iinc C hF dX7_listen_80 (d := 1) rfl hl (j := 2) rfl (by decide) (fun y => [(1, .int y), (2, .int x5), (0, .ref a_t)]) (fun _ => rfl) (fun x15 ls hF hl => ?_)
          refine lv_goto (tgt := 2) C.1 C.2.1 dX7_listen_83 rfl ?_
          exact ih2 x15 g14 g8 H locs ls hV (lv_sub hl [2, 0] rfl) (hq2 x15 g14 g8 hF)
        refine lv_aload_n C.1 C.2.1 dX7_listen_65 rfl (lv_at hl 1 rfl) ?_
        refine lv_iload_n C.1 C.2.1 dX7_listen_66 rfl (lv_at hl 2 rfl) ?_
        obtain ⟨x16, hc, hF⟩ := bd1_s hF
        refine g_cVi (ws' := [oX7 a_t a_d a_e a_kept v_isKept a_found a_tape v_taped v_gone a_hears a_near a_firstDay a_daily v_begin v_round v_leastFar v_leastWhere v_mostLed a_heardNow v_firstMove v_at v_sort v_from v_value v_fault a_bitsOf a_sizeOf a_number a_passing, aA cI a_d 40 f_d, aA cI a_hears 10 t2, aA cI a_near 10 g8]) (wr := [aA cI a_hears 10 t2, aA cI a_near 10 g8]) C hV (k_X7_farthestOf l dC dI cI cB cO n0 H.size a_t a_d a_e a_kept a_found a_tape a_hears a_near a_firstDay a_daily a_heardNow a_bitsOf a_sizeOf a_number a_passing v_isKept v_taped v_gone v_begin v_round v_leastFar v_leastWhere v_mostLed v_firstMove v_at v_sort v_from v_value v_fault f_d s1 hc) mdX7_farthestOf gX7_listen_X7_farthestOf rfl rfl ⟨Nat.le_of_ble_eq_true rfl, Nat.le_of_ble_eq_true rfl⟩ [0, 1] [2, 3] [2, 3, 0, 1] rfl rfl rfl rfl rfl rfl rfl rfl rfl rfl hl.1 (Nat.le_of_ble_eq_true rfl) rfl dX7_listen_67 (fun H locs hV => ?_)
        refine lv_goto (tgt := 79) C.1 C.2.1 dX7_listen_70 rfl ?_
        refine g_iast C hV 2 rfl hF (fun gq => [oX7 a_t a_d a_e a_kept v_isKept a_found a_tape v_taped v_gone a_hears a_near a_firstDay a_daily v_begin v_round v_leastFar v_leastWhere v_mostLed a_heardNow v_firstMove v_at v_sort v_from v_value v_fault a_bitsOf a_sizeOf a_number a_passing, aA cI a_d 40 f_d, aA cI a_hears 10 gq, aA cI a_near 10 g8]) (fun _ => rfl) dX7_listen_79 (fun g17 H locs hF hV => ?_)
        refine g_iinc C hF dX7_listen_80 (d := 1) rfl hl (j := 2) rfl (by decide) (fun y => [(1, .int y), (2, .int x5), (0, .ref a_t)]) (fun _ => rfl) (fun x18 ls hF hl => ?_)
        refine lv_goto (tgt := 2) C.1 C.2.1 dX7_listen_83 rfl ?_
        exact ih2 x18 g17 g8 H locs ls hV (lv_sub hl [2, 0] rfl) (hq2 x18 g17 g8 hF)
      exact hJ50 s1 H locs ls hV (lv_sub hl [1, 2] rfl) hF
  exact hL2 n0 0 f_hears f_near H locs ls hV (lv_sub hl [1, 0] rfl) hF
abbrev rmX7_willSay : Room := { frames := 1, cells := 0, slots := 0, locals := 21 }
theorem mdX7_willSay : gMd yX7_willSay wsX7_willSay cX7_willSay 5 (some .int) 2 := ⟨⟨_, rfl⟩, by decide +kernel⟩
theorem flX7_willSay_30 : gFL wsX7_willSay RX7 30 7 8 RX7 TX7 28 := ⟨rfl, fun w h => List.mem_cons_of_mem _ (List.mem_append_right _ (h)), Nat.le_of_ble_eq_true rfl, List.mem_cons_of_mem _ (List.mem_append_left _ (List.mem_of_getElem? (i := 0) rfl))⟩
theorem flX7_willSay_33 : gFL wsX7_willSay RX7 33 7 9 RX7 TX7 28 := ⟨rfl, fun w h => List.mem_cons_of_mem _ (List.mem_append_right _ (h)), Nat.le_of_ble_eq_true rfl, List.mem_cons_of_mem _ (List.mem_append_left _ (List.mem_of_getElem? (i := 1) rfl))⟩
def J_X7_willSay_108 (f_hears : Nat → Int32) (p1 : Int32) (x2 : Int32) (k4 : Int32) : Option (Int32) := rd f_hears 10 p1 (fun x6 => (if x6 = ((-1)) then some x2 else nm (1 - k4) (fun x7 => some x7)))
def J_X7_willSay_30 (n0 : Nat) (f_d : Nat → Int32) (p1 : Int32) (x2 : Int32) (f_near : Nat → Int32) (k4 : Int32) (p2 : Int32) (f_hears : Nat → Int32) : Option (Int32) := bd1 (F_X7_kind n0 f_d p1) (fun x5 => (if x5 = 2 then some (1 : Int32) else (if x5 = 3 then some x2 else (if x5 = 4 then rd f_near 10 p1 (fun x8 => (if x8 = ((-1)) then some k4 else rd f_near 10 p1 (fun x9 => nm (p2 >>> (x9 &&& 31)) (fun x10 => nm (x10 &&& 1) (fun x11 => (if x11 = k4 then some k4 else some x2)))))) else (if x5 = 5 then J_X7_willSay_108 f_hears p1 x2 k4 else (if x5 = 6 then J_X7_willSay_108 f_hears p1 x2 k4 else some k4))))))
def F_X7_willSay (n0 : Nat) (f_d : Nat → Int32) (f_hears : Nat → Int32) (f_near : Nat → Int32) (p1 : Int32) (p2 : Int32) : Option (Int32) := nm (p2 >>> (p1 &&& 31)) (fun x1 => nm (x1 &&& 1) (fun x2 => rd f_hears 10 p1 (fun x3 => (if x3 = ((-1)) then J_X7_willSay_30 n0 f_d p1 x2 f_near x2 p2 f_hears else rd f_hears 10 p1 (fun x12 => nm (p2 >>> (x12 &&& 31)) (fun x13 => nm (x13 &&& 1) (fun x14 => J_X7_willSay_30 n0 f_d p1 x2 f_near x14 p2 f_hears)))))))
set_option maxRecDepth 100000 in
set_option maxHeartbeats 4000000 in
theorem k_X7_willSay (l : Launch) (dC : Nat → ClassId) (dI : Nat → Nat → Nat) (cI cB cO : ClassId) (n0 sz : Nat) (a_t : Nat) (a_d : Nat) (a_e : Nat) (a_kept : Nat) (a_found : Nat) (a_tape : Nat) (a_hears : Nat) (a_near : Nat) (a_firstDay : Nat) (a_daily : Nat) (a_heardNow : Nat) (a_bitsOf : Nat) (a_sizeOf : Nat) (a_number : Nat) (a_passing : Nat)   (v_isKept : Int32) (v_taped : Int32) (v_gone : Int32) (v_begin : Int32) (v_round : Int32) (v_leastFar : Int32) (v_leastWhere : Int32) (v_mostLed : Int32) (v_firstMove : Int32) (v_at : Int32) (v_sort : Int32) (v_from : Int32) (v_value : Int64) (v_fault : Int32) (f_d : Nat → Int32) (f_hears : Nat → Int32) (f_near : Nat → Int32) (p1 : Int32) (p2 : Int32)  {ro : Int32} (hF : F_X7_willSay n0 f_d f_hears f_near p1 p2 = some ro) : Met l yX7_willSay wsX7_willSay rmX7_willSay (va_Pc [.ref a_t, .int p1, .int p2] (gPre (dC, dI) (gT cI cB cO) sz [oX7 a_t a_d a_e a_kept v_isKept a_found a_tape v_taped v_gone a_hears a_near a_firstDay a_daily v_begin v_round v_leastFar v_leastWhere v_mostLed a_heardNow v_firstMove v_at v_sort v_from v_value v_fault a_bitsOf a_sizeOf a_number a_passing, aA cI a_d 40 f_d, aA cI a_hears 10 f_hears, aA cI a_near 10 f_near])) (gQi (dC, dI) (gT cI cB cO) sz [oX7 a_t a_d a_e a_kept v_isKept a_found a_tape v_taped v_gone a_hears a_near a_firstDay a_daily v_begin v_round v_leastFar v_leastWhere v_mostLed a_heardNow v_firstMove v_at v_sort v_from v_value v_fault a_bitsOf a_sizeOf a_number a_passing, aA cI a_d 40 f_d, aA cI a_hears 10 f_hears, aA cI a_near 10 f_near] ro [oX7 a_t a_d a_e a_kept v_isKept a_found a_tape v_taped v_gone a_hears a_near a_firstDay a_daily v_begin v_round v_leastFar v_leastWhere v_mostLed a_heardNow v_firstMove v_at v_sort v_from v_value v_fault a_bitsOf a_sizeOf a_number a_passing, aA cI a_d 40 f_d, aA cI a_hears 10 f_hears, aA cI a_near 10 f_near]) 0 0 (va_A [oX7 a_t a_d a_e a_kept v_isKept a_found a_tape v_taped v_gone a_hears a_near a_firstDay a_daily v_begin v_round v_leastFar v_leastWhere v_mostLed a_heardNow v_firstMove v_at v_sort v_from v_value v_fault a_bitsOf a_sizeOf a_number a_passing, aA cI a_d 40 f_d, aA cI a_hears 10 f_hears, aA cI a_near 10 f_near] sz) := by
  refine g_metI (Out := Int32) (fun oo => oo) (fun oo => [oX7 a_t a_d a_e a_kept v_isKept a_found a_tape v_taped v_gone a_hears a_near a_firstDay a_daily v_begin v_round v_leastFar v_leastWhere v_mostLed a_heardNow v_firstMove v_at v_sort v_from v_value v_fault a_bitsOf a_sizeOf a_number a_passing, aA cI a_d 40 f_d, aA cI a_hears 10 f_hears, aA cI a_near 10 f_near]) ro (own := RX7) (lv := [(0, .ref a_t), (1, .int p1), (2, .int p2)]) (by decide) rfl rfl (Nat.le_of_ble_eq_true rfl) rfl ?_
  intro p e s m args below meth c Q ls C hret hV hl
  obtain ⟨out, hout⟩ : ∃ z : Int32, z = ro := ⟨_, rfl⟩
  rw [← hout] at hF hret
  obtain ⟨H0, hH0⟩ : ∃ z : Heap, z = s.heap := ⟨_, rfl⟩
  obtain ⟨A0, hA0⟩ : ∃ z : Nat → Prop, z = va_A [oX7 a_t a_d a_e a_kept v_isKept a_found a_tape v_taped v_gone a_hears a_near a_firstDay a_daily v_begin v_round v_leastFar v_leastWhere v_mostLed a_heardNow v_firstMove v_at v_sort v_from v_value v_fault a_bitsOf a_sizeOf a_number a_passing, aA cI a_d 40 f_d, aA cI a_hears 10 f_hears, aA cI a_near 10 f_near] s.heap.size := ⟨_, rfl⟩
  rw [← hA0] at hret hV
  rw [← hH0] at hret hV
  rw [← hH0]
  obtain ⟨H, locs, hH⟩ : ∃ (z : Heap) (y : List Loc), z = H0 ∧ y = [] := ⟨_, _, rfl, rfl⟩
  rw [← hH.1, ← hH.2]
  have hV : gV (dC, dI) (gT cI cB cO) A0 H0 s [oX7 a_t a_d a_e a_kept v_isKept a_found a_tape v_taped v_gone a_hears a_near a_firstDay a_daily v_begin v_round v_leastFar v_leastWhere v_mostLed a_heardNow v_firstMove v_at v_sort v_from v_value v_fault a_bitsOf a_sizeOf a_number a_passing, aA cI a_d 40 f_d, aA cI a_hears 10 f_hears, aA cI a_near 10 f_near] H locs := by rw [hH.1, hH.2]; exact hV
  unfold F_X7_willSay at hF
  refine lv_iload_n C.1 C.2.1 dX7_willSay_0 rfl (lv_at hl 2 rfl) ?_
  refine lv_iload_n C.1 C.2.1 dX7_willSay_1 rfl (lv_at hl 1 rfl) ?_
  refine g_ishr C hF dX7_willSay_2 (fun x1 hF => ?_)
  refine lv_iconst (v := 1) C.1 C.2.1 dX7_willSay_3 rfl ?_
  refine g_iand C hF dX7_willSay_4 (fun x2 hF => ?_)
  refine lv_istore_n (lv' := [(3, .int x2), (0, .ref a_t), (1, .int p1), (2, .int p2)]) C.1 C.2.1 dX7_willSay_5 rfl hl (by decide) rfl (fun ls hl => ?_)
  refine lv_aload_n C.1 C.2.1 dX7_willSay_6 rfl (lv_at hl 1 rfl) ?_
  refine g_get C hV flX7_willSay_30 0 rfl rfl dX7_willSay_7 ?_
  refine lv_iload_n C.1 C.2.1 dX7_willSay_10 rfl (lv_at hl 2 rfl) ?_
  refine g_iald C hV 2 rfl hF dX7_willSay_11 (fun x3 hF => ?_)
  refine lv_iconst (v := (-1)) C.1 C.2.1 dX7_willSay_12 rfl ?_
  have hJ30 : ∀ (k4 : Int32) (H : Heap) (locs : List Loc) (ls : Array Slot), gV (dC, dI) (gT cI cB cO) A0 H0 s [oX7 a_t a_d a_e a_kept v_isKept a_found a_tape v_taped v_gone a_hears a_near a_firstDay a_daily v_begin v_round v_leastFar v_leastWhere v_mostLed a_heardNow v_firstMove v_at v_sort v_from v_value v_fault a_bitsOf a_sizeOf a_number a_passing, aA cI a_d 40 f_d, aA cI a_hears 10 f_hears, aA cI a_near 10 f_near] H locs → lv_has ls 5 [(0, .ref a_t), (1, .int p1), (2, .int p2), (3, .int x2)] → J_X7_willSay_30 n0 f_d p1 x2 f_near k4 p2 f_hears = some out → W p l e rmX7_willSay s m args below meth c H locs 0 0 Q (F0 m 30 ls [.int k4]) := by
    intro k4 H locs ls hV hl hF
    unfold J_X7_willSay_30 at hF
    refine lv_istore (lv' := [(4, .int k4), (0, .ref a_t), (1, .int p1), (2, .int p2), (3, .int x2)]) C.1 C.2.1 dX7_willSay_30 hl (by decide) rfl (fun ls hl => ?_)
    refine lv_aload_n C.1 C.2.1 dX7_willSay_32 rfl (lv_at hl 1 rfl) ?_
    refine lv_iload_n C.1 C.2.1 dX7_willSay_33 rfl (lv_at hl 2 rfl) ?_
    obtain ⟨x5, hc, hF⟩ := bd1_s hF
    refine g_cVi (ws' := [oX7 a_t a_d a_e a_kept v_isKept a_found a_tape v_taped v_gone a_hears a_near a_firstDay a_daily v_begin v_round v_leastFar v_leastWhere v_mostLed a_heardNow v_firstMove v_at v_sort v_from v_value v_fault a_bitsOf a_sizeOf a_number a_passing, aA cI a_d 40 f_d, aA cI a_hears 10 f_hears, aA cI a_near 10 f_near]) (wr := [aA cI a_hears 10 f_hears, aA cI a_near 10 f_near]) C hV (k_X7_kind l dC dI cI cB cO n0 H.size a_t a_d a_e a_kept a_found a_tape a_hears a_near a_firstDay a_daily a_heardNow a_bitsOf a_sizeOf a_number a_passing v_isKept v_taped v_gone v_begin v_round v_leastFar v_leastWhere v_mostLed v_firstMove v_at v_sort v_from v_value v_fault f_d p1 hc) mdX7_kind gX7_willSay_X7_kind rfl rfl ⟨Nat.le_of_ble_eq_true rfl, Nat.le_of_ble_eq_true rfl⟩ [0, 1] [2, 3] [2, 3, 0, 1] rfl rfl rfl rfl rfl rfl rfl rfl rfl rfl hl.1 (Nat.le_of_ble_eq_true rfl) rfl dX7_willSay_34 (fun H locs hV => ?_)
    have hJ108 : ∀  (H : Heap) (locs : List Loc) (ls : Array Slot), gV (dC, dI) (gT cI cB cO) A0 H0 s [oX7 a_t a_d a_e a_kept v_isKept a_found a_tape v_taped v_gone a_hears a_near a_firstDay a_daily v_begin v_round v_leastFar v_leastWhere v_mostLed a_heardNow v_firstMove v_at v_sort v_from v_value v_fault a_bitsOf a_sizeOf a_number a_passing, aA cI a_d 40 f_d, aA cI a_hears 10 f_hears, aA cI a_near 10 f_near] H locs → lv_has ls 5 [(0, .ref a_t), (1, .int p1), (3, .int x2), (4, .int k4)] → J_X7_willSay_108 f_hears p1 x2 k4 = some out → W p l e rmX7_willSay s m args below meth c H locs 0 0 Q (F0 m 108 ls []) := by
      intro  H locs ls hV hl hF
      unfold J_X7_willSay_108 at hF
      refine lv_aload_n C.1 C.2.1 dX7_willSay_108 rfl (lv_at hl 0 rfl) ?_
      refine g_get C hV flX7_willSay_30 0 rfl rfl dX7_willSay_109 ?_
      refine lv_iload_n C.1 C.2.1 dX7_willSay_112 rfl (lv_at hl 1 rfl) ?_
      refine g_iald C hV 2 rfl hF dX7_willSay_113 (fun x6 hF => ?_)
      refine lv_iconst (v := (-1)) C.1 C.2.1 dX7_willSay_114 rfl ?_
      refine g_icmp_ne (tgt := 122) C hF dX7_willSay_115 rfl (fun hF => ?_) (fun hF => ?_)
      · refine lv_iconst (v := 1) C.1 C.2.1 dX7_willSay_122 rfl ?_
        refine lv_iload C.1 C.2.1 dX7_willSay_123 (lv_at hl 3 rfl) ?_
        refine g_isub C hF dX7_willSay_125 (fun x7 hF => ?_)
        exact hret x7 _ _ _ _ dX7_willSay_126 hF hV
      refine lv_iload_n C.1 C.2.1 dX7_willSay_118 rfl (lv_at hl 2 rfl) ?_
      refine lv_goto (tgt := 126) C.1 C.2.1 dX7_willSay_119 rfl ?_
      exact hret x2 _ _ _ _ dX7_willSay_126 hF hV
    rcases ite_or hF with ⟨hc, hF⟩ | ⟨hc37_2, hF⟩
    · refine lv_tableIn (off := 35) (tgt := 72) C.1 C.2.1 dX7_willSay_37 (by rw [hc]; decide) (by rw [hc]; decide) (by rw [hc]; rfl) rfl ?_
      refine lv_iconst (v := 1) C.1 C.2.1 dX7_willSay_72 rfl ?_
      exact hret (1 : Int32) _ _ _ _ dX7_willSay_73 hF hV
    rcases ite_or hF with ⟨hc, hF⟩ | ⟨hc37_3, hF⟩
    · refine lv_tableIn (off := 37) (tgt := 74) C.1 C.2.1 dX7_willSay_37 (by rw [hc]; decide) (by rw [hc]; decide) (by rw [hc]; rfl) rfl ?_
      refine lv_iload_n C.1 C.2.1 dX7_willSay_74 rfl (lv_at hl 4 rfl) ?_
      exact hret x2 _ _ _ _ dX7_willSay_75 hF hV
    rcases ite_or hF with ⟨hc, hF⟩ | ⟨hc37_4, hF⟩
    · refine lv_tableIn (off := 39) (tgt := 76) C.1 C.2.1 dX7_willSay_37 (by rw [hc]; decide) (by rw [hc]; decide) (by rw [hc]; rfl) rfl ?_
      refine lv_aload_n C.1 C.2.1 dX7_willSay_76 rfl (lv_at hl 1 rfl) ?_
      refine g_get C hV flX7_willSay_33 0 rfl rfl dX7_willSay_77 ?_
      refine lv_iload_n C.1 C.2.1 dX7_willSay_80 rfl (lv_at hl 2 rfl) ?_
      refine g_iald C hV 3 rfl hF dX7_willSay_81 (fun x8 hF => ?_)
      refine lv_iconst (v := (-1)) C.1 C.2.1 dX7_willSay_82 rfl ?_
      refine g_icmp_eq (tgt := 105) C hF dX7_willSay_83 rfl (fun hF => ?_) (fun hF => ?_)
      · refine lv_iload C.1 C.2.1 dX7_willSay_105 (lv_at hl 0 rfl) ?_
        exact hret k4 _ _ _ _ dX7_willSay_107 hF hV
      refine lv_iload_n C.1 C.2.1 dX7_willSay_86 rfl (lv_at hl 3 rfl) ?_
      refine lv_aload_n C.1 C.2.1 dX7_willSay_87 rfl (lv_at hl 1 rfl) ?_
      refine g_get C hV flX7_willSay_33 0 rfl rfl dX7_willSay_88 ?_
      refine lv_iload_n C.1 C.2.1 dX7_willSay_91 rfl (lv_at hl 2 rfl) ?_
      refine g_iald C hV 3 rfl hF dX7_willSay_92 (fun x9 hF => ?_)
      refine g_ishr C hF dX7_willSay_93 (fun x10 hF => ?_)
      refine lv_iconst (v := 1) C.1 C.2.1 dX7_willSay_94 rfl ?_
      refine g_iand C hF dX7_willSay_95 (fun x11 hF => ?_)
      refine lv_iload C.1 C.2.1 dX7_willSay_96 (lv_at hl 0 rfl) ?_
      refine g_icmp_eq (tgt := 105) C hF dX7_willSay_98 rfl (fun hF => ?_) (fun hF => ?_)
      · refine lv_iload C.1 C.2.1 dX7_willSay_105 (lv_at hl 0 rfl) ?_
        exact hret k4 _ _ _ _ dX7_willSay_107 hF hV
      refine lv_iload_n C.1 C.2.1 dX7_willSay_101 rfl (lv_at hl 4 rfl) ?_
      refine lv_goto (tgt := 107) C.1 C.2.1 dX7_willSay_102 rfl ?_
      exact hret x2 _ _ _ _ dX7_willSay_107 hF hV
    rcases ite_or hF with ⟨hc, hF⟩ | ⟨hc37_5, hF⟩
    · refine lv_tableIn (off := 71) (tgt := 108) C.1 C.2.1 dX7_willSay_37 (by rw [hc]; decide) (by rw [hc]; decide) (by rw [hc]; rfl) rfl ?_
      exact hJ108  H locs ls hV (lv_sub hl [1, 2, 4, 0] rfl) hF
    rcases ite_or hF with ⟨hc, hF⟩ | ⟨hc37_6, hF⟩
    · refine lv_tableIn (off := 71) (tgt := 108) C.1 C.2.1 dX7_willSay_37 (by rw [hc]; decide) (by rw [hc]; decide) (by rw [hc]; rfl) rfl ?_
      exact hJ108  H locs ls hV (lv_sub hl [1, 2, 4, 0] rfl) hF
    refine lv_tableOut (tgt := 127) C.1 C.2.1 dX7_willSay_37 (sw_out (fun j h1 h2 => by rcases (show j = 2 ∨ j = 3 ∨ j = 4 ∨ j = 5 ∨ j = 6 by omega) with rfl | rfl | rfl | rfl | rfl <;> first | exact hc37_2 | exact hc37_3 | exact hc37_4 | exact hc37_5 | exact hc37_6)) rfl ?_
    refine lv_iload C.1 C.2.1 dX7_willSay_127 (lv_at hl 0 rfl) ?_
    exact hret k4 _ _ _ _ dX7_willSay_129 hF hV
  refine g_icmp_ne (tgt := 20) C hF dX7_willSay_13 rfl (fun hF => ?_) (fun hF => ?_)
  · refine lv_iload_n C.1 C.2.1 dX7_willSay_20 rfl (lv_at hl 3 rfl) ?_
    refine lv_aload_n C.1 C.2.1 dX7_willSay_21 rfl (lv_at hl 1 rfl) ?_
    refine g_get C hV flX7_willSay_30 0 rfl rfl dX7_willSay_22 ?_
    refine lv_iload_n C.1 C.2.1 dX7_willSay_25 rfl (lv_at hl 2 rfl) ?_
    refine g_iald C hV 2 rfl hF dX7_willSay_26 (fun x12 hF => ?_)
    refine g_ishr C hF dX7_willSay_27 (fun x13 hF => ?_)
    refine lv_iconst (v := 1) C.1 C.2.1 dX7_willSay_28 rfl ?_
    refine g_iand C hF dX7_willSay_29 (fun x14 hF => ?_)
    exact hJ30 x14 H locs ls hV (lv_sub hl [1, 2, 3, 0] rfl) hF
  refine lv_iload_n C.1 C.2.1 dX7_willSay_16 rfl (lv_at hl 0 rfl) ?_
  refine lv_goto (tgt := 30) C.1 C.2.1 dX7_willSay_17 rfl ?_
  exact hJ30 x2 H locs ls hV (lv_sub hl [1, 2, 3, 0] rfl) hF
abbrev rmX7_nextOf : Room := { frames := 2, cells := 0, slots := 0, locals := 45 }
theorem mdX7_nextOf : gMd yX7_nextOf wsX7_nextOf cX7_nextOf 4 (some .int) 1 := ⟨⟨_, rfl⟩, by decide +kernel⟩
theorem flX7_nextOf_7 : gFL wsX7_nextOf RX7 7 7 0 RX7 TX7 28 := ⟨rfl, fun w h => List.mem_cons_of_mem _ (List.mem_append_right _ (h)), Nat.le_of_ble_eq_true rfl, List.mem_cons_of_mem _ (List.mem_append_left _ (List.mem_of_getElem? (i := 0) rfl))⟩
def L_X7_nextOf_4 (f_d : Nat → Int32) (n0 : Nat) (f_hears : Nat → Int32) (f_near : Nat → Int32) (p1 : Int32) : Nat → Int32 → Int32 → Option (Int32) := lpp2 (fun s1 s2 kk4 => rd f_d 40 0 (fun x3 => (if x3 ≤ s2 then some s1 else bd1 (F_X7_willSay n0 f_d f_hears f_near s2 p1) (fun x4 => nm (x4 <<< (s2 &&& 31)) (fun x5 => nm (s1 ||| x5) (fun x6 => nm (s2 + 1) (fun x7 => kk4 x6 x7)))))))
def F_X7_nextOf (n0 : Nat) (f_d : Nat → Int32) (f_hears : Nat → Int32) (f_near : Nat → Int32) (p1 : Int32) : Option (Int32) := L_X7_nextOf_4 f_d n0 f_hears f_near p1 n0 0 0
set_option maxRecDepth 100000 in
set_option maxHeartbeats 4000000 in
theorem k_X7_nextOf (l : Launch) (dC : Nat → ClassId) (dI : Nat → Nat → Nat) (cI cB cO : ClassId) (n0 sz : Nat) (a_t : Nat) (a_d : Nat) (a_e : Nat) (a_kept : Nat) (a_found : Nat) (a_tape : Nat) (a_hears : Nat) (a_near : Nat) (a_firstDay : Nat) (a_daily : Nat) (a_heardNow : Nat) (a_bitsOf : Nat) (a_sizeOf : Nat) (a_number : Nat) (a_passing : Nat)   (v_isKept : Int32) (v_taped : Int32) (v_gone : Int32) (v_begin : Int32) (v_round : Int32) (v_leastFar : Int32) (v_leastWhere : Int32) (v_mostLed : Int32) (v_firstMove : Int32) (v_at : Int32) (v_sort : Int32) (v_from : Int32) (v_value : Int64) (v_fault : Int32) (f_d : Nat → Int32) (f_hears : Nat → Int32) (f_near : Nat → Int32) (p1 : Int32)  {ro : Int32} (hF : F_X7_nextOf n0 f_d f_hears f_near p1 = some ro) : Met l yX7_nextOf wsX7_nextOf rmX7_nextOf (va_Pc [.ref a_t, .int p1] (gPre (dC, dI) (gT cI cB cO) sz [oX7 a_t a_d a_e a_kept v_isKept a_found a_tape v_taped v_gone a_hears a_near a_firstDay a_daily v_begin v_round v_leastFar v_leastWhere v_mostLed a_heardNow v_firstMove v_at v_sort v_from v_value v_fault a_bitsOf a_sizeOf a_number a_passing, aA cI a_d 40 f_d, aA cI a_hears 10 f_hears, aA cI a_near 10 f_near])) (gQi (dC, dI) (gT cI cB cO) sz [oX7 a_t a_d a_e a_kept v_isKept a_found a_tape v_taped v_gone a_hears a_near a_firstDay a_daily v_begin v_round v_leastFar v_leastWhere v_mostLed a_heardNow v_firstMove v_at v_sort v_from v_value v_fault a_bitsOf a_sizeOf a_number a_passing, aA cI a_d 40 f_d, aA cI a_hears 10 f_hears, aA cI a_near 10 f_near] ro [oX7 a_t a_d a_e a_kept v_isKept a_found a_tape v_taped v_gone a_hears a_near a_firstDay a_daily v_begin v_round v_leastFar v_leastWhere v_mostLed a_heardNow v_firstMove v_at v_sort v_from v_value v_fault a_bitsOf a_sizeOf a_number a_passing, aA cI a_d 40 f_d, aA cI a_hears 10 f_hears, aA cI a_near 10 f_near]) 0 0 (va_A [oX7 a_t a_d a_e a_kept v_isKept a_found a_tape v_taped v_gone a_hears a_near a_firstDay a_daily v_begin v_round v_leastFar v_leastWhere v_mostLed a_heardNow v_firstMove v_at v_sort v_from v_value v_fault a_bitsOf a_sizeOf a_number a_passing, aA cI a_d 40 f_d, aA cI a_hears 10 f_hears, aA cI a_near 10 f_near] sz) := by
  refine g_metI (Out := Int32) (fun oo => oo) (fun oo => [oX7 a_t a_d a_e a_kept v_isKept a_found a_tape v_taped v_gone a_hears a_near a_firstDay a_daily v_begin v_round v_leastFar v_leastWhere v_mostLed a_heardNow v_firstMove v_at v_sort v_from v_value v_fault a_bitsOf a_sizeOf a_number a_passing, aA cI a_d 40 f_d, aA cI a_hears 10 f_hears, aA cI a_near 10 f_near]) ro (own := RX7) (lv := [(0, .ref a_t), (1, .int p1)]) (by decide) rfl rfl (Nat.le_of_ble_eq_true rfl) rfl ?_
  intro p e s m args below meth c Q ls C hret hV hl
  obtain ⟨out, hout⟩ : ∃ z : Int32, z = ro := ⟨_, rfl⟩
  rw [← hout] at hF hret
  obtain ⟨H0, hH0⟩ : ∃ z : Heap, z = s.heap := ⟨_, rfl⟩
  obtain ⟨A0, hA0⟩ : ∃ z : Nat → Prop, z = va_A [oX7 a_t a_d a_e a_kept v_isKept a_found a_tape v_taped v_gone a_hears a_near a_firstDay a_daily v_begin v_round v_leastFar v_leastWhere v_mostLed a_heardNow v_firstMove v_at v_sort v_from v_value v_fault a_bitsOf a_sizeOf a_number a_passing, aA cI a_d 40 f_d, aA cI a_hears 10 f_hears, aA cI a_near 10 f_near] s.heap.size := ⟨_, rfl⟩
  rw [← hA0] at hret hV
  rw [← hH0] at hret hV
  rw [← hH0]
  obtain ⟨H, locs, hH⟩ : ∃ (z : Heap) (y : List Loc), z = H0 ∧ y = [] := ⟨_, _, rfl, rfl⟩
  rw [← hH.1, ← hH.2]
  have hV : gV (dC, dI) (gT cI cB cO) A0 H0 s [oX7 a_t a_d a_e a_kept v_isKept a_found a_tape v_taped v_gone a_hears a_near a_firstDay a_daily v_begin v_round v_leastFar v_leastWhere v_mostLed a_heardNow v_firstMove v_at v_sort v_from v_value v_fault a_bitsOf a_sizeOf a_number a_passing, aA cI a_d 40 f_d, aA cI a_hears 10 f_hears, aA cI a_near 10 f_near] H locs := by rw [hH.1, hH.2]; exact hV
  unfold F_X7_nextOf at hF
  refine lv_iconst (v := 0) C.1 C.2.1 dX7_nextOf_0 rfl ?_
  refine lv_istore_n (lv' := [(2, .int 0), (0, .ref a_t), (1, .int p1)]) C.1 C.2.1 dX7_nextOf_1 rfl hl (by decide) rfl (fun ls hl => ?_)
  refine lv_iconst (v := 0) C.1 C.2.1 dX7_nextOf_2 rfl ?_
  refine lv_istore_n (lv' := [(3, .int 0), (2, .int 0), (0, .ref a_t), (1, .int p1)]) C.1 C.2.1 dX7_nextOf_3 rfl hl (by decide) rfl (fun ls hl => ?_)
  have hL4 : ∀ (n : Nat) (s1 : Int32) (s2 : Int32) (H : Heap) (locs : List Loc) (ls : Array Slot), gV (dC, dI) (gT cI cB cO) A0 H0 s [oX7 a_t a_d a_e a_kept v_isKept a_found a_tape v_taped v_gone a_hears a_near a_firstDay a_daily v_begin v_round v_leastFar v_leastWhere v_mostLed a_heardNow v_firstMove v_at v_sort v_from v_value v_fault a_bitsOf a_sizeOf a_number a_passing, aA cI a_d 40 f_d, aA cI a_hears 10 f_hears, aA cI a_near 10 f_near] H locs → lv_has ls 4 [(0, .ref a_t), (1, .int p1), (2, .int s1), (3, .int s2)] → L_X7_nextOf_4 f_d n0 f_hears f_near p1 n s1 s2 = some out → W p l e rmX7_nextOf s m args below meth c H locs 0 0 Q (F0 m 4 ls []) := by
    intro n
    induction n with
    | zero => intro s1 s2 H locs ls hV hl hF; exact lpp2_z hF
    | succ n ih4 =>
      intro s1 s2 H locs ls hV hl hF
      obtain ⟨kk4, hk4, hF⟩ := lpp2_g hF
      have hq4 : ∀ (s1 : Int32) (s2 : Int32), kk4 s1 s2 = some out → L_X7_nextOf_4 f_d n0 f_hears f_near p1 n s1 s2 = some out := fun _ _ h => by rw [hk4] at h; exact h
      refine lv_iload_n C.1 C.2.1 dX7_nextOf_4 rfl (lv_at hl 3 rfl) ?_
      refine lv_aload_n C.1 C.2.1 dX7_nextOf_5 rfl (lv_at hl 0 rfl) ?_
      refine g_get C hV flX7_nextOf_7 0 rfl rfl dX7_nextOf_6 ?_
      refine lv_iconst (v := 0) C.1 C.2.1 dX7_nextOf_9 rfl ?_
      refine g_iald C hV 1 rfl hF dX7_nextOf_10 (fun x3 hF => ?_)
      refine g_icmp_ge (tgt := 31) C hF dX7_nextOf_11 rfl (fun hF => ?_) (fun hF => ?_)
      · refine lv_iload_n C.1 C.2.1 dX7_nextOf_31 rfl (lv_at hl 2 rfl) ?_
        exact hret s1 _ _ _ _ dX7_nextOf_32 hF hV
      refine lv_iload_n C.1 C.2.1 dX7_nextOf_14 rfl (lv_at hl 2 rfl) ?_
      refine lv_aload_n C.1 C.2.1 dX7_nextOf_15 rfl (lv_at hl 0 rfl) ?_
      refine lv_iload_n C.1 C.2.1 dX7_nextOf_16 rfl (lv_at hl 3 rfl) ?_
      refine lv_iload_n C.1 C.2.1 dX7_nextOf_17 rfl (lv_at hl 1 rfl) ?_
      obtain ⟨x4, hc, hF⟩ := bd1_s hF
      refine g_cVi (ws' := [oX7 a_t a_d a_e a_kept v_isKept a_found a_tape v_taped v_gone a_hears a_near a_firstDay a_daily v_begin v_round v_leastFar v_leastWhere v_mostLed a_heardNow v_firstMove v_at v_sort v_from v_value v_fault a_bitsOf a_sizeOf a_number a_passing, aA cI a_d 40 f_d, aA cI a_hears 10 f_hears, aA cI a_near 10 f_near]) (wr := []) C hV (k_X7_willSay l dC dI cI cB cO n0 H.size a_t a_d a_e a_kept a_found a_tape a_hears a_near a_firstDay a_daily a_heardNow a_bitsOf a_sizeOf a_number a_passing v_isKept v_taped v_gone v_begin v_round v_leastFar v_leastWhere v_mostLed v_firstMove v_at v_sort v_from v_value v_fault f_d f_hears f_near s2 p1 hc) mdX7_willSay gX7_nextOf_X7_willSay rfl rfl ⟨Nat.le_of_ble_eq_true rfl, Nat.le_of_ble_eq_true rfl⟩ [0, 1, 2, 3] [] [0, 1, 2, 3] rfl rfl rfl rfl rfl rfl rfl rfl rfl rfl hl.1 (Nat.le_of_ble_eq_true rfl) rfl dX7_nextOf_18 (fun H locs hV => ?_)
      refine lv_iload_n C.1 C.2.1 dX7_nextOf_21 rfl (lv_at hl 3 rfl) ?_
      refine g_ishl C hF dX7_nextOf_22 (fun x5 hF => ?_)
      refine g_ior C hF dX7_nextOf_23 (fun x6 hF => ?_)
      refine lv_istore_n (lv' := [(2, .int x6), (0, .ref a_t), (1, .int p1), (3, .int s2)]) C.1 C.2.1 dX7_nextOf_24 rfl hl (by decide) rfl (fun ls hl => ?_)
      refine g_iinc C hF dX7_nextOf_25 (d := 1) rfl hl (j := 3) rfl (by decide) (fun y => [(3, .int y), (2, .int x6), (0, .ref a_t), (1, .int p1)]) (fun _ => rfl) (fun x7 ls hF hl => ?_)
      refine lv_goto (tgt := 4) C.1 C.2.1 dX7_nextOf_28 rfl ?_
      exact ih4 x6 x7 H locs ls hV (lv_sub hl [2, 3, 1, 0] rfl) (hq4 x6 x7 hF)
  exact hL4 n0 0 0 H locs ls hV (lv_sub hl [2, 3, 1, 0] rfl) hF
abbrev rmX7_goThrough : Room := { frames := 3, cells := 0, slots := 0, locals := 68 }
theorem mdX7_goThrough : gMd yX7_goThrough wsX7_goThrough cX7_goThrough 4 none 1 := ⟨⟨_, rfl⟩, by decide +kernel⟩
theorem flX7_goThrough_36 : gFL wsX7_goThrough RX7 36 7 10 RX7 TX7 28 := ⟨rfl, fun w h => List.mem_cons_of_mem _ (List.mem_append_right _ (h)), Nat.le_of_ble_eq_true rfl, List.mem_cons_of_mem _ (List.mem_append_left _ (List.mem_of_getElem? (i := 0) rfl))⟩
theorem flX7_goThrough_90 : gFL wsX7_goThrough RX7 90 7 12 RX7 TX7 28 := ⟨rfl, fun w h => List.mem_cons_of_mem _ (List.mem_append_right _ (h)), Nat.le_of_ble_eq_true rfl, List.mem_cons_of_mem _ (List.mem_append_left _ (List.mem_of_getElem? (i := 2) rfl))⟩
theorem fpX7_goThrough_90 : gFP wsX7_goThrough RX7 90 7 12 RX7 TX7 28 .int := ⟨flX7_goThrough_90, ⟨tyX7, tyX7_ok⟩, nmX7, rfl, by decide +kernel⟩
theorem flX7_goThrough_93 : gFL wsX7_goThrough RX7 93 7 13 RX7 TX7 28 := ⟨rfl, fun w h => List.mem_cons_of_mem _ (List.mem_append_right _ (h)), Nat.le_of_ble_eq_true rfl, List.mem_cons_of_mem _ (List.mem_append_left _ (List.mem_of_getElem? (i := 3) rfl))⟩
theorem fpX7_goThrough_93 : gFP wsX7_goThrough RX7 93 7 13 RX7 TX7 28 .int := ⟨flX7_goThrough_93, ⟨tyX7, tyX7_ok⟩, nmX7, rfl, by decide +kernel⟩
theorem flX7_goThrough_39 : gFL wsX7_goThrough RX7 39 7 11 RX7 TX7 28 := ⟨rfl, fun w h => List.mem_cons_of_mem _ (List.mem_append_right _ (h)), Nat.le_of_ble_eq_true rfl, List.mem_cons_of_mem _ (List.mem_append_left _ (List.mem_of_getElem? (i := 1) rfl))⟩
def L_X7_goThrough_26 (n0 : Nat) (f_d : Nat → Int32) (f_hears : Nat → Int32) (f_near : Nat → Int32) : Nat → Int32 → Int32 → (Nat → Int32) → (Nat → Int32) → Option (Int32 × Int32 × (Nat → Int32) × (Nat → Int32)) := lpp4 (fun s3 s4 t5 t6 kk26 => rd t6 1024 s3 (fun x7 => (if x7 = 0 then nm (s4 + 1) (fun x11 => wrt t6 1024 s3 x11 (fun g12 => wrt t5 1026 s4 s3 (fun g13 => nm (s4 + 1) (fun x14 => bd1 (F_X7_nextOf n0 f_d f_hears f_near s3) (fun x15 => kk26 x15 x14 g13 g12))))) else rd t6 1024 s3 (fun x8 => nm (x8 - 1) (fun x9 => nm (s4 - x9) (fun x10 => some (x9, x10, t5, t6)))))))
def L_X7_goThrough_2 (n0 : Nat) (f_d : Nat → Int32) (f_hears : Nat → Int32) (f_near : Nat → Int32) (p1 : Int32) (f_daily : Nat → Int32) : Nat → Int32 → (Nat → Int32) → Option (Int32 × Int32 × (Nat → Int32) × (Nat → Int32)) := lpp2 (fun s1 t2 kk2 => (if 1024 ≤ s1 then L_X7_goThrough_26 n0 f_d f_hears f_near n0 p1 0 f_daily t2 else wrt t2 1024 s1 0 (fun g16 => nm (s1 + 1) (fun x17 => kk2 x17 g16))))
def F_X7_goThrough (n0 : Nat) (v_begin : Int32) (v_round : Int32) (f_d : Nat → Int32) (f_daily : Nat → Int32) (f_firstDay : Nat → Int32) (f_hears : Nat → Int32) (f_near : Nat → Int32) (p1 : Int32) : Option (Int32 × Int32 × (Nat → Int32) × (Nat → Int32)) := L_X7_goThrough_2 n0 f_d f_hears f_near p1 f_daily n0 0 f_firstDay
set_option maxRecDepth 100000 in
set_option maxHeartbeats 4000000 in
theorem k_X7_goThrough (l : Launch) (dC : Nat → ClassId) (dI : Nat → Nat → Nat) (cI cB cO : ClassId) (n0 sz : Nat) (a_t : Nat) (a_d : Nat) (a_e : Nat) (a_kept : Nat) (a_found : Nat) (a_tape : Nat) (a_hears : Nat) (a_near : Nat) (a_firstDay : Nat) (a_daily : Nat) (a_heardNow : Nat) (a_bitsOf : Nat) (a_sizeOf : Nat) (a_number : Nat) (a_passing : Nat)   (v_isKept : Int32) (v_taped : Int32) (v_gone : Int32) (v_begin : Int32) (v_round : Int32) (v_leastFar : Int32) (v_leastWhere : Int32) (v_mostLed : Int32) (v_firstMove : Int32) (v_at : Int32) (v_sort : Int32) (v_from : Int32) (v_value : Int64) (v_fault : Int32) (f_d : Nat → Int32) (f_daily : Nat → Int32) (f_firstDay : Nat → Int32) (f_hears : Nat → Int32) (f_near : Nat → Int32) (p1 : Int32)  {o0 : Int32} {o1 : Int32} {o2 : Nat → Int32} {o3 : Nat → Int32} (hF : F_X7_goThrough n0 v_begin v_round f_d f_daily f_firstDay f_hears f_near p1 = some (o0, o1, o2, o3)) : Met l yX7_goThrough wsX7_goThrough rmX7_goThrough (va_Pc [.ref a_t, .int p1] (gPre (dC, dI) (gT cI cB cO) sz [oX7 a_t a_d a_e a_kept v_isKept a_found a_tape v_taped v_gone a_hears a_near a_firstDay a_daily v_begin v_round v_leastFar v_leastWhere v_mostLed a_heardNow v_firstMove v_at v_sort v_from v_value v_fault a_bitsOf a_sizeOf a_number a_passing, aA cI a_d 40 f_d, aA cI a_daily 1026 f_daily, aA cI a_firstDay 1024 f_firstDay, aA cI a_hears 10 f_hears, aA cI a_near 10 f_near])) (gQv (dC, dI) (gT cI cB cO) sz [oX7 a_t a_d a_e a_kept v_isKept a_found a_tape v_taped v_gone a_hears a_near a_firstDay a_daily v_begin v_round v_leastFar v_leastWhere v_mostLed a_heardNow v_firstMove v_at v_sort v_from v_value v_fault a_bitsOf a_sizeOf a_number a_passing, aA cI a_d 40 f_d, aA cI a_daily 1026 f_daily, aA cI a_firstDay 1024 f_firstDay, aA cI a_hears 10 f_hears, aA cI a_near 10 f_near] [oX7 a_t a_d a_e a_kept v_isKept a_found a_tape v_taped v_gone a_hears a_near a_firstDay a_daily o0 o1 v_leastFar v_leastWhere v_mostLed a_heardNow v_firstMove v_at v_sort v_from v_value v_fault a_bitsOf a_sizeOf a_number a_passing, aA cI a_d 40 f_d, aA cI a_daily 1026 o2, aA cI a_firstDay 1024 o3, aA cI a_hears 10 f_hears, aA cI a_near 10 f_near]) 0 0 (va_A [oX7 a_t a_d a_e a_kept v_isKept a_found a_tape v_taped v_gone a_hears a_near a_firstDay a_daily v_begin v_round v_leastFar v_leastWhere v_mostLed a_heardNow v_firstMove v_at v_sort v_from v_value v_fault a_bitsOf a_sizeOf a_number a_passing, aA cI a_d 40 f_d, aA cI a_daily 1026 f_daily, aA cI a_firstDay 1024 f_firstDay, aA cI a_hears 10 f_hears, aA cI a_near 10 f_near] sz) := by
  refine g_metV (Out := Int32 × Int32 × (Nat → Int32) × (Nat → Int32)) (fun oo => [oX7 a_t a_d a_e a_kept v_isKept a_found a_tape v_taped v_gone a_hears a_near a_firstDay a_daily oo.1 oo.2.1 v_leastFar v_leastWhere v_mostLed a_heardNow v_firstMove v_at v_sort v_from v_value v_fault a_bitsOf a_sizeOf a_number a_passing, aA cI a_d 40 f_d, aA cI a_daily 1026 oo.2.2.1, aA cI a_firstDay 1024 oo.2.2.2, aA cI a_hears 10 f_hears, aA cI a_near 10 f_near]) (o0, o1, o2, o3) (own := RX7) (lv := [(0, .ref a_t), (1, .int p1)]) (by decide) rfl rfl (Nat.le_of_ble_eq_true rfl) rfl ?_
  intro p e s m args below meth c Q ls C hret hV hl
  obtain ⟨out, hout⟩ : ∃ z : Int32 × Int32 × (Nat → Int32) × (Nat → Int32), z = (o0, o1, o2, o3) := ⟨_, rfl⟩
  rw [← hout] at hF hret
  obtain ⟨H0, hH0⟩ : ∃ z : Heap, z = s.heap := ⟨_, rfl⟩
  obtain ⟨A0, hA0⟩ : ∃ z : Nat → Prop, z = va_A [oX7 a_t a_d a_e a_kept v_isKept a_found a_tape v_taped v_gone a_hears a_near a_firstDay a_daily v_begin v_round v_leastFar v_leastWhere v_mostLed a_heardNow v_firstMove v_at v_sort v_from v_value v_fault a_bitsOf a_sizeOf a_number a_passing, aA cI a_d 40 f_d, aA cI a_daily 1026 f_daily, aA cI a_firstDay 1024 f_firstDay, aA cI a_hears 10 f_hears, aA cI a_near 10 f_near] s.heap.size := ⟨_, rfl⟩
  rw [← hA0] at hret hV
  rw [← hH0] at hret hV
  rw [← hH0]
  obtain ⟨H, locs, hH⟩ : ∃ (z : Heap) (y : List Loc), z = H0 ∧ y = [] := ⟨_, _, rfl, rfl⟩
  rw [← hH.1, ← hH.2]
  have hV : gV (dC, dI) (gT cI cB cO) A0 H0 s [oX7 a_t a_d a_e a_kept v_isKept a_found a_tape v_taped v_gone a_hears a_near a_firstDay a_daily v_begin v_round v_leastFar v_leastWhere v_mostLed a_heardNow v_firstMove v_at v_sort v_from v_value v_fault a_bitsOf a_sizeOf a_number a_passing, aA cI a_d 40 f_d, aA cI a_daily 1026 f_daily, aA cI a_firstDay 1024 f_firstDay, aA cI a_hears 10 f_hears, aA cI a_near 10 f_near] H locs := by rw [hH.1, hH.2]; exact hV
  unfold F_X7_goThrough at hF
  refine lv_iconst (v := 0) C.1 C.2.1 dX7_goThrough_0 rfl ?_
  refine lv_istore_n (lv' := [(2, .int 0), (0, .ref a_t), (1, .int p1)]) C.1 C.2.1 dX7_goThrough_1 rfl hl (by decide) rfl (fun ls hl => ?_)
  have hL2 : ∀ (n : Nat) (s1 : Int32) (t2 : Nat → Int32) (H : Heap) (locs : List Loc) (ls : Array Slot), gV (dC, dI) (gT cI cB cO) A0 H0 s [oX7 a_t a_d a_e a_kept v_isKept a_found a_tape v_taped v_gone a_hears a_near a_firstDay a_daily v_begin v_round v_leastFar v_leastWhere v_mostLed a_heardNow v_firstMove v_at v_sort v_from v_value v_fault a_bitsOf a_sizeOf a_number a_passing, aA cI a_d 40 f_d, aA cI a_daily 1026 f_daily, aA cI a_firstDay 1024 t2, aA cI a_hears 10 f_hears, aA cI a_near 10 f_near] H locs → lv_has ls 4 [(0, .ref a_t), (1, .int p1), (2, .int s1)] → L_X7_goThrough_2 n0 f_d f_hears f_near p1 f_daily n s1 t2 = some out → W p l e rmX7_goThrough s m args below meth c H locs 0 0 Q (F0 m 2 ls []) := by
    intro n
    induction n with
    | zero => intro s1 t2 H locs ls hV hl hF; exact lpp2_z hF
    | succ n ih2 =>
      intro s1 t2 H locs ls hV hl hF
      obtain ⟨kk2, hk2, hF⟩ := lpp2_g hF
      have hq2 : ∀ (s1 : Int32) (t2 : Nat → Int32), kk2 s1 t2 = some out → L_X7_goThrough_2 n0 f_d f_hears f_near p1 f_daily n s1 t2 = some out := fun _ _ h => by rw [hk2] at h; exact h
      refine lv_iload_n C.1 C.2.1 dX7_goThrough_2 rfl (lv_at hl 2 rfl) ?_
      refine lv_sipush (v := 1024) C.1 C.2.1 dX7_goThrough_3 rfl ?_
      refine g_icmp_ge (tgt := 22) C hF dX7_goThrough_6 rfl (fun hF => ?_) (fun hF => ?_)
      · refine lv_iload_n C.1 C.2.1 dX7_goThrough_22 rfl (lv_at hl 1 rfl) ?_
        refine lv_istore_n (lv' := [(2, .int p1), (0, .ref a_t), (1, .int p1)]) C.1 C.2.1 dX7_goThrough_23 rfl hl (by decide) rfl (fun ls hl => ?_)
        refine lv_iconst (v := 0) C.1 C.2.1 dX7_goThrough_24 rfl ?_
        refine lv_istore_n (lv' := [(3, .int 0), (2, .int p1), (0, .ref a_t), (1, .int p1)]) C.1 C.2.1 dX7_goThrough_25 rfl hl (by decide) rfl (fun ls hl => ?_)
        have hL26 : ∀ (n : Nat) (s3 : Int32) (s4 : Int32) (t5 : Nat → Int32) (t6 : Nat → Int32) (H : Heap) (locs : List Loc) (ls : Array Slot), gV (dC, dI) (gT cI cB cO) A0 H0 s [oX7 a_t a_d a_e a_kept v_isKept a_found a_tape v_taped v_gone a_hears a_near a_firstDay a_daily v_begin v_round v_leastFar v_leastWhere v_mostLed a_heardNow v_firstMove v_at v_sort v_from v_value v_fault a_bitsOf a_sizeOf a_number a_passing, aA cI a_d 40 f_d, aA cI a_daily 1026 t5, aA cI a_firstDay 1024 t6, aA cI a_hears 10 f_hears, aA cI a_near 10 f_near] H locs → lv_has ls 4 [(0, .ref a_t), (2, .int s3), (3, .int s4)] → L_X7_goThrough_26 n0 f_d f_hears f_near n s3 s4 t5 t6 = some out → W p l e rmX7_goThrough s m args below meth c H locs 0 0 Q (F0 m 26 ls []) := by
          intro n
          induction n with
          | zero => intro s3 s4 t5 t6 H locs ls hV hl hF; exact lpp4_z hF
          | succ n ih26 =>
            intro s3 s4 t5 t6 H locs ls hV hl hF
            obtain ⟨kk26, hk26, hF⟩ := lpp4_g hF
            have hq26 : ∀ (s3 : Int32) (s4 : Int32) (t5 : Nat → Int32) (t6 : Nat → Int32), kk26 s3 s4 t5 t6 = some out → L_X7_goThrough_26 n0 f_d f_hears f_near n s3 s4 t5 t6 = some out := fun _ _ _ _ h => by rw [hk26] at h; exact h
            refine lv_aload_n C.1 C.2.1 dX7_goThrough_26 rfl (lv_at hl 0 rfl) ?_
            refine g_get C hV flX7_goThrough_36 0 rfl rfl dX7_goThrough_27 ?_
            refine lv_iload_n C.1 C.2.1 dX7_goThrough_30 rfl (lv_at hl 1 rfl) ?_
            refine g_iald C hV 3 rfl hF dX7_goThrough_31 (fun x7 hF => ?_)
            refine g_if_ne (tgt := 63) C hF dX7_goThrough_32 rfl (fun hF => ?_) (fun hF => ?_)
            · refine lv_aload_n C.1 C.2.1 dX7_goThrough_63 rfl (lv_at hl 0 rfl) ?_
              refine lv_aload_n C.1 C.2.1 dX7_goThrough_64 rfl (lv_at hl 0 rfl) ?_
              refine g_get C hV flX7_goThrough_36 0 rfl rfl dX7_goThrough_65 ?_
              refine lv_iload_n C.1 C.2.1 dX7_goThrough_68 rfl (lv_at hl 1 rfl) ?_
              refine g_iald C hV 3 rfl hF dX7_goThrough_69 (fun x8 hF => ?_)
              refine lv_iconst (v := 1) C.1 C.2.1 dX7_goThrough_70 rfl ?_
              refine g_isub C hF dX7_goThrough_71 (fun x9 hF => ?_)
              refine g_put (ws' := [oX7 a_t a_d a_e a_kept v_isKept a_found a_tape v_taped v_gone a_hears a_near a_firstDay a_daily x9 v_round v_leastFar v_leastWhere v_mostLed a_heardNow v_firstMove v_at v_sort v_from v_value v_fault a_bitsOf a_sizeOf a_number a_passing, aA cI a_d 40 f_d, aA cI a_daily 1026 t5, aA cI a_firstDay 1024 t6, aA cI a_hears 10 f_hears, aA cI a_near 10 f_near]) C hV fpX7_goThrough_90 0 rfl rfl rfl (Nat.le_of_ble_eq_true rfl) rfl dX7_goThrough_72 (fun H locs hV => ?_)
              refine lv_aload_n C.1 C.2.1 dX7_goThrough_75 rfl (lv_at hl 0 rfl) ?_
              refine lv_iload_n C.1 C.2.1 dX7_goThrough_76 rfl (lv_at hl 2 rfl) ?_
              refine lv_aload_n C.1 C.2.1 dX7_goThrough_77 rfl (lv_at hl 0 rfl) ?_
              refine g_get C hV flX7_goThrough_90 0 rfl rfl dX7_goThrough_78 ?_
              refine g_isub C hF dX7_goThrough_81 (fun x10 hF => ?_)
              refine g_put (ws' := [oX7 a_t a_d a_e a_kept v_isKept a_found a_tape v_taped v_gone a_hears a_near a_firstDay a_daily x9 x10 v_leastFar v_leastWhere v_mostLed a_heardNow v_firstMove v_at v_sort v_from v_value v_fault a_bitsOf a_sizeOf a_number a_passing, aA cI a_d 40 f_d, aA cI a_daily 1026 t5, aA cI a_firstDay 1024 t6, aA cI a_hears 10 f_hears, aA cI a_near 10 f_near]) C hV fpX7_goThrough_93 0 rfl rfl rfl (Nat.le_of_ble_eq_true rfl) rfl dX7_goThrough_82 (fun H locs hV => ?_)
              exact hret (x9, x10, t5, t6) _ _ _ _ dX7_goThrough_85 hF hV
            refine lv_aload_n C.1 C.2.1 dX7_goThrough_35 rfl (lv_at hl 0 rfl) ?_
            refine g_get C hV flX7_goThrough_36 0 rfl rfl dX7_goThrough_36 ?_
            refine lv_iload_n C.1 C.2.1 dX7_goThrough_39 rfl (lv_at hl 1 rfl) ?_
            refine lv_iload_n C.1 C.2.1 dX7_goThrough_40 rfl (lv_at hl 2 rfl) ?_
            refine lv_iconst (v := 1) C.1 C.2.1 dX7_goThrough_41 rfl ?_
            refine g_iadd C hF dX7_goThrough_42 (fun x11 hF => ?_)
            refine g_iast C hV 3 rfl hF (fun gq => [oX7 a_t a_d a_e a_kept v_isKept a_found a_tape v_taped v_gone a_hears a_near a_firstDay a_daily v_begin v_round v_leastFar v_leastWhere v_mostLed a_heardNow v_firstMove v_at v_sort v_from v_value v_fault a_bitsOf a_sizeOf a_number a_passing, aA cI a_d 40 f_d, aA cI a_daily 1026 t5, aA cI a_firstDay 1024 gq, aA cI a_hears 10 f_hears, aA cI a_near 10 f_near]) (fun _ => rfl) dX7_goThrough_43 (fun g12 H locs hF hV => ?_)
            refine lv_aload_n C.1 C.2.1 dX7_goThrough_44 rfl (lv_at hl 0 rfl) ?_
            refine g_get C hV flX7_goThrough_39 0 rfl rfl dX7_goThrough_45 ?_
            refine lv_iload_n C.1 C.2.1 dX7_goThrough_48 rfl (lv_at hl 2 rfl) ?_
            refine lv_iload_n C.1 C.2.1 dX7_goThrough_49 rfl (lv_at hl 1 rfl) ?_
            refine g_iast C hV 2 rfl hF (fun gq => [oX7 a_t a_d a_e a_kept v_isKept a_found a_tape v_taped v_gone a_hears a_near a_firstDay a_daily v_begin v_round v_leastFar v_leastWhere v_mostLed a_heardNow v_firstMove v_at v_sort v_from v_value v_fault a_bitsOf a_sizeOf a_number a_passing, aA cI a_d 40 f_d, aA cI a_daily 1026 gq, aA cI a_firstDay 1024 g12, aA cI a_hears 10 f_hears, aA cI a_near 10 f_near]) (fun _ => rfl) dX7_goThrough_50 (fun g13 H locs hF hV => ?_)
            refine g_iinc C hF dX7_goThrough_51 (d := 1) rfl hl (j := 2) rfl (by decide) (fun y => [(3, .int y), (0, .ref a_t), (2, .int s3)]) (fun _ => rfl) (fun x14 ls hF hl => ?_)
            refine lv_aload_n C.1 C.2.1 dX7_goThrough_54 rfl (lv_at hl 1 rfl) ?_
            refine lv_iload_n C.1 C.2.1 dX7_goThrough_55 rfl (lv_at hl 2 rfl) ?_
            obtain ⟨x15, hc, hF⟩ := bd1_s hF
            refine g_cVi (ws' := [oX7 a_t a_d a_e a_kept v_isKept a_found a_tape v_taped v_gone a_hears a_near a_firstDay a_daily v_begin v_round v_leastFar v_leastWhere v_mostLed a_heardNow v_firstMove v_at v_sort v_from v_value v_fault a_bitsOf a_sizeOf a_number a_passing, aA cI a_d 40 f_d, aA cI a_daily 1026 g13, aA cI a_firstDay 1024 g12, aA cI a_hears 10 f_hears, aA cI a_near 10 f_near]) (wr := [aA cI a_daily 1026 g13, aA cI a_firstDay 1024 g12]) C hV (k_X7_nextOf l dC dI cI cB cO n0 H.size a_t a_d a_e a_kept a_found a_tape a_hears a_near a_firstDay a_daily a_heardNow a_bitsOf a_sizeOf a_number a_passing v_isKept v_taped v_gone v_begin v_round v_leastFar v_leastWhere v_mostLed v_firstMove v_at v_sort v_from v_value v_fault f_d f_hears f_near s3 hc) mdX7_nextOf gX7_goThrough_X7_nextOf rfl rfl ⟨Nat.le_of_ble_eq_true rfl, Nat.le_of_ble_eq_true rfl⟩ [0, 1, 4, 5] [2, 3] [2, 3, 0, 1, 4, 5] rfl rfl rfl rfl rfl rfl rfl rfl rfl rfl hl.1 (Nat.le_of_ble_eq_true rfl) rfl dX7_goThrough_56 (fun H locs hV => ?_)
            refine lv_istore_n (lv' := [(2, .int x15), (3, .int x14), (0, .ref a_t)]) C.1 C.2.1 dX7_goThrough_59 rfl hl (by decide) rfl (fun ls hl => ?_)
            refine lv_goto (tgt := 26) C.1 C.2.1 dX7_goThrough_60 rfl ?_
            exact ih26 x15 x14 g13 g12 H locs ls hV (lv_sub hl [2, 0, 1] rfl) (hq26 x15 x14 g13 g12 hF)
        exact hL26 n0 p1 0 f_daily t2 H locs ls hV (lv_sub hl [2, 1, 0] rfl) hF
      refine lv_aload_n C.1 C.2.1 dX7_goThrough_9 rfl (lv_at hl 0 rfl) ?_
      refine g_get C hV flX7_goThrough_36 0 rfl rfl dX7_goThrough_10 ?_
      refine lv_iload_n C.1 C.2.1 dX7_goThrough_13 rfl (lv_at hl 2 rfl) ?_
      refine lv_iconst (v := 0) C.1 C.2.1 dX7_goThrough_14 rfl ?_
      refine g_iast C hV 3 rfl hF (fun gq => [oX7 a_t a_d a_e a_kept v_isKept a_found a_tape v_taped v_gone a_hears a_near a_firstDay a_daily v_begin v_round v_leastFar v_leastWhere v_mostLed a_heardNow v_firstMove v_at v_sort v_from v_value v_fault a_bitsOf a_sizeOf a_number a_passing, aA cI a_d 40 f_d, aA cI a_daily 1026 f_daily, aA cI a_firstDay 1024 gq, aA cI a_hears 10 f_hears, aA cI a_near 10 f_near]) (fun _ => rfl) dX7_goThrough_15 (fun g16 H locs hF hV => ?_)
      refine g_iinc C hF dX7_goThrough_16 (d := 1) rfl hl (j := 2) rfl (by decide) (fun y => [(2, .int y), (0, .ref a_t), (1, .int p1)]) (fun _ => rfl) (fun x17 ls hF hl => ?_)
      refine lv_goto (tgt := 2) C.1 C.2.1 dX7_goThrough_19 rfl ?_
      exact ih2 x17 g16 H locs ls hV (lv_sub hl [1, 2, 0] rfl) (hq2 x17 g16 hF)
  exact hL2 n0 0 f_firstDay H locs ls hV (lv_sub hl [1, 2, 0] rfl) hF
abbrev rmX7_saidBehind : Room := { frames := 0, cells := 0, slots := 0, locals := 0 }
theorem mdX7_saidBehind : gMd yX7_saidBehind wsX7_saidBehind cX7_saidBehind 2 (some .int) 1 := ⟨⟨_, rfl⟩, by decide +kernel⟩
theorem flX7_saidBehind_90 : gFL wsX7_saidBehind RX7 90 7 12 RX7 TX7 28 := ⟨rfl, fun w h => List.mem_cons_of_mem _ (List.mem_append_right _ (h)), Nat.le_of_ble_eq_true rfl, List.mem_cons_of_mem _ (List.mem_append_left _ (List.mem_of_getElem? (i := 0) rfl))⟩
theorem flX7_saidBehind_39 : gFL wsX7_saidBehind RX7 39 7 11 RX7 TX7 28 := ⟨rfl, fun w h => List.mem_cons_of_mem _ (List.mem_append_right _ (h)), Nat.le_of_ble_eq_true rfl, List.mem_cons_of_mem _ (List.mem_append_left _ (List.mem_of_getElem? (i := 1) rfl))⟩
theorem flX7_saidBehind_93 : gFL wsX7_saidBehind RX7 93 7 13 RX7 TX7 28 := ⟨rfl, fun w h => List.mem_cons_of_mem _ (List.mem_append_right _ (h)), Nat.le_of_ble_eq_true rfl, List.mem_cons_of_mem _ (List.mem_append_left _ (List.mem_of_getElem? (i := 2) rfl))⟩
def F_X7_saidBehind (n0 : Nat) (v_begin : Int32) (v_round : Int32) (f_daily : Nat → Int32) (p1 : Int32) : Option (Int32) := (if v_begin ≤ p1 then nm (p1 - v_begin) (fun x1 => dvn v_round (x1 - x1 / v_round * v_round) (fun x2 => nm (v_begin + x2) (fun x3 => rd f_daily 1026 x3 (fun x4 => some x4)))) else rd f_daily 1026 p1 (fun x5 => some x5))
set_option maxRecDepth 100000 in
set_option maxHeartbeats 4000000 in
theorem k_X7_saidBehind (l : Launch) (dC : Nat → ClassId) (dI : Nat → Nat → Nat) (cI cB cO : ClassId) (n0 sz : Nat) (a_t : Nat) (a_d : Nat) (a_e : Nat) (a_kept : Nat) (a_found : Nat) (a_tape : Nat) (a_hears : Nat) (a_near : Nat) (a_firstDay : Nat) (a_daily : Nat) (a_heardNow : Nat) (a_bitsOf : Nat) (a_sizeOf : Nat) (a_number : Nat) (a_passing : Nat)   (v_isKept : Int32) (v_taped : Int32) (v_gone : Int32) (v_begin : Int32) (v_round : Int32) (v_leastFar : Int32) (v_leastWhere : Int32) (v_mostLed : Int32) (v_firstMove : Int32) (v_at : Int32) (v_sort : Int32) (v_from : Int32) (v_value : Int64) (v_fault : Int32) (f_daily : Nat → Int32) (p1 : Int32)  {ro : Int32} (hF : F_X7_saidBehind n0 v_begin v_round f_daily p1 = some ro) : Met l yX7_saidBehind wsX7_saidBehind rmX7_saidBehind (va_Pc [.ref a_t, .int p1] (gPre (dC, dI) (gT cI cB cO) sz [oX7 a_t a_d a_e a_kept v_isKept a_found a_tape v_taped v_gone a_hears a_near a_firstDay a_daily v_begin v_round v_leastFar v_leastWhere v_mostLed a_heardNow v_firstMove v_at v_sort v_from v_value v_fault a_bitsOf a_sizeOf a_number a_passing, aA cI a_daily 1026 f_daily])) (gQi (dC, dI) (gT cI cB cO) sz [oX7 a_t a_d a_e a_kept v_isKept a_found a_tape v_taped v_gone a_hears a_near a_firstDay a_daily v_begin v_round v_leastFar v_leastWhere v_mostLed a_heardNow v_firstMove v_at v_sort v_from v_value v_fault a_bitsOf a_sizeOf a_number a_passing, aA cI a_daily 1026 f_daily] ro [oX7 a_t a_d a_e a_kept v_isKept a_found a_tape v_taped v_gone a_hears a_near a_firstDay a_daily v_begin v_round v_leastFar v_leastWhere v_mostLed a_heardNow v_firstMove v_at v_sort v_from v_value v_fault a_bitsOf a_sizeOf a_number a_passing, aA cI a_daily 1026 f_daily]) 0 0 (va_A [oX7 a_t a_d a_e a_kept v_isKept a_found a_tape v_taped v_gone a_hears a_near a_firstDay a_daily v_begin v_round v_leastFar v_leastWhere v_mostLed a_heardNow v_firstMove v_at v_sort v_from v_value v_fault a_bitsOf a_sizeOf a_number a_passing, aA cI a_daily 1026 f_daily] sz) := by
  refine g_metI (Out := Int32) (fun oo => oo) (fun oo => [oX7 a_t a_d a_e a_kept v_isKept a_found a_tape v_taped v_gone a_hears a_near a_firstDay a_daily v_begin v_round v_leastFar v_leastWhere v_mostLed a_heardNow v_firstMove v_at v_sort v_from v_value v_fault a_bitsOf a_sizeOf a_number a_passing, aA cI a_daily 1026 f_daily]) ro (own := RX7) (lv := [(0, .ref a_t), (1, .int p1)]) (by decide) rfl rfl (Nat.le_of_ble_eq_true rfl) rfl ?_
  intro p e s m args below meth c Q ls C hret hV hl
  obtain ⟨out, hout⟩ : ∃ z : Int32, z = ro := ⟨_, rfl⟩
  rw [← hout] at hF hret
  obtain ⟨H0, hH0⟩ : ∃ z : Heap, z = s.heap := ⟨_, rfl⟩
  obtain ⟨A0, hA0⟩ : ∃ z : Nat → Prop, z = va_A [oX7 a_t a_d a_e a_kept v_isKept a_found a_tape v_taped v_gone a_hears a_near a_firstDay a_daily v_begin v_round v_leastFar v_leastWhere v_mostLed a_heardNow v_firstMove v_at v_sort v_from v_value v_fault a_bitsOf a_sizeOf a_number a_passing, aA cI a_daily 1026 f_daily] s.heap.size := ⟨_, rfl⟩
  rw [← hA0] at hret hV
  rw [← hH0] at hret hV
  rw [← hH0]
  obtain ⟨H, locs, hH⟩ : ∃ (z : Heap) (y : List Loc), z = H0 ∧ y = [] := ⟨_, _, rfl, rfl⟩
  rw [← hH.1, ← hH.2]
  have hV : gV (dC, dI) (gT cI cB cO) A0 H0 s [oX7 a_t a_d a_e a_kept v_isKept a_found a_tape v_taped v_gone a_hears a_near a_firstDay a_daily v_begin v_round v_leastFar v_leastWhere v_mostLed a_heardNow v_firstMove v_at v_sort v_from v_value v_fault a_bitsOf a_sizeOf a_number a_passing, aA cI a_daily 1026 f_daily] H locs := by rw [hH.1, hH.2]; exact hV
  unfold F_X7_saidBehind at hF
  refine lv_iload_n C.1 C.2.1 dX7_saidBehind_0 rfl (lv_at hl 1 rfl) ?_
  refine lv_aload_n C.1 C.2.1 dX7_saidBehind_1 rfl (lv_at hl 0 rfl) ?_
  refine g_get C hV flX7_saidBehind_90 0 rfl rfl dX7_saidBehind_2 ?_
  refine g_icmp_ge (tgt := 17) C hF dX7_saidBehind_5 rfl (fun hF => ?_) (fun hF => ?_)
  · refine lv_aload_n C.1 C.2.1 dX7_saidBehind_17 rfl (lv_at hl 0 rfl) ?_
    refine g_get C hV flX7_saidBehind_39 0 rfl rfl dX7_saidBehind_18 ?_
    refine lv_aload_n C.1 C.2.1 dX7_saidBehind_21 rfl (lv_at hl 0 rfl) ?_
    refine g_get C hV flX7_saidBehind_90 0 rfl rfl dX7_saidBehind_22 ?_
    refine lv_iload_n C.1 C.2.1 dX7_saidBehind_25 rfl (lv_at hl 1 rfl) ?_
    refine lv_aload_n C.1 C.2.1 dX7_saidBehind_26 rfl (lv_at hl 0 rfl) ?_
    refine g_get C hV flX7_saidBehind_90 0 rfl rfl dX7_saidBehind_27 ?_
    refine g_isub C hF dX7_saidBehind_30 (fun x1 hF => ?_)
    refine lv_aload_n C.1 C.2.1 dX7_saidBehind_31 rfl (lv_at hl 0 rfl) ?_
    refine g_get C hV flX7_saidBehind_93 0 rfl rfl dX7_saidBehind_32 ?_
    refine g_irem C hF dX7_saidBehind_35 (fun x2 hF => ?_)
    refine g_iadd C hF dX7_saidBehind_36 (fun x3 hF => ?_)
    refine g_iald C hV 1 rfl hF dX7_saidBehind_37 (fun x4 hF => ?_)
    exact hret x4 _ _ _ _ dX7_saidBehind_38 hF hV
  refine lv_aload_n C.1 C.2.1 dX7_saidBehind_8 rfl (lv_at hl 0 rfl) ?_
  refine g_get C hV flX7_saidBehind_39 0 rfl rfl dX7_saidBehind_9 ?_
  refine lv_iload_n C.1 C.2.1 dX7_saidBehind_12 rfl (lv_at hl 1 rfl) ?_
  refine g_iald C hV 1 rfl hF dX7_saidBehind_13 (fun x5 hF => ?_)
  refine lv_goto (tgt := 38) C.1 C.2.1 dX7_saidBehind_14 rfl ?_
  exact hret x5 _ _ _ _ dX7_saidBehind_38 hF hV
abbrev rmX7_ahead : Room := { frames := 3, cells := 0, slots := 0, locals := 68 }
theorem mdX7_ahead : gMd yX7_ahead wsX7_ahead cX7_ahead 5 (some .int) 2 := ⟨⟨_, rfl⟩, by decide +kernel⟩
def L_X7_ahead_5 (p2 : Int32) (n0 : Nat) (f_d : Nat → Int32) (f_hears : Nat → Int32) (f_near : Nat → Int32) : Nat → Int32 → Int32 → Option (Int32) := lpp2 (fun s1 s2 kk5 => (if p2 ≤ s2 then some s1 else bd1 (F_X7_nextOf n0 f_d f_hears f_near s1) (fun x3 => nm (s2 + 1) (fun x4 => kk5 x3 x4))))
def F_X7_ahead (n0 : Nat) (f_d : Nat → Int32) (f_hears : Nat → Int32) (f_near : Nat → Int32) (p1 : Int32) (p2 : Int32) : Option (Int32) := L_X7_ahead_5 p2 n0 f_d f_hears f_near n0 p1 0
set_option maxRecDepth 100000 in
set_option maxHeartbeats 4000000 in
theorem k_X7_ahead (l : Launch) (dC : Nat → ClassId) (dI : Nat → Nat → Nat) (cI cB cO : ClassId) (n0 sz : Nat) (a_t : Nat) (a_d : Nat) (a_e : Nat) (a_kept : Nat) (a_found : Nat) (a_tape : Nat) (a_hears : Nat) (a_near : Nat) (a_firstDay : Nat) (a_daily : Nat) (a_heardNow : Nat) (a_bitsOf : Nat) (a_sizeOf : Nat) (a_number : Nat) (a_passing : Nat)   (v_isKept : Int32) (v_taped : Int32) (v_gone : Int32) (v_begin : Int32) (v_round : Int32) (v_leastFar : Int32) (v_leastWhere : Int32) (v_mostLed : Int32) (v_firstMove : Int32) (v_at : Int32) (v_sort : Int32) (v_from : Int32) (v_value : Int64) (v_fault : Int32) (f_d : Nat → Int32) (f_hears : Nat → Int32) (f_near : Nat → Int32) (p1 : Int32) (p2 : Int32)  {ro : Int32} (hF : F_X7_ahead n0 f_d f_hears f_near p1 p2 = some ro) : Met l yX7_ahead wsX7_ahead rmX7_ahead (va_Pc [.ref a_t, .int p1, .int p2] (gPre (dC, dI) (gT cI cB cO) sz [oX7 a_t a_d a_e a_kept v_isKept a_found a_tape v_taped v_gone a_hears a_near a_firstDay a_daily v_begin v_round v_leastFar v_leastWhere v_mostLed a_heardNow v_firstMove v_at v_sort v_from v_value v_fault a_bitsOf a_sizeOf a_number a_passing, aA cI a_d 40 f_d, aA cI a_hears 10 f_hears, aA cI a_near 10 f_near])) (gQi (dC, dI) (gT cI cB cO) sz [oX7 a_t a_d a_e a_kept v_isKept a_found a_tape v_taped v_gone a_hears a_near a_firstDay a_daily v_begin v_round v_leastFar v_leastWhere v_mostLed a_heardNow v_firstMove v_at v_sort v_from v_value v_fault a_bitsOf a_sizeOf a_number a_passing, aA cI a_d 40 f_d, aA cI a_hears 10 f_hears, aA cI a_near 10 f_near] ro [oX7 a_t a_d a_e a_kept v_isKept a_found a_tape v_taped v_gone a_hears a_near a_firstDay a_daily v_begin v_round v_leastFar v_leastWhere v_mostLed a_heardNow v_firstMove v_at v_sort v_from v_value v_fault a_bitsOf a_sizeOf a_number a_passing, aA cI a_d 40 f_d, aA cI a_hears 10 f_hears, aA cI a_near 10 f_near]) 0 0 (va_A [oX7 a_t a_d a_e a_kept v_isKept a_found a_tape v_taped v_gone a_hears a_near a_firstDay a_daily v_begin v_round v_leastFar v_leastWhere v_mostLed a_heardNow v_firstMove v_at v_sort v_from v_value v_fault a_bitsOf a_sizeOf a_number a_passing, aA cI a_d 40 f_d, aA cI a_hears 10 f_hears, aA cI a_near 10 f_near] sz) := by
  refine g_metI (Out := Int32) (fun oo => oo) (fun oo => [oX7 a_t a_d a_e a_kept v_isKept a_found a_tape v_taped v_gone a_hears a_near a_firstDay a_daily v_begin v_round v_leastFar v_leastWhere v_mostLed a_heardNow v_firstMove v_at v_sort v_from v_value v_fault a_bitsOf a_sizeOf a_number a_passing, aA cI a_d 40 f_d, aA cI a_hears 10 f_hears, aA cI a_near 10 f_near]) ro (own := RX7) (lv := [(0, .ref a_t), (1, .int p1), (2, .int p2)]) (by decide) rfl rfl (Nat.le_of_ble_eq_true rfl) rfl ?_
  intro p e s m args below meth c Q ls C hret hV hl
  obtain ⟨out, hout⟩ : ∃ z : Int32, z = ro := ⟨_, rfl⟩
  rw [← hout] at hF hret
  obtain ⟨H0, hH0⟩ : ∃ z : Heap, z = s.heap := ⟨_, rfl⟩
  obtain ⟨A0, hA0⟩ : ∃ z : Nat → Prop, z = va_A [oX7 a_t a_d a_e a_kept v_isKept a_found a_tape v_taped v_gone a_hears a_near a_firstDay a_daily v_begin v_round v_leastFar v_leastWhere v_mostLed a_heardNow v_firstMove v_at v_sort v_from v_value v_fault a_bitsOf a_sizeOf a_number a_passing, aA cI a_d 40 f_d, aA cI a_hears 10 f_hears, aA cI a_near 10 f_near] s.heap.size := ⟨_, rfl⟩
  rw [← hA0] at hret hV
  rw [← hH0] at hret hV
  rw [← hH0]
  obtain ⟨H, locs, hH⟩ : ∃ (z : Heap) (y : List Loc), z = H0 ∧ y = [] := ⟨_, _, rfl, rfl⟩
  rw [← hH.1, ← hH.2]
  have hV : gV (dC, dI) (gT cI cB cO) A0 H0 s [oX7 a_t a_d a_e a_kept v_isKept a_found a_tape v_taped v_gone a_hears a_near a_firstDay a_daily v_begin v_round v_leastFar v_leastWhere v_mostLed a_heardNow v_firstMove v_at v_sort v_from v_value v_fault a_bitsOf a_sizeOf a_number a_passing, aA cI a_d 40 f_d, aA cI a_hears 10 f_hears, aA cI a_near 10 f_near] H locs := by rw [hH.1, hH.2]; exact hV
  unfold F_X7_ahead at hF
  refine lv_iload_n C.1 C.2.1 dX7_ahead_0 rfl (lv_at hl 1 rfl) ?_
  refine lv_istore_n (lv' := [(3, .int p1), (0, .ref a_t), (1, .int p1), (2, .int p2)]) C.1 C.2.1 dX7_ahead_1 rfl hl (by decide) rfl (fun ls hl => ?_)
  refine lv_iconst (v := 0) C.1 C.2.1 dX7_ahead_2 rfl ?_
  refine lv_istore (lv' := [(4, .int 0), (3, .int p1), (0, .ref a_t), (1, .int p1), (2, .int p2)]) C.1 C.2.1 dX7_ahead_3 hl (by decide) rfl (fun ls hl => ?_)
  have hL5 : ∀ (n : Nat) (s1 : Int32) (s2 : Int32) (H : Heap) (locs : List Loc) (ls : Array Slot), gV (dC, dI) (gT cI cB cO) A0 H0 s [oX7 a_t a_d a_e a_kept v_isKept a_found a_tape v_taped v_gone a_hears a_near a_firstDay a_daily v_begin v_round v_leastFar v_leastWhere v_mostLed a_heardNow v_firstMove v_at v_sort v_from v_value v_fault a_bitsOf a_sizeOf a_number a_passing, aA cI a_d 40 f_d, aA cI a_hears 10 f_hears, aA cI a_near 10 f_near] H locs → lv_has ls 5 [(0, .ref a_t), (2, .int p2), (3, .int s1), (4, .int s2)] → L_X7_ahead_5 p2 n0 f_d f_hears f_near n s1 s2 = some out → W p l e rmX7_ahead s m args below meth c H locs 0 0 Q (F0 m 5 ls []) := by
    intro n
    induction n with
    | zero => intro s1 s2 H locs ls hV hl hF; exact lpp2_z hF
    | succ n ih5 =>
      intro s1 s2 H locs ls hV hl hF
      obtain ⟨kk5, hk5, hF⟩ := lpp2_g hF
      have hq5 : ∀ (s1 : Int32) (s2 : Int32), kk5 s1 s2 = some out → L_X7_ahead_5 p2 n0 f_d f_hears f_near n s1 s2 = some out := fun _ _ h => by rw [hk5] at h; exact h
      refine lv_iload C.1 C.2.1 dX7_ahead_5 (lv_at hl 3 rfl) ?_
      refine lv_iload_n C.1 C.2.1 dX7_ahead_7 rfl (lv_at hl 1 rfl) ?_
      refine g_icmp_ge (tgt := 23) C hF dX7_ahead_8 rfl (fun hF => ?_) (fun hF => ?_)
      · refine lv_iload_n C.1 C.2.1 dX7_ahead_23 rfl (lv_at hl 2 rfl) ?_
        exact hret s1 _ _ _ _ dX7_ahead_24 hF hV
      refine lv_aload_n C.1 C.2.1 dX7_ahead_11 rfl (lv_at hl 0 rfl) ?_
      refine lv_iload_n C.1 C.2.1 dX7_ahead_12 rfl (lv_at hl 2 rfl) ?_
      obtain ⟨x3, hc, hF⟩ := bd1_s hF
      refine g_cVi (ws' := [oX7 a_t a_d a_e a_kept v_isKept a_found a_tape v_taped v_gone a_hears a_near a_firstDay a_daily v_begin v_round v_leastFar v_leastWhere v_mostLed a_heardNow v_firstMove v_at v_sort v_from v_value v_fault a_bitsOf a_sizeOf a_number a_passing, aA cI a_d 40 f_d, aA cI a_hears 10 f_hears, aA cI a_near 10 f_near]) (wr := []) C hV (k_X7_nextOf l dC dI cI cB cO n0 H.size a_t a_d a_e a_kept a_found a_tape a_hears a_near a_firstDay a_daily a_heardNow a_bitsOf a_sizeOf a_number a_passing v_isKept v_taped v_gone v_begin v_round v_leastFar v_leastWhere v_mostLed v_firstMove v_at v_sort v_from v_value v_fault f_d f_hears f_near s1 hc) mdX7_nextOf gX7_ahead_X7_nextOf rfl rfl ⟨Nat.le_of_ble_eq_true rfl, Nat.le_of_ble_eq_true rfl⟩ [0, 1, 2, 3] [] [0, 1, 2, 3] rfl rfl rfl rfl rfl rfl rfl rfl rfl rfl hl.1 (Nat.le_of_ble_eq_true rfl) rfl dX7_ahead_13 (fun H locs hV => ?_)
      refine lv_istore_n (lv' := [(3, .int x3), (0, .ref a_t), (2, .int p2), (4, .int s2)]) C.1 C.2.1 dX7_ahead_16 rfl hl (by decide) rfl (fun ls hl => ?_)
      refine g_iinc C hF dX7_ahead_17 (d := 1) rfl hl (j := 3) rfl (by decide) (fun y => [(4, .int y), (3, .int x3), (0, .ref a_t), (2, .int p2)]) (fun _ => rfl) (fun x4 ls hF hl => ?_)
      refine lv_goto (tgt := 5) C.1 C.2.1 dX7_ahead_20 rfl ?_
      exact ih5 x3 x4 H locs ls hV (lv_sub hl [2, 3, 1, 0] rfl) (hq5 x3 x4 hF)
  exact hL5 n0 p1 0 H locs ls hV (lv_sub hl [2, 4, 1, 0] rfl) hF
abbrev rmX7_isPaired : Room := { frames := 0, cells := 0, slots := 0, locals := 0 }
theorem mdX7_isPaired : gMd yX7_isPaired wsX7_isPaired cX7_isPaired 2 (some .boolean) 1 := ⟨⟨_, rfl⟩, by decide +kernel⟩
theorem flX7_isPaired_30 : gFL wsX7_isPaired RX7 30 7 8 RX7 TX7 28 := ⟨rfl, fun w h => List.mem_cons_of_mem _ (List.mem_append_right _ (h)), Nat.le_of_ble_eq_true rfl, List.mem_cons_of_mem _ (List.mem_append_left _ (List.mem_of_getElem? (i := 0) rfl))⟩
def F_X7_isPaired (n0 : Nat) (f_hears : Nat → Int32) (p1 : Int32) : Option (Int32) := rd f_hears 10 p1 (fun x1 => (if x1 = ((-1)) then some (0 : Int32) else rd f_hears 10 p1 (fun x2 => rd f_hears 10 x2 (fun x3 => (if x3 = p1 then some (1 : Int32) else some (0 : Int32))))))
set_option maxRecDepth 100000 in
set_option maxHeartbeats 4000000 in
theorem k_X7_isPaired (l : Launch) (dC : Nat → ClassId) (dI : Nat → Nat → Nat) (cI cB cO : ClassId) (n0 sz : Nat) (a_t : Nat) (a_d : Nat) (a_e : Nat) (a_kept : Nat) (a_found : Nat) (a_tape : Nat) (a_hears : Nat) (a_near : Nat) (a_firstDay : Nat) (a_daily : Nat) (a_heardNow : Nat) (a_bitsOf : Nat) (a_sizeOf : Nat) (a_number : Nat) (a_passing : Nat)   (v_isKept : Int32) (v_taped : Int32) (v_gone : Int32) (v_begin : Int32) (v_round : Int32) (v_leastFar : Int32) (v_leastWhere : Int32) (v_mostLed : Int32) (v_firstMove : Int32) (v_at : Int32) (v_sort : Int32) (v_from : Int32) (v_value : Int64) (v_fault : Int32) (f_hears : Nat → Int32) (p1 : Int32)  {ro : Int32} (hF : F_X7_isPaired n0 f_hears p1 = some ro) : Met l yX7_isPaired wsX7_isPaired rmX7_isPaired (va_Pc [.ref a_t, .int p1] (gPre (dC, dI) (gT cI cB cO) sz [oX7 a_t a_d a_e a_kept v_isKept a_found a_tape v_taped v_gone a_hears a_near a_firstDay a_daily v_begin v_round v_leastFar v_leastWhere v_mostLed a_heardNow v_firstMove v_at v_sort v_from v_value v_fault a_bitsOf a_sizeOf a_number a_passing, aA cI a_hears 10 f_hears])) (gQi (dC, dI) (gT cI cB cO) sz [oX7 a_t a_d a_e a_kept v_isKept a_found a_tape v_taped v_gone a_hears a_near a_firstDay a_daily v_begin v_round v_leastFar v_leastWhere v_mostLed a_heardNow v_firstMove v_at v_sort v_from v_value v_fault a_bitsOf a_sizeOf a_number a_passing, aA cI a_hears 10 f_hears] ro [oX7 a_t a_d a_e a_kept v_isKept a_found a_tape v_taped v_gone a_hears a_near a_firstDay a_daily v_begin v_round v_leastFar v_leastWhere v_mostLed a_heardNow v_firstMove v_at v_sort v_from v_value v_fault a_bitsOf a_sizeOf a_number a_passing, aA cI a_hears 10 f_hears]) 0 0 (va_A [oX7 a_t a_d a_e a_kept v_isKept a_found a_tape v_taped v_gone a_hears a_near a_firstDay a_daily v_begin v_round v_leastFar v_leastWhere v_mostLed a_heardNow v_firstMove v_at v_sort v_from v_value v_fault a_bitsOf a_sizeOf a_number a_passing, aA cI a_hears 10 f_hears] sz) := by
  refine g_metZ (Out := Int32) (fun oo => oo) (fun oo => [oX7 a_t a_d a_e a_kept v_isKept a_found a_tape v_taped v_gone a_hears a_near a_firstDay a_daily v_begin v_round v_leastFar v_leastWhere v_mostLed a_heardNow v_firstMove v_at v_sort v_from v_value v_fault a_bitsOf a_sizeOf a_number a_passing, aA cI a_hears 10 f_hears]) ro (own := RX7) (lv := [(0, .ref a_t), (1, .int p1)]) (by decide) rfl rfl (Nat.le_of_ble_eq_true rfl) rfl ?_
  intro p e s m args below meth c Q ls C hret hV hl
  obtain ⟨out, hout⟩ : ∃ z : Int32, z = ro := ⟨_, rfl⟩
  rw [← hout] at hF hret
  obtain ⟨H0, hH0⟩ : ∃ z : Heap, z = s.heap := ⟨_, rfl⟩
  obtain ⟨A0, hA0⟩ : ∃ z : Nat → Prop, z = va_A [oX7 a_t a_d a_e a_kept v_isKept a_found a_tape v_taped v_gone a_hears a_near a_firstDay a_daily v_begin v_round v_leastFar v_leastWhere v_mostLed a_heardNow v_firstMove v_at v_sort v_from v_value v_fault a_bitsOf a_sizeOf a_number a_passing, aA cI a_hears 10 f_hears] s.heap.size := ⟨_, rfl⟩
  rw [← hA0] at hret hV
  rw [← hH0] at hret hV
  rw [← hH0]
  obtain ⟨H, locs, hH⟩ : ∃ (z : Heap) (y : List Loc), z = H0 ∧ y = [] := ⟨_, _, rfl, rfl⟩
  rw [← hH.1, ← hH.2]
  have hV : gV (dC, dI) (gT cI cB cO) A0 H0 s [oX7 a_t a_d a_e a_kept v_isKept a_found a_tape v_taped v_gone a_hears a_near a_firstDay a_daily v_begin v_round v_leastFar v_leastWhere v_mostLed a_heardNow v_firstMove v_at v_sort v_from v_value v_fault a_bitsOf a_sizeOf a_number a_passing, aA cI a_hears 10 f_hears] H locs := by rw [hH.1, hH.2]; exact hV
  unfold F_X7_isPaired at hF
  refine lv_aload_n C.1 C.2.1 dX7_isPaired_0 rfl (lv_at hl 0 rfl) ?_
  refine g_get C hV flX7_isPaired_30 0 rfl rfl dX7_isPaired_1 ?_
  refine lv_iload_n C.1 C.2.1 dX7_isPaired_4 rfl (lv_at hl 1 rfl) ?_
  refine g_iald C hV 1 rfl hF dX7_isPaired_5 (fun x1 hF => ?_)
  refine lv_iconst (v := (-1)) C.1 C.2.1 dX7_isPaired_6 rfl ?_
  refine g_icmp_eq (tgt := 29) C hF dX7_isPaired_7 rfl (fun hF => ?_) (fun hF => ?_)
  · refine lv_iconst (v := 0) C.1 C.2.1 dX7_isPaired_29 rfl ?_
    exact hret (0 : Int32) _ _ _ _ dX7_isPaired_30 hF (Or.inl rfl) hV
  refine lv_aload_n C.1 C.2.1 dX7_isPaired_10 rfl (lv_at hl 0 rfl) ?_
  refine g_get C hV flX7_isPaired_30 0 rfl rfl dX7_isPaired_11 ?_
  refine lv_aload_n C.1 C.2.1 dX7_isPaired_14 rfl (lv_at hl 0 rfl) ?_
  refine g_get C hV flX7_isPaired_30 0 rfl rfl dX7_isPaired_15 ?_
  refine lv_iload_n C.1 C.2.1 dX7_isPaired_18 rfl (lv_at hl 1 rfl) ?_
  refine g_iald C hV 1 rfl hF dX7_isPaired_19 (fun x2 hF => ?_)
  refine g_iald C hV 1 rfl hF dX7_isPaired_20 (fun x3 hF => ?_)
  refine lv_iload_n C.1 C.2.1 dX7_isPaired_21 rfl (lv_at hl 1 rfl) ?_
  refine g_icmp_ne (tgt := 29) C hF dX7_isPaired_22 rfl (fun hF => ?_) (fun hF => ?_)
  · refine lv_iconst (v := 0) C.1 C.2.1 dX7_isPaired_29 rfl ?_
    exact hret (0 : Int32) _ _ _ _ dX7_isPaired_30 hF (Or.inl rfl) hV
  refine lv_iconst (v := 1) C.1 C.2.1 dX7_isPaired_25 rfl ?_
  refine lv_goto (tgt := 30) C.1 C.2.1 dX7_isPaired_26 rfl ?_
  exact hret (1 : Int32) _ _ _ _ dX7_isPaired_30 hF (Or.inr rfl) hV
abbrev rmX7_lineOf : Room := { frames := 1, cells := 0, slots := 0, locals := 21 }
theorem mdX7_lineOf : gMd yX7_lineOf wsX7_lineOf cX7_lineOf 4 (some .int) 1 := ⟨⟨_, rfl⟩, by decide +kernel⟩
theorem flX7_lineOf_30 : gFL wsX7_lineOf RX7 30 7 8 RX7 TX7 28 := ⟨rfl, fun w h => List.mem_cons_of_mem _ (List.mem_append_right _ (h)), Nat.le_of_ble_eq_true rfl, List.mem_cons_of_mem _ (List.mem_append_left _ (List.mem_of_getElem? (i := 0) rfl))⟩
def L_X7_lineOf_4 (n0 : Nat) (f_hears : Nat → Int32) : Nat → Int32 → Int32 → Option (Int32) := lpp2 (fun s1 s2 kk4 => (if 10 < s2 then some ((-1)) else (if s1 = ((-1)) then some ((-1)) else bd1 (F_X7_isPaired n0 f_hears s1) (fun x3 => (if x3 = 0 then rd f_hears 10 s1 (fun x4 => nm (s2 + 1) (fun x5 => kk4 x4 x5)) else some s2)))))
def F_X7_lineOf (n0 : Nat) (f_hears : Nat → Int32) (p1 : Int32) : Option (Int32) := L_X7_lineOf_4 n0 f_hears n0 p1 0
set_option maxRecDepth 100000 in
set_option maxHeartbeats 4000000 in
theorem k_X7_lineOf (l : Launch) (dC : Nat → ClassId) (dI : Nat → Nat → Nat) (cI cB cO : ClassId) (n0 sz : Nat) (a_t : Nat) (a_d : Nat) (a_e : Nat) (a_kept : Nat) (a_found : Nat) (a_tape : Nat) (a_hears : Nat) (a_near : Nat) (a_firstDay : Nat) (a_daily : Nat) (a_heardNow : Nat) (a_bitsOf : Nat) (a_sizeOf : Nat) (a_number : Nat) (a_passing : Nat)   (v_isKept : Int32) (v_taped : Int32) (v_gone : Int32) (v_begin : Int32) (v_round : Int32) (v_leastFar : Int32) (v_leastWhere : Int32) (v_mostLed : Int32) (v_firstMove : Int32) (v_at : Int32) (v_sort : Int32) (v_from : Int32) (v_value : Int64) (v_fault : Int32) (f_hears : Nat → Int32) (p1 : Int32)  {ro : Int32} (hF : F_X7_lineOf n0 f_hears p1 = some ro) : Met l yX7_lineOf wsX7_lineOf rmX7_lineOf (va_Pc [.ref a_t, .int p1] (gPre (dC, dI) (gT cI cB cO) sz [oX7 a_t a_d a_e a_kept v_isKept a_found a_tape v_taped v_gone a_hears a_near a_firstDay a_daily v_begin v_round v_leastFar v_leastWhere v_mostLed a_heardNow v_firstMove v_at v_sort v_from v_value v_fault a_bitsOf a_sizeOf a_number a_passing, aA cI a_hears 10 f_hears])) (gQi (dC, dI) (gT cI cB cO) sz [oX7 a_t a_d a_e a_kept v_isKept a_found a_tape v_taped v_gone a_hears a_near a_firstDay a_daily v_begin v_round v_leastFar v_leastWhere v_mostLed a_heardNow v_firstMove v_at v_sort v_from v_value v_fault a_bitsOf a_sizeOf a_number a_passing, aA cI a_hears 10 f_hears] ro [oX7 a_t a_d a_e a_kept v_isKept a_found a_tape v_taped v_gone a_hears a_near a_firstDay a_daily v_begin v_round v_leastFar v_leastWhere v_mostLed a_heardNow v_firstMove v_at v_sort v_from v_value v_fault a_bitsOf a_sizeOf a_number a_passing, aA cI a_hears 10 f_hears]) 0 0 (va_A [oX7 a_t a_d a_e a_kept v_isKept a_found a_tape v_taped v_gone a_hears a_near a_firstDay a_daily v_begin v_round v_leastFar v_leastWhere v_mostLed a_heardNow v_firstMove v_at v_sort v_from v_value v_fault a_bitsOf a_sizeOf a_number a_passing, aA cI a_hears 10 f_hears] sz) := by
  refine g_metI (Out := Int32) (fun oo => oo) (fun oo => [oX7 a_t a_d a_e a_kept v_isKept a_found a_tape v_taped v_gone a_hears a_near a_firstDay a_daily v_begin v_round v_leastFar v_leastWhere v_mostLed a_heardNow v_firstMove v_at v_sort v_from v_value v_fault a_bitsOf a_sizeOf a_number a_passing, aA cI a_hears 10 f_hears]) ro (own := RX7) (lv := [(0, .ref a_t), (1, .int p1)]) (by decide) rfl rfl (Nat.le_of_ble_eq_true rfl) rfl ?_
  intro p e s m args below meth c Q ls C hret hV hl
  obtain ⟨out, hout⟩ : ∃ z : Int32, z = ro := ⟨_, rfl⟩
  rw [← hout] at hF hret
  obtain ⟨H0, hH0⟩ : ∃ z : Heap, z = s.heap := ⟨_, rfl⟩
  obtain ⟨A0, hA0⟩ : ∃ z : Nat → Prop, z = va_A [oX7 a_t a_d a_e a_kept v_isKept a_found a_tape v_taped v_gone a_hears a_near a_firstDay a_daily v_begin v_round v_leastFar v_leastWhere v_mostLed a_heardNow v_firstMove v_at v_sort v_from v_value v_fault a_bitsOf a_sizeOf a_number a_passing, aA cI a_hears 10 f_hears] s.heap.size := ⟨_, rfl⟩
  rw [← hA0] at hret hV
  rw [← hH0] at hret hV
  rw [← hH0]
  obtain ⟨H, locs, hH⟩ : ∃ (z : Heap) (y : List Loc), z = H0 ∧ y = [] := ⟨_, _, rfl, rfl⟩
  rw [← hH.1, ← hH.2]
  have hV : gV (dC, dI) (gT cI cB cO) A0 H0 s [oX7 a_t a_d a_e a_kept v_isKept a_found a_tape v_taped v_gone a_hears a_near a_firstDay a_daily v_begin v_round v_leastFar v_leastWhere v_mostLed a_heardNow v_firstMove v_at v_sort v_from v_value v_fault a_bitsOf a_sizeOf a_number a_passing, aA cI a_hears 10 f_hears] H locs := by rw [hH.1, hH.2]; exact hV
  unfold F_X7_lineOf at hF
  refine lv_iload_n C.1 C.2.1 dX7_lineOf_0 rfl (lv_at hl 1 rfl) ?_
  refine lv_istore_n (lv' := [(2, .int p1), (0, .ref a_t), (1, .int p1)]) C.1 C.2.1 dX7_lineOf_1 rfl hl (by decide) rfl (fun ls hl => ?_)
  refine lv_iconst (v := 0) C.1 C.2.1 dX7_lineOf_2 rfl ?_
  refine lv_istore_n (lv' := [(3, .int 0), (2, .int p1), (0, .ref a_t), (1, .int p1)]) C.1 C.2.1 dX7_lineOf_3 rfl hl (by decide) rfl (fun ls hl => ?_)
  have hL4 : ∀ (n : Nat) (s1 : Int32) (s2 : Int32) (H : Heap) (locs : List Loc) (ls : Array Slot), gV (dC, dI) (gT cI cB cO) A0 H0 s [oX7 a_t a_d a_e a_kept v_isKept a_found a_tape v_taped v_gone a_hears a_near a_firstDay a_daily v_begin v_round v_leastFar v_leastWhere v_mostLed a_heardNow v_firstMove v_at v_sort v_from v_value v_fault a_bitsOf a_sizeOf a_number a_passing, aA cI a_hears 10 f_hears] H locs → lv_has ls 4 [(0, .ref a_t), (2, .int s1), (3, .int s2)] → L_X7_lineOf_4 n0 f_hears n s1 s2 = some out → W p l e rmX7_lineOf s m args below meth c H locs 0 0 Q (F0 m 4 ls []) := by
    intro n
    induction n with
    | zero => intro s1 s2 H locs ls hV hl hF; exact lpp2_z hF
    | succ n ih4 =>
      intro s1 s2 H locs ls hV hl hF
      obtain ⟨kk4, hk4, hF⟩ := lpp2_g hF
      have hq4 : ∀ (s1 : Int32) (s2 : Int32), kk4 s1 s2 = some out → L_X7_lineOf_4 n0 f_hears n s1 s2 = some out := fun _ _ h => by rw [hk4] at h; exact h
      refine lv_iload_n C.1 C.2.1 dX7_lineOf_4 rfl (lv_at hl 2 rfl) ?_
      refine lv_bipush (v := 10) C.1 C.2.1 dX7_lineOf_5 rfl ?_
      refine g_icmp_gt (tgt := 40) C hF dX7_lineOf_7 rfl (fun hF => ?_) (fun hF => ?_)
      · refine lv_iconst (v := (-1)) C.1 C.2.1 dX7_lineOf_40 rfl ?_
        exact hret ((-1)) _ _ _ _ dX7_lineOf_41 hF hV
      refine lv_iload_n C.1 C.2.1 dX7_lineOf_10 rfl (lv_at hl 1 rfl) ?_
      refine lv_iconst (v := (-1)) C.1 C.2.1 dX7_lineOf_11 rfl ?_
      refine g_icmp_ne (tgt := 17) C hF dX7_lineOf_12 rfl (fun hF => ?_) (fun hF => ?_)
      · refine lv_aload_n C.1 C.2.1 dX7_lineOf_17 rfl (lv_at hl 0 rfl) ?_
        refine lv_iload_n C.1 C.2.1 dX7_lineOf_18 rfl (lv_at hl 1 rfl) ?_
        obtain ⟨x3, hc, hF⟩ := bd1_s hF
        refine g_cVi (ws' := [oX7 a_t a_d a_e a_kept v_isKept a_found a_tape v_taped v_gone a_hears a_near a_firstDay a_daily v_begin v_round v_leastFar v_leastWhere v_mostLed a_heardNow v_firstMove v_at v_sort v_from v_value v_fault a_bitsOf a_sizeOf a_number a_passing, aA cI a_hears 10 f_hears]) (wr := []) C hV (k_X7_isPaired l dC dI cI cB cO n0 H.size a_t a_d a_e a_kept a_found a_tape a_hears a_near a_firstDay a_daily a_heardNow a_bitsOf a_sizeOf a_number a_passing v_isKept v_taped v_gone v_begin v_round v_leastFar v_leastWhere v_mostLed v_firstMove v_at v_sort v_from v_value v_fault f_hears s1 hc) mdX7_isPaired gX7_lineOf_X7_isPaired rfl rfl ⟨Nat.le_of_ble_eq_true rfl, Nat.le_of_ble_eq_true rfl⟩ [0, 1] [] [0, 1] rfl rfl rfl rfl rfl rfl rfl rfl rfl rfl hl.1 (Nat.le_of_ble_eq_true rfl) rfl dX7_lineOf_19 (fun H locs hV => ?_)
        refine g_if_eq (tgt := 27) C hF dX7_lineOf_22 rfl (fun hF => ?_) (fun hF => ?_)
        · refine lv_aload_n C.1 C.2.1 dX7_lineOf_27 rfl (lv_at hl 0 rfl) ?_
          refine g_get C hV flX7_lineOf_30 0 rfl rfl dX7_lineOf_28 ?_
          refine lv_iload_n C.1 C.2.1 dX7_lineOf_31 rfl (lv_at hl 1 rfl) ?_
          refine g_iald C hV 1 rfl hF dX7_lineOf_32 (fun x4 hF => ?_)
          refine lv_istore_n (lv' := [(2, .int x4), (0, .ref a_t), (3, .int s2)]) C.1 C.2.1 dX7_lineOf_33 rfl hl (by decide) rfl (fun ls hl => ?_)
          refine g_iinc C hF dX7_lineOf_34 (d := 1) rfl hl (j := 2) rfl (by decide) (fun y => [(3, .int y), (2, .int x4), (0, .ref a_t)]) (fun _ => rfl) (fun x5 ls hF hl => ?_)
          refine lv_goto (tgt := 4) C.1 C.2.1 dX7_lineOf_37 rfl ?_
          exact ih4 x4 x5 H locs ls hV (lv_sub hl [2, 1, 0] rfl) (hq4 x4 x5 hF)
        refine lv_iload_n C.1 C.2.1 dX7_lineOf_25 rfl (lv_at hl 2 rfl) ?_
        exact hret s2 _ _ _ _ dX7_lineOf_26 hF hV
      refine lv_iconst (v := (-1)) C.1 C.2.1 dX7_lineOf_15 rfl ?_
      exact hret ((-1)) _ _ _ _ dX7_lineOf_16 hF hV
  exact hL4 n0 p1 0 H locs ls hV (lv_sub hl [2, 1, 0] rfl) hF
abbrev rmX7_followersOf : Room := { frames := 0, cells := 0, slots := 0, locals := 0 }
theorem mdX7_followersOf : gMd yX7_followersOf wsX7_followersOf cX7_followersOf 7 (some .int) 1 := ⟨⟨_, rfl⟩, by decide +kernel⟩
theorem flX7_followersOf_7 : gFL wsX7_followersOf RX7 7 7 0 RX7 TX7 28 := ⟨rfl, fun w h => List.mem_cons_of_mem _ (List.mem_append_right _ (h)), Nat.le_of_ble_eq_true rfl, List.mem_cons_of_mem _ (List.mem_append_left _ (List.mem_of_getElem? (i := 0) rfl))⟩
theorem flX7_followersOf_30 : gFL wsX7_followersOf RX7 30 7 8 RX7 TX7 28 := ⟨rfl, fun w h => List.mem_cons_of_mem _ (List.mem_append_right _ (h)), Nat.le_of_ble_eq_true rfl, List.mem_cons_of_mem _ (List.mem_append_left _ (List.mem_of_getElem? (i := 1) rfl))⟩
def J_X7_followersOf_69 (s5 : Int32) (s1 : Int32) (s2 : Int32) (kk4 : Int32 → Int32 → Option (Int32)) (p1 : Int32) : Option (Int32) := (if s5 = 0 then nm (s1 ||| 0) (fun x7 => nm (s2 + 1) (fun x8 => kk4 x7 x8)) else (if s2 = p1 then nm (s1 ||| 0) (fun x9 => nm (s2 + 1) (fun x10 => kk4 x9 x10)) else nm (1 <<< (s2 &&& 31)) (fun x11 => nm (s1 ||| x11) (fun x12 => nm (s2 + 1) (fun x13 => kk4 x12 x13)))))
def L_X7_followersOf_23 (s1 : Int32) (s2 : Int32) (kk4 : Int32 → Int32 → Option (Int32)) (p1 : Int32) (f_hears : Nat → Int32) : Nat → Int32 → Int32 → Int32 → Option (Int32) := lpp3 (fun s4 s5 s6 kk23 => (if 10 ≤ s6 then J_X7_followersOf_69 s5 s1 s2 kk4 p1 else (if s4 = ((-1)) then J_X7_followersOf_69 s5 s1 s2 kk4 p1 else rd f_hears 10 s4 (fun x14 => (if s5 = 0 then (if x14 = p1 then nm (s6 + 1) (fun x17 => kk23 x14 1 x17) else nm (s6 + 1) (fun x16 => kk23 x14 0 x16)) else nm (s6 + 1) (fun x15 => kk23 x14 1 x15))))))
def L_X7_followersOf_4 (f_d : Nat → Int32) (p1 : Int32) (f_hears : Nat → Int32) (n0 : Nat) : Nat → Int32 → Int32 → Option (Int32) := lpp2 (fun s1 s2 kk4 => rd f_d 40 0 (fun x3 => (if x3 ≤ s2 then some s1 else L_X7_followersOf_23 s1 s2 kk4 p1 f_hears n0 s2 0 0)))
def F_X7_followersOf (n0 : Nat) (f_d : Nat → Int32) (f_hears : Nat → Int32) (p1 : Int32) : Option (Int32) := L_X7_followersOf_4 f_d p1 f_hears n0 n0 0 0
set_option maxRecDepth 100000 in
set_option maxHeartbeats 4000000 in
theorem k_X7_followersOf (l : Launch) (dC : Nat → ClassId) (dI : Nat → Nat → Nat) (cI cB cO : ClassId) (n0 sz : Nat) (a_t : Nat) (a_d : Nat) (a_e : Nat) (a_kept : Nat) (a_found : Nat) (a_tape : Nat) (a_hears : Nat) (a_near : Nat) (a_firstDay : Nat) (a_daily : Nat) (a_heardNow : Nat) (a_bitsOf : Nat) (a_sizeOf : Nat) (a_number : Nat) (a_passing : Nat)   (v_isKept : Int32) (v_taped : Int32) (v_gone : Int32) (v_begin : Int32) (v_round : Int32) (v_leastFar : Int32) (v_leastWhere : Int32) (v_mostLed : Int32) (v_firstMove : Int32) (v_at : Int32) (v_sort : Int32) (v_from : Int32) (v_value : Int64) (v_fault : Int32) (f_d : Nat → Int32) (f_hears : Nat → Int32) (p1 : Int32)  {ro : Int32} (hF : F_X7_followersOf n0 f_d f_hears p1 = some ro) : Met l yX7_followersOf wsX7_followersOf rmX7_followersOf (va_Pc [.ref a_t, .int p1] (gPre (dC, dI) (gT cI cB cO) sz [oX7 a_t a_d a_e a_kept v_isKept a_found a_tape v_taped v_gone a_hears a_near a_firstDay a_daily v_begin v_round v_leastFar v_leastWhere v_mostLed a_heardNow v_firstMove v_at v_sort v_from v_value v_fault a_bitsOf a_sizeOf a_number a_passing, aA cI a_d 40 f_d, aA cI a_hears 10 f_hears])) (gQi (dC, dI) (gT cI cB cO) sz [oX7 a_t a_d a_e a_kept v_isKept a_found a_tape v_taped v_gone a_hears a_near a_firstDay a_daily v_begin v_round v_leastFar v_leastWhere v_mostLed a_heardNow v_firstMove v_at v_sort v_from v_value v_fault a_bitsOf a_sizeOf a_number a_passing, aA cI a_d 40 f_d, aA cI a_hears 10 f_hears] ro [oX7 a_t a_d a_e a_kept v_isKept a_found a_tape v_taped v_gone a_hears a_near a_firstDay a_daily v_begin v_round v_leastFar v_leastWhere v_mostLed a_heardNow v_firstMove v_at v_sort v_from v_value v_fault a_bitsOf a_sizeOf a_number a_passing, aA cI a_d 40 f_d, aA cI a_hears 10 f_hears]) 0 0 (va_A [oX7 a_t a_d a_e a_kept v_isKept a_found a_tape v_taped v_gone a_hears a_near a_firstDay a_daily v_begin v_round v_leastFar v_leastWhere v_mostLed a_heardNow v_firstMove v_at v_sort v_from v_value v_fault a_bitsOf a_sizeOf a_number a_passing, aA cI a_d 40 f_d, aA cI a_hears 10 f_hears] sz) := by
  refine g_metI (Out := Int32) (fun oo => oo) (fun oo => [oX7 a_t a_d a_e a_kept v_isKept a_found a_tape v_taped v_gone a_hears a_near a_firstDay a_daily v_begin v_round v_leastFar v_leastWhere v_mostLed a_heardNow v_firstMove v_at v_sort v_from v_value v_fault a_bitsOf a_sizeOf a_number a_passing, aA cI a_d 40 f_d, aA cI a_hears 10 f_hears]) ro (own := RX7) (lv := [(0, .ref a_t), (1, .int p1)]) (by decide) rfl rfl (Nat.le_of_ble_eq_true rfl) rfl ?_
  intro p e s m args below meth c Q ls C hret hV hl
  obtain ⟨out, hout⟩ : ∃ z : Int32, z = ro := ⟨_, rfl⟩
  rw [← hout] at hF hret
  obtain ⟨H0, hH0⟩ : ∃ z : Heap, z = s.heap := ⟨_, rfl⟩
  obtain ⟨A0, hA0⟩ : ∃ z : Nat → Prop, z = va_A [oX7 a_t a_d a_e a_kept v_isKept a_found a_tape v_taped v_gone a_hears a_near a_firstDay a_daily v_begin v_round v_leastFar v_leastWhere v_mostLed a_heardNow v_firstMove v_at v_sort v_from v_value v_fault a_bitsOf a_sizeOf a_number a_passing, aA cI a_d 40 f_d, aA cI a_hears 10 f_hears] s.heap.size := ⟨_, rfl⟩
  rw [← hA0] at hret hV
  rw [← hH0] at hret hV
  rw [← hH0]
  obtain ⟨H, locs, hH⟩ : ∃ (z : Heap) (y : List Loc), z = H0 ∧ y = [] := ⟨_, _, rfl, rfl⟩
  rw [← hH.1, ← hH.2]
  have hV : gV (dC, dI) (gT cI cB cO) A0 H0 s [oX7 a_t a_d a_e a_kept v_isKept a_found a_tape v_taped v_gone a_hears a_near a_firstDay a_daily v_begin v_round v_leastFar v_leastWhere v_mostLed a_heardNow v_firstMove v_at v_sort v_from v_value v_fault a_bitsOf a_sizeOf a_number a_passing, aA cI a_d 40 f_d, aA cI a_hears 10 f_hears] H locs := by rw [hH.1, hH.2]; exact hV
  unfold F_X7_followersOf at hF
  refine lv_iconst (v := 0) C.1 C.2.1 dX7_followersOf_0 rfl ?_
  refine lv_istore_n (lv' := [(2, .int 0), (0, .ref a_t), (1, .int p1)]) C.1 C.2.1 dX7_followersOf_1 rfl hl (by decide) rfl (fun ls hl => ?_)
  refine lv_iconst (v := 0) C.1 C.2.1 dX7_followersOf_2 rfl ?_
  refine lv_istore_n (lv' := [(3, .int 0), (2, .int 0), (0, .ref a_t), (1, .int p1)]) C.1 C.2.1 dX7_followersOf_3 rfl hl (by decide) rfl (fun ls hl => ?_)
  have hL4 : ∀ (n : Nat) (s1 : Int32) (s2 : Int32) (H : Heap) (locs : List Loc) (ls : Array Slot), gV (dC, dI) (gT cI cB cO) A0 H0 s [oX7 a_t a_d a_e a_kept v_isKept a_found a_tape v_taped v_gone a_hears a_near a_firstDay a_daily v_begin v_round v_leastFar v_leastWhere v_mostLed a_heardNow v_firstMove v_at v_sort v_from v_value v_fault a_bitsOf a_sizeOf a_number a_passing, aA cI a_d 40 f_d, aA cI a_hears 10 f_hears] H locs → lv_has ls 7 [(0, .ref a_t), (1, .int p1), (2, .int s1), (3, .int s2)] → L_X7_followersOf_4 f_d p1 f_hears n0 n s1 s2 = some out → W p l e rmX7_followersOf s m args below meth c H locs 0 0 Q (F0 m 4 ls []) := by
    intro n
    induction n with
    | zero => intro s1 s2 H locs ls hV hl hF; exact lpp2_z hF
    | succ n ih4 =>
      intro s1 s2 H locs ls hV hl hF
      obtain ⟨kk4, hk4, hF⟩ := lpp2_g hF
      have hq4 : ∀ (s1 : Int32) (s2 : Int32), kk4 s1 s2 = some out → L_X7_followersOf_4 f_d p1 f_hears n0 n s1 s2 = some out := fun _ _ h => by rw [hk4] at h; exact h
      refine lv_iload_n C.1 C.2.1 dX7_followersOf_4 rfl (lv_at hl 3 rfl) ?_
      refine lv_aload_n C.1 C.2.1 dX7_followersOf_5 rfl (lv_at hl 0 rfl) ?_
      refine g_get C hV flX7_followersOf_7 0 rfl rfl dX7_followersOf_6 ?_
      refine lv_iconst (v := 0) C.1 C.2.1 dX7_followersOf_9 rfl ?_
      refine g_iald C hV 1 rfl hF dX7_followersOf_10 (fun x3 hF => ?_)
      refine g_icmp_ge (tgt := 95) C hF dX7_followersOf_11 rfl (fun hF => ?_) (fun hF => ?_)
      · refine lv_iload_n C.1 C.2.1 dX7_followersOf_95 rfl (lv_at hl 2 rfl) ?_
        exact hret s1 _ _ _ _ dX7_followersOf_96 hF hV
      refine lv_iload_n C.1 C.2.1 dX7_followersOf_14 rfl (lv_at hl 3 rfl) ?_
      refine lv_istore (lv' := [(4, .int s2), (0, .ref a_t), (1, .int p1), (2, .int s1), (3, .int s2)]) C.1 C.2.1 dX7_followersOf_15 hl (by decide) rfl (fun ls hl => ?_)
      refine lv_iconst (v := 0) C.1 C.2.1 dX7_followersOf_17 rfl ?_
      refine lv_istore (lv' := [(5, .int 0), (4, .int s2), (0, .ref a_t), (1, .int p1), (2, .int s1), (3, .int s2)]) C.1 C.2.1 dX7_followersOf_18 hl (by decide) rfl (fun ls hl => ?_)
      refine lv_iconst (v := 0) C.1 C.2.1 dX7_followersOf_20 rfl ?_
      refine lv_istore (lv' := [(6, .int 0), (5, .int 0), (4, .int s2), (0, .ref a_t), (1, .int p1), (2, .int s1), (3, .int s2)]) C.1 C.2.1 dX7_followersOf_21 hl (by decide) rfl (fun ls hl => ?_)
      have hL23 : ∀ (n : Nat) (s4 : Int32) (s5 : Int32) (s6 : Int32) (H : Heap) (locs : List Loc) (ls : Array Slot), gV (dC, dI) (gT cI cB cO) A0 H0 s [oX7 a_t a_d a_e a_kept v_isKept a_found a_tape v_taped v_gone a_hears a_near a_firstDay a_daily v_begin v_round v_leastFar v_leastWhere v_mostLed a_heardNow v_firstMove v_at v_sort v_from v_value v_fault a_bitsOf a_sizeOf a_number a_passing, aA cI a_d 40 f_d, aA cI a_hears 10 f_hears] H locs → lv_has ls 7 [(0, .ref a_t), (1, .int p1), (2, .int s1), (3, .int s2), (4, .int s4), (5, .int s5), (6, .int s6)] → L_X7_followersOf_23 s1 s2 kk4 p1 f_hears n s4 s5 s6 = some out → W p l e rmX7_followersOf s m args below meth c H locs 0 0 Q (F0 m 23 ls []) := by
        intro n
        induction n with
        | zero => intro s4 s5 s6 H locs ls hV hl hF; exact lpp3_z hF
        | succ n ih23 =>
          intro s4 s5 s6 H locs ls hV hl hF
          obtain ⟨kk23, hk23, hF⟩ := lpp3_g hF
          have hq23 : ∀ (s4 : Int32) (s5 : Int32) (s6 : Int32), kk23 s4 s5 s6 = some out → L_X7_followersOf_23 s1 s2 kk4 p1 f_hears n s4 s5 s6 = some out := fun _ _ _ h => by rw [hk23] at h; exact h
          refine lv_iload C.1 C.2.1 dX7_followersOf_23 (lv_at hl 6 rfl) ?_
          refine lv_bipush (v := 10) C.1 C.2.1 dX7_followersOf_25 rfl ?_
          have hJ69 : ∀  (H : Heap) (locs : List Loc) (ls : Array Slot), gV (dC, dI) (gT cI cB cO) A0 H0 s [oX7 a_t a_d a_e a_kept v_isKept a_found a_tape v_taped v_gone a_hears a_near a_firstDay a_daily v_begin v_round v_leastFar v_leastWhere v_mostLed a_heardNow v_firstMove v_at v_sort v_from v_value v_fault a_bitsOf a_sizeOf a_number a_passing, aA cI a_d 40 f_d, aA cI a_hears 10 f_hears] H locs → lv_has ls 7 [(0, .ref a_t), (1, .int p1), (2, .int s1), (3, .int s2), (5, .int s5)] → J_X7_followersOf_69 s5 s1 s2 kk4 p1 = some out → W p l e rmX7_followersOf s m args below meth c H locs 0 0 Q (F0 m 69 ls []) := by
            intro  H locs ls hV hl hF
            unfold J_X7_followersOf_69 at hF
            refine lv_iload_n C.1 C.2.1 dX7_followersOf_69 rfl (lv_at hl 2 rfl) ?_
            refine lv_iload C.1 C.2.1 dX7_followersOf_70 (lv_at hl 4 rfl) ?_
            refine g_if_eq (tgt := 86) C hF dX7_followersOf_72 rfl (fun hF => ?_) (fun hF => ?_)
            · refine lv_iconst (v := 0) C.1 C.2.1 dX7_followersOf_86 rfl ?_
              refine g_ior C hF dX7_followersOf_87 (fun x7 hF => ?_)
              refine lv_istore_n (lv' := [(2, .int x7), (0, .ref a_t), (1, .int p1), (3, .int s2), (5, .int s5)]) C.1 C.2.1 dX7_followersOf_88 rfl hl (by decide) rfl (fun ls hl => ?_)
              refine g_iinc C hF dX7_followersOf_89 (d := 1) rfl hl (j := 3) rfl (by decide) (fun y => [(3, .int y), (2, .int x7), (0, .ref a_t), (1, .int p1), (5, .int s5)]) (fun _ => rfl) (fun x8 ls hF hl => ?_)
              refine lv_goto (tgt := 4) C.1 C.2.1 dX7_followersOf_92 rfl ?_
              exact ih4 x7 x8 H locs ls hV (lv_sub hl [2, 3, 1, 0] rfl) (hq4 x7 x8 hF)
            refine lv_iload_n C.1 C.2.1 dX7_followersOf_75 rfl (lv_at hl 3 rfl) ?_
            refine lv_iload_n C.1 C.2.1 dX7_followersOf_76 rfl (lv_at hl 1 rfl) ?_
            refine g_icmp_eq (tgt := 86) C hF dX7_followersOf_77 rfl (fun hF => ?_) (fun hF => ?_)
            · refine lv_iconst (v := 0) C.1 C.2.1 dX7_followersOf_86 rfl ?_
              refine g_ior C hF dX7_followersOf_87 (fun x9 hF => ?_)
              refine lv_istore_n (lv' := [(2, .int x9), (0, .ref a_t), (1, .int p1), (3, .int s2), (5, .int s5)]) C.1 C.2.1 dX7_followersOf_88 rfl hl (by decide) rfl (fun ls hl => ?_)
              refine g_iinc C hF dX7_followersOf_89 (d := 1) rfl hl (j := 3) rfl (by decide) (fun y => [(3, .int y), (2, .int x9), (0, .ref a_t), (1, .int p1), (5, .int s5)]) (fun _ => rfl) (fun x10 ls hF hl => ?_)
              refine lv_goto (tgt := 4) C.1 C.2.1 dX7_followersOf_92 rfl ?_
              exact ih4 x9 x10 H locs ls hV (lv_sub hl [2, 3, 1, 0] rfl) (hq4 x9 x10 hF)
            refine lv_iconst (v := 1) C.1 C.2.1 dX7_followersOf_80 rfl ?_
            refine lv_iload_n C.1 C.2.1 dX7_followersOf_81 rfl (lv_at hl 3 rfl) ?_
            refine g_ishl C hF dX7_followersOf_82 (fun x11 hF => ?_)
            refine lv_goto (tgt := 87) C.1 C.2.1 dX7_followersOf_83 rfl ?_
            refine g_ior C hF dX7_followersOf_87 (fun x12 hF => ?_)
            refine lv_istore_n (lv' := [(2, .int x12), (0, .ref a_t), (1, .int p1), (3, .int s2), (5, .int s5)]) C.1 C.2.1 dX7_followersOf_88 rfl hl (by decide) rfl (fun ls hl => ?_)
            refine g_iinc C hF dX7_followersOf_89 (d := 1) rfl hl (j := 3) rfl (by decide) (fun y => [(3, .int y), (2, .int x12), (0, .ref a_t), (1, .int p1), (5, .int s5)]) (fun _ => rfl) (fun x13 ls hF hl => ?_)
            refine lv_goto (tgt := 4) C.1 C.2.1 dX7_followersOf_92 rfl ?_
            exact ih4 x12 x13 H locs ls hV (lv_sub hl [2, 3, 1, 0] rfl) (hq4 x12 x13 hF)
          refine g_icmp_ge (tgt := 69) C hF dX7_followersOf_27 rfl (fun hF => ?_) (fun hF => ?_)
          · exact hJ69  H locs ls hV (lv_sub hl [0, 1, 2, 3, 5] rfl) hF
          refine lv_iload C.1 C.2.1 dX7_followersOf_30 (lv_at hl 4 rfl) ?_
          refine lv_iconst (v := (-1)) C.1 C.2.1 dX7_followersOf_32 rfl ?_
          refine g_icmp_eq (tgt := 69) C hF dX7_followersOf_33 rfl (fun hF => ?_) (fun hF => ?_)
          · exact hJ69  H locs ls hV (lv_sub hl [0, 1, 2, 3, 5] rfl) hF
          refine lv_aload_n C.1 C.2.1 dX7_followersOf_36 rfl (lv_at hl 0 rfl) ?_
          refine g_get C hV flX7_followersOf_30 0 rfl rfl dX7_followersOf_37 ?_
          refine lv_iload C.1 C.2.1 dX7_followersOf_40 (lv_at hl 4 rfl) ?_
          refine g_iald C hV 2 rfl hF dX7_followersOf_42 (fun x14 hF => ?_)
          refine lv_istore (lv' := [(4, .int x14), (0, .ref a_t), (1, .int p1), (2, .int s1), (3, .int s2), (5, .int s5), (6, .int s6)]) C.1 C.2.1 dX7_followersOf_43 hl (by decide) rfl (fun ls hl => ?_)
          refine lv_iload C.1 C.2.1 dX7_followersOf_45 (lv_at hl 5 rfl) ?_
          refine g_if_ne (tgt := 56) C hF dX7_followersOf_47 rfl (fun hF => ?_) (fun hF => ?_)
          · refine lv_iconst (v := 1) C.1 C.2.1 dX7_followersOf_56 rfl ?_
            refine lv_goto (tgt := 61) C.1 C.2.1 dX7_followersOf_57 rfl ?_
            refine lv_istore (lv' := [(5, .int 1), (4, .int x14), (0, .ref a_t), (1, .int p1), (2, .int s1), (3, .int s2), (6, .int s6)]) C.1 C.2.1 dX7_followersOf_61 hl (by decide) rfl (fun ls hl => ?_)
            refine g_iinc C hF dX7_followersOf_63 (d := 1) rfl hl (j := 6) rfl (by decide) (fun y => [(6, .int y), (5, .int 1), (4, .int x14), (0, .ref a_t), (1, .int p1), (2, .int s1), (3, .int s2)]) (fun _ => rfl) (fun x15 ls hF hl => ?_)
            refine lv_goto (tgt := 23) C.1 C.2.1 dX7_followersOf_66 rfl ?_
            exact ih23 x14 1 x15 H locs ls hV (lv_sub hl [3, 4, 5, 6, 2, 1, 0] rfl) (hq23 x14 1 x15 hF)
          refine lv_iload C.1 C.2.1 dX7_followersOf_50 (lv_at hl 0 rfl) ?_
          refine lv_iload_n C.1 C.2.1 dX7_followersOf_52 rfl (lv_at hl 2 rfl) ?_
          refine g_icmp_ne (tgt := 60) C hF dX7_followersOf_53 rfl (fun hF => ?_) (fun hF => ?_)
          · refine lv_iconst (v := 0) C.1 C.2.1 dX7_followersOf_60 rfl ?_
            refine lv_istore (lv' := [(5, .int 0), (4, .int x14), (0, .ref a_t), (1, .int p1), (2, .int s1), (3, .int s2), (6, .int s6)]) C.1 C.2.1 dX7_followersOf_61 hl (by decide) rfl (fun ls hl => ?_)
            refine g_iinc C hF dX7_followersOf_63 (d := 1) rfl hl (j := 6) rfl (by decide) (fun y => [(6, .int y), (5, .int 0), (4, .int x14), (0, .ref a_t), (1, .int p1), (2, .int s1), (3, .int s2)]) (fun _ => rfl) (fun x16 ls hF hl => ?_)
            refine lv_goto (tgt := 23) C.1 C.2.1 dX7_followersOf_66 rfl ?_
            exact ih23 x14 0 x16 H locs ls hV (lv_sub hl [3, 4, 5, 6, 2, 1, 0] rfl) (hq23 x14 0 x16 hF)
          refine lv_iconst (v := 1) C.1 C.2.1 dX7_followersOf_56 rfl ?_
          refine lv_goto (tgt := 61) C.1 C.2.1 dX7_followersOf_57 rfl ?_
          refine lv_istore (lv' := [(5, .int 1), (4, .int x14), (0, .ref a_t), (1, .int p1), (2, .int s1), (3, .int s2), (6, .int s6)]) C.1 C.2.1 dX7_followersOf_61 hl (by decide) rfl (fun ls hl => ?_)
          refine g_iinc C hF dX7_followersOf_63 (d := 1) rfl hl (j := 6) rfl (by decide) (fun y => [(6, .int y), (5, .int 1), (4, .int x14), (0, .ref a_t), (1, .int p1), (2, .int s1), (3, .int s2)]) (fun _ => rfl) (fun x17 ls hF hl => ?_)
          refine lv_goto (tgt := 23) C.1 C.2.1 dX7_followersOf_66 rfl ?_
          exact ih23 x14 1 x17 H locs ls hV (lv_sub hl [3, 4, 5, 6, 2, 1, 0] rfl) (hq23 x14 1 x17 hF)
      exact hL23 n0 s2 0 0 H locs ls hV (lv_sub hl [3, 4, 5, 6, 2, 1, 0] rfl) hF
  exact hL4 n0 0 0 H locs ls hV (lv_sub hl [2, 3, 1, 0] rfl) hF
abbrev rmX7_pairs : Room := { frames := 1, cells := 0, slots := 0, locals := 21 }
theorem mdX7_pairs : gMd yX7_pairs wsX7_pairs cX7_pairs 3 (some .int) 0 := ⟨⟨_, rfl⟩, by decide +kernel⟩
theorem flX7_pairs_7 : gFL wsX7_pairs RX7 7 7 0 RX7 TX7 28 := ⟨rfl, fun w h => List.mem_cons_of_mem _ (List.mem_append_right _ (h)), Nat.le_of_ble_eq_true rfl, List.mem_cons_of_mem _ (List.mem_append_left _ (List.mem_of_getElem? (i := 0) rfl))⟩
theorem flX7_pairs_30 : gFL wsX7_pairs RX7 30 7 8 RX7 TX7 28 := ⟨rfl, fun w h => List.mem_cons_of_mem _ (List.mem_append_right _ (h)), Nat.le_of_ble_eq_true rfl, List.mem_cons_of_mem _ (List.mem_append_left _ (List.mem_of_getElem? (i := 1) rfl))⟩
def L_X7_pairs_4 (f_d : Nat → Int32) (n0 : Nat) (f_hears : Nat → Int32) : Nat → Int32 → Int32 → Option (Int32) := lpp2 (fun s1 s2 kk4 => rd f_d 40 0 (fun x3 => (if x3 ≤ s2 then some s1 else bd1 (F_X7_isPaired n0 f_hears s2) (fun x4 => (if x4 = 0 then nm (s1 + 0) (fun x5 => nm (s2 + 1) (fun x6 => kk4 x5 x6)) else rd f_hears 10 s2 (fun x7 => (if x7 ≤ s2 then nm (s1 + 0) (fun x8 => nm (s2 + 1) (fun x9 => kk4 x8 x9)) else nm (s1 + 1) (fun x10 => nm (s2 + 1) (fun x11 => kk4 x10 x11)))))))))
def F_X7_pairs (n0 : Nat) (f_d : Nat → Int32) (f_hears : Nat → Int32) : Option (Int32) := L_X7_pairs_4 f_d n0 f_hears n0 0 0
set_option maxRecDepth 100000 in
set_option maxHeartbeats 4000000 in
theorem k_X7_pairs (l : Launch) (dC : Nat → ClassId) (dI : Nat → Nat → Nat) (cI cB cO : ClassId) (n0 sz : Nat) (a_t : Nat) (a_d : Nat) (a_e : Nat) (a_kept : Nat) (a_found : Nat) (a_tape : Nat) (a_hears : Nat) (a_near : Nat) (a_firstDay : Nat) (a_daily : Nat) (a_heardNow : Nat) (a_bitsOf : Nat) (a_sizeOf : Nat) (a_number : Nat) (a_passing : Nat)   (v_isKept : Int32) (v_taped : Int32) (v_gone : Int32) (v_begin : Int32) (v_round : Int32) (v_leastFar : Int32) (v_leastWhere : Int32) (v_mostLed : Int32) (v_firstMove : Int32) (v_at : Int32) (v_sort : Int32) (v_from : Int32) (v_value : Int64) (v_fault : Int32) (f_d : Nat → Int32) (f_hears : Nat → Int32)   {ro : Int32} (hF : F_X7_pairs n0 f_d f_hears = some ro) : Met l yX7_pairs wsX7_pairs rmX7_pairs (va_Pc [.ref a_t] (gPre (dC, dI) (gT cI cB cO) sz [oX7 a_t a_d a_e a_kept v_isKept a_found a_tape v_taped v_gone a_hears a_near a_firstDay a_daily v_begin v_round v_leastFar v_leastWhere v_mostLed a_heardNow v_firstMove v_at v_sort v_from v_value v_fault a_bitsOf a_sizeOf a_number a_passing, aA cI a_d 40 f_d, aA cI a_hears 10 f_hears])) (gQi (dC, dI) (gT cI cB cO) sz [oX7 a_t a_d a_e a_kept v_isKept a_found a_tape v_taped v_gone a_hears a_near a_firstDay a_daily v_begin v_round v_leastFar v_leastWhere v_mostLed a_heardNow v_firstMove v_at v_sort v_from v_value v_fault a_bitsOf a_sizeOf a_number a_passing, aA cI a_d 40 f_d, aA cI a_hears 10 f_hears] ro [oX7 a_t a_d a_e a_kept v_isKept a_found a_tape v_taped v_gone a_hears a_near a_firstDay a_daily v_begin v_round v_leastFar v_leastWhere v_mostLed a_heardNow v_firstMove v_at v_sort v_from v_value v_fault a_bitsOf a_sizeOf a_number a_passing, aA cI a_d 40 f_d, aA cI a_hears 10 f_hears]) 0 0 (va_A [oX7 a_t a_d a_e a_kept v_isKept a_found a_tape v_taped v_gone a_hears a_near a_firstDay a_daily v_begin v_round v_leastFar v_leastWhere v_mostLed a_heardNow v_firstMove v_at v_sort v_from v_value v_fault a_bitsOf a_sizeOf a_number a_passing, aA cI a_d 40 f_d, aA cI a_hears 10 f_hears] sz) := by
  refine g_metI (Out := Int32) (fun oo => oo) (fun oo => [oX7 a_t a_d a_e a_kept v_isKept a_found a_tape v_taped v_gone a_hears a_near a_firstDay a_daily v_begin v_round v_leastFar v_leastWhere v_mostLed a_heardNow v_firstMove v_at v_sort v_from v_value v_fault a_bitsOf a_sizeOf a_number a_passing, aA cI a_d 40 f_d, aA cI a_hears 10 f_hears]) ro (own := RX7) (lv := [(0, .ref a_t)]) (by decide) rfl rfl (Nat.le_of_ble_eq_true rfl) rfl ?_
  intro p e s m args below meth c Q ls C hret hV hl
  obtain ⟨out, hout⟩ : ∃ z : Int32, z = ro := ⟨_, rfl⟩
  rw [← hout] at hF hret
  obtain ⟨H0, hH0⟩ : ∃ z : Heap, z = s.heap := ⟨_, rfl⟩
  obtain ⟨A0, hA0⟩ : ∃ z : Nat → Prop, z = va_A [oX7 a_t a_d a_e a_kept v_isKept a_found a_tape v_taped v_gone a_hears a_near a_firstDay a_daily v_begin v_round v_leastFar v_leastWhere v_mostLed a_heardNow v_firstMove v_at v_sort v_from v_value v_fault a_bitsOf a_sizeOf a_number a_passing, aA cI a_d 40 f_d, aA cI a_hears 10 f_hears] s.heap.size := ⟨_, rfl⟩
  rw [← hA0] at hret hV
  rw [← hH0] at hret hV
  rw [← hH0]
  obtain ⟨H, locs, hH⟩ : ∃ (z : Heap) (y : List Loc), z = H0 ∧ y = [] := ⟨_, _, rfl, rfl⟩
  rw [← hH.1, ← hH.2]
  have hV : gV (dC, dI) (gT cI cB cO) A0 H0 s [oX7 a_t a_d a_e a_kept v_isKept a_found a_tape v_taped v_gone a_hears a_near a_firstDay a_daily v_begin v_round v_leastFar v_leastWhere v_mostLed a_heardNow v_firstMove v_at v_sort v_from v_value v_fault a_bitsOf a_sizeOf a_number a_passing, aA cI a_d 40 f_d, aA cI a_hears 10 f_hears] H locs := by rw [hH.1, hH.2]; exact hV
  unfold F_X7_pairs at hF
  refine lv_iconst (v := 0) C.1 C.2.1 dX7_pairs_0 rfl ?_
  refine lv_istore_n (lv' := [(1, .int 0), (0, .ref a_t)]) C.1 C.2.1 dX7_pairs_1 rfl hl (by decide) rfl (fun ls hl => ?_)
  refine lv_iconst (v := 0) C.1 C.2.1 dX7_pairs_2 rfl ?_
  refine lv_istore_n (lv' := [(2, .int 0), (1, .int 0), (0, .ref a_t)]) C.1 C.2.1 dX7_pairs_3 rfl hl (by decide) rfl (fun ls hl => ?_)
  have hL4 : ∀ (n : Nat) (s1 : Int32) (s2 : Int32) (H : Heap) (locs : List Loc) (ls : Array Slot), gV (dC, dI) (gT cI cB cO) A0 H0 s [oX7 a_t a_d a_e a_kept v_isKept a_found a_tape v_taped v_gone a_hears a_near a_firstDay a_daily v_begin v_round v_leastFar v_leastWhere v_mostLed a_heardNow v_firstMove v_at v_sort v_from v_value v_fault a_bitsOf a_sizeOf a_number a_passing, aA cI a_d 40 f_d, aA cI a_hears 10 f_hears] H locs → lv_has ls 3 [(0, .ref a_t), (1, .int s1), (2, .int s2)] → L_X7_pairs_4 f_d n0 f_hears n s1 s2 = some out → W p l e rmX7_pairs s m args below meth c H locs 0 0 Q (F0 m 4 ls []) := by
    intro n
    induction n with
    | zero => intro s1 s2 H locs ls hV hl hF; exact lpp2_z hF
    | succ n ih4 =>
      intro s1 s2 H locs ls hV hl hF
      obtain ⟨kk4, hk4, hF⟩ := lpp2_g hF
      have hq4 : ∀ (s1 : Int32) (s2 : Int32), kk4 s1 s2 = some out → L_X7_pairs_4 f_d n0 f_hears n s1 s2 = some out := fun _ _ h => by rw [hk4] at h; exact h
      refine lv_iload_n C.1 C.2.1 dX7_pairs_4 rfl (lv_at hl 2 rfl) ?_
      refine lv_aload_n C.1 C.2.1 dX7_pairs_5 rfl (lv_at hl 0 rfl) ?_
      refine g_get C hV flX7_pairs_7 0 rfl rfl dX7_pairs_6 ?_
      refine lv_iconst (v := 0) C.1 C.2.1 dX7_pairs_9 rfl ?_
      refine g_iald C hV 1 rfl hF dX7_pairs_10 (fun x3 hF => ?_)
      refine g_icmp_ge (tgt := 46) C hF dX7_pairs_11 rfl (fun hF => ?_) (fun hF => ?_)
      · refine lv_iload_n C.1 C.2.1 dX7_pairs_46 rfl (lv_at hl 1 rfl) ?_
        exact hret s1 _ _ _ _ dX7_pairs_47 hF hV
      refine lv_iload_n C.1 C.2.1 dX7_pairs_14 rfl (lv_at hl 1 rfl) ?_
      refine lv_aload_n C.1 C.2.1 dX7_pairs_15 rfl (lv_at hl 0 rfl) ?_
      refine lv_iload_n C.1 C.2.1 dX7_pairs_16 rfl (lv_at hl 2 rfl) ?_
      obtain ⟨x4, hc, hF⟩ := bd1_s hF
      refine g_cVi (ws' := [oX7 a_t a_d a_e a_kept v_isKept a_found a_tape v_taped v_gone a_hears a_near a_firstDay a_daily v_begin v_round v_leastFar v_leastWhere v_mostLed a_heardNow v_firstMove v_at v_sort v_from v_value v_fault a_bitsOf a_sizeOf a_number a_passing, aA cI a_d 40 f_d, aA cI a_hears 10 f_hears]) (wr := [aA cI a_d 40 f_d]) C hV (k_X7_isPaired l dC dI cI cB cO n0 H.size a_t a_d a_e a_kept a_found a_tape a_hears a_near a_firstDay a_daily a_heardNow a_bitsOf a_sizeOf a_number a_passing v_isKept v_taped v_gone v_begin v_round v_leastFar v_leastWhere v_mostLed v_firstMove v_at v_sort v_from v_value v_fault f_hears s2 hc) mdX7_isPaired gX7_pairs_X7_isPaired rfl rfl ⟨Nat.le_of_ble_eq_true rfl, Nat.le_of_ble_eq_true rfl⟩ [0, 2] [1] [1, 0, 2] rfl rfl rfl rfl rfl rfl rfl rfl rfl rfl hl.1 (Nat.le_of_ble_eq_true rfl) rfl dX7_pairs_17 (fun H locs hV => ?_)
      refine g_if_eq (tgt := 37) C hF dX7_pairs_20 rfl (fun hF => ?_) (fun hF => ?_)
      · refine lv_iconst (v := 0) C.1 C.2.1 dX7_pairs_37 rfl ?_
        refine g_iadd C hF dX7_pairs_38 (fun x5 hF => ?_)
        refine lv_istore_n (lv' := [(1, .int x5), (0, .ref a_t), (2, .int s2)]) C.1 C.2.1 dX7_pairs_39 rfl hl (by decide) rfl (fun ls hl => ?_)
        refine g_iinc C hF dX7_pairs_40 (d := 1) rfl hl (j := 2) rfl (by decide) (fun y => [(2, .int y), (1, .int x5), (0, .ref a_t)]) (fun _ => rfl) (fun x6 ls hF hl => ?_)
        refine lv_goto (tgt := 4) C.1 C.2.1 dX7_pairs_43 rfl ?_
        exact ih4 x5 x6 H locs ls hV (lv_sub hl [2, 1, 0] rfl) (hq4 x5 x6 hF)
      refine lv_aload_n C.1 C.2.1 dX7_pairs_23 rfl (lv_at hl 0 rfl) ?_
      refine g_get C hV flX7_pairs_30 0 rfl rfl dX7_pairs_24 ?_
      refine lv_iload_n C.1 C.2.1 dX7_pairs_27 rfl (lv_at hl 2 rfl) ?_
      refine g_iald C hV 2 rfl hF dX7_pairs_28 (fun x7 hF => ?_)
      refine lv_iload_n C.1 C.2.1 dX7_pairs_29 rfl (lv_at hl 2 rfl) ?_
      refine g_icmp_le (tgt := 37) C hF dX7_pairs_30 rfl (fun hF => ?_) (fun hF => ?_)
      · refine lv_iconst (v := 0) C.1 C.2.1 dX7_pairs_37 rfl ?_
        refine g_iadd C hF dX7_pairs_38 (fun x8 hF => ?_)
        refine lv_istore_n (lv' := [(1, .int x8), (0, .ref a_t), (2, .int s2)]) C.1 C.2.1 dX7_pairs_39 rfl hl (by decide) rfl (fun ls hl => ?_)
        refine g_iinc C hF dX7_pairs_40 (d := 1) rfl hl (j := 2) rfl (by decide) (fun y => [(2, .int y), (1, .int x8), (0, .ref a_t)]) (fun _ => rfl) (fun x9 ls hF hl => ?_)
        refine lv_goto (tgt := 4) C.1 C.2.1 dX7_pairs_43 rfl ?_
        exact ih4 x8 x9 H locs ls hV (lv_sub hl [2, 1, 0] rfl) (hq4 x8 x9 hF)
      refine lv_iconst (v := 1) C.1 C.2.1 dX7_pairs_33 rfl ?_
      refine lv_goto (tgt := 38) C.1 C.2.1 dX7_pairs_34 rfl ?_
      refine g_iadd C hF dX7_pairs_38 (fun x10 hF => ?_)
      refine lv_istore_n (lv' := [(1, .int x10), (0, .ref a_t), (2, .int s2)]) C.1 C.2.1 dX7_pairs_39 rfl hl (by decide) rfl (fun ls hl => ?_)
      refine g_iinc C hF dX7_pairs_40 (d := 1) rfl hl (j := 2) rfl (by decide) (fun y => [(2, .int y), (1, .int x10), (0, .ref a_t)]) (fun _ => rfl) (fun x11 ls hF hl => ?_)
      refine lv_goto (tgt := 4) C.1 C.2.1 dX7_pairs_43 rfl ?_
      exact ih4 x10 x11 H locs ls hV (lv_sub hl [2, 1, 0] rfl) (hq4 x10 x11 hF)
  exact hL4 n0 0 0 H locs ls hV (lv_sub hl [2, 1, 0] rfl) hF
abbrev rmX7_comes : Room := { frames := 0, cells := 0, slots := 0, locals := 0 }
theorem mdX7_comes : gMd yX7_comes wsX7_comes cX7_comes 4 (some .int) 2 := ⟨⟨_, rfl⟩, by decide +kernel⟩
theorem flX7_comes_7 : gFL wsX7_comes RX7 7 7 0 RX7 TX7 28 := ⟨rfl, fun w h => List.mem_cons_of_mem _ (List.mem_append_right _ (h)), Nat.le_of_ble_eq_true rfl, List.mem_cons_of_mem _ (List.mem_append_left _ (List.mem_of_getElem? (i := 0) rfl))⟩
def F_X7_comes (n0 : Nat) (f_d : Nat → Int32) (p1 : Int32) (p2 : Int32) : Option (Int32 × (Nat → Int32)) := rd f_d 40 0 (fun x1 => nm (10 + x1) (fun x2 => wrt f_d 40 x2 p1 (fun g3 => nm (20 + x1) (fun x4 => wrt g3 40 x4 p2 (fun g5 => rd g5 40 6 (fun x6 => nm (1 <<< (x1 &&& 31)) (fun x7 => nm (x7 ^^^ ((-1))) (fun x8 => nm (x6 &&& x8) (fun x9 => wrt g5 40 6 x9 (fun g10 => rd g10 40 0 (fun x11 => nm (x11 + 1) (fun x12 => wrt g10 40 0 x12 (fun g13 => some (x1, g13))))))))))))))
set_option maxRecDepth 100000 in
set_option maxHeartbeats 4000000 in
theorem k_X7_comes (l : Launch) (dC : Nat → ClassId) (dI : Nat → Nat → Nat) (cI cB cO : ClassId) (n0 sz : Nat) (a_t : Nat) (a_d : Nat) (a_e : Nat) (a_kept : Nat) (a_found : Nat) (a_tape : Nat) (a_hears : Nat) (a_near : Nat) (a_firstDay : Nat) (a_daily : Nat) (a_heardNow : Nat) (a_bitsOf : Nat) (a_sizeOf : Nat) (a_number : Nat) (a_passing : Nat)   (v_isKept : Int32) (v_taped : Int32) (v_gone : Int32) (v_begin : Int32) (v_round : Int32) (v_leastFar : Int32) (v_leastWhere : Int32) (v_mostLed : Int32) (v_firstMove : Int32) (v_at : Int32) (v_sort : Int32) (v_from : Int32) (v_value : Int64) (v_fault : Int32) (f_d : Nat → Int32) (p1 : Int32) (p2 : Int32)  {ro : Int32} {o0 : Nat → Int32} (hF : F_X7_comes n0 f_d p1 p2 = some (ro, o0)) : Met l yX7_comes wsX7_comes rmX7_comes (va_Pc [.ref a_t, .int p1, .int p2] (gPre (dC, dI) (gT cI cB cO) sz [oX7 a_t a_d a_e a_kept v_isKept a_found a_tape v_taped v_gone a_hears a_near a_firstDay a_daily v_begin v_round v_leastFar v_leastWhere v_mostLed a_heardNow v_firstMove v_at v_sort v_from v_value v_fault a_bitsOf a_sizeOf a_number a_passing, aA cI a_d 40 f_d])) (gQi (dC, dI) (gT cI cB cO) sz [oX7 a_t a_d a_e a_kept v_isKept a_found a_tape v_taped v_gone a_hears a_near a_firstDay a_daily v_begin v_round v_leastFar v_leastWhere v_mostLed a_heardNow v_firstMove v_at v_sort v_from v_value v_fault a_bitsOf a_sizeOf a_number a_passing, aA cI a_d 40 f_d] ro [oX7 a_t a_d a_e a_kept v_isKept a_found a_tape v_taped v_gone a_hears a_near a_firstDay a_daily v_begin v_round v_leastFar v_leastWhere v_mostLed a_heardNow v_firstMove v_at v_sort v_from v_value v_fault a_bitsOf a_sizeOf a_number a_passing, aA cI a_d 40 o0]) 0 0 (va_A [oX7 a_t a_d a_e a_kept v_isKept a_found a_tape v_taped v_gone a_hears a_near a_firstDay a_daily v_begin v_round v_leastFar v_leastWhere v_mostLed a_heardNow v_firstMove v_at v_sort v_from v_value v_fault a_bitsOf a_sizeOf a_number a_passing, aA cI a_d 40 f_d] sz) := by
  refine g_metI (Out := Int32 × (Nat → Int32)) (fun oo => oo.1) (fun oo => [oX7 a_t a_d a_e a_kept v_isKept a_found a_tape v_taped v_gone a_hears a_near a_firstDay a_daily v_begin v_round v_leastFar v_leastWhere v_mostLed a_heardNow v_firstMove v_at v_sort v_from v_value v_fault a_bitsOf a_sizeOf a_number a_passing, aA cI a_d 40 oo.2]) (ro, o0) (own := RX7) (lv := [(0, .ref a_t), (1, .int p1), (2, .int p2)]) (by decide) rfl rfl (Nat.le_of_ble_eq_true rfl) rfl ?_
  intro p e s m args below meth c Q ls C hret hV hl
  obtain ⟨out, hout⟩ : ∃ z : Int32 × (Nat → Int32), z = (ro, o0) := ⟨_, rfl⟩
  rw [← hout] at hF hret
  obtain ⟨H0, hH0⟩ : ∃ z : Heap, z = s.heap := ⟨_, rfl⟩
  obtain ⟨A0, hA0⟩ : ∃ z : Nat → Prop, z = va_A [oX7 a_t a_d a_e a_kept v_isKept a_found a_tape v_taped v_gone a_hears a_near a_firstDay a_daily v_begin v_round v_leastFar v_leastWhere v_mostLed a_heardNow v_firstMove v_at v_sort v_from v_value v_fault a_bitsOf a_sizeOf a_number a_passing, aA cI a_d 40 f_d] s.heap.size := ⟨_, rfl⟩
  rw [← hA0] at hret hV
  rw [← hH0] at hret hV
  rw [← hH0]
  obtain ⟨H, locs, hH⟩ : ∃ (z : Heap) (y : List Loc), z = H0 ∧ y = [] := ⟨_, _, rfl, rfl⟩
  rw [← hH.1, ← hH.2]
  have hV : gV (dC, dI) (gT cI cB cO) A0 H0 s [oX7 a_t a_d a_e a_kept v_isKept a_found a_tape v_taped v_gone a_hears a_near a_firstDay a_daily v_begin v_round v_leastFar v_leastWhere v_mostLed a_heardNow v_firstMove v_at v_sort v_from v_value v_fault a_bitsOf a_sizeOf a_number a_passing, aA cI a_d 40 f_d] H locs := by rw [hH.1, hH.2]; exact hV
  unfold F_X7_comes at hF
  refine lv_aload_n C.1 C.2.1 dX7_comes_0 rfl (lv_at hl 0 rfl) ?_
  refine g_get C hV flX7_comes_7 0 rfl rfl dX7_comes_1 ?_
  refine lv_iconst (v := 0) C.1 C.2.1 dX7_comes_4 rfl ?_
  refine g_iald C hV 1 rfl hF dX7_comes_5 (fun x1 hF => ?_)
  refine lv_istore_n (lv' := [(3, .int x1), (0, .ref a_t), (1, .int p1), (2, .int p2)]) C.1 C.2.1 dX7_comes_6 rfl hl (by decide) rfl (fun ls hl => ?_)
  refine lv_aload_n C.1 C.2.1 dX7_comes_7 rfl (lv_at hl 1 rfl) ?_
  refine g_get C hV flX7_comes_7 0 rfl rfl dX7_comes_8 ?_
  refine lv_bipush (v := 10) C.1 C.2.1 dX7_comes_11 rfl ?_
  refine lv_iload_n C.1 C.2.1 dX7_comes_13 rfl (lv_at hl 0 rfl) ?_
  refine g_iadd C hF dX7_comes_14 (fun x2 hF => ?_)
  refine lv_iload_n C.1 C.2.1 dX7_comes_15 rfl (lv_at hl 2 rfl) ?_
  refine g_iast C hV 1 rfl hF (fun gq => [oX7 a_t a_d a_e a_kept v_isKept a_found a_tape v_taped v_gone a_hears a_near a_firstDay a_daily v_begin v_round v_leastFar v_leastWhere v_mostLed a_heardNow v_firstMove v_at v_sort v_from v_value v_fault a_bitsOf a_sizeOf a_number a_passing, aA cI a_d 40 gq]) (fun _ => rfl) dX7_comes_16 (fun g3 H locs hF hV => ?_)
  refine lv_aload_n C.1 C.2.1 dX7_comes_17 rfl (lv_at hl 1 rfl) ?_
  refine g_get C hV flX7_comes_7 0 rfl rfl dX7_comes_18 ?_
  refine lv_bipush (v := 20) C.1 C.2.1 dX7_comes_21 rfl ?_
  refine lv_iload_n C.1 C.2.1 dX7_comes_23 rfl (lv_at hl 0 rfl) ?_
  refine g_iadd C hF dX7_comes_24 (fun x4 hF => ?_)
  refine lv_iload_n C.1 C.2.1 dX7_comes_25 rfl (lv_at hl 3 rfl) ?_
  refine g_iast C hV 1 rfl hF (fun gq => [oX7 a_t a_d a_e a_kept v_isKept a_found a_tape v_taped v_gone a_hears a_near a_firstDay a_daily v_begin v_round v_leastFar v_leastWhere v_mostLed a_heardNow v_firstMove v_at v_sort v_from v_value v_fault a_bitsOf a_sizeOf a_number a_passing, aA cI a_d 40 gq]) (fun _ => rfl) dX7_comes_26 (fun g5 H locs hF hV => ?_)
  refine lv_aload_n C.1 C.2.1 dX7_comes_27 rfl (lv_at hl 1 rfl) ?_
  refine g_get C hV flX7_comes_7 0 rfl rfl dX7_comes_28 ?_
  refine lv_bipush (v := 6) C.1 C.2.1 dX7_comes_31 rfl ?_
  refine lv_dup2_11 C.1 C.2.1 dX7_comes_33 rfl rfl ?_
  refine g_iald C hV 1 rfl hF dX7_comes_34 (fun x6 hF => ?_)
  refine lv_iconst (v := 1) C.1 C.2.1 dX7_comes_35 rfl ?_
  refine lv_iload_n C.1 C.2.1 dX7_comes_36 rfl (lv_at hl 0 rfl) ?_
  refine g_ishl C hF dX7_comes_37 (fun x7 hF => ?_)
  refine lv_iconst (v := (-1)) C.1 C.2.1 dX7_comes_38 rfl ?_
  refine g_ixor C hF dX7_comes_39 (fun x8 hF => ?_)
  refine g_iand C hF dX7_comes_40 (fun x9 hF => ?_)
  refine g_iast C hV 1 rfl hF (fun gq => [oX7 a_t a_d a_e a_kept v_isKept a_found a_tape v_taped v_gone a_hears a_near a_firstDay a_daily v_begin v_round v_leastFar v_leastWhere v_mostLed a_heardNow v_firstMove v_at v_sort v_from v_value v_fault a_bitsOf a_sizeOf a_number a_passing, aA cI a_d 40 gq]) (fun _ => rfl) dX7_comes_41 (fun g10 H locs hF hV => ?_)
  refine lv_aload_n C.1 C.2.1 dX7_comes_42 rfl (lv_at hl 1 rfl) ?_
  refine g_get C hV flX7_comes_7 0 rfl rfl dX7_comes_43 ?_
  refine lv_iconst (v := 0) C.1 C.2.1 dX7_comes_46 rfl ?_
  refine lv_dup2_11 C.1 C.2.1 dX7_comes_47 rfl rfl ?_
  refine g_iald C hV 1 rfl hF dX7_comes_48 (fun x11 hF => ?_)
  refine lv_iconst (v := 1) C.1 C.2.1 dX7_comes_49 rfl ?_
  refine g_iadd C hF dX7_comes_50 (fun x12 hF => ?_)
  refine g_iast C hV 1 rfl hF (fun gq => [oX7 a_t a_d a_e a_kept v_isKept a_found a_tape v_taped v_gone a_hears a_near a_firstDay a_daily v_begin v_round v_leastFar v_leastWhere v_mostLed a_heardNow v_firstMove v_at v_sort v_from v_value v_fault a_bitsOf a_sizeOf a_number a_passing, aA cI a_d 40 gq]) (fun _ => rfl) dX7_comes_51 (fun g13 H locs hF hV => ?_)
  refine lv_iload_n C.1 C.2.1 dX7_comes_52 rfl (lv_at hl 0 rfl) ?_
  exact hret (x1, g13) _ _ _ _ dX7_comes_53 hF hV
