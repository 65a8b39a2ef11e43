abbrev rmX7_tent : Room := { frames := 2, cells := 0, slots := 0, locals := 46 }
theorem mdX7_tent : gMd yX7_tent wsX7_tent cX7_tent 4 (some .int) 3 := ⟨⟨_, rfl⟩, by decide +kernel⟩
theorem ctX7_tent_100 : Cond.constantLong RX7 100 6 ∈ wsX7_tent := List.mem_cons_of_mem _ (List.mem_append_left _ (List.mem_append_left _ (List.mem_of_getElem? (i := 0) rfl)))
theorem flX7_tent_7 : gFL wsX7_tent RX7 7 7 0 RX7 TX7 28 := ⟨rfl, fun w h => List.mem_cons_of_mem _ (List.mem_append_right _ (h)), Nat.le_of_ble_eq_true rfl, List.mem_cons_of_mem _ (List.mem_append_left _ (List.mem_append_left _ (List.mem_of_getElem? (i := 1) rfl)))⟩
def F_X7_tent (n0 : Nat) (f_d : Nat → Int32) (f_found : Nat → Int32) (p1 : Int32) (p2 : Int32) (p3 : Int32) : Option (Int32 × (Nat → Int32) × (Nat → Int32)) := nm (p1.toInt64) (fun x1 => bd1 (F_X7_in n0 x1 0 6) (fun x2 => (if x2 = 0 then bd2 (F_X7_finds n0 f_found 0) (fun x3 g4 => some (x3, f_d, g4)) else bd1 (F_X7_isYard n0 p2 p3) (fun x5 => (if x5 = 0 then bd2 (F_X7_finds n0 f_found 0) (fun x18 g19 => some (x18, f_d, g19)) else nm (12 * p3) (fun x6 => nm (x6 + p2) (fun x7 => bd1 (F_X7_whoIs n0 f_d x7) (fun x8 => (if x8 = ((-1)) then rd f_d 40 0 (fun x9 => (if x9 = 10 then bd2 (F_X7_finds n0 f_found 1) (fun x14 g15 => some (x14, f_d, g15)) else nm (12 * p3) (fun x10 => nm (x10 + p2) (fun x11 => bd2 (F_X7_comes n0 f_d p1 x11) (fun x12 g13 => some (x12, g13, f_found)))))) else bd2 (F_X7_finds n0 f_found 4) (fun x16 g17 => some (x16, f_d, g17)))))))))))
set_option maxRecDepth 100000 in
set_option maxHeartbeats 4000000 in
theorem k_X7_tent (l : Launch) (dC : Nat → ClassId) (dI : Nat → Nat → Nat) (cI cB cO : ClassId) (n0 sz : Nat) (a_t : Nat) (a_d : Nat) (a_e : Nat) (a_kept : Nat) (a_found : Nat) (a_tape : Nat) (a_hears : Nat) (a_near : Nat) (a_firstDay : Nat) (a_daily : Nat) (a_heardNow : Nat) (a_bitsOf : Nat) (a_sizeOf : Nat) (a_number : Nat) (a_passing : Nat)   (v_isKept : Int32) (v_taped : Int32) (v_gone : Int32) (v_begin : Int32) (v_round : Int32) (v_leastFar : Int32) (v_leastWhere : Int32) (v_mostLed : Int32) (v_firstMove : Int32) (v_at : Int32) (v_sort : Int32) (v_from : Int32) (v_value : Int64) (v_fault : Int32) (f_d : Nat → Int32) (f_found : Nat → Int32) (p1 : Int32) (p2 : Int32) (p3 : Int32)  {ro : Int32} {o0 : Nat → Int32} {o1 : Nat → Int32} (hF : F_X7_tent n0 f_d f_found p1 p2 p3 = some (ro, o0, o1)) : Met l yX7_tent wsX7_tent rmX7_tent (va_Pc [.ref a_t, .int p1, .int p2, .int p3] (gPre (dC, dI) (gT cI cB cO) sz [oX7 a_t a_d a_e a_kept v_isKept a_found a_tape v_taped v_gone a_hears a_near a_firstDay a_daily v_begin v_round v_leastFar v_leastWhere v_mostLed a_heardNow v_firstMove v_at v_sort v_from v_value v_fault a_bitsOf a_sizeOf a_number a_passing, aA cI a_d 40 f_d, aA cI a_found 7 f_found])) (gQi (dC, dI) (gT cI cB cO) sz [oX7 a_t a_d a_e a_kept v_isKept a_found a_tape v_taped v_gone a_hears a_near a_firstDay a_daily v_begin v_round v_leastFar v_leastWhere v_mostLed a_heardNow v_firstMove v_at v_sort v_from v_value v_fault a_bitsOf a_sizeOf a_number a_passing, aA cI a_d 40 f_d, aA cI a_found 7 f_found] ro [oX7 a_t a_d a_e a_kept v_isKept a_found a_tape v_taped v_gone a_hears a_near a_firstDay a_daily v_begin v_round v_leastFar v_leastWhere v_mostLed a_heardNow v_firstMove v_at v_sort v_from v_value v_fault a_bitsOf a_sizeOf a_number a_passing, aA cI a_d 40 o0, aA cI a_found 7 o1]) 0 0 (va_A [oX7 a_t a_d a_e a_kept v_isKept a_found a_tape v_taped v_gone a_hears a_near a_firstDay a_daily v_begin v_round v_leastFar v_leastWhere v_mostLed a_heardNow v_firstMove v_at v_sort v_from v_value v_fault a_bitsOf a_sizeOf a_number a_passing, aA cI a_d 40 f_d, aA cI a_found 7 f_found] sz) := by
  refine g_metI (Out := Int32 × (Nat → Int32) × (Nat → Int32)) (fun oo => oo.1) (fun oo => [oX7 a_t a_d a_e a_kept v_isKept a_found a_tape v_taped v_gone a_hears a_near a_firstDay a_daily v_begin v_round v_leastFar v_leastWhere v_mostLed a_heardNow v_firstMove v_at v_sort v_from v_value v_fault a_bitsOf a_sizeOf a_number a_passing, aA cI a_d 40 oo.2.1, aA cI a_found 7 oo.2.2]) (ro, o0, o1) (own := RX7) (lv := [(0, .ref a_t), (1, .int p1), (2, .int p2), (3, .int p3)]) (by decide) rfl rfl (Nat.le_of_ble_eq_true rfl) rfl ?_
  intro p e s m args below meth c Q ls C hret hV hl
  obtain ⟨out, hout⟩ : ∃ z : Int32 × (Nat → Int32) × (Nat → Int32), z = (ro, o0, o1) := ⟨_, rfl⟩
  rw [← hout] at hF hret
  obtain ⟨H0, hH0⟩ : ∃ z : Heap, z = s.heap := ⟨_, rfl⟩
  obtain ⟨A0, hA0⟩ : ∃ z : Nat → Prop, z = va_A [oX7 a_t a_d a_e a_kept v_isKept a_found a_tape v_taped v_gone a_hears a_near a_firstDay a_daily v_begin v_round v_leastFar v_leastWhere v_mostLed a_heardNow v_firstMove v_at v_sort v_from v_value v_fault a_bitsOf a_sizeOf a_number a_passing, aA cI a_d 40 f_d, aA cI a_found 7 f_found] s.heap.size := ⟨_, rfl⟩
  rw [← hA0] at hret hV
  rw [← hH0] at hret hV
  rw [← hH0]
  obtain ⟨H, locs, hH⟩ : ∃ (z : Heap) (y : List Loc), z = H0 ∧ y = [] := ⟨_, _, rfl, rfl⟩
  rw [← hH.1, ← hH.2]
  have hV : gV (dC, dI) (gT cI cB cO) A0 H0 s [oX7 a_t a_d a_e a_kept v_isKept a_found a_tape v_taped v_gone a_hears a_near a_firstDay a_daily v_begin v_round v_leastFar v_leastWhere v_mostLed a_heardNow v_firstMove v_at v_sort v_from v_value v_fault a_bitsOf a_sizeOf a_number a_passing, aA cI a_d 40 f_d, aA cI a_found 7 f_found] H locs := by rw [hH.1, hH.2]; exact hV
  unfold F_X7_tent at hF
  refine lv_iload_n C.1 C.2.1 dX7_tent_0 rfl (lv_at hl 1 rfl) ?_
  refine g_i2l C hF dX7_tent_1 (fun x1 hF => ?_)
  refine lv_lconst (v := 0) C.1 C.2.1 dX7_tent_2 rfl ?_
  refine lv_ldc2 (v := 6) C.1 C.2.1 C.2.2.2.1 (C.2.2.2.2 _ ctX7_tent_100) dX7_tent_3 ?_
  obtain ⟨x2, hc, hF⟩ := bd1_s hF
  refine g_cSi (ws' := [oX7 a_t a_d a_e a_kept v_isKept a_found a_tape v_taped v_gone a_hears a_near a_firstDay a_daily v_begin v_round v_leastFar v_leastWhere v_mostLed a_heardNow v_firstMove v_at v_sort v_from v_value v_fault a_bitsOf a_sizeOf a_number a_passing, aA cI a_d 40 f_d, aA cI a_found 7 f_found]) (wr := [oX7 a_t a_d a_e a_kept v_isKept a_found a_tape v_taped v_gone a_hears a_near a_firstDay a_daily v_begin v_round v_leastFar v_leastWhere v_mostLed a_heardNow v_firstMove v_at v_sort v_from v_value v_fault a_bitsOf a_sizeOf a_number a_passing, aA cI a_d 40 f_d, aA cI a_found 7 f_found]) C hV (k_X7_in l dC dI cI cB cO n0 H.size x1 0 6 hc) mdX7_in gX7_tent_X7_in rfl rfl ⟨Nat.le_of_ble_eq_true rfl, Nat.le_of_ble_eq_true rfl⟩ [] [0, 1, 2] [0, 1, 2] rfl rfl rfl rfl rfl rfl rfl rfl hl.1 (Nat.le_of_ble_eq_true rfl) rfl dX7_tent_6 (fun H locs hV => ?_)
  refine g_if_eq (tgt := 20) C hF dX7_tent_9 rfl (fun hF => ?_) (fun hF => ?_)
  · refine lv_aload_n C.1 C.2.1 dX7_tent_20 rfl (lv_at hl 0 rfl) ?_
    refine lv_iconst (v := 0) C.1 C.2.1 dX7_tent_21 rfl ?_
    obtain ⟨x3, g4, hc, hF⟩ := bd2_s hF
    refine g_cVi (ws' := [oX7 a_t a_d a_e a_kept v_isKept a_found a_tape v_taped v_gone a_hears a_near a_firstDay a_daily v_begin v_round v_leastFar v_leastWhere v_mostLed a_heardNow v_firstMove v_at v_sort v_from v_value v_fault a_bitsOf a_sizeOf a_number a_passing, aA cI a_d 40 f_d, aA cI a_found 7 g4]) (wr := [aA cI a_d 40 f_d]) C hV (k_X7_finds l dC dI cI cB cO n0 H.size a_t a_d a_e a_kept a_found a_tape a_hears a_near a_firstDay a_daily a_heardNow a_bitsOf a_sizeOf a_number a_passing v_isKept v_taped v_gone v_begin v_round v_leastFar v_leastWhere v_mostLed v_firstMove v_at v_sort v_from v_value v_fault f_found 0 hc) mdX7_finds gX7_tent_X7_finds rfl rfl ⟨Nat.le_of_ble_eq_true rfl, Nat.le_of_ble_eq_true rfl⟩ [0, 2] [1] [1, 0, 2] rfl rfl rfl rfl rfl rfl rfl rfl rfl rfl hl.1 (Nat.le_of_ble_eq_true rfl) rfl dX7_tent_22 (fun H locs hV => ?_)
    exact hret (x3, f_d, g4) _ _ _ _ dX7_tent_25 hF hV
  refine lv_iload_n C.1 C.2.1 dX7_tent_12 rfl (lv_at hl 2 rfl) ?_
  refine lv_iload_n C.1 C.2.1 dX7_tent_13 rfl (lv_at hl 3 rfl) ?_
  obtain ⟨x5, hc, hF⟩ := bd1_s hF
  refine g_cSi (ws' := [oX7 a_t a_d a_e a_kept v_isKept a_found a_tape v_taped v_gone a_hears a_near a_firstDay a_daily v_begin v_round v_leastFar v_leastWhere v_mostLed a_heardNow v_firstMove v_at v_sort v_from v_value v_fault a_bitsOf a_sizeOf a_number a_passing, aA cI a_d 40 f_d, aA cI a_found 7 f_found]) (wr := [oX7 a_t a_d a_e a_kept v_isKept a_found a_tape v_taped v_gone a_hears a_near a_firstDay a_daily v_begin v_round v_leastFar v_leastWhere v_mostLed a_heardNow v_firstMove v_at v_sort v_from v_value v_fault a_bitsOf a_sizeOf a_number a_passing, aA cI a_d 40 f_d, aA cI a_found 7 f_found]) C hV (k_X7_isYard l dC dI cI cB cO n0 H.size p2 p3 hc) mdX7_isYard gX7_tent_X7_isYard rfl rfl ⟨Nat.le_of_ble_eq_true rfl, Nat.le_of_ble_eq_true rfl⟩ [] [0, 1, 2] [0, 1, 2] rfl rfl rfl rfl rfl rfl rfl rfl hl.1 (Nat.le_of_ble_eq_true rfl) rfl dX7_tent_14 (fun H locs hV => ?_)
  refine g_if_ne (tgt := 26) C hF dX7_tent_17 rfl (fun hF => ?_) (fun hF => ?_)
  · refine lv_aload_n C.1 C.2.1 dX7_tent_26 rfl (lv_at hl 0 rfl) ?_
    refine lv_bipush (v := 12) C.1 C.2.1 dX7_tent_27 rfl ?_
    refine lv_iload_n C.1 C.2.1 dX7_tent_29 rfl (lv_at hl 3 rfl) ?_
    refine g_imul C hF dX7_tent_30 (fun x6 hF => ?_)
    refine lv_iload_n C.1 C.2.1 dX7_tent_31 rfl (lv_at hl 2 rfl) ?_
    refine g_iadd C hF dX7_tent_32 (fun x7 hF => ?_)
    obtain ⟨x8, hc, hF⟩ := bd1_s hF
    refine g_cVi (ws' := [oX7 a_t a_d a_e a_kept v_isKept a_found a_tape v_taped v_gone a_hears a_near a_firstDay a_daily v_begin v_round v_leastFar v_leastWhere v_mostLed a_heardNow v_firstMove v_at v_sort v_from v_value v_fault a_bitsOf a_sizeOf a_number a_passing, aA cI a_d 40 f_d, aA cI a_found 7 f_found]) (wr := [aA cI a_found 7 f_found]) C hV (k_X7_whoIs l dC dI cI cB cO n0 H.size a_t a_d a_e a_kept a_found a_tape a_hears a_near a_firstDay a_daily a_heardNow a_bitsOf a_sizeOf a_number a_passing v_isKept v_taped v_gone v_begin v_round v_leastFar v_leastWhere v_mostLed v_firstMove v_at v_sort v_from v_value v_fault f_d x7 hc) mdX7_whoIs gX7_tent_X7_whoIs rfl rfl ⟨Nat.le_of_ble_eq_true rfl, Nat.le_of_ble_eq_true rfl⟩ [0, 1] [2] [1, 2, 0] rfl rfl rfl rfl rfl rfl rfl rfl rfl rfl hl.1 (Nat.le_of_ble_eq_true rfl) rfl dX7_tent_33 (fun H locs hV => ?_)
    refine lv_iconst (v := (-1)) C.1 C.2.1 dX7_tent_36 rfl ?_
    refine g_icmp_eq (tgt := 46) C hF dX7_tent_37 rfl (fun hF => ?_) (fun hF => ?_)
    · refine lv_aload_n C.1 C.2.1 dX7_tent_46 rfl (lv_at hl 0 rfl) ?_
      refine g_get C hV flX7_tent_7 0 rfl rfl dX7_tent_47 ?_
      refine lv_iconst (v := 0) C.1 C.2.1 dX7_tent_50 rfl ?_
      refine g_iald C hV 1 rfl hF dX7_tent_51 (fun x9 hF => ?_)
      refine lv_bipush (v := 10) C.1 C.2.1 dX7_tent_52 rfl ?_
      refine g_icmp_ne (tgt := 65) C hF dX7_tent_54 rfl (fun hF => ?_) (fun hF => ?_)
      · refine lv_aload_n C.1 C.2.1 dX7_tent_65 rfl (lv_at hl 0 rfl) ?_
        refine lv_iload_n C.1 C.2.1 dX7_tent_66 rfl (lv_at hl 1 rfl) ?_
        refine lv_bipush (v := 12) C.1 C.2.1 dX7_tent_67 rfl ?_
        refine lv_iload_n C.1 C.2.1 dX7_tent_69 rfl (lv_at hl 3 rfl) ?_
        refine g_imul C hF dX7_tent_70 (fun x10 hF => ?_)
        refine lv_iload_n C.1 C.2.1 dX7_tent_71 rfl (lv_at hl 2 rfl) ?_
        refine g_iadd C hF dX7_tent_72 (fun x11 hF => ?_)
        obtain ⟨x12, g13, hc, hF⟩ := bd2_s hF
        refine g_cVi (ws' := [oX7 a_t a_d a_e a_kept v_isKept a_found a_tape v_taped v_gone a_hears a_near a_firstDay a_daily v_begin v_round v_leastFar v_leastWhere v_mostLed a_heardNow v_firstMove v_at v_sort v_from v_value v_fault a_bitsOf a_sizeOf a_number a_passing, aA cI a_d 40 g13, aA cI a_found 7 f_found]) (wr := [aA cI a_found 7 f_found]) C hV (k_X7_comes l dC dI cI cB cO n0 H.size a_t a_d a_e a_kept a_found a_tape a_hears a_near a_firstDay a_daily a_heardNow a_bitsOf a_sizeOf a_number a_passing v_isKept v_taped v_gone v_begin v_round v_leastFar v_leastWhere v_mostLed v_firstMove v_at v_sort v_from v_value v_fault f_d p1 x11 hc) mdX7_comes gX7_tent_X7_comes rfl rfl ⟨Nat.le_of_ble_eq_true rfl, Nat.le_of_ble_eq_true rfl⟩ [0, 1] [2] [1, 2, 0] rfl rfl rfl rfl rfl rfl rfl rfl rfl rfl hl.1 (Nat.le_of_ble_eq_true rfl) rfl dX7_tent_73 (fun H locs hV => ?_)
        exact hret (x12, g13, f_found) _ _ _ _ dX7_tent_76 hF hV
      refine lv_aload_n C.1 C.2.1 dX7_tent_57 rfl (lv_at hl 0 rfl) ?_
      refine lv_iconst (v := 1) C.1 C.2.1 dX7_tent_58 rfl ?_
      obtain ⟨x14, g15, hc, hF⟩ := bd2_s hF
      refine g_cVi (ws' := [oX7 a_t a_d a_e a_kept v_isKept a_found a_tape v_taped v_gone a_hears a_near a_firstDay a_daily v_begin v_round v_leastFar v_leastWhere v_mostLed a_heardNow v_firstMove v_at v_sort v_from v_value v_fault a_bitsOf a_sizeOf a_number a_passing, aA cI a_d 40 f_d, aA cI a_found 7 g15]) (wr := [aA cI a_d 40 f_d]) C hV (k_X7_finds l dC dI cI cB cO n0 H.size a_t a_d a_e a_kept a_found a_tape a_hears a_near a_firstDay a_daily a_heardNow a_bitsOf a_sizeOf a_number a_passing v_isKept v_taped v_gone v_begin v_round v_leastFar v_leastWhere v_mostLed v_firstMove v_at v_sort v_from v_value v_fault f_found 1 hc) mdX7_finds gX7_tent_X7_finds rfl rfl ⟨Nat.le_of_ble_eq_true rfl, Nat.le_of_ble_eq_true rfl⟩ [0, 2] [1] [1, 0, 2] rfl rfl rfl rfl rfl rfl rfl rfl rfl rfl hl.1 (Nat.le_of_ble_eq_true rfl) rfl dX7_tent_59 (fun H locs hV => ?_)
      refine lv_goto (tgt := 76) C.1 C.2.1 dX7_tent_62 rfl ?_
      exact hret (x14, f_d, g15) _ _ _ _ dX7_tent_76 hF hV
    refine lv_aload_n C.1 C.2.1 dX7_tent_40 rfl (lv_at hl 0 rfl) ?_
    refine lv_iconst (v := 4) C.1 C.2.1 dX7_tent_41 rfl ?_
    obtain ⟨x16, g17, hc, hF⟩ := bd2_s hF
    refine g_cVi (ws' := [oX7 a_t a_d a_e a_kept v_isKept a_found a_tape v_taped v_gone a_hears a_near a_firstDay a_daily v_begin v_round v_leastFar v_leastWhere v_mostLed a_heardNow v_firstMove v_at v_sort v_from v_value v_fault a_bitsOf a_sizeOf a_number a_passing, aA cI a_d 40 f_d, aA cI a_found 7 g17]) (wr := [aA cI a_d 40 f_d]) C hV (k_X7_finds l dC dI cI cB cO n0 H.size a_t a_d a_e a_kept a_found a_tape a_hears a_near a_firstDay a_daily a_heardNow a_bitsOf a_sizeOf a_number a_passing v_isKept v_taped v_gone v_begin v_round v_leastFar v_leastWhere v_mostLed v_firstMove v_at v_sort v_from v_value v_fault f_found 4 hc) mdX7_finds gX7_tent_X7_finds rfl rfl ⟨Nat.le_of_ble_eq_true rfl, Nat.le_of_ble_eq_true rfl⟩ [0, 2] [1] [1, 0, 2] rfl rfl rfl rfl rfl rfl rfl rfl rfl rfl hl.1 (Nat.le_of_ble_eq_true rfl) rfl dX7_tent_42 (fun H locs hV => ?_)
    exact hret (x16, f_d, g17) _ _ _ _ dX7_tent_45 hF hV
  refine lv_aload_n C.1 C.2.1 dX7_tent_20 rfl (lv_at hl 0 rfl) ?_
  refine lv_iconst (v := 0) C.1 C.2.1 dX7_tent_21 rfl ?_
  obtain ⟨x18, g19, hc, hF⟩ := bd2_s hF
  refine g_cVi (ws' := [oX7 a_t a_d a_e a_kept v_isKept a_found a_tape v_taped v_gone a_hears a_near a_firstDay a_daily v_begin v_round v_leastFar v_leastWhere v_mostLed a_heardNow v_firstMove v_at v_sort v_from v_value v_fault a_bitsOf a_sizeOf a_number a_passing, aA cI a_d 40 f_d, aA cI a_found 7 g19]) (wr := [aA cI a_d 40 f_d]) C hV (k_X7_finds l dC dI cI cB cO n0 H.size a_t a_d a_e a_kept a_found a_tape a_hears a_near a_firstDay a_daily a_heardNow a_bitsOf a_sizeOf a_number a_passing v_isKept v_taped v_gone v_begin v_round v_leastFar v_leastWhere v_mostLed v_firstMove v_at v_sort v_from v_value v_fault f_found 0 hc) mdX7_finds gX7_tent_X7_finds rfl rfl ⟨Nat.le_of_ble_eq_true rfl, Nat.le_of_ble_eq_true rfl⟩ [0, 2] [1] [1, 0, 2] rfl rfl rfl rfl rfl rfl rfl rfl rfl rfl hl.1 (Nat.le_of_ble_eq_true rfl) rfl dX7_tent_22 (fun H locs hV => ?_)
  exact hret (x18, f_d, g19) _ _ _ _ dX7_tent_25 hF hV
abbrev rmX7_of : Room := { frames := 4, cells := 0, slots := 0, locals := 92 }
theorem mdX7_of : gMd yX7_of wsX7_of cX7_of 3 (some .int) 2 := ⟨⟨_, rfl⟩, by decide +kernel⟩
theorem ctX7_of_118 : Cond.constantLong RX7 118 7 ∈ wsX7_of := List.mem_cons_of_mem _ (List.mem_append_left _ (List.mem_append_left _ (List.mem_of_getElem? (i := 0) rfl)))
theorem flX7_of_30 : gFL wsX7_of RX7 30 7 8 RX7 TX7 28 := ⟨rfl, fun w h => List.mem_cons_of_mem _ (List.mem_append_right _ (h)), Nat.le_of_ble_eq_true rfl, List.mem_cons_of_mem _ (List.mem_append_left _ (List.mem_append_left _ (List.mem_of_getElem? (i := 1) rfl)))⟩
theorem flX7_of_7 : gFL wsX7_of RX7 7 7 0 RX7 TX7 28 := ⟨rfl, fun w h => List.mem_cons_of_mem _ (List.mem_append_right _ (h)), Nat.le_of_ble_eq_true rfl, List.mem_cons_of_mem _ (List.mem_append_left _ (List.mem_append_left _ (List.mem_of_getElem? (i := 2) rfl)))⟩
def F_X7_of (n0 : Nat) (v_gone : Int32) (f_d : Nat → Int32) (f_found : Nat → Int32) (f_hears : Nat → Int32) (f_near : Nat → Int32) (p1 : Int32) (p2 : Int32) : Option (Int32 × (Nat → Int32) × (Nat → Int32) × (Nat → Int32)) := bd1 (F_X7_isTent n0 f_d p1) (fun x1 => (if x1 = 0 then bd2 (F_X7_finds n0 f_found 0) (fun x2 g3 => some (x2, g3, f_hears, f_near)) else nm (p2.toInt64) (fun x4 => bd1 (F_X7_in n0 x4 0 7) (fun x5 => (if x5 = 0 then bd2 (F_X7_finds n0 f_found 0) (fun x19 g20 => some (x19, g20, f_hears, f_near)) else bd2 (F_X7_listen n0 v_gone f_d f_hears f_near) (fun g6 g7 => (if p2 = 0 then bd1 (F_X7_kind n0 f_d p1) (fun x8 => some (x8, f_found, g6, g7)) else (if p2 = 1 then bd1 (F_X7_yard n0 f_d p1) (fun x9 => dvn 12 (x9 - x9 / 12 * 12) (fun x10 => some (x10, f_found, g6, g7))) else (if p2 = 2 then bd1 (F_X7_yard n0 f_d p1) (fun x11 => dvn 12 (x11 / 12) (fun x12 => some (x12, f_found, g6, g7))) else (if p2 = 3 then bd1 (F_X7_saysNow n0 f_d p1) (fun x13 => some (x13, f_found, g6, g7)) else (if p2 = 4 then rd g6 10 p1 (fun x14 => some (x14, f_found, g6, g7)) else (if p2 = 5 then rd f_d 40 6 (fun x15 => bd1 (F_X7_willSay n0 f_d g6 g7 p1 x15) (fun x16 => some (x16, f_found, g6, g7))) else (if p2 = 6 then bd1 (F_X7_lineOf n0 g6 p1) (fun x17 => some (x17, f_found, g6, g7)) else bd1 (F_X7_followersOf n0 f_d g6 p1) (fun x18 => some (x18, f_found, g6, g7)))))))))))))))
set_option maxRecDepth 100000 in
set_option maxHeartbeats 4000000 in
theorem k_X7_of (l : Launch) (dC : Nat → ClassId) (dI : Nat → Nat → Nat) (cI cB cO : ClassId) (n0 sz : Nat) (a_t : Nat) (a_d : Nat) (a_e : Nat) (a_kept : Nat) (a_found : Nat) (a_tape : Nat) (a_hears : Nat) (a_near : Nat) (a_firstDay : Nat) (a_daily : Nat) (a_heardNow : Nat) (a_bitsOf : Nat) (a_sizeOf : Nat) (a_number : Nat) (a_passing : Nat)   (v_isKept : Int32) (v_taped : Int32) (v_gone : Int32) (v_begin : Int32) (v_round : Int32) (v_leastFar : Int32) (v_leastWhere : Int32) (v_mostLed : Int32) (v_firstMove : Int32) (v_at : Int32) (v_sort : Int32) (v_from : Int32) (v_value : Int64) (v_fault : Int32) (f_d : Nat → Int32) (f_found : Nat → Int32) (f_hears : Nat → Int32) (f_near : Nat → Int32) (p1 : Int32) (p2 : Int32)  {ro : Int32} {o0 : Nat → Int32} {o1 : Nat → Int32} {o2 : Nat → Int32} (hF : F_X7_of n0 v_gone f_d f_found f_hears f_near p1 p2 = some (ro, o0, o1, o2)) : Met l yX7_of wsX7_of rmX7_of (va_Pc [.ref a_t, .int p1, .int p2] (gPre (dC, dI) (gT cI cB cO) sz [oX7 a_t a_d a_e a_kept v_isKept a_found a_tape v_taped v_gone a_hears a_near a_firstDay a_daily v_begin v_round v_leastFar v_leastWhere v_mostLed a_heardNow v_firstMove v_at v_sort v_from v_value v_fault a_bitsOf a_sizeOf a_number a_passing, aA cI a_d 40 f_d, aA cI a_found 7 f_found, aA cI a_hears 10 f_hears, aA cI a_near 10 f_near])) (gQi (dC, dI) (gT cI cB cO) sz [oX7 a_t a_d a_e a_kept v_isKept a_found a_tape v_taped v_gone a_hears a_near a_firstDay a_daily v_begin v_round v_leastFar v_leastWhere v_mostLed a_heardNow v_firstMove v_at v_sort v_from v_value v_fault a_bitsOf a_sizeOf a_number a_passing, aA cI a_d 40 f_d, aA cI a_found 7 f_found, aA cI a_hears 10 f_hears, aA cI a_near 10 f_near] ro [oX7 a_t a_d a_e a_kept v_isKept a_found a_tape v_taped v_gone a_hears a_near a_firstDay a_daily v_begin v_round v_leastFar v_leastWhere v_mostLed a_heardNow v_firstMove v_at v_sort v_from v_value v_fault a_bitsOf a_sizeOf a_number a_passing, aA cI a_d 40 f_d, aA cI a_found 7 o0, aA cI a_hears 10 o1, aA cI a_near 10 o2]) 0 0 (va_A [oX7 a_t a_d a_e a_kept v_isKept a_found a_tape v_taped v_gone a_hears a_near a_firstDay a_daily v_begin v_round v_leastFar v_leastWhere v_mostLed a_heardNow v_firstMove v_at v_sort v_from v_value v_fault a_bitsOf a_sizeOf a_number a_passing, aA cI a_d 40 f_d, aA cI a_found 7 f_found, aA cI a_hears 10 f_hears, aA cI a_near 10 f_near] sz) := by
  refine g_metI (Out := Int32 × (Nat → Int32) × (Nat → Int32) × (Nat → Int32)) (fun oo => oo.1) (fun oo => [oX7 a_t a_d a_e a_kept v_isKept a_found a_tape v_taped v_gone a_hears a_near a_firstDay a_daily v_begin v_round v_leastFar v_leastWhere v_mostLed a_heardNow v_firstMove v_at v_sort v_from v_value v_fault a_bitsOf a_sizeOf a_number a_passing, aA cI a_d 40 f_d, aA cI a_found 7 oo.2.1, aA cI a_hears 10 oo.2.2.1, aA cI a_near 10 oo.2.2.2]) (ro, o0, o1, o2) (own := RX7) (lv := [(0, .ref a_t), (1, .int p1), (2, .int p2)]) (by decide) rfl rfl (Nat.le_of_ble_eq_true rfl) rfl ?_
  intro p e s m args below meth c Q ls C hret hV hl
  obtain ⟨out, hout⟩ : ∃ z : Int32 × (Nat → Int32) × (Nat → Int32) × (Nat → Int32), z = (ro, o0, o1, o2) := ⟨_, rfl⟩
  rw [← hout] at hF hret
  obtain ⟨H0, hH0⟩ : ∃ z : Heap, z = s.heap := ⟨_, rfl⟩
  obtain ⟨A0, hA0⟩ : ∃ z : Nat → Prop, z = va_A [oX7 a_t a_d a_e a_kept v_isKept a_found a_tape v_taped v_gone a_hears a_near a_firstDay a_daily v_begin v_round v_leastFar v_leastWhere v_mostLed a_heardNow v_firstMove v_at v_sort v_from v_value v_fault a_bitsOf a_sizeOf a_number a_passing, aA cI a_d 40 f_d, aA cI a_found 7 f_found, aA cI a_hears 10 f_hears, aA cI a_near 10 f_near] s.heap.size := ⟨_, rfl⟩
  rw [← hA0] at hret hV
  rw [← hH0] at hret hV
  rw [← hH0]
  obtain ⟨H, locs, hH⟩ : ∃ (z : Heap) (y : List Loc), z = H0 ∧ y = [] := ⟨_, _, rfl, rfl⟩
  rw [← hH.1, ← hH.2]
  have hV : gV (dC, dI) (gT cI cB cO) A0 H0 s [oX7 a_t a_d a_e a_kept v_isKept a_found a_tape v_taped v_gone a_hears a_near a_firstDay a_daily v_begin v_round v_leastFar v_leastWhere v_mostLed a_heardNow v_firstMove v_at v_sort v_from v_value v_fault a_bitsOf a_sizeOf a_number a_passing, aA cI a_d 40 f_d, aA cI a_found 7 f_found, aA cI a_hears 10 f_hears, aA cI a_near 10 f_near] H locs := by rw [hH.1, hH.2]; exact hV
  unfold F_X7_of at hF
  refine lv_aload_n C.1 C.2.1 dX7_of_0 rfl (lv_at hl 0 rfl) ?_
  refine lv_iload_n C.1 C.2.1 dX7_of_1 rfl (lv_at hl 1 rfl) ?_
  obtain ⟨x1, hc, hF⟩ := bd1_s hF
  refine g_cVi (ws' := [oX7 a_t a_d a_e a_kept v_isKept a_found a_tape v_taped v_gone a_hears a_near a_firstDay a_daily v_begin v_round v_leastFar v_leastWhere v_mostLed a_heardNow v_firstMove v_at v_sort v_from v_value v_fault a_bitsOf a_sizeOf a_number a_passing, aA cI a_d 40 f_d, aA cI a_found 7 f_found, aA cI a_hears 10 f_hears, aA cI a_near 10 f_near]) (wr := [aA cI a_found 7 f_found, aA cI a_hears 10 f_hears, aA cI a_near 10 f_near]) C hV (k_X7_isTent l dC dI cI cB cO n0 H.size a_t a_d a_e a_kept a_found a_tape a_hears a_near a_firstDay a_daily a_heardNow a_bitsOf a_sizeOf a_number a_passing v_isKept v_taped v_gone v_begin v_round v_leastFar v_leastWhere v_mostLed v_firstMove v_at v_sort v_from v_value v_fault f_d p1 hc) mdX7_isTent gX7_of_X7_isTent rfl rfl ⟨Nat.le_of_ble_eq_true rfl, Nat.le_of_ble_eq_true rfl⟩ [0, 1] [2, 3, 4] [3, 4, 0, 1, 2] rfl rfl rfl rfl rfl rfl rfl rfl rfl rfl hl.1 (Nat.le_of_ble_eq_true rfl) rfl dX7_of_2 (fun H locs hV => ?_)
  refine g_if_eq (tgt := 20) C hF dX7_of_5 rfl (fun hF => ?_) (fun hF => ?_)
  · refine lv_aload_n C.1 C.2.1 dX7_of_20 rfl (lv_at hl 0 rfl) ?_
    refine lv_iconst (v := 0) C.1 C.2.1 dX7_of_21 rfl ?_
    obtain ⟨x2, g3, hc, hF⟩ := bd2_s hF
    refine g_cVi (ws' := [oX7 a_t a_d a_e a_kept v_isKept a_found a_tape v_taped v_gone a_hears a_near a_firstDay a_daily v_begin v_round v_leastFar v_leastWhere v_mostLed a_heardNow v_firstMove v_at v_sort v_from v_value v_fault a_bitsOf a_sizeOf a_number a_passing, aA cI a_d 40 f_d, aA cI a_found 7 g3, aA cI a_hears 10 f_hears, aA cI a_near 10 f_near]) (wr := [aA cI a_d 40 f_d, aA cI a_hears 10 f_hears, aA cI a_near 10 f_near]) C hV (k_X7_finds l dC dI cI cB cO n0 H.size a_t a_d a_e a_kept a_found a_tape a_hears a_near a_firstDay a_daily a_heardNow a_bitsOf a_sizeOf a_number a_passing v_isKept v_taped v_gone v_begin v_round v_leastFar v_leastWhere v_mostLed v_firstMove v_at v_sort v_from v_value v_fault f_found 0 hc) mdX7_finds gX7_of_X7_finds rfl rfl ⟨Nat.le_of_ble_eq_true rfl, Nat.le_of_ble_eq_true rfl⟩ [0, 2] [1, 3, 4] [3, 0, 4, 1, 2] rfl rfl rfl rfl rfl rfl rfl rfl rfl rfl hl.1 (Nat.le_of_ble_eq_true rfl) rfl dX7_of_22 (fun H locs hV => ?_)
    exact hret (x2, g3, f_hears, f_near) _ _ _ _ dX7_of_25 hF hV
  refine lv_iload_n C.1 C.2.1 dX7_of_8 rfl (lv_at hl 2 rfl) ?_
  refine g_i2l C hF dX7_of_9 (fun x4 hF => ?_)
  refine lv_lconst (v := 0) C.1 C.2.1 dX7_of_10 rfl ?_
  refine lv_ldc2 (v := 7) C.1 C.2.1 C.2.2.2.1 (C.2.2.2.2 _ ctX7_of_118) dX7_of_11 ?_
  obtain ⟨x5, hc, hF⟩ := bd1_s hF
  refine g_cSi (ws' := [oX7 a_t a_d a_e a_kept v_isKept a_found a_tape v_taped v_gone a_hears a_near a_firstDay a_daily v_begin v_round v_leastFar v_leastWhere v_mostLed a_heardNow v_firstMove v_at v_sort v_from v_value v_fault a_bitsOf a_sizeOf a_number a_passing, aA cI a_d 40 f_d, aA cI a_found 7 f_found, aA cI a_hears 10 f_hears, aA cI a_near 10 f_near]) (wr := [oX7 a_t a_d a_e a_kept v_isKept a_found a_tape v_taped v_gone a_hears a_near a_firstDay a_daily v_begin v_round v_leastFar v_leastWhere v_mostLed a_heardNow v_firstMove v_at v_sort v_from v_value v_fault a_bitsOf a_sizeOf a_number a_passing, aA cI a_d 40 f_d, aA cI a_found 7 f_found, aA cI a_hears 10 f_hears, aA cI a_near 10 f_near]) C hV (k_X7_in l dC dI cI cB cO n0 H.size x4 0 7 hc) mdX7_in gX7_of_X7_in rfl rfl ⟨Nat.le_of_ble_eq_true rfl, Nat.le_of_ble_eq_true rfl⟩ [] [0, 1, 2, 3, 4] [0, 1, 2, 3, 4] rfl rfl rfl rfl rfl rfl rfl rfl hl.1 (Nat.le_of_ble_eq_true rfl) rfl dX7_of_14 (fun H locs hV => ?_)
  refine g_if_ne (tgt := 26) C hF dX7_of_17 rfl (fun hF => ?_) (fun hF => ?_)
  · refine lv_aload_n C.1 C.2.1 dX7_of_26 rfl (lv_at hl 0 rfl) ?_
    obtain ⟨g6, g7, hc, hF⟩ := bd2_s hF
    refine g_cVv (ws' := [oX7 a_t a_d a_e a_kept v_isKept a_found a_tape v_taped v_gone a_hears a_near a_firstDay a_daily v_begin v_round v_leastFar v_leastWhere v_mostLed a_heardNow v_firstMove v_at v_sort v_from v_value v_fault a_bitsOf a_sizeOf a_number a_passing, aA cI a_d 40 f_d, aA cI a_found 7 f_found, aA cI a_hears 10 g6, aA cI a_near 10 g7]) (wr := [aA cI a_found 7 f_found]) C hV (k_X7_listen l dC dI cI cB cO n0 H.size a_t a_d a_e a_kept a_found a_tape a_hears a_near a_firstDay a_daily a_heardNow a_bitsOf a_sizeOf a_number a_passing v_isKept v_taped v_gone v_begin v_round v_leastFar v_leastWhere v_mostLed v_firstMove v_at v_sort v_from v_value v_fault f_d f_hears f_near hc) mdX7_listen gX7_of_X7_listen rfl rfl ⟨Nat.le_of_ble_eq_true rfl, Nat.le_of_ble_eq_true rfl⟩ [0, 1, 3, 4] [2] [1, 2, 0, 3, 4] rfl rfl rfl rfl rfl rfl rfl rfl rfl rfl hl.1 (Nat.le_of_ble_eq_true rfl) rfl dX7_of_27 (fun H locs hV => ?_)
    refine lv_iload_n C.1 C.2.1 dX7_of_30 rfl (lv_at hl 2 rfl) ?_
    rcases ite_or hF with ⟨hc, hF⟩ | ⟨hc31_0, hF⟩
    · refine lv_tableIn (off := 41) (tgt := 72) C.1 C.2.1 dX7_of_31 (by rw [hc]; decide) (by rw [hc]; decide) (by rw [hc]; rfl) rfl ?_
      refine lv_aload_n C.1 C.2.1 dX7_of_72 rfl (lv_at hl 0 rfl) ?_
      refine lv_iload_n C.1 C.2.1 dX7_of_73 rfl (lv_at hl 1 rfl) ?_
      obtain ⟨x8, hc, hF⟩ := bd1_s hF
      refine g_cVi (ws' := [oX7 a_t a_d a_e a_kept v_isKept a_found a_tape v_taped v_gone a_hears a_near a_firstDay a_daily v_begin v_round v_leastFar v_leastWhere v_mostLed a_heardNow v_firstMove v_at v_sort v_from v_value v_fault a_bitsOf a_sizeOf a_number a_passing, aA cI a_d 40 f_d, aA cI a_found 7 f_found, aA cI a_hears 10 g6, aA cI a_near 10 g7]) (wr := [aA cI a_found 7 f_found, aA cI a_hears 10 g6, aA cI a_near 10 g7]) C hV (k_X7_kind l dC dI cI cB cO n0 H.size a_t a_d a_e a_kept a_found a_tape a_hears a_near a_firstDay a_daily a_heardNow a_bitsOf a_sizeOf a_number a_passing v_isKept v_taped v_gone v_begin v_round v_leastFar v_leastWhere v_mostLed v_firstMove v_at v_sort v_from v_value v_fault f_d p1 hc) mdX7_kind gX7_of_X7_kind rfl rfl ⟨Nat.le_of_ble_eq_true rfl, Nat.le_of_ble_eq_true rfl⟩ [0, 1] [2, 3, 4] [3, 4, 0, 1, 2] rfl rfl rfl rfl rfl rfl rfl rfl rfl rfl hl.1 (Nat.le_of_ble_eq_true rfl) rfl dX7_of_74 (fun H locs hV => ?_)
      exact hret (x8, f_found, g6, g7) _ _ _ _ dX7_of_77 hF hV
    rcases ite_or hF with ⟨hc, hF⟩ | ⟨hc31_1, hF⟩
    · refine lv_tableIn (off := 47) (tgt := 78) C.1 C.2.1 dX7_of_31 (by rw [hc]; decide) (by rw [hc]; decide) (by rw [hc]; rfl) rfl ?_
      refine lv_aload_n C.1 C.2.1 dX7_of_78 rfl (lv_at hl 0 rfl) ?_
      refine lv_iload_n C.1 C.2.1 dX7_of_79 rfl (lv_at hl 1 rfl) ?_
      obtain ⟨x9, hc, hF⟩ := bd1_s hF
      refine g_cVi (ws' := [oX7 a_t a_d a_e a_kept v_isKept a_found a_tape v_taped v_gone a_hears a_near a_firstDay a_daily v_begin v_round v_leastFar v_leastWhere v_mostLed a_heardNow v_firstMove v_at v_sort v_from v_value v_fault a_bitsOf a_sizeOf a_number a_passing, aA cI a_d 40 f_d, aA cI a_found 7 f_found, aA cI a_hears 10 g6, aA cI a_near 10 g7]) (wr := [aA cI a_found 7 f_found, aA cI a_hears 10 g6, aA cI a_near 10 g7]) C hV (k_X7_yard l dC dI cI cB cO n0 H.size a_t a_d a_e a_kept a_found a_tape a_hears a_near a_firstDay a_daily a_heardNow a_bitsOf a_sizeOf a_number a_passing v_isKept v_taped v_gone v_begin v_round v_leastFar v_leastWhere v_mostLed v_firstMove v_at v_sort v_from v_value v_fault f_d p1 hc) mdX7_yard gX7_of_X7_yard rfl rfl ⟨Nat.le_of_ble_eq_true rfl, Nat.le_of_ble_eq_true rfl⟩ [0, 1] [2, 3, 4] [3, 4, 0, 1, 2] rfl rfl rfl rfl rfl rfl rfl rfl rfl rfl hl.1 (Nat.le_of_ble_eq_true rfl) rfl dX7_of_80 (fun H locs hV => ?_)
      refine lv_bipush (v := 12) C.1 C.2.1 dX7_of_83 rfl ?_
      refine g_irem C hF dX7_of_85 (fun x10 hF => ?_)
      exact hret (x10, f_found, g6, g7) _ _ _ _ dX7_of_86 hF hV
    rcases ite_or hF with ⟨hc, hF⟩ | ⟨hc31_2, hF⟩
    · refine lv_tableIn (off := 56) (tgt := 87) C.1 C.2.1 dX7_of_31 (by rw [hc]; decide) (by rw [hc]; decide) (by rw [hc]; rfl) rfl ?_
      refine lv_aload_n C.1 C.2.1 dX7_of_87 rfl (lv_at hl 0 rfl) ?_
      refine lv_iload_n C.1 C.2.1 dX7_of_88 rfl (lv_at hl 1 rfl) ?_
      obtain ⟨x11, hc, hF⟩ := bd1_s hF
      refine g_cVi (ws' := [oX7 a_t a_d a_e a_kept v_isKept a_found a_tape v_taped v_gone a_hears a_near a_firstDay a_daily v_begin v_round v_leastFar v_leastWhere v_mostLed a_heardNow v_firstMove v_at v_sort v_from v_value v_fault a_bitsOf a_sizeOf a_number a_passing, aA cI a_d 40 f_d, aA cI a_found 7 f_found, aA cI a_hears 10 g6, aA cI a_near 10 g7]) (wr := [aA cI a_found 7 f_found, aA cI a_hears 10 g6, aA cI a_near 10 g7]) C hV (k_X7_yard l dC dI cI cB cO n0 H.size a_t a_d a_e a_kept a_found a_tape a_hears a_near a_firstDay a_daily a_heardNow a_bitsOf a_sizeOf a_number a_passing v_isKept v_taped v_gone v_begin v_round v_leastFar v_leastWhere v_mostLed v_firstMove v_at v_sort v_from v_value v_fault f_d p1 hc) mdX7_yard gX7_of_X7_yard rfl rfl ⟨Nat.le_of_ble_eq_true rfl, Nat.le_of_ble_eq_true rfl⟩ [0, 1] [2, 3, 4] [3, 4, 0, 1, 2] rfl rfl rfl rfl rfl rfl rfl rfl rfl rfl hl.1 (Nat.le_of_ble_eq_true rfl) rfl dX7_of_89 (fun H locs hV => ?_)
      refine lv_bipush (v := 12) C.1 C.2.1 dX7_of_92 rfl ?_
      refine g_idiv C hF dX7_of_94 (fun x12 hF => ?_)
      exact hret (x12, f_found, g6, g7) _ _ _ _ dX7_of_95 hF hV
    rcases ite_or hF with ⟨hc, hF⟩ | ⟨hc31_3, hF⟩
    · refine lv_tableIn (off := 65) (tgt := 96) C.1 C.2.1 dX7_of_31 (by rw [hc]; decide) (by rw [hc]; decide) (by rw [hc]; rfl) rfl ?_
      refine lv_aload_n C.1 C.2.1 dX7_of_96 rfl (lv_at hl 0 rfl) ?_
      refine lv_iload_n C.1 C.2.1 dX7_of_97 rfl (lv_at hl 1 rfl) ?_
      obtain ⟨x13, hc, hF⟩ := bd1_s hF
      refine g_cVi (ws' := [oX7 a_t a_d a_e a_kept v_isKept a_found a_tape v_taped v_gone a_hears a_near a_firstDay a_daily v_begin v_round v_leastFar v_leastWhere v_mostLed a_heardNow v_firstMove v_at v_sort v_from v_value v_fault a_bitsOf a_sizeOf a_number a_passing, aA cI a_d 40 f_d, aA cI a_found 7 f_found, aA cI a_hears 10 g6, aA cI a_near 10 g7]) (wr := [aA cI a_found 7 f_found, aA cI a_hears 10 g6, aA cI a_near 10 g7]) C hV (k_X7_saysNow l dC dI cI cB cO n0 H.size a_t a_d a_e a_kept a_found a_tape a_hears a_near a_firstDay a_daily a_heardNow a_bitsOf a_sizeOf a_number a_passing v_isKept v_taped v_gone v_begin v_round v_leastFar v_leastWhere v_mostLed v_firstMove v_at v_sort v_from v_value v_fault f_d p1 hc) mdX7_saysNow gX7_of_X7_saysNow rfl rfl ⟨Nat.le_of_ble_eq_true rfl, Nat.le_of_ble_eq_true rfl⟩ [0, 1] [2, 3, 4] [3, 4, 0, 1, 2] rfl rfl rfl rfl rfl rfl rfl rfl rfl rfl hl.1 (Nat.le_of_ble_eq_true rfl) rfl dX7_of_98 (fun H locs hV => ?_)
      exact hret (x13, f_found, g6, g7) _ _ _ _ dX7_of_101 hF hV
    rcases ite_or hF with ⟨hc, hF⟩ | ⟨hc31_4, hF⟩
    · refine lv_tableIn (off := 71) (tgt := 102) C.1 C.2.1 dX7_of_31 (by rw [hc]; decide) (by rw [hc]; decide) (by rw [hc]; rfl) rfl ?_
      refine lv_aload_n C.1 C.2.1 dX7_of_102 rfl (lv_at hl 0 rfl) ?_
      refine g_get C hV flX7_of_30 0 rfl rfl dX7_of_103 ?_
      refine lv_iload_n C.1 C.2.1 dX7_of_106 rfl (lv_at hl 1 rfl) ?_
      refine g_iald C hV 3 rfl hF dX7_of_107 (fun x14 hF => ?_)
      exact hret (x14, f_found, g6, g7) _ _ _ _ dX7_of_108 hF hV
    rcases ite_or hF with ⟨hc, hF⟩ | ⟨hc31_5, hF⟩
    · refine lv_tableIn (off := 78) (tgt := 109) C.1 C.2.1 dX7_of_31 (by rw [hc]; decide) (by rw [hc]; decide) (by rw [hc]; rfl) rfl ?_
      refine lv_aload_n C.1 C.2.1 dX7_of_109 rfl (lv_at hl 0 rfl) ?_
      refine lv_iload_n C.1 C.2.1 dX7_of_110 rfl (lv_at hl 1 rfl) ?_
      refine lv_aload_n C.1 C.2.1 dX7_of_111 rfl (lv_at hl 0 rfl) ?_
      refine g_get C hV flX7_of_7 0 rfl rfl dX7_of_112 ?_
      refine lv_bipush (v := 6) C.1 C.2.1 dX7_of_115 rfl ?_
      refine g_iald C hV 1 rfl hF dX7_of_117 (fun x15 hF => ?_)
      obtain ⟨x16, hc, hF⟩ := bd1_s hF
      refine g_cVi (ws' := [oX7 a_t a_d a_e a_kept v_isKept a_found a_tape v_taped v_gone a_hears a_near a_firstDay a_daily v_begin v_round v_leastFar v_leastWhere v_mostLed a_heardNow v_firstMove v_at v_sort v_from v_value v_fault a_bitsOf a_sizeOf a_number a_passing, aA cI a_d 40 f_d, aA cI a_found 7 f_found, aA cI a_hears 10 g6, aA cI a_near 10 g7]) (wr := [aA cI a_found 7 f_found]) C hV (k_X7_willSay l dC dI cI cB cO n0 H.size a_t a_d a_e a_kept a_found a_tape a_hears a_near a_firstDay a_daily a_heardNow a_bitsOf a_sizeOf a_number a_passing v_isKept v_taped v_gone v_begin v_round v_leastFar v_leastWhere v_mostLed v_firstMove v_at v_sort v_from v_value v_fault f_d g6 g7 p1 x15 hc) mdX7_willSay gX7_of_X7_willSay rfl rfl ⟨Nat.le_of_ble_eq_true rfl, Nat.le_of_ble_eq_true rfl⟩ [0, 1, 3, 4] [2] [1, 2, 0, 3, 4] rfl rfl rfl rfl rfl rfl rfl rfl rfl rfl hl.1 (Nat.le_of_ble_eq_true rfl) rfl dX7_of_118 (fun H locs hV => ?_)
      exact hret (x16, f_found, g6, g7) _ _ _ _ dX7_of_121 hF hV
    rcases ite_or hF with ⟨hc, hF⟩ | ⟨hc31_6, hF⟩
    · refine lv_tableIn (off := 91) (tgt := 122) C.1 C.2.1 dX7_of_31 (by rw [hc]; decide) (by rw [hc]; decide) (by rw [hc]; rfl) rfl ?_
      refine lv_aload_n C.1 C.2.1 dX7_of_122 rfl (lv_at hl 0 rfl) ?_
      refine lv_iload_n C.1 C.2.1 dX7_of_123 rfl (lv_at hl 1 rfl) ?_
      obtain ⟨x17, hc, hF⟩ := bd1_s hF
      refine g_cVi (ws' := [oX7 a_t a_d a_e a_kept v_isKept a_found a_tape v_taped v_gone a_hears a_near a_firstDay a_daily v_begin v_round v_leastFar v_leastWhere v_mostLed a_heardNow v_firstMove v_at v_sort v_from v_value v_fault a_bitsOf a_sizeOf a_number a_passing, aA cI a_d 40 f_d, aA cI a_found 7 f_found, aA cI a_hears 10 g6, aA cI a_near 10 g7]) (wr := [aA cI a_d 40 f_d, aA cI a_found 7 f_found, aA cI a_near 10 g7]) C hV (k_X7_lineOf l dC dI cI cB cO n0 H.size a_t a_d a_e a_kept a_found a_tape a_hears a_near a_firstDay a_daily a_heardNow a_bitsOf a_sizeOf a_number a_passing v_isKept v_taped v_gone v_begin v_round v_leastFar v_leastWhere v_mostLed v_firstMove v_at v_sort v_from v_value v_fault g6 p1 hc) mdX7_lineOf gX7_of_X7_lineOf rfl rfl ⟨Nat.le_of_ble_eq_true rfl, Nat.le_of_ble_eq_true rfl⟩ [0, 3] [1, 2, 4] [3, 0, 1, 4, 2] rfl rfl rfl rfl rfl rfl rfl rfl rfl rfl hl.1 (Nat.le_of_ble_eq_true rfl) rfl dX7_of_124 (fun H locs hV => ?_)
      exact hret (x17, f_found, g6, g7) _ _ _ _ dX7_of_127 hF hV
    refine lv_tableOut (tgt := 128) C.1 C.2.1 dX7_of_31 (sw_out (fun j h1 h2 => by rcases (show j = 0 ∨ j = 1 ∨ j = 2 ∨ j = 3 ∨ j = 4 ∨ j = 5 ∨ j = 6 by omega) with rfl | rfl | rfl | rfl | rfl | rfl | rfl <;> first | exact hc31_0 | exact hc31_1 | exact hc31_2 | exact hc31_3 | exact hc31_4 | exact hc31_5 | exact hc31_6)) rfl ?_
    refine lv_aload_n C.1 C.2.1 dX7_of_128 rfl (lv_at hl 0 rfl) ?_
    refine lv_iload_n C.1 C.2.1 dX7_of_129 rfl (lv_at hl 1 rfl) ?_
    obtain ⟨x18, hc, hF⟩ := bd1_s hF
    refine g_cVi (ws' := [oX7 a_t a_d a_e a_kept v_isKept a_found a_tape v_taped v_gone a_hears a_near a_firstDay a_daily v_begin v_round v_leastFar v_leastWhere v_mostLed a_heardNow v_firstMove v_at v_sort v_from v_value v_fault a_bitsOf a_sizeOf a_number a_passing, aA cI a_d 40 f_d, aA cI a_found 7 f_found, aA cI a_hears 10 g6, aA cI a_near 10 g7]) (wr := [aA cI a_found 7 f_found, aA cI a_near 10 g7]) C hV (k_X7_followersOf l dC dI cI cB cO n0 H.size a_t a_d a_e a_kept a_found a_tape a_hears a_near a_firstDay a_daily a_heardNow a_bitsOf a_sizeOf a_number a_passing v_isKept v_taped v_gone v_begin v_round v_leastFar v_leastWhere v_mostLed v_firstMove v_at v_sort v_from v_value v_fault f_d g6 p1 hc) mdX7_followersOf gX7_of_X7_followersOf rfl rfl ⟨Nat.le_of_ble_eq_true rfl, Nat.le_of_ble_eq_true rfl⟩ [0, 1, 3] [2, 4] [2, 3, 0, 4, 1] rfl rfl rfl rfl rfl rfl rfl rfl rfl rfl hl.1 (Nat.le_of_ble_eq_true rfl) rfl dX7_of_130 (fun H locs hV => ?_)
    exact hret (x18, f_found, g6, g7) _ _ _ _ dX7_of_133 hF hV
  refine lv_aload_n C.1 C.2.1 dX7_of_20 rfl (lv_at hl 0 rfl) ?_
  refine lv_iconst (v := 0) C.1 C.2.1 dX7_of_21 rfl ?_
  obtain ⟨x19, g20, hc, hF⟩ := bd2_s hF
  refine g_cVi (ws' := [oX7 a_t a_d a_e a_kept v_isKept a_found a_tape v_taped v_gone a_hears a_near a_firstDay a_daily v_begin v_round v_leastFar v_leastWhere v_mostLed a_heardNow v_firstMove v_at v_sort v_from v_value v_fault a_bitsOf a_sizeOf a_number a_passing, aA cI a_d 40 f_d, aA cI a_found 7 g20, aA cI a_hears 10 f_hears, aA cI a_near 10 f_near]) (wr := [aA cI a_d 40 f_d, aA cI a_hears 10 f_hears, aA cI a_near 10 f_near]) C hV (k_X7_finds l dC dI cI cB cO n0 H.size a_t a_d a_e a_kept a_found a_tape a_hears a_near a_firstDay a_daily a_heardNow a_bitsOf a_sizeOf a_number a_passing v_isKept v_taped v_gone v_begin v_round v_leastFar v_leastWhere v_mostLed v_firstMove v_at v_sort v_from v_value v_fault f_found 0 hc) mdX7_finds gX7_of_X7_finds rfl rfl ⟨Nat.le_of_ble_eq_true rfl, Nat.le_of_ble_eq_true rfl⟩ [0, 2] [1, 3, 4] [3, 0, 4, 1, 2] rfl rfl rfl rfl rfl rfl rfl rfl rfl rfl hl.1 (Nat.le_of_ble_eq_true rfl) rfl dX7_of_22 (fun H locs hV => ?_)
  exact hret (x19, g20, f_hears, f_near) _ _ _ _ dX7_of_25 hF hV
abbrev rmX7_sayOf : Room := { frames := 0, cells := 0, slots := 0, locals := 0 }
theorem mdX7_sayOf : gMd yX7_sayOf wsX7_sayOf cX7_sayOf 3 none 2 := ⟨⟨_, rfl⟩, by decide +kernel⟩
theorem flX7_sayOf_7 : gFL wsX7_sayOf RX7 7 7 0 RX7 TX7 28 := ⟨rfl, fun w h => List.mem_cons_of_mem _ (List.mem_append_right _ (h)), Nat.le_of_ble_eq_true rfl, List.mem_cons_of_mem _ (List.mem_append_left _ (List.mem_of_getElem? (i := 0) rfl))⟩
def F_X7_sayOf (n0 : Nat) (f_d : Nat → Int32) (p1 : Int32) (p2 : Int32) : Option ((Nat → Int32)) := (if p2 = 1 then rd f_d 40 6 (fun x6 => nm (1 <<< (p1 &&& 31)) (fun x7 => nm (x6 ||| x7) (fun x8 => wrt f_d 40 6 x8 (fun g9 => some g9)))) else rd f_d 40 6 (fun x1 => nm (1 <<< (p1 &&& 31)) (fun x2 => nm (x2 ^^^ ((-1))) (fun x3 => nm (x1 &&& x3) (fun x4 => wrt f_d 40 6 x4 (fun g5 => some g5))))))
set_option maxRecDepth 100000 in
set_option maxHeartbeats 4000000 in
theorem k_X7_sayOf (l : Launch) (dC : Nat → ClassId) (dI : Nat → Nat → Nat) (cI cB cO : ClassId) (n0 sz : Nat) (a_t : Nat) (a_d : Nat) (a_e : Nat) (a_kept : Nat) (a_found : Nat) (a_tape : Nat) (a_hears : Nat) (a_near : Nat) (a_firstDay : Nat) (a_daily : Nat) (a_heardNow : Nat) (a_bitsOf : Nat) (a_sizeOf : Nat) (a_number : Nat) (a_passing : Nat)   (v_isKept : Int32) (v_taped : Int32) (v_gone : Int32) (v_begin : Int32) (v_round : Int32) (v_leastFar : Int32) (v_leastWhere : Int32) (v_mostLed : Int32) (v_firstMove : Int32) (v_at : Int32) (v_sort : Int32) (v_from : Int32) (v_value : Int64) (v_fault : Int32) (f_d : Nat → Int32) (p1 : Int32) (p2 : Int32)  {o0 : Nat → Int32} (hF : F_X7_sayOf n0 f_d p1 p2 = some o0) : Met l yX7_sayOf wsX7_sayOf rmX7_sayOf (va_Pc [.ref a_t, .int p1, .int p2] (gPre (dC, dI) (gT cI cB cO) sz [oX7 a_t a_d a_e a_kept v_isKept a_found a_tape v_taped v_gone a_hears a_near a_firstDay a_daily v_begin v_round v_leastFar v_leastWhere v_mostLed a_heardNow v_firstMove v_at v_sort v_from v_value v_fault a_bitsOf a_sizeOf a_number a_passing, aA cI a_d 40 f_d])) (gQv (dC, dI) (gT cI cB cO) sz [oX7 a_t a_d a_e a_kept v_isKept a_found a_tape v_taped v_gone a_hears a_near a_firstDay a_daily v_begin v_round v_leastFar v_leastWhere v_mostLed a_heardNow v_firstMove v_at v_sort v_from v_value v_fault a_bitsOf a_sizeOf a_number a_passing, aA cI a_d 40 f_d] [oX7 a_t a_d a_e a_kept v_isKept a_found a_tape v_taped v_gone a_hears a_near a_firstDay a_daily v_begin v_round v_leastFar v_leastWhere v_mostLed a_heardNow v_firstMove v_at v_sort v_from v_value v_fault a_bitsOf a_sizeOf a_number a_passing, aA cI a_d 40 o0]) 0 0 (va_A [oX7 a_t a_d a_e a_kept v_isKept a_found a_tape v_taped v_gone a_hears a_near a_firstDay a_daily v_begin v_round v_leastFar v_leastWhere v_mostLed a_heardNow v_firstMove v_at v_sort v_from v_value v_fault a_bitsOf a_sizeOf a_number a_passing, aA cI a_d 40 f_d] sz) := by
  refine g_metV (Out := (Nat → Int32)) (fun oo => [oX7 a_t a_d a_e a_kept v_isKept a_found a_tape v_taped v_gone a_hears a_near a_firstDay a_daily v_begin v_round v_leastFar v_leastWhere v_mostLed a_heardNow v_firstMove v_at v_sort v_from v_value v_fault a_bitsOf a_sizeOf a_number a_passing, aA cI a_d 40 oo]) o0 (own := RX7) (lv := [(0, .ref a_t), (1, .int p1), (2, .int p2)]) (by decide) rfl rfl (Nat.le_of_ble_eq_true rfl) rfl ?_
  intro p e s m args below meth c Q ls C hret hV hl
  obtain ⟨out, hout⟩ : ∃ z : (Nat → Int32), z = o0 := ⟨_, rfl⟩
  rw [← hout] at hF hret
  obtain ⟨H0, hH0⟩ : ∃ z : Heap, z = s.heap := ⟨_, rfl⟩
  obtain ⟨A0, hA0⟩ : ∃ z : Nat → Prop, z = va_A [oX7 a_t a_d a_e a_kept v_isKept a_found a_tape v_taped v_gone a_hears a_near a_firstDay a_daily v_begin v_round v_leastFar v_leastWhere v_mostLed a_heardNow v_firstMove v_at v_sort v_from v_value v_fault a_bitsOf a_sizeOf a_number a_passing, aA cI a_d 40 f_d] s.heap.size := ⟨_, rfl⟩
  rw [← hA0] at hret hV
  rw [← hH0] at hret hV
  rw [← hH0]
  obtain ⟨H, locs, hH⟩ : ∃ (z : Heap) (y : List Loc), z = H0 ∧ y = [] := ⟨_, _, rfl, rfl⟩
  rw [← hH.1, ← hH.2]
  have hV : gV (dC, dI) (gT cI cB cO) A0 H0 s [oX7 a_t a_d a_e a_kept v_isKept a_found a_tape v_taped v_gone a_hears a_near a_firstDay a_daily v_begin v_round v_leastFar v_leastWhere v_mostLed a_heardNow v_firstMove v_at v_sort v_from v_value v_fault a_bitsOf a_sizeOf a_number a_passing, aA cI a_d 40 f_d] H locs := by rw [hH.1, hH.2]; exact hV
  unfold F_X7_sayOf at hF
  refine lv_aload_n C.1 C.2.1 dX7_sayOf_0 rfl (lv_at hl 0 rfl) ?_
  refine g_get C hV flX7_sayOf_7 0 rfl rfl dX7_sayOf_1 ?_
  refine lv_bipush (v := 6) C.1 C.2.1 dX7_sayOf_4 rfl ?_
  refine lv_iload_n C.1 C.2.1 dX7_sayOf_6 rfl (lv_at hl 2 rfl) ?_
  refine lv_iconst (v := 1) C.1 C.2.1 dX7_sayOf_7 rfl ?_
  refine g_icmp_ne (tgt := 25) C hF dX7_sayOf_8 rfl (fun hF => ?_) (fun hF => ?_)
  · refine lv_aload_n C.1 C.2.1 dX7_sayOf_25 rfl (lv_at hl 0 rfl) ?_
    refine g_get C hV flX7_sayOf_7 0 rfl rfl dX7_sayOf_26 ?_
    refine lv_bipush (v := 6) C.1 C.2.1 dX7_sayOf_29 rfl ?_
    refine g_iald C hV 1 rfl hF dX7_sayOf_31 (fun x1 hF => ?_)
    refine lv_iconst (v := 1) C.1 C.2.1 dX7_sayOf_32 rfl ?_
    refine lv_iload_n C.1 C.2.1 dX7_sayOf_33 rfl (lv_at hl 1 rfl) ?_
    refine g_ishl C hF dX7_sayOf_34 (fun x2 hF => ?_)
    refine lv_iconst (v := (-1)) C.1 C.2.1 dX7_sayOf_35 rfl ?_
    refine g_ixor C hF dX7_sayOf_36 (fun x3 hF => ?_)
    refine g_iand C hF dX7_sayOf_37 (fun x4 hF => ?_)
    refine g_iast C hV 1 rfl hF (fun gq => [oX7 a_t a_d a_e a_kept v_isKept a_found a_tape v_taped v_gone a_hears a_near a_firstDay a_daily v_begin v_round v_leastFar v_leastWhere v_mostLed a_heardNow v_firstMove v_at v_sort v_from v_value v_fault a_bitsOf a_sizeOf a_number a_passing, aA cI a_d 40 gq]) (fun _ => rfl) dX7_sayOf_38 (fun g5 H locs hF hV => ?_)
    exact hret g5 _ _ _ _ dX7_sayOf_39 hF hV
  refine lv_aload_n C.1 C.2.1 dX7_sayOf_11 rfl (lv_at hl 0 rfl) ?_
  refine g_get C hV flX7_sayOf_7 0 rfl rfl dX7_sayOf_12 ?_
  refine lv_bipush (v := 6) C.1 C.2.1 dX7_sayOf_15 rfl ?_
  refine g_iald C hV 1 rfl hF dX7_sayOf_17 (fun x6 hF => ?_)
  refine lv_iconst (v := 1) C.1 C.2.1 dX7_sayOf_18 rfl ?_
  refine lv_iload_n C.1 C.2.1 dX7_sayOf_19 rfl (lv_at hl 1 rfl) ?_
  refine g_ishl C hF dX7_sayOf_20 (fun x7 hF => ?_)
  refine g_ior C hF dX7_sayOf_21 (fun x8 hF => ?_)
  refine lv_goto (tgt := 38) C.1 C.2.1 dX7_sayOf_22 rfl ?_
  refine g_iast C hV 1 rfl hF (fun gq => [oX7 a_t a_d a_e a_kept v_isKept a_found a_tape v_taped v_gone a_hears a_near a_firstDay a_daily v_begin v_round v_leastFar v_leastWhere v_mostLed a_heardNow v_firstMove v_at v_sort v_from v_value v_fault a_bitsOf a_sizeOf a_number a_passing, aA cI a_d 40 gq]) (fun _ => rfl) dX7_sayOf_38 (fun g9 H locs hF hV => ?_)
  exact hret g9 _ _ _ _ dX7_sayOf_39 hF hV
abbrev rmX7_change : Room := { frames := 2, cells := 0, slots := 0, locals := 46 }
theorem mdX7_change : gMd yX7_change wsX7_change cX7_change 5 (some .int) 3 := ⟨⟨_, rfl⟩, by decide +kernel⟩
theorem flX7_change_7 : gFL wsX7_change RX7 7 7 0 RX7 TX7 28 := ⟨rfl, fun w h => List.mem_cons_of_mem _ (List.mem_append_right _ (h)), Nat.le_of_ble_eq_true rfl, List.mem_cons_of_mem _ (List.mem_append_left _ (List.mem_append_left _ (List.mem_of_getElem? (i := 1) rfl)))⟩
theorem ctX7_change_100 : Cond.constantLong RX7 100 6 ∈ wsX7_change := List.mem_cons_of_mem _ (List.mem_append_left _ (List.mem_append_left _ (List.mem_of_getElem? (i := 0) rfl)))
def J_X7_change_60 (p2 : Int32) (p1 : Int32) (f_d : Nat → Int32) (p3 : Int32) (k9 : Int32) (f_found : Nat → Int32) (n0 : Nat) : Option (Int32 × (Nat → Int32) × (Nat → Int32)) := (if p2 = 0 then nm (10 + p1) (fun x11 => wrt f_d 40 x11 p3 (fun g12 => some (k9, g12, f_found))) else bd1 (F_X7_sayOf n0 f_d p1 p3) (fun g10 => some (k9, g10, f_found)))
def J_X7_change_31 (n0 : Nat) (k7 : Int64) (k6 : Int64) (k5 : Int64) (f_found : Nat → Int32) (f_d : Nat → Int32) (p2 : Int32) (p1 : Int32) (p3 : Int32) : Option (Int32 × (Nat → Int32) × (Nat → Int32)) := bd1 (F_X7_in n0 k7 k6 k5) (fun x8 => (if x8 = 0 then bd2 (F_X7_finds n0 f_found 0) (fun x15 g16 => some (x15, f_d, g16)) else (if p2 = 0 then bd1 (F_X7_kind n0 f_d p1) (fun x14 => J_X7_change_60 p2 p1 f_d p3 x14 f_found n0) else bd1 (F_X7_saysNow n0 f_d p1) (fun x13 => J_X7_change_60 p2 p1 f_d p3 x13 f_found n0))))
def J_X7_change_17 (p3 : Int32) (p2 : Int32) (n0 : Nat) (f_found : Nat → Int32) (f_d : Nat → Int32) (p1 : Int32) : Option (Int32 × (Nat → Int32) × (Nat → Int32)) := nm (p3.toInt64) (fun x4 => (if p2 = 0 then J_X7_change_31 n0 x4 0 6 f_found f_d p2 p1 p3 else J_X7_change_31 n0 x4 0 1 f_found f_d p2 p1 p3))
def F_X7_change (n0 : Nat) (f_d : Nat → Int32) (f_found : Nat → Int32) (p1 : Int32) (p2 : Int32) (p3 : Int32) : Option (Int32 × (Nat → Int32) × (Nat → Int32)) := bd1 (F_X7_isTent n0 f_d p1) (fun x1 => (if x1 = 0 then bd2 (F_X7_finds n0 f_found 0) (fun x2 g3 => some (x2, f_d, g3)) else (if p2 = 0 then J_X7_change_17 p3 p2 n0 f_found f_d p1 else (if p2 = 3 then J_X7_change_17 p3 p2 n0 f_found f_d p1 else bd2 (F_X7_finds n0 f_found 0) (fun x17 g18 => some (x17, f_d, g18))))))
set_option maxRecDepth 100000 in
set_option maxHeartbeats 4000000 in
theorem k_X7_change (l : Launch) (dC : Nat → ClassId) (dI : Nat → Nat → Nat) (cI cB cO : ClassId) (n0 sz : Nat) (a_t : Nat) (a_d : Nat) (a_e : Nat) (a_kept : Nat) (a_found : Nat) (a_tape : Nat) (a_hears : Nat) (a_near : Nat) (a_firstDay : Nat) (a_daily : Nat) (a_heardNow : Nat) (a_bitsOf : Nat) (a_sizeOf : Nat) (a_number : Nat) (a_passing : Nat)   (v_isKept : Int32) (v_taped : Int32) (v_gone : Int32) (v_begin : Int32) (v_round : Int32) (v_leastFar : Int32) (v_leastWhere : Int32) (v_mostLed : Int32) (v_firstMove : Int32) (v_at : Int32) (v_sort : Int32) (v_from : Int32) (v_value : Int64) (v_fault : Int32) (f_d : Nat → Int32) (f_found : Nat → Int32) (p1 : Int32) (p2 : Int32) (p3 : Int32)  {ro : Int32} {o0 : Nat → Int32} {o1 : Nat → Int32} (hF : F_X7_change n0 f_d f_found p1 p2 p3 = some (ro, o0, o1)) : Met l yX7_change wsX7_change rmX7_change (va_Pc [.ref a_t, .int p1, .int p2, .int p3] (gPre (dC, dI) (gT cI cB cO) sz [oX7 a_t a_d a_e a_kept v_isKept a_found a_tape v_taped v_gone a_hears a_near a_firstDay a_daily v_begin v_round v_leastFar v_leastWhere v_mostLed a_heardNow v_firstMove v_at v_sort v_from v_value v_fault a_bitsOf a_sizeOf a_number a_passing, aA cI a_d 40 f_d, aA cI a_found 7 f_found])) (gQi (dC, dI) (gT cI cB cO) sz [oX7 a_t a_d a_e a_kept v_isKept a_found a_tape v_taped v_gone a_hears a_near a_firstDay a_daily v_begin v_round v_leastFar v_leastWhere v_mostLed a_heardNow v_firstMove v_at v_sort v_from v_value v_fault a_bitsOf a_sizeOf a_number a_passing, aA cI a_d 40 f_d, aA cI a_found 7 f_found] ro [oX7 a_t a_d a_e a_kept v_isKept a_found a_tape v_taped v_gone a_hears a_near a_firstDay a_daily v_begin v_round v_leastFar v_leastWhere v_mostLed a_heardNow v_firstMove v_at v_sort v_from v_value v_fault a_bitsOf a_sizeOf a_number a_passing, aA cI a_d 40 o0, aA cI a_found 7 o1]) 0 0 (va_A [oX7 a_t a_d a_e a_kept v_isKept a_found a_tape v_taped v_gone a_hears a_near a_firstDay a_daily v_begin v_round v_leastFar v_leastWhere v_mostLed a_heardNow v_firstMove v_at v_sort v_from v_value v_fault a_bitsOf a_sizeOf a_number a_passing, aA cI a_d 40 f_d, aA cI a_found 7 f_found] sz) := by
  refine g_metI (Out := Int32 × (Nat → Int32) × (Nat → Int32)) (fun oo => oo.1) (fun oo => [oX7 a_t a_d a_e a_kept v_isKept a_found a_tape v_taped v_gone a_hears a_near a_firstDay a_daily v_begin v_round v_leastFar v_leastWhere v_mostLed a_heardNow v_firstMove v_at v_sort v_from v_value v_fault a_bitsOf a_sizeOf a_number a_passing, aA cI a_d 40 oo.2.1, aA cI a_found 7 oo.2.2]) (ro, o0, o1) (own := RX7) (lv := [(0, .ref a_t), (1, .int p1), (2, .int p2), (3, .int p3)]) (by decide) rfl rfl (Nat.le_of_ble_eq_true rfl) rfl ?_
  intro p e s m args below meth c Q ls C hret hV hl
  obtain ⟨out, hout⟩ : ∃ z : Int32 × (Nat → Int32) × (Nat → Int32), z = (ro, o0, o1) := ⟨_, rfl⟩
  rw [← hout] at hF hret
  obtain ⟨H0, hH0⟩ : ∃ z : Heap, z = s.heap := ⟨_, rfl⟩
  obtain ⟨A0, hA0⟩ : ∃ z : Nat → Prop, z = va_A [oX7 a_t a_d a_e a_kept v_isKept a_found a_tape v_taped v_gone a_hears a_near a_firstDay a_daily v_begin v_round v_leastFar v_leastWhere v_mostLed a_heardNow v_firstMove v_at v_sort v_from v_value v_fault a_bitsOf a_sizeOf a_number a_passing, aA cI a_d 40 f_d, aA cI a_found 7 f_found] s.heap.size := ⟨_, rfl⟩
  rw [← hA0] at hret hV
  rw [← hH0] at hret hV
  rw [← hH0]
  obtain ⟨H, locs, hH⟩ : ∃ (z : Heap) (y : List Loc), z = H0 ∧ y = [] := ⟨_, _, rfl, rfl⟩
  rw [← hH.1, ← hH.2]
  have hV : gV (dC, dI) (gT cI cB cO) A0 H0 s [oX7 a_t a_d a_e a_kept v_isKept a_found a_tape v_taped v_gone a_hears a_near a_firstDay a_daily v_begin v_round v_leastFar v_leastWhere v_mostLed a_heardNow v_firstMove v_at v_sort v_from v_value v_fault a_bitsOf a_sizeOf a_number a_passing, aA cI a_d 40 f_d, aA cI a_found 7 f_found] H locs := by rw [hH.1, hH.2]; exact hV
  unfold F_X7_change at hF
  refine lv_aload_n C.1 C.2.1 dX7_change_0 rfl (lv_at hl 0 rfl) ?_
  refine lv_iload_n C.1 C.2.1 dX7_change_1 rfl (lv_at hl 1 rfl) ?_
  obtain ⟨x1, hc, hF⟩ := bd1_s hF
  refine g_cVi (ws' := [oX7 a_t a_d a_e a_kept v_isKept a_found a_tape v_taped v_gone a_hears a_near a_firstDay a_daily v_begin v_round v_leastFar v_leastWhere v_mostLed a_heardNow v_firstMove v_at v_sort v_from v_value v_fault a_bitsOf a_sizeOf a_number a_passing, aA cI a_d 40 f_d, aA cI a_found 7 f_found]) (wr := [aA cI a_found 7 f_found]) C hV (k_X7_isTent l dC dI cI cB cO n0 H.size a_t a_d a_e a_kept a_found a_tape a_hears a_near a_firstDay a_daily a_heardNow a_bitsOf a_sizeOf a_number a_passing v_isKept v_taped v_gone v_begin v_round v_leastFar v_leastWhere v_mostLed v_firstMove v_at v_sort v_from v_value v_fault f_d p1 hc) mdX7_isTent gX7_change_X7_isTent rfl rfl ⟨Nat.le_of_ble_eq_true rfl, Nat.le_of_ble_eq_true rfl⟩ [0, 1] [2] [1, 2, 0] rfl rfl rfl rfl rfl rfl rfl rfl rfl rfl hl.1 (Nat.le_of_ble_eq_true rfl) rfl dX7_change_2 (fun H locs hV => ?_)
  refine g_if_eq (tgt := 37) C hF dX7_change_5 rfl (fun hF => ?_) (fun hF => ?_)
  · refine lv_aload_n C.1 C.2.1 dX7_change_37 rfl (lv_at hl 0 rfl) ?_
    refine lv_iconst (v := 0) C.1 C.2.1 dX7_change_38 rfl ?_
    obtain ⟨x2, g3, hc, hF⟩ := bd2_s hF
    refine g_cVi (ws' := [oX7 a_t a_d a_e a_kept v_isKept a_found a_tape v_taped v_gone a_hears a_near a_firstDay a_daily v_begin v_round v_leastFar v_leastWhere v_mostLed a_heardNow v_firstMove v_at v_sort v_from v_value v_fault a_bitsOf a_sizeOf a_number a_passing, aA cI a_d 40 f_d, aA cI a_found 7 g3]) (wr := [aA cI a_d 40 f_d]) C hV (k_X7_finds l dC dI cI cB cO n0 H.size a_t a_d a_e a_kept a_found a_tape a_hears a_near a_firstDay a_daily a_heardNow a_bitsOf a_sizeOf a_number a_passing v_isKept v_taped v_gone v_begin v_round v_leastFar v_leastWhere v_mostLed v_firstMove v_at v_sort v_from v_value v_fault f_found 0 hc) mdX7_finds gX7_change_X7_finds rfl rfl ⟨Nat.le_of_ble_eq_true rfl, Nat.le_of_ble_eq_true rfl⟩ [0, 2] [1] [1, 0, 2] rfl rfl rfl rfl rfl rfl rfl rfl rfl rfl hl.1 (Nat.le_of_ble_eq_true rfl) rfl dX7_change_39 (fun H locs hV => ?_)
    exact hret (x2, f_d, g3) _ _ _ _ dX7_change_42 hF hV
  refine lv_iload_n C.1 C.2.1 dX7_change_8 rfl (lv_at hl 2 rfl) ?_
  have hJ17 : ∀  (H : Heap) (locs : List Loc) (ls : Array Slot), gV (dC, dI) (gT cI cB cO) A0 H0 s [oX7 a_t a_d a_e a_kept v_isKept a_found a_tape v_taped v_gone a_hears a_near a_firstDay a_daily v_begin v_round v_leastFar v_leastWhere v_mostLed a_heardNow v_firstMove v_at v_sort v_from v_value v_fault a_bitsOf a_sizeOf a_number a_passing, aA cI a_d 40 f_d, aA cI a_found 7 f_found] H locs → lv_has ls 5 [(0, .ref a_t), (1, .int p1), (2, .int p2), (3, .int p3)] → J_X7_change_17 p3 p2 n0 f_found f_d p1 = some out → W p l e rmX7_change s m args below meth c H locs 0 0 Q (F0 m 17 ls []) := by
    intro  H locs ls hV hl hF
    unfold J_X7_change_17 at hF
    refine lv_iload_n C.1 C.2.1 dX7_change_17 rfl (lv_at hl 3 rfl) ?_
    refine g_i2l C hF dX7_change_18 (fun x4 hF => ?_)
    refine lv_lconst (v := 0) C.1 C.2.1 dX7_change_19 rfl ?_
    refine lv_iload_n C.1 C.2.1 dX7_change_20 rfl (lv_at hl 2 rfl) ?_
    have hJ31 : ∀ (k5 : Int64) (k6 : Int64) (k7 : Int64) (H : Heap) (locs : List Loc) (ls : Array Slot), gV (dC, dI) (gT cI cB cO) A0 H0 s [oX7 a_t a_d a_e a_kept v_isKept a_found a_tape v_taped v_gone a_hears a_near a_firstDay a_daily v_begin v_round v_leastFar v_leastWhere v_mostLed a_heardNow v_firstMove v_at v_sort v_from v_value v_fault a_bitsOf a_sizeOf a_number a_passing, aA cI a_d 40 f_d, aA cI a_found 7 f_found] H locs → lv_has ls 5 [(0, .ref a_t), (1, .int p1), (2, .int p2), (3, .int p3)] → J_X7_change_31 n0 k7 k6 k5 f_found f_d p2 p1 p3 = some out → W p l e rmX7_change s m args below meth c H locs 0 0 Q (F0 m 31 ls [.long k5, .long k6, .long k7]) := by
      intro k5 k6 k7 H locs ls hV hl hF
      unfold J_X7_change_31 at hF
      obtain ⟨x8, hc, hF⟩ := bd1_s hF
      refine g_cSi (ws' := [oX7 a_t a_d a_e a_kept v_isKept a_found a_tape v_taped v_gone a_hears a_near a_firstDay a_daily v_begin v_round v_leastFar v_leastWhere v_mostLed a_heardNow v_firstMove v_at v_sort v_from v_value v_fault a_bitsOf a_sizeOf a_number a_passing, aA cI a_d 40 f_d, aA cI a_found 7 f_found]) (wr := [oX7 a_t a_d a_e a_kept v_isKept a_found a_tape v_taped v_gone a_hears a_near a_firstDay a_daily v_begin v_round v_leastFar v_leastWhere v_mostLed a_heardNow v_firstMove v_at v_sort v_from v_value v_fault a_bitsOf a_sizeOf a_number a_passing, aA cI a_d 40 f_d, aA cI a_found 7 f_found]) C hV (k_X7_in l dC dI cI cB cO n0 H.size k7 k6 k5 hc) mdX7_in gX7_change_X7_in rfl rfl ⟨Nat.le_of_ble_eq_true rfl, Nat.le_of_ble_eq_true rfl⟩ [] [0, 1, 2] [0, 1, 2] rfl rfl rfl rfl rfl rfl rfl rfl hl.1 (Nat.le_of_ble_eq_true rfl) rfl dX7_change_31 (fun H locs hV => ?_)
      refine g_if_ne (tgt := 43) C hF dX7_change_34 rfl (fun hF => ?_) (fun hF => ?_)
      · refine lv_iload_n C.1 C.2.1 dX7_change_43 rfl (lv_at hl 2 rfl) ?_
        have hJ60 : ∀ (k9 : Int32) (H : Heap) (locs : List Loc) (ls : Array Slot), gV (dC, dI) (gT cI cB cO) A0 H0 s [oX7 a_t a_d a_e a_kept v_isKept a_found a_tape v_taped v_gone a_hears a_near a_firstDay a_daily v_begin v_round v_leastFar v_leastWhere v_mostLed a_heardNow v_firstMove v_at v_sort v_from v_value v_fault a_bitsOf a_sizeOf a_number a_passing, aA cI a_d 40 f_d, aA cI a_found 7 f_found] H locs → lv_has ls 5 [(0, .ref a_t), (1, .int p1), (2, .int p2), (3, .int p3)] → J_X7_change_60 p2 p1 f_d p3 k9 f_found n0 = some out → W p l e rmX7_change s m args below meth c H locs 0 0 Q (F0 m 60 ls [.int k9]) := by
          intro k9 H locs ls hV hl hF
          unfold J_X7_change_60 at hF
          refine lv_istore (lv' := [(4, .int k9), (0, .ref a_t), (1, .int p1), (2, .int p2), (3, .int p3)]) C.1 C.2.1 dX7_change_60 hl (by decide) rfl (fun ls hl => ?_)
          refine lv_iload_n C.1 C.2.1 dX7_change_62 rfl (lv_at hl 3 rfl) ?_
          refine g_if_ne (tgt := 79) C hF dX7_change_63 rfl (fun hF => ?_) (fun hF => ?_)
          · refine lv_aload_n C.1 C.2.1 dX7_change_79 rfl (lv_at hl 1 rfl) ?_
            refine lv_iload_n C.1 C.2.1 dX7_change_80 rfl (lv_at hl 2 rfl) ?_
            refine lv_iload_n C.1 C.2.1 dX7_change_81 rfl (lv_at hl 4 rfl) ?_
            obtain ⟨g10, hc, hF⟩ := bd1_s hF
            refine g_cVv (ws' := [oX7 a_t a_d a_e a_kept v_isKept a_found a_tape v_taped v_gone a_hears a_near a_firstDay a_daily v_begin v_round v_leastFar v_leastWhere v_mostLed a_heardNow v_firstMove v_at v_sort v_from v_value v_fault a_bitsOf a_sizeOf a_number a_passing, aA cI a_d 40 g10, aA cI a_found 7 f_found]) (wr := [aA cI a_found 7 f_found]) C hV (k_X7_sayOf l dC dI cI cB cO n0 H.size a_t a_d a_e a_kept a_found a_tape a_hears a_near a_firstDay a_daily a_heardNow a_bitsOf a_sizeOf a_number a_passing v_isKept v_taped v_gone v_begin v_round v_leastFar v_leastWhere v_mostLed v_firstMove v_at v_sort v_from v_value v_fault f_d p1 p3 hc) mdX7_sayOf gX7_change_X7_sayOf rfl rfl ⟨Nat.le_of_ble_eq_true rfl, Nat.le_of_ble_eq_true rfl⟩ [0, 1] [2] [1, 2, 0] rfl rfl rfl rfl rfl rfl rfl rfl rfl rfl hl.1 (Nat.le_of_ble_eq_true rfl) rfl dX7_change_82 (fun H locs hV => ?_)
            refine lv_iload C.1 C.2.1 dX7_change_85 (lv_at hl 0 rfl) ?_
            exact hret (k9, g10, f_found) _ _ _ _ dX7_change_87 hF hV
          refine lv_aload_n C.1 C.2.1 dX7_change_66 rfl (lv_at hl 1 rfl) ?_
          refine g_get C hV flX7_change_7 0 rfl rfl dX7_change_67 ?_
          refine lv_bipush (v := 10) C.1 C.2.1 dX7_change_70 rfl ?_
          refine lv_iload_n C.1 C.2.1 dX7_change_72 rfl (lv_at hl 2 rfl) ?_
          refine g_iadd C hF dX7_change_73 (fun x11 hF => ?_)
          refine lv_iload_n C.1 C.2.1 dX7_change_74 rfl (lv_at hl 4 rfl) ?_
          refine g_iast C hV 1 rfl hF (fun gq => [oX7 a_t a_d a_e a_kept v_isKept a_found a_tape v_taped v_gone a_hears a_near a_firstDay a_daily v_begin v_round v_leastFar v_leastWhere v_mostLed a_heardNow v_firstMove v_at v_sort v_from v_value v_fault a_bitsOf a_sizeOf a_number a_passing, aA cI a_d 40 gq, aA cI a_found 7 f_found]) (fun _ => rfl) dX7_change_75 (fun g12 H locs hF hV => ?_)
          refine lv_goto (tgt := 85) C.1 C.2.1 dX7_change_76 rfl ?_
          refine lv_iload C.1 C.2.1 dX7_change_85 (lv_at hl 0 rfl) ?_
          exact hret (k9, g12, f_found) _ _ _ _ dX7_change_87 hF hV
        refine g_if_ne (tgt := 55) C hF dX7_change_44 rfl (fun hF => ?_) (fun hF => ?_)
        · refine lv_aload_n C.1 C.2.1 dX7_change_55 rfl (lv_at hl 0 rfl) ?_
          refine lv_iload_n C.1 C.2.1 dX7_change_56 rfl (lv_at hl 1 rfl) ?_
          obtain ⟨x13, hc, hF⟩ := bd1_s hF
          refine g_cVi (ws' := [oX7 a_t a_d a_e a_kept v_isKept a_found a_tape v_taped v_gone a_hears a_near a_firstDay a_daily v_begin v_round v_leastFar v_leastWhere v_mostLed a_heardNow v_firstMove v_at v_sort v_from v_value v_fault a_bitsOf a_sizeOf a_number a_passing, aA cI a_d 40 f_d, aA cI a_found 7 f_found]) (wr := [aA cI a_found 7 f_found]) C hV (k_X7_saysNow l dC dI cI cB cO n0 H.size a_t a_d a_e a_kept a_found a_tape a_hears a_near a_firstDay a_daily a_heardNow a_bitsOf a_sizeOf a_number a_passing v_isKept v_taped v_gone v_begin v_round v_leastFar v_leastWhere v_mostLed v_firstMove v_at v_sort v_from v_value v_fault f_d p1 hc) mdX7_saysNow gX7_change_X7_saysNow rfl rfl ⟨Nat.le_of_ble_eq_true rfl, Nat.le_of_ble_eq_true rfl⟩ [0, 1] [2] [1, 2, 0] rfl rfl rfl rfl rfl rfl rfl rfl rfl rfl hl.1 (Nat.le_of_ble_eq_true rfl) rfl dX7_change_57 (fun H locs hV => ?_)
          exact hJ60 x13 H locs ls hV (lv_sub hl [0, 1, 2, 3] rfl) hF
        refine lv_aload_n C.1 C.2.1 dX7_change_47 rfl (lv_at hl 0 rfl) ?_
        refine lv_iload_n C.1 C.2.1 dX7_change_48 rfl (lv_at hl 1 rfl) ?_
        obtain ⟨x14, hc, hF⟩ := bd1_s hF
        refine g_cVi (ws' := [oX7 a_t a_d a_e a_kept v_isKept a_found a_tape v_taped v_gone a_hears a_near a_firstDay a_daily v_begin v_round v_leastFar v_leastWhere v_mostLed a_heardNow v_firstMove v_at v_sort v_from v_value v_fault a_bitsOf a_sizeOf a_number a_passing, aA cI a_d 40 f_d, aA cI a_found 7 f_found]) (wr := [aA cI a_found 7 f_found]) C hV (k_X7_kind l dC dI cI cB cO n0 H.size a_t a_d a_e a_kept a_found a_tape a_hears a_near a_firstDay a_daily a_heardNow a_bitsOf a_sizeOf a_number a_passing v_isKept v_taped v_gone v_begin v_round v_leastFar v_leastWhere v_mostLed v_firstMove v_at v_sort v_from v_value v_fault f_d p1 hc) mdX7_kind gX7_change_X7_kind rfl rfl ⟨Nat.le_of_ble_eq_true rfl, Nat.le_of_ble_eq_true rfl⟩ [0, 1] [2] [1, 2, 0] rfl rfl rfl rfl rfl rfl rfl rfl rfl rfl hl.1 (Nat.le_of_ble_eq_true rfl) rfl dX7_change_49 (fun H locs hV => ?_)
        refine lv_goto (tgt := 60) C.1 C.2.1 dX7_change_52 rfl ?_
        exact hJ60 x14 H locs ls hV (lv_sub hl [0, 1, 2, 3] rfl) hF
      refine lv_aload_n C.1 C.2.1 dX7_change_37 rfl (lv_at hl 0 rfl) ?_
      refine lv_iconst (v := 0) C.1 C.2.1 dX7_change_38 rfl ?_
      obtain ⟨x15, g16, hc, hF⟩ := bd2_s hF
      refine g_cVi (ws' := [oX7 a_t a_d a_e a_kept v_isKept a_found a_tape v_taped v_gone a_hears a_near a_firstDay a_daily v_begin v_round v_leastFar v_leastWhere v_mostLed a_heardNow v_firstMove v_at v_sort v_from v_value v_fault a_bitsOf a_sizeOf a_number a_passing, aA cI a_d 40 f_d, aA cI a_found 7 g16]) (wr := [aA cI a_d 40 f_d]) C hV (k_X7_finds l dC dI cI cB cO n0 H.size a_t a_d a_e a_kept a_found a_tape a_hears a_near a_firstDay a_daily a_heardNow a_bitsOf a_sizeOf a_number a_passing v_isKept v_taped v_gone v_begin v_round v_leastFar v_leastWhere v_mostLed v_firstMove v_at v_sort v_from v_value v_fault f_found 0 hc) mdX7_finds gX7_change_X7_finds rfl rfl ⟨Nat.le_of_ble_eq_true rfl, Nat.le_of_ble_eq_true rfl⟩ [0, 2] [1] [1, 0, 2] rfl rfl rfl rfl rfl rfl rfl rfl rfl rfl hl.1 (Nat.le_of_ble_eq_true rfl) rfl dX7_change_39 (fun H locs hV => ?_)
      exact hret (x15, f_d, g16) _ _ _ _ dX7_change_42 hF hV
    refine g_if_ne (tgt := 30) C hF dX7_change_21 rfl (fun hF => ?_) (fun hF => ?_)
    · refine lv_lconst (v := 1) C.1 C.2.1 dX7_change_30 rfl ?_
      exact hJ31 1 0 x4 H locs ls hV (lv_sub hl [0, 1, 2, 3] rfl) hF
    refine lv_ldc2 (v := 6) C.1 C.2.1 C.2.2.2.1 (C.2.2.2.2 _ ctX7_change_100) dX7_change_24 ?_
    refine lv_goto (tgt := 31) C.1 C.2.1 dX7_change_27 rfl ?_
    exact hJ31 6 0 x4 H locs ls hV (lv_sub hl [0, 1, 2, 3] rfl) hF
  refine g_if_eq (tgt := 17) C hF dX7_change_9 rfl (fun hF => ?_) (fun hF => ?_)
  · exact hJ17  H locs ls hV (lv_sub hl [0, 1, 2, 3] rfl) hF
  refine lv_iload_n C.1 C.2.1 dX7_change_12 rfl (lv_at hl 2 rfl) ?_
  refine lv_iconst (v := 3) C.1 C.2.1 dX7_change_13 rfl ?_
  refine g_icmp_ne (tgt := 37) C hF dX7_change_14 rfl (fun hF => ?_) (fun hF => ?_)
  · refine lv_aload_n C.1 C.2.1 dX7_change_37 rfl (lv_at hl 0 rfl) ?_
    refine lv_iconst (v := 0) C.1 C.2.1 dX7_change_38 rfl ?_
    obtain ⟨x17, g18, hc, hF⟩ := bd2_s hF
    refine g_cVi (ws' := [oX7 a_t a_d a_e a_kept v_isKept a_found a_tape v_taped v_gone a_hears a_near a_firstDay a_daily v_begin v_round v_leastFar v_leastWhere v_mostLed a_heardNow v_firstMove v_at v_sort v_from v_value v_fault a_bitsOf a_sizeOf a_number a_passing, aA cI a_d 40 f_d, aA cI a_found 7 g18]) (wr := [aA cI a_d 40 f_d]) C hV (k_X7_finds l dC dI cI cB cO n0 H.size a_t a_d a_e a_kept a_found a_tape a_hears a_near a_firstDay a_daily a_heardNow a_bitsOf a_sizeOf a_number a_passing v_isKept v_taped v_gone v_begin v_round v_leastFar v_leastWhere v_mostLed v_firstMove v_at v_sort v_from v_value v_fault f_found 0 hc) mdX7_finds gX7_change_X7_finds rfl rfl ⟨Nat.le_of_ble_eq_true rfl, Nat.le_of_ble_eq_true rfl⟩ [0, 2] [1] [1, 0, 2] rfl rfl rfl rfl rfl rfl rfl rfl rfl rfl hl.1 (Nat.le_of_ble_eq_true rfl) rfl dX7_change_39 (fun H locs hV => ?_)
    exact hret (x17, f_d, g18) _ _ _ _ dX7_change_42 hF hV
  exact hJ17  H locs ls hV (lv_sub hl [0, 1, 2, 3] rfl) hF
abbrev rmX7_move : Room := { frames := 2, cells := 0, slots := 0, locals := 46 }
theorem mdX7_move : gMd yX7_move wsX7_move cX7_move 6 (some .int) 3 := ⟨⟨_, rfl⟩, by decide +kernel⟩
theorem flX7_move_7 : gFL wsX7_move RX7 7 7 0 RX7 TX7 28 := ⟨rfl, fun w h => List.mem_cons_of_mem _ (List.mem_append_right _ (h)), Nat.le_of_ble_eq_true rfl, List.mem_cons_of_mem _ (List.mem_append_left _ (List.mem_append_left _ (List.mem_of_getElem? (i := 0) rfl)))⟩
def J_X7_move_52 (n0 : Nat) (f_d : Nat → Int32) (p1 : Int32) (p3 : Int32) (p2 : Int32) (f_found : Nat → Int32) : Option (Int32 × (Nat → Int32) × (Nat → Int32)) := bd1 (F_X7_yard n0 f_d p1) (fun x8 => nm (12 * p3) (fun x9 => nm (x9 + p2) (fun x10 => bd1 (F_X7_farOf n0 f_d x8 x10) (fun x11 => nm (20 + p1) (fun x12 => nm (12 * p3) (fun x13 => nm (x13 + p2) (fun x14 => wrt f_d 40 x12 x14 (fun g15 => some (x11, g15, f_found)))))))))
def F_X7_move (n0 : Nat) (f_d : Nat → Int32) (f_found : Nat → Int32) (p1 : Int32) (p2 : Int32) (p3 : Int32) : Option (Int32 × (Nat → Int32) × (Nat → Int32)) := bd1 (F_X7_isTent n0 f_d p1) (fun x1 => (if x1 = 0 then bd2 (F_X7_finds n0 f_found 0) (fun x2 g3 => some (x2, f_d, g3)) else bd1 (F_X7_isYard n0 p2 p3) (fun x4 => (if x4 = 0 then bd2 (F_X7_finds n0 f_found 0) (fun x18 g19 => some (x18, f_d, g19)) else nm (12 * p3) (fun x5 => nm (x5 + p2) (fun x6 => bd1 (F_X7_whoIs n0 f_d x6) (fun x7 => (if x7 = ((-1)) then J_X7_move_52 n0 f_d p1 p3 p2 f_found else (if x7 = p1 then J_X7_move_52 n0 f_d p1 p3 p2 f_found else bd2 (F_X7_finds n0 f_found 4) (fun x16 g17 => some (x16, f_d, g17)))))))))))
set_option maxRecDepth 100000 in
set_option maxHeartbeats 4000000 in
theorem k_X7_move (l : Launch) (dC : Nat → ClassId) (dI : Nat → Nat → Nat) (cI cB cO : ClassId) (n0 sz : Nat) (a_t : Nat) (a_d : Nat) (a_e : Nat) (a_kept : Nat) (a_found : Nat) (a_tape : Nat) (a_hears : Nat) (a_near : Nat) (a_firstDay : Nat) (a_daily : Nat) (a_heardNow : Nat) (a_bitsOf : Nat) (a_sizeOf : Nat) (a_number : Nat) (a_passing : Nat)   (v_isKept : Int32) (v_taped : Int32) (v_gone : Int32) (v_begin : Int32) (v_round : Int32) (v_leastFar : Int32) (v_leastWhere : Int32) (v_mostLed : Int32) (v_firstMove : Int32) (v_at : Int32) (v_sort : Int32) (v_from : Int32) (v_value : Int64) (v_fault : Int32) (f_d : Nat → Int32) (f_found : Nat → Int32) (p1 : Int32) (p2 : Int32) (p3 : Int32)  {ro : Int32} {o0 : Nat → Int32} {o1 : Nat → Int32} (hF : F_X7_move n0 f_d f_found p1 p2 p3 = some (ro, o0, o1)) : Met l yX7_move wsX7_move rmX7_move (va_Pc [.ref a_t, .int p1, .int p2, .int p3] (gPre (dC, dI) (gT cI cB cO) sz [oX7 a_t a_d a_e a_kept v_isKept a_found a_tape v_taped v_gone a_hears a_near a_firstDay a_daily v_begin v_round v_leastFar v_leastWhere v_mostLed a_heardNow v_firstMove v_at v_sort v_from v_value v_fault a_bitsOf a_sizeOf a_number a_passing, aA cI a_d 40 f_d, aA cI a_found 7 f_found])) (gQi (dC, dI) (gT cI cB cO) sz [oX7 a_t a_d a_e a_kept v_isKept a_found a_tape v_taped v_gone a_hears a_near a_firstDay a_daily v_begin v_round v_leastFar v_leastWhere v_mostLed a_heardNow v_firstMove v_at v_sort v_from v_value v_fault a_bitsOf a_sizeOf a_number a_passing, aA cI a_d 40 f_d, aA cI a_found 7 f_found] ro [oX7 a_t a_d a_e a_kept v_isKept a_found a_tape v_taped v_gone a_hears a_near a_firstDay a_daily v_begin v_round v_leastFar v_leastWhere v_mostLed a_heardNow v_firstMove v_at v_sort v_from v_value v_fault a_bitsOf a_sizeOf a_number a_passing, aA cI a_d 40 o0, aA cI a_found 7 o1]) 0 0 (va_A [oX7 a_t a_d a_e a_kept v_isKept a_found a_tape v_taped v_gone a_hears a_near a_firstDay a_daily v_begin v_round v_leastFar v_leastWhere v_mostLed a_heardNow v_firstMove v_at v_sort v_from v_value v_fault a_bitsOf a_sizeOf a_number a_passing, aA cI a_d 40 f_d, aA cI a_found 7 f_found] sz) := by
  refine g_metI (Out := Int32 × (Nat → Int32) × (Nat → Int32)) (fun oo => oo.1) (fun oo => [oX7 a_t a_d a_e a_kept v_isKept a_found a_tape v_taped v_gone a_hears a_near a_firstDay a_daily v_begin v_round v_leastFar v_leastWhere v_mostLed a_heardNow v_firstMove v_at v_sort v_from v_value v_fault a_bitsOf a_sizeOf a_number a_passing, aA cI a_d 40 oo.2.1, aA cI a_found 7 oo.2.2]) (ro, o0, o1) (own := RX7) (lv := [(0, .ref a_t), (1, .int p1), (2, .int p2), (3, .int p3)]) (by decide) rfl rfl (Nat.le_of_ble_eq_true rfl) rfl ?_
  intro p e s m args below meth c Q ls C hret hV hl
  obtain ⟨out, hout⟩ : ∃ z : Int32 × (Nat → Int32) × (Nat → Int32), z = (ro, o0, o1) := ⟨_, rfl⟩
  rw [← hout] at hF hret
  obtain ⟨H0, hH0⟩ : ∃ z : Heap, z = s.heap := ⟨_, rfl⟩
  obtain ⟨A0, hA0⟩ : ∃ z : Nat → Prop, z = va_A [oX7 a_t a_d a_e a_kept v_isKept a_found a_tape v_taped v_gone a_hears a_near a_firstDay a_daily v_begin v_round v_leastFar v_leastWhere v_mostLed a_heardNow v_firstMove v_at v_sort v_from v_value v_fault a_bitsOf a_sizeOf a_number a_passing, aA cI a_d 40 f_d, aA cI a_found 7 f_found] s.heap.size := ⟨_, rfl⟩
  rw [← hA0] at hret hV
  rw [← hH0] at hret hV
  rw [← hH0]
  obtain ⟨H, locs, hH⟩ : ∃ (z : Heap) (y : List Loc), z = H0 ∧ y = [] := ⟨_, _, rfl, rfl⟩
  rw [← hH.1, ← hH.2]
  have hV : gV (dC, dI) (gT cI cB cO) A0 H0 s [oX7 a_t a_d a_e a_kept v_isKept a_found a_tape v_taped v_gone a_hears a_near a_firstDay a_daily v_begin v_round v_leastFar v_leastWhere v_mostLed a_heardNow v_firstMove v_at v_sort v_from v_value v_fault a_bitsOf a_sizeOf a_number a_passing, aA cI a_d 40 f_d, aA cI a_found 7 f_found] H locs := by rw [hH.1, hH.2]; exact hV
  unfold F_X7_move at hF
  refine lv_aload_n C.1 C.2.1 dX7_move_0 rfl (lv_at hl 0 rfl) ?_
  refine lv_iload_n C.1 C.2.1 dX7_move_1 rfl (lv_at hl 1 rfl) ?_
  obtain ⟨x1, hc, hF⟩ := bd1_s hF
  refine g_cVi (ws' := [oX7 a_t a_d a_e a_kept v_isKept a_found a_tape v_taped v_gone a_hears a_near a_firstDay a_daily v_begin v_round v_leastFar v_leastWhere v_mostLed a_heardNow v_firstMove v_at v_sort v_from v_value v_fault a_bitsOf a_sizeOf a_number a_passing, aA cI a_d 40 f_d, aA cI a_found 7 f_found]) (wr := [aA cI a_found 7 f_found]) C hV (k_X7_isTent l dC dI cI cB cO n0 H.size a_t a_d a_e a_kept a_found a_tape a_hears a_near a_firstDay a_daily a_heardNow a_bitsOf a_sizeOf a_number a_passing v_isKept v_taped v_gone v_begin v_round v_leastFar v_leastWhere v_mostLed v_firstMove v_at v_sort v_from v_value v_fault f_d p1 hc) mdX7_isTent gX7_move_X7_isTent rfl rfl ⟨Nat.le_of_ble_eq_true rfl, Nat.le_of_ble_eq_true rfl⟩ [0, 1] [2] [1, 2, 0] rfl rfl rfl rfl rfl rfl rfl rfl rfl rfl hl.1 (Nat.le_of_ble_eq_true rfl) rfl dX7_move_2 (fun H locs hV => ?_)
  refine g_if_eq (tgt := 16) C hF dX7_move_5 rfl (fun hF => ?_) (fun hF => ?_)
  · refine lv_aload_n C.1 C.2.1 dX7_move_16 rfl (lv_at hl 0 rfl) ?_
    refine lv_iconst (v := 0) C.1 C.2.1 dX7_move_17 rfl ?_
    obtain ⟨x2, g3, hc, hF⟩ := bd2_s hF
    refine g_cVi (ws' := [oX7 a_t a_d a_e a_kept v_isKept a_found a_tape v_taped v_gone a_hears a_near a_firstDay a_daily v_begin v_round v_leastFar v_leastWhere v_mostLed a_heardNow v_firstMove v_at v_sort v_from v_value v_fault a_bitsOf a_sizeOf a_number a_passing, aA cI a_d 40 f_d, aA cI a_found 7 g3]) (wr := [aA cI a_d 40 f_d]) C hV (k_X7_finds l dC dI cI cB cO n0 H.size a_t a_d a_e a_kept a_found a_tape a_hears a_near a_firstDay a_daily a_heardNow a_bitsOf a_sizeOf a_number a_passing v_isKept v_taped v_gone v_begin v_round v_leastFar v_leastWhere v_mostLed v_firstMove v_at v_sort v_from v_value v_fault f_found 0 hc) mdX7_finds gX7_move_X7_finds rfl rfl ⟨Nat.le_of_ble_eq_true rfl, Nat.le_of_ble_eq_true rfl⟩ [0, 2] [1] [1, 0, 2] rfl rfl rfl rfl rfl rfl rfl rfl rfl rfl hl.1 (Nat.le_of_ble_eq_true rfl) rfl dX7_move_18 (fun H locs hV => ?_)
    exact hret (x2, f_d, g3) _ _ _ _ dX7_move_21 hF hV
  refine lv_iload_n C.1 C.2.1 dX7_move_8 rfl (lv_at hl 2 rfl) ?_
  refine lv_iload_n C.1 C.2.1 dX7_move_9 rfl (lv_at hl 3 rfl) ?_
  obtain ⟨x4, hc, hF⟩ := bd1_s hF
  refine g_cSi (ws' := [oX7 a_t a_d a_e a_kept v_isKept a_found a_tape v_taped v_gone a_hears a_near a_firstDay a_daily v_begin v_round v_leastFar v_leastWhere v_mostLed a_heardNow v_firstMove v_at v_sort v_from v_value v_fault a_bitsOf a_sizeOf a_number a_passing, aA cI a_d 40 f_d, aA cI a_found 7 f_found]) (wr := [oX7 a_t a_d a_e a_kept v_isKept a_found a_tape v_taped v_gone a_hears a_near a_firstDay a_daily v_begin v_round v_leastFar v_leastWhere v_mostLed a_heardNow v_firstMove v_at v_sort v_from v_value v_fault a_bitsOf a_sizeOf a_number a_passing, aA cI a_d 40 f_d, aA cI a_found 7 f_found]) C hV (k_X7_isYard l dC dI cI cB cO n0 H.size p2 p3 hc) mdX7_isYard gX7_move_X7_isYard rfl rfl ⟨Nat.le_of_ble_eq_true rfl, Nat.le_of_ble_eq_true rfl⟩ [] [0, 1, 2] [0, 1, 2] rfl rfl rfl rfl rfl rfl rfl rfl hl.1 (Nat.le_of_ble_eq_true rfl) rfl dX7_move_10 (fun H locs hV => ?_)
  refine g_if_ne (tgt := 22) C hF dX7_move_13 rfl (fun hF => ?_) (fun hF => ?_)
  · refine lv_aload_n C.1 C.2.1 dX7_move_22 rfl (lv_at hl 0 rfl) ?_
    refine lv_bipush (v := 12) C.1 C.2.1 dX7_move_23 rfl ?_
    refine lv_iload_n C.1 C.2.1 dX7_move_25 rfl (lv_at hl 3 rfl) ?_
    refine g_imul C hF dX7_move_26 (fun x5 hF => ?_)
    refine lv_iload_n C.1 C.2.1 dX7_move_27 rfl (lv_at hl 2 rfl) ?_
    refine g_iadd C hF dX7_move_28 (fun x6 hF => ?_)
    obtain ⟨x7, hc, hF⟩ := bd1_s hF
    refine g_cVi (ws' := [oX7 a_t a_d a_e a_kept v_isKept a_found a_tape v_taped v_gone a_hears a_near a_firstDay a_daily v_begin v_round v_leastFar v_leastWhere v_mostLed a_heardNow v_firstMove v_at v_sort v_from v_value v_fault a_bitsOf a_sizeOf a_number a_passing, aA cI a_d 40 f_d, aA cI a_found 7 f_found]) (wr := [aA cI a_found 7 f_found]) C hV (k_X7_whoIs l dC dI cI cB cO n0 H.size a_t a_d a_e a_kept a_found a_tape a_hears a_near a_firstDay a_daily a_heardNow a_bitsOf a_sizeOf a_number a_passing v_isKept v_taped v_gone v_begin v_round v_leastFar v_leastWhere v_mostLed v_firstMove v_at v_sort v_from v_value v_fault f_d x6 hc) mdX7_whoIs gX7_move_X7_whoIs rfl rfl ⟨Nat.le_of_ble_eq_true rfl, Nat.le_of_ble_eq_true rfl⟩ [0, 1] [2] [1, 2, 0] rfl rfl rfl rfl rfl rfl rfl rfl rfl rfl hl.1 (Nat.le_of_ble_eq_true rfl) rfl dX7_move_29 (fun H locs hV => ?_)
    refine lv_istore (lv' := [(4, .int x7), (0, .ref a_t), (1, .int p1), (2, .int p2), (3, .int p3)]) C.1 C.2.1 dX7_move_32 hl (by decide) rfl (fun ls hl => ?_)
    refine lv_iload C.1 C.2.1 dX7_move_34 (lv_at hl 0 rfl) ?_
    refine lv_iconst (v := (-1)) C.1 C.2.1 dX7_move_36 rfl ?_
    have hJ52 : ∀  (H : Heap) (locs : List Loc) (ls : Array Slot), gV (dC, dI) (gT cI cB cO) A0 H0 s [oX7 a_t a_d a_e a_kept v_isKept a_found a_tape v_taped v_gone a_hears a_near a_firstDay a_daily v_begin v_round v_leastFar v_leastWhere v_mostLed a_heardNow v_firstMove v_at v_sort v_from v_value v_fault a_bitsOf a_sizeOf a_number a_passing, aA cI a_d 40 f_d, aA cI a_found 7 f_found] H locs → lv_has ls 6 [(0, .ref a_t), (1, .int p1), (2, .int p2), (3, .int p3)] → J_X7_move_52 n0 f_d p1 p3 p2 f_found = some out → W p l e rmX7_move s m args below meth c H locs 0 0 Q (F0 m 52 ls []) := by
      intro  H locs ls hV hl hF
      unfold J_X7_move_52 at hF
      refine lv_aload_n C.1 C.2.1 dX7_move_52 rfl (lv_at hl 0 rfl) ?_
      refine lv_aload_n C.1 C.2.1 dX7_move_53 rfl (lv_at hl 0 rfl) ?_
      refine lv_iload_n C.1 C.2.1 dX7_move_54 rfl (lv_at hl 1 rfl) ?_
      obtain ⟨x8, hc, hF⟩ := bd1_s hF
      refine g_cVi (ws' := [oX7 a_t a_d a_e a_kept v_isKept a_found a_tape v_taped v_gone a_hears a_near a_firstDay a_daily v_begin v_round v_leastFar v_leastWhere v_mostLed a_heardNow v_firstMove v_at v_sort v_from v_value v_fault a_bitsOf a_sizeOf a_number a_passing, aA cI a_d 40 f_d, aA cI a_found 7 f_found]) (wr := [aA cI a_found 7 f_found]) C hV (k_X7_yard l dC dI cI cB cO n0 H.size a_t a_d a_e a_kept a_found a_tape a_hears a_near a_firstDay a_daily a_heardNow a_bitsOf a_sizeOf a_number a_passing v_isKept v_taped v_gone v_begin v_round v_leastFar v_leastWhere v_mostLed v_firstMove v_at v_sort v_from v_value v_fault f_d p1 hc) mdX7_yard gX7_move_X7_yard rfl rfl ⟨Nat.le_of_ble_eq_true rfl, Nat.le_of_ble_eq_true rfl⟩ [0, 1] [2] [1, 2, 0] rfl rfl rfl rfl rfl rfl rfl rfl rfl rfl hl.1 (Nat.le_of_ble_eq_true rfl) rfl dX7_move_55 (fun H locs hV => ?_)
      refine lv_bipush (v := 12) C.1 C.2.1 dX7_move_58 rfl ?_
      refine lv_iload_n C.1 C.2.1 dX7_move_60 rfl (lv_at hl 3 rfl) ?_
      refine g_imul C hF dX7_move_61 (fun x9 hF => ?_)
      refine lv_iload_n C.1 C.2.1 dX7_move_62 rfl (lv_at hl 2 rfl) ?_
      refine g_iadd C hF dX7_move_63 (fun x10 hF => ?_)
      obtain ⟨x11, hc, hF⟩ := bd1_s hF
      refine g_cVi (ws' := [oX7 a_t a_d a_e a_kept v_isKept a_found a_tape v_taped v_gone a_hears a_near a_firstDay a_daily v_begin v_round v_leastFar v_leastWhere v_mostLed a_heardNow v_firstMove v_at v_sort v_from v_value v_fault a_bitsOf a_sizeOf a_number a_passing, aA cI a_d 40 f_d, aA cI a_found 7 f_found]) (wr := [aA cI a_found 7 f_found]) C hV (k_X7_farOf l dC dI cI cB cO n0 H.size a_t a_d a_e a_kept a_found a_tape a_hears a_near a_firstDay a_daily a_heardNow a_bitsOf a_sizeOf a_number a_passing v_isKept v_taped v_gone v_begin v_round v_leastFar v_leastWhere v_mostLed v_firstMove v_at v_sort v_from v_value v_fault f_d x8 x10 hc) mdX7_farOf gX7_move_X7_farOf rfl rfl ⟨Nat.le_of_ble_eq_true rfl, Nat.le_of_ble_eq_true rfl⟩ [0, 1] [2] [1, 2, 0] rfl rfl rfl rfl rfl rfl rfl rfl rfl rfl hl.1 (Nat.le_of_ble_eq_true rfl) rfl dX7_move_64 (fun H locs hV => ?_)
      refine lv_istore (lv' := [(5, .int x11), (0, .ref a_t), (1, .int p1), (2, .int p2), (3, .int p3)]) C.1 C.2.1 dX7_move_67 hl (by decide) rfl (fun ls hl => ?_)
      refine lv_aload_n C.1 C.2.1 dX7_move_69 rfl (lv_at hl 1 rfl) ?_
      refine g_get C hV flX7_move_7 0 rfl rfl dX7_move_70 ?_
      refine lv_bipush (v := 20) C.1 C.2.1 dX7_move_73 rfl ?_
      refine lv_iload_n C.1 C.2.1 dX7_move_75 rfl (lv_at hl 2 rfl) ?_
      refine g_iadd C hF dX7_move_76 (fun x12 hF => ?_)
      refine lv_bipush (v := 12) C.1 C.2.1 dX7_move_77 rfl ?_
      refine lv_iload_n C.1 C.2.1 dX7_move_79 rfl (lv_at hl 4 rfl) ?_
      refine g_imul C hF dX7_move_80 (fun x13 hF => ?_)
      refine lv_iload_n C.1 C.2.1 dX7_move_81 rfl (lv_at hl 3 rfl) ?_
      refine g_iadd C hF dX7_move_82 (fun x14 hF => ?_)
      refine g_iast C hV 1 rfl hF (fun gq => [oX7 a_t a_d a_e a_kept v_isKept a_found a_tape v_taped v_gone a_hears a_near a_firstDay a_daily v_begin v_round v_leastFar v_leastWhere v_mostLed a_heardNow v_firstMove v_at v_sort v_from v_value v_fault a_bitsOf a_sizeOf a_number a_passing, aA cI a_d 40 gq, aA cI a_found 7 f_found]) (fun _ => rfl) dX7_move_83 (fun g15 H locs hF hV => ?_)
      refine lv_iload C.1 C.2.1 dX7_move_84 (lv_at hl 0 rfl) ?_
      exact hret (x11, g15, f_found) _ _ _ _ dX7_move_86 hF hV
    refine g_icmp_eq (tgt := 52) C hF dX7_move_37 rfl (fun hF => ?_) (fun hF => ?_)
    · exact hJ52  H locs ls hV (lv_sub hl [1, 2, 3, 4] rfl) hF
    refine lv_iload C.1 C.2.1 dX7_move_40 (lv_at hl 0 rfl) ?_
    refine lv_iload_n C.1 C.2.1 dX7_move_42 rfl (lv_at hl 2 rfl) ?_
    refine g_icmp_eq (tgt := 52) C hF dX7_move_43 rfl (fun hF => ?_) (fun hF => ?_)
    · exact hJ52  H locs ls hV (lv_sub hl [1, 2, 3, 4] rfl) hF
    refine lv_aload_n C.1 C.2.1 dX7_move_46 rfl (lv_at hl 1 rfl) ?_
    refine lv_iconst (v := 4) C.1 C.2.1 dX7_move_47 rfl ?_
    obtain ⟨x16, g17, hc, hF⟩ := bd2_s hF
    refine g_cVi (ws' := [oX7 a_t a_d a_e a_kept v_isKept a_found a_tape v_taped v_gone a_hears a_near a_firstDay a_daily v_begin v_round v_leastFar v_leastWhere v_mostLed a_heardNow v_firstMove v_at v_sort v_from v_value v_fault a_bitsOf a_sizeOf a_number a_passing, aA cI a_d 40 f_d, aA cI a_found 7 g17]) (wr := [aA cI a_d 40 f_d]) C hV (k_X7_finds l dC dI cI cB cO n0 H.size a_t a_d a_e a_kept a_found a_tape a_hears a_near a_firstDay a_daily a_heardNow a_bitsOf a_sizeOf a_number a_passing v_isKept v_taped v_gone v_begin v_round v_leastFar v_leastWhere v_mostLed v_firstMove v_at v_sort v_from v_value v_fault f_found 4 hc) mdX7_finds gX7_move_X7_finds rfl rfl ⟨Nat.le_of_ble_eq_true rfl, Nat.le_of_ble_eq_true rfl⟩ [0, 2] [1] [1, 0, 2] rfl rfl rfl rfl rfl rfl rfl rfl rfl rfl hl.1 (Nat.le_of_ble_eq_true rfl) rfl dX7_move_48 (fun H locs hV => ?_)
    exact hret (x16, f_d, g17) _ _ _ _ dX7_move_51 hF hV
  refine lv_aload_n C.1 C.2.1 dX7_move_16 rfl (lv_at hl 0 rfl) ?_
  refine lv_iconst (v := 0) C.1 C.2.1 dX7_move_17 rfl ?_
  obtain ⟨x18, g19, hc, hF⟩ := bd2_s hF
  refine g_cVi (ws' := [oX7 a_t a_d a_e a_kept v_isKept a_found a_tape v_taped v_gone a_hears a_near a_firstDay a_daily v_begin v_round v_leastFar v_leastWhere v_mostLed a_heardNow v_firstMove v_at v_sort v_from v_value v_fault a_bitsOf a_sizeOf a_number a_passing, aA cI a_d 40 f_d, aA cI a_found 7 g19]) (wr := [aA cI a_d 40 f_d]) C hV (k_X7_finds l dC dI cI cB cO n0 H.size a_t a_d a_e a_kept a_found a_tape a_hears a_near a_firstDay a_daily a_heardNow a_bitsOf a_sizeOf a_number a_passing v_isKept v_taped v_gone v_begin v_round v_leastFar v_leastWhere v_mostLed v_firstMove v_at v_sort v_from v_value v_fault f_found 0 hc) mdX7_finds gX7_move_X7_finds rfl rfl ⟨Nat.le_of_ble_eq_true rfl, Nat.le_of_ble_eq_true rfl⟩ [0, 2] [1] [1, 0, 2] rfl rfl rfl rfl rfl rfl rfl rfl rfl rfl hl.1 (Nat.le_of_ble_eq_true rfl) rfl dX7_move_18 (fun H locs hV => ?_)
  exact hret (x18, f_d, g19) _ _ _ _ dX7_move_21 hF hV
abbrev rmX7_wall : Room := { frames := 1, cells := 0, slots := 0, locals := 25 }
theorem mdX7_wall : gMd yX7_wall wsX7_wall cX7_wall 4 (some .int) 2 := ⟨⟨_, rfl⟩, by decide +kernel⟩
theorem ctX7_wall_136 : Cond.constantLong RX7 136 2 ∈ wsX7_wall := List.mem_cons_of_mem _ (List.mem_append_left _ (List.mem_of_getElem? (i := 0) rfl))
theorem flX7_wall_7 : gFL wsX7_wall RX7 7 7 0 RX7 TX7 28 := ⟨rfl, fun w h => List.mem_cons_of_mem _ (List.mem_append_right _ (h)), Nat.le_of_ble_eq_true rfl, List.mem_cons_of_mem _ (List.mem_append_left _ (List.mem_of_getElem? (i := 2) rfl))⟩
theorem ctX7_wall_62 : Cond.constantLong RX7 62 11 ∈ wsX7_wall := List.mem_cons_of_mem _ (List.mem_append_left _ (List.mem_of_getElem? (i := 1) rfl))
def J_X7_wall_27 (n0 : Nat) (k8 : Int64) (k7 : Int64) (k6 : Int64) (f_found : Nat → Int32) (f_d : Nat → Int32) (p1 : Int32) (p2 : Int32) : Option (Int32 × (Nat → Int32) × (Nat → Int32)) := bd1 (F_X7_in n0 k8 k7 k6) (fun x9 => (if x9 = 0 then bd2 (F_X7_finds n0 f_found 0) (fun x14 g15 => some (x14, f_d, g15)) else nm (3 + p1) (fun x10 => rd f_d 40 x10 (fun x11 => nm (3 + p1) (fun x12 => wrt f_d 40 x12 p2 (fun g13 => some (x11, g13, f_found)))))))
def F_X7_wall (n0 : Nat) (f_d : Nat → Int32) (f_found : Nat → Int32) (p1 : Int32) (p2 : Int32) : Option (Int32 × (Nat → Int32) × (Nat → Int32)) := nm (p1.toInt64) (fun x1 => bd1 (F_X7_in n0 x1 0 2) (fun x2 => (if x2 = 0 then bd2 (F_X7_finds n0 f_found 0) (fun x3 g4 => some (x3, f_d, g4)) else nm (p2.toInt64) (fun x5 => (if p1 = 2 then J_X7_wall_27 n0 x5 0 1 f_found f_d p1 p2 else J_X7_wall_27 n0 x5 0 11 f_found f_d p1 p2)))))
set_option maxRecDepth 100000 in
set_option maxHeartbeats 4000000 in
theorem k_X7_wall (l : Launch) (dC : Nat → ClassId) (dI : Nat → Nat → Nat) (cI cB cO : ClassId) (n0 sz : Nat) (a_t : Nat) (a_d : Nat) (a_e : Nat) (a_kept : Nat) (a_found : Nat) (a_tape : Nat) (a_hears : Nat) (a_near : Nat) (a_firstDay : Nat) (a_daily : Nat) (a_heardNow : Nat) (a_bitsOf : Nat) (a_sizeOf : Nat) (a_number : Nat) (a_passing : Nat)   (v_isKept : Int32) (v_taped : Int32) (v_gone : Int32) (v_begin : Int32) (v_round : Int32) (v_leastFar : Int32) (v_leastWhere : Int32) (v_mostLed : Int32) (v_firstMove : Int32) (v_at : Int32) (v_sort : Int32) (v_from : Int32) (v_value : Int64) (v_fault : Int32) (f_d : Nat → Int32) (f_found : Nat → Int32) (p1 : Int32) (p2 : Int32)  {ro : Int32} {o0 : Nat → Int32} {o1 : Nat → Int32} (hF : F_X7_wall n0 f_d f_found p1 p2 = some (ro, o0, o1)) : Met l yX7_wall wsX7_wall rmX7_wall (va_Pc [.ref a_t, .int p1, .int p2] (gPre (dC, dI) (gT cI cB cO) sz [oX7 a_t a_d a_e a_kept v_isKept a_found a_tape v_taped v_gone a_hears a_near a_firstDay a_daily v_begin v_round v_leastFar v_leastWhere v_mostLed a_heardNow v_firstMove v_at v_sort v_from v_value v_fault a_bitsOf a_sizeOf a_number a_passing, aA cI a_d 40 f_d, aA cI a_found 7 f_found])) (gQi (dC, dI) (gT cI cB cO) sz [oX7 a_t a_d a_e a_kept v_isKept a_found a_tape v_taped v_gone a_hears a_near a_firstDay a_daily v_begin v_round v_leastFar v_leastWhere v_mostLed a_heardNow v_firstMove v_at v_sort v_from v_value v_fault a_bitsOf a_sizeOf a_number a_passing, aA cI a_d 40 f_d, aA cI a_found 7 f_found] ro [oX7 a_t a_d a_e a_kept v_isKept a_found a_tape v_taped v_gone a_hears a_near a_firstDay a_daily v_begin v_round v_leastFar v_leastWhere v_mostLed a_heardNow v_firstMove v_at v_sort v_from v_value v_fault a_bitsOf a_sizeOf a_number a_passing, aA cI a_d 40 o0, aA cI a_found 7 o1]) 0 0 (va_A [oX7 a_t a_d a_e a_kept v_isKept a_found a_tape v_taped v_gone a_hears a_near a_firstDay a_daily v_begin v_round v_leastFar v_leastWhere v_mostLed a_heardNow v_firstMove v_at v_sort v_from v_value v_fault a_bitsOf a_sizeOf a_number a_passing, aA cI a_d 40 f_d, aA cI a_found 7 f_found] sz) := by
  refine g_metI (Out := Int32 × (Nat → Int32) × (Nat → Int32)) (fun oo => oo.1) (fun oo => [oX7 a_t a_d a_e a_kept v_isKept a_found a_tape v_taped v_gone a_hears a_near a_firstDay a_daily v_begin v_round v_leastFar v_leastWhere v_mostLed a_heardNow v_firstMove v_at v_sort v_from v_value v_fault a_bitsOf a_sizeOf a_number a_passing, aA cI a_d 40 oo.2.1, aA cI a_found 7 oo.2.2]) (ro, o0, o1) (own := RX7) (lv := [(0, .ref a_t), (1, .int p1), (2, .int p2)]) (by decide) rfl rfl (Nat.le_of_ble_eq_true rfl) rfl ?_
  intro p e s m args below meth c Q ls C hret hV hl
  obtain ⟨out, hout⟩ : ∃ z : Int32 × (Nat → Int32) × (Nat → Int32), z = (ro, o0, o1) := ⟨_, rfl⟩
  rw [← hout] at hF hret
  obtain ⟨H0, hH0⟩ : ∃ z : Heap, z = s.heap := ⟨_, rfl⟩
  obtain ⟨A0, hA0⟩ : ∃ z : Nat → Prop, z = va_A [oX7 a_t a_d a_e a_kept v_isKept a_found a_tape v_taped v_gone a_hears a_near a_firstDay a_daily v_begin v_round v_leastFar v_leastWhere v_mostLed a_heardNow v_firstMove v_at v_sort v_from v_value v_fault a_bitsOf a_sizeOf a_number a_passing, aA cI a_d 40 f_d, aA cI a_found 7 f_found] s.heap.size := ⟨_, rfl⟩
  rw [← hA0] at hret hV
  rw [← hH0] at hret hV
  rw [← hH0]
  obtain ⟨H, locs, hH⟩ : ∃ (z : Heap) (y : List Loc), z = H0 ∧ y = [] := ⟨_, _, rfl, rfl⟩
  rw [← hH.1, ← hH.2]
  have hV : gV (dC, dI) (gT cI cB cO) A0 H0 s [oX7 a_t a_d a_e a_kept v_isKept a_found a_tape v_taped v_gone a_hears a_near a_firstDay a_daily v_begin v_round v_leastFar v_leastWhere v_mostLed a_heardNow v_firstMove v_at v_sort v_from v_value v_fault a_bitsOf a_sizeOf a_number a_passing, aA cI a_d 40 f_d, aA cI a_found 7 f_found] H locs := by rw [hH.1, hH.2]; exact hV
  unfold F_X7_wall at hF
  refine lv_iload_n C.1 C.2.1 dX7_wall_0 rfl (lv_at hl 1 rfl) ?_
  refine g_i2l C hF dX7_wall_1 (fun x1 hF => ?_)
  refine lv_lconst (v := 0) C.1 C.2.1 dX7_wall_2 rfl ?_
  refine lv_ldc2 (v := 2) C.1 C.2.1 C.2.2.2.1 (C.2.2.2.2 _ ctX7_wall_136) dX7_wall_3 ?_
  obtain ⟨x2, hc, hF⟩ := bd1_s hF
  refine g_cSi (ws' := [oX7 a_t a_d a_e a_kept v_isKept a_found a_tape v_taped v_gone a_hears a_near a_firstDay a_daily v_begin v_round v_leastFar v_leastWhere v_mostLed a_heardNow v_firstMove v_at v_sort v_from v_value v_fault a_bitsOf a_sizeOf a_number a_passing, aA cI a_d 40 f_d, aA cI a_found 7 f_found]) (wr := [oX7 a_t a_d a_e a_kept v_isKept a_found a_tape v_taped v_gone a_hears a_near a_firstDay a_daily v_begin v_round v_leastFar v_leastWhere v_mostLed a_heardNow v_firstMove v_at v_sort v_from v_value v_fault a_bitsOf a_sizeOf a_number a_passing, aA cI a_d 40 f_d, aA cI a_found 7 f_found]) C hV (k_X7_in l dC dI cI cB cO n0 H.size x1 0 2 hc) mdX7_in gX7_wall_X7_in rfl rfl ⟨Nat.le_of_ble_eq_true rfl, Nat.le_of_ble_eq_true rfl⟩ [] [0, 1, 2] [0, 1, 2] rfl rfl rfl rfl rfl rfl rfl rfl hl.1 (Nat.le_of_ble_eq_true rfl) rfl dX7_wall_6 (fun H locs hV => ?_)
  refine g_if_eq (tgt := 33) C hF dX7_wall_9 rfl (fun hF => ?_) (fun hF => ?_)
  · refine lv_aload_n C.1 C.2.1 dX7_wall_33 rfl (lv_at hl 0 rfl) ?_
    refine lv_iconst (v := 0) C.1 C.2.1 dX7_wall_34 rfl ?_
    obtain ⟨x3, g4, hc, hF⟩ := bd2_s hF
    refine g_cVi (ws' := [oX7 a_t a_d a_e a_kept v_isKept a_found a_tape v_taped v_gone a_hears a_near a_firstDay a_daily v_begin v_round v_leastFar v_leastWhere v_mostLed a_heardNow v_firstMove v_at v_sort v_from v_value v_fault a_bitsOf a_sizeOf a_number a_passing, aA cI a_d 40 f_d, aA cI a_found 7 g4]) (wr := [aA cI a_d 40 f_d]) C hV (k_X7_finds l dC dI cI cB cO n0 H.size a_t a_d a_e a_kept a_found a_tape a_hears a_near a_firstDay a_daily a_heardNow a_bitsOf a_sizeOf a_number a_passing v_isKept v_taped v_gone v_begin v_round v_leastFar v_leastWhere v_mostLed v_firstMove v_at v_sort v_from v_value v_fault f_found 0 hc) mdX7_finds gX7_wall_X7_finds rfl rfl ⟨Nat.le_of_ble_eq_true rfl, Nat.le_of_ble_eq_true rfl⟩ [0, 2] [1] [1, 0, 2] rfl rfl rfl rfl rfl rfl rfl rfl rfl rfl hl.1 (Nat.le_of_ble_eq_true rfl) rfl dX7_wall_35 (fun H locs hV => ?_)
    exact hret (x3, f_d, g4) _ _ _ _ dX7_wall_38 hF hV
  refine lv_iload_n C.1 C.2.1 dX7_wall_12 rfl (lv_at hl 2 rfl) ?_
  refine g_i2l C hF dX7_wall_13 (fun x5 hF => ?_)
  refine lv_lconst (v := 0) C.1 C.2.1 dX7_wall_14 rfl ?_
  refine lv_iload_n C.1 C.2.1 dX7_wall_15 rfl (lv_at hl 1 rfl) ?_
  refine lv_iconst (v := 2) C.1 C.2.1 dX7_wall_16 rfl ?_
  have hJ27 : ∀ (k6 : Int64) (k7 : Int64) (k8 : Int64) (H : Heap) (locs : List Loc) (ls : Array Slot), gV (dC, dI) (gT cI cB cO) A0 H0 s [oX7 a_t a_d a_e a_kept v_isKept a_found a_tape v_taped v_gone a_hears a_near a_firstDay a_daily v_begin v_round v_leastFar v_leastWhere v_mostLed a_heardNow v_firstMove v_at v_sort v_from v_value v_fault a_bitsOf a_sizeOf a_number a_passing, aA cI a_d 40 f_d, aA cI a_found 7 f_found] H locs → lv_has ls 4 [(0, .ref a_t), (1, .int p1), (2, .int p2)] → J_X7_wall_27 n0 k8 k7 k6 f_found f_d p1 p2 = some out → W p l e rmX7_wall s m args below meth c H locs 0 0 Q (F0 m 27 ls [.long k6, .long k7, .long k8]) := by
    intro k6 k7 k8 H locs ls hV hl hF
    unfold J_X7_wall_27 at hF
    obtain ⟨x9, hc, hF⟩ := bd1_s hF
    refine g_cSi (ws' := [oX7 a_t a_d a_e a_kept v_isKept a_found a_tape v_taped v_gone a_hears a_near a_firstDay a_daily v_begin v_round v_leastFar v_leastWhere v_mostLed a_heardNow v_firstMove v_at v_sort v_from v_value v_fault a_bitsOf a_sizeOf a_number a_passing, aA cI a_d 40 f_d, aA cI a_found 7 f_found]) (wr := [oX7 a_t a_d a_e a_kept v_isKept a_found a_tape v_taped v_gone a_hears a_near a_firstDay a_daily v_begin v_round v_leastFar v_leastWhere v_mostLed a_heardNow v_firstMove v_at v_sort v_from v_value v_fault a_bitsOf a_sizeOf a_number a_passing, aA cI a_d 40 f_d, aA cI a_found 7 f_found]) C hV (k_X7_in l dC dI cI cB cO n0 H.size k8 k7 k6 hc) mdX7_in gX7_wall_X7_in rfl rfl ⟨Nat.le_of_ble_eq_true rfl, Nat.le_of_ble_eq_true rfl⟩ [] [0, 1, 2] [0, 1, 2] rfl rfl rfl rfl rfl rfl rfl rfl hl.1 (Nat.le_of_ble_eq_true rfl) rfl dX7_wall_27 (fun H locs hV => ?_)
    refine g_if_ne (tgt := 39) C hF dX7_wall_30 rfl (fun hF => ?_) (fun hF => ?_)
    · refine lv_aload_n C.1 C.2.1 dX7_wall_39 rfl (lv_at hl 0 rfl) ?_
      refine g_get C hV flX7_wall_7 0 rfl rfl dX7_wall_40 ?_
      refine lv_iconst (v := 3) C.1 C.2.1 dX7_wall_43 rfl ?_
      refine lv_iload_n C.1 C.2.1 dX7_wall_44 rfl (lv_at hl 1 rfl) ?_
      refine g_iadd C hF dX7_wall_45 (fun x10 hF => ?_)
      refine g_iald C hV 1 rfl hF dX7_wall_46 (fun x11 hF => ?_)
      refine lv_istore_n (lv' := [(3, .int x11), (0, .ref a_t), (1, .int p1), (2, .int p2)]) C.1 C.2.1 dX7_wall_47 rfl hl (by decide) rfl (fun ls hl => ?_)
      refine lv_aload_n C.1 C.2.1 dX7_wall_48 rfl (lv_at hl 1 rfl) ?_
      refine g_get C hV flX7_wall_7 0 rfl rfl dX7_wall_49 ?_
      refine lv_iconst (v := 3) C.1 C.2.1 dX7_wall_52 rfl ?_
      refine lv_iload_n C.1 C.2.1 dX7_wall_53 rfl (lv_at hl 2 rfl) ?_
      refine g_iadd C hF dX7_wall_54 (fun x12 hF => ?_)
      refine lv_iload_n C.1 C.2.1 dX7_wall_55 rfl (lv_at hl 3 rfl) ?_
      refine g_iast C hV 1 rfl hF (fun gq => [oX7 a_t a_d a_e a_kept v_isKept a_found a_tape v_taped v_gone a_hears a_near a_firstDay a_daily v_begin v_round v_leastFar v_leastWhere v_mostLed a_heardNow v_firstMove v_at v_sort v_from v_value v_fault a_bitsOf a_sizeOf a_number a_passing, aA cI a_d 40 gq, aA cI a_found 7 f_found]) (fun _ => rfl) dX7_wall_56 (fun g13 H locs hF hV => ?_)
      refine lv_iload_n C.1 C.2.1 dX7_wall_57 rfl (lv_at hl 0 rfl) ?_
      exact hret (x11, g13, f_found) _ _ _ _ dX7_wall_58 hF hV
    refine lv_aload_n C.1 C.2.1 dX7_wall_33 rfl (lv_at hl 0 rfl) ?_
    refine lv_iconst (v := 0) C.1 C.2.1 dX7_wall_34 rfl ?_
    obtain ⟨x14, g15, hc, hF⟩ := bd2_s hF
    refine g_cVi (ws' := [oX7 a_t a_d a_e a_kept v_isKept a_found a_tape v_taped v_gone a_hears a_near a_firstDay a_daily v_begin v_round v_leastFar v_leastWhere v_mostLed a_heardNow v_firstMove v_at v_sort v_from v_value v_fault a_bitsOf a_sizeOf a_number a_passing, aA cI a_d 40 f_d, aA cI a_found 7 g15]) (wr := [aA cI a_d 40 f_d]) C hV (k_X7_finds l dC dI cI cB cO n0 H.size a_t a_d a_e a_kept a_found a_tape a_hears a_near a_firstDay a_daily a_heardNow a_bitsOf a_sizeOf a_number a_passing v_isKept v_taped v_gone v_begin v_round v_leastFar v_leastWhere v_mostLed v_firstMove v_at v_sort v_from v_value v_fault f_found 0 hc) mdX7_finds gX7_wall_X7_finds rfl rfl ⟨Nat.le_of_ble_eq_true rfl, Nat.le_of_ble_eq_true rfl⟩ [0, 2] [1] [1, 0, 2] rfl rfl rfl rfl rfl rfl rfl rfl rfl rfl hl.1 (Nat.le_of_ble_eq_true rfl) rfl dX7_wall_35 (fun H locs hV => ?_)
    exact hret (x14, f_d, g15) _ _ _ _ dX7_wall_38 hF hV
  refine g_icmp_ne (tgt := 24) C hF dX7_wall_17 rfl (fun hF => ?_) (fun hF => ?_)
  · refine lv_ldc2 (v := 11) C.1 C.2.1 C.2.2.2.1 (C.2.2.2.2 _ ctX7_wall_62) dX7_wall_24 ?_
    exact hJ27 11 0 x5 H locs ls hV (lv_sub hl [0, 1, 2] rfl) hF
  refine lv_lconst (v := 1) C.1 C.2.1 dX7_wall_20 rfl ?_
  refine lv_goto (tgt := 27) C.1 C.2.1 dX7_wall_21 rfl ?_
  exact hJ27 1 0 x5 H locs ls hV (lv_sub hl [0, 1, 2] rfl) hF
abbrev rmX7_on : Room := { frames := 2, cells := 0, slots := 0, locals := 46 }
theorem mdX7_on : gMd yX7_on wsX7_on cX7_on 4 (some .int) 2 := ⟨⟨_, rfl⟩, by decide +kernel⟩
def F_X7_on (n0 : Nat) (f_d : Nat → Int32) (f_found : Nat → Int32) (p1 : Int32) (p2 : Int32) : Option (Int32 × (Nat → Int32)) := bd1 (F_X7_isYard n0 p1 p2) (fun x1 => (if x1 = 0 then bd2 (F_X7_finds n0 f_found 0) (fun x7 g8 => some (x7, g8)) else nm (12 * p2) (fun x2 => nm (x2 + p1) (fun x3 => bd1 (F_X7_whoIs n0 f_d x3) (fun x4 => (if x4 = ((-1)) then bd2 (F_X7_finds n0 f_found 3) (fun x5 g6 => some (x5, g6)) else some (x4, f_found)))))))
set_option maxRecDepth 100000 in
set_option maxHeartbeats 4000000 in
theorem k_X7_on (l : Launch) (dC : Nat → ClassId) (dI : Nat → Nat → Nat) (cI cB cO : ClassId) (n0 sz : Nat) (a_t : Nat) (a_d : Nat) (a_e : Nat) (a_kept : Nat) (a_found : Nat) (a_tape : Nat) (a_hears : Nat) (a_near : Nat) (a_firstDay : Nat) (a_daily : Nat) (a_heardNow : Nat) (a_bitsOf : Nat) (a_sizeOf : Nat) (a_number : Nat) (a_passing : Nat)   (v_isKept : Int32) (v_taped : Int32) (v_gone : Int32) (v_begin : Int32) (v_round : Int32) (v_leastFar : Int32) (v_leastWhere : Int32) (v_mostLed : Int32) (v_firstMove : Int32) (v_at : Int32) (v_sort : Int32) (v_from : Int32) (v_value : Int64) (v_fault : Int32) (f_d : Nat → Int32) (f_found : Nat → Int32) (p1 : Int32) (p2 : Int32)  {ro : Int32} {o0 : Nat → Int32} (hF : F_X7_on n0 f_d f_found p1 p2 = some (ro, o0)) : Met l yX7_on wsX7_on rmX7_on (va_Pc [.ref a_t, .int p1, .int p2] (gPre (dC, dI) (gT cI cB cO) sz [oX7 a_t a_d a_e a_kept v_isKept a_found a_tape v_taped v_gone a_hears a_near a_firstDay a_daily v_begin v_round v_leastFar v_leastWhere v_mostLed a_heardNow v_firstMove v_at v_sort v_from v_value v_fault a_bitsOf a_sizeOf a_number a_passing, aA cI a_d 40 f_d, aA cI a_found 7 f_found])) (gQi (dC, dI) (gT cI cB cO) sz [oX7 a_t a_d a_e a_kept v_isKept a_found a_tape v_taped v_gone a_hears a_near a_firstDay a_daily v_begin v_round v_leastFar v_leastWhere v_mostLed a_heardNow v_firstMove v_at v_sort v_from v_value v_fault a_bitsOf a_sizeOf a_number a_passing, aA cI a_d 40 f_d, aA cI a_found 7 f_found] ro [oX7 a_t a_d a_e a_kept v_isKept a_found a_tape v_taped v_gone a_hears a_near a_firstDay a_daily v_begin v_round v_leastFar v_leastWhere v_mostLed a_heardNow v_firstMove v_at v_sort v_from v_value v_fault a_bitsOf a_sizeOf a_number a_passing, aA cI a_d 40 f_d, aA cI a_found 7 o0]) 0 0 (va_A [oX7 a_t a_d a_e a_kept v_isKept a_found a_tape v_taped v_gone a_hears a_near a_firstDay a_daily v_begin v_round v_leastFar v_leastWhere v_mostLed a_heardNow v_firstMove v_at v_sort v_from v_value v_fault a_bitsOf a_sizeOf a_number a_passing, aA cI a_d 40 f_d, aA cI a_found 7 f_found] sz) := by
  refine g_metI (Out := Int32 × (Nat → Int32)) (fun oo => oo.1) (fun oo => [oX7 a_t a_d a_e a_kept v_isKept a_found a_tape v_taped v_gone a_hears a_near a_firstDay a_daily v_begin v_round v_leastFar v_leastWhere v_mostLed a_heardNow v_firstMove v_at v_sort v_from v_value v_fault a_bitsOf a_sizeOf a_number a_passing, aA cI a_d 40 f_d, aA cI a_found 7 oo.2]) (ro, o0) (own := RX7) (lv := [(0, .ref a_t), (1, .int p1), (2, .int p2)]) (by decide) rfl rfl (Nat.le_of_ble_eq_true rfl) rfl ?_
  intro p e s m args below meth c Q ls C hret hV hl
  obtain ⟨out, hout⟩ : ∃ z : Int32 × (Nat → Int32), z = (ro, o0) := ⟨_, rfl⟩
  rw [← hout] at hF hret
  obtain ⟨H0, hH0⟩ : ∃ z : Heap, z = s.heap := ⟨_, rfl⟩
  obtain ⟨A0, hA0⟩ : ∃ z : Nat → Prop, z = va_A [oX7 a_t a_d a_e a_kept v_isKept a_found a_tape v_taped v_gone a_hears a_near a_firstDay a_daily v_begin v_round v_leastFar v_leastWhere v_mostLed a_heardNow v_firstMove v_at v_sort v_from v_value v_fault a_bitsOf a_sizeOf a_number a_passing, aA cI a_d 40 f_d, aA cI a_found 7 f_found] s.heap.size := ⟨_, rfl⟩
  rw [← hA0] at hret hV
  rw [← hH0] at hret hV
  rw [← hH0]
  obtain ⟨H, locs, hH⟩ : ∃ (z : Heap) (y : List Loc), z = H0 ∧ y = [] := ⟨_, _, rfl, rfl⟩
  rw [← hH.1, ← hH.2]
  have hV : gV (dC, dI) (gT cI cB cO) A0 H0 s [oX7 a_t a_d a_e a_kept v_isKept a_found a_tape v_taped v_gone a_hears a_near a_firstDay a_daily v_begin v_round v_leastFar v_leastWhere v_mostLed a_heardNow v_firstMove v_at v_sort v_from v_value v_fault a_bitsOf a_sizeOf a_number a_passing, aA cI a_d 40 f_d, aA cI a_found 7 f_found] H locs := by rw [hH.1, hH.2]; exact hV
  unfold F_X7_on at hF
  refine lv_iload_n C.1 C.2.1 dX7_on_0 rfl (lv_at hl 1 rfl) ?_
  refine lv_iload_n C.1 C.2.1 dX7_on_1 rfl (lv_at hl 2 rfl) ?_
  obtain ⟨x1, hc, hF⟩ := bd1_s hF
  refine g_cSi (ws' := [oX7 a_t a_d a_e a_kept v_isKept a_found a_tape v_taped v_gone a_hears a_near a_firstDay a_daily v_begin v_round v_leastFar v_leastWhere v_mostLed a_heardNow v_firstMove v_at v_sort v_from v_value v_fault a_bitsOf a_sizeOf a_number a_passing, aA cI a_d 40 f_d, aA cI a_found 7 f_found]) (wr := [oX7 a_t a_d a_e a_kept v_isKept a_found a_tape v_taped v_gone a_hears a_near a_firstDay a_daily v_begin v_round v_leastFar v_leastWhere v_mostLed a_heardNow v_firstMove v_at v_sort v_from v_value v_fault a_bitsOf a_sizeOf a_number a_passing, aA cI a_d 40 f_d, aA cI a_found 7 f_found]) C hV (k_X7_isYard l dC dI cI cB cO n0 H.size p1 p2 hc) mdX7_isYard gX7_on_X7_isYard rfl rfl ⟨Nat.le_of_ble_eq_true rfl, Nat.le_of_ble_eq_true rfl⟩ [] [0, 1, 2] [0, 1, 2] rfl rfl rfl rfl rfl rfl rfl rfl hl.1 (Nat.le_of_ble_eq_true rfl) rfl dX7_on_2 (fun H locs hV => ?_)
  refine g_if_ne (tgt := 14) C hF dX7_on_5 rfl (fun hF => ?_) (fun hF => ?_)
  · refine lv_aload_n C.1 C.2.1 dX7_on_14 rfl (lv_at hl 0 rfl) ?_
    refine lv_bipush (v := 12) C.1 C.2.1 dX7_on_15 rfl ?_
    refine lv_iload_n C.1 C.2.1 dX7_on_17 rfl (lv_at hl 2 rfl) ?_
    refine g_imul C hF dX7_on_18 (fun x2 hF => ?_)
    refine lv_iload_n C.1 C.2.1 dX7_on_19 rfl (lv_at hl 1 rfl) ?_
    refine g_iadd C hF dX7_on_20 (fun x3 hF => ?_)
    obtain ⟨x4, hc, hF⟩ := bd1_s hF
    refine g_cVi (ws' := [oX7 a_t a_d a_e a_kept v_isKept a_found a_tape v_taped v_gone a_hears a_near a_firstDay a_daily v_begin v_round v_leastFar v_leastWhere v_mostLed a_heardNow v_firstMove v_at v_sort v_from v_value v_fault a_bitsOf a_sizeOf a_number a_passing, aA cI a_d 40 f_d, aA cI a_found 7 f_found]) (wr := [aA cI a_found 7 f_found]) C hV (k_X7_whoIs l dC dI cI cB cO n0 H.size a_t a_d a_e a_kept a_found a_tape a_hears a_near a_firstDay a_daily a_heardNow a_bitsOf a_sizeOf a_number a_passing v_isKept v_taped v_gone v_begin v_round v_leastFar v_leastWhere v_mostLed v_firstMove v_at v_sort v_from v_value v_fault f_d x3 hc) mdX7_whoIs gX7_on_X7_whoIs rfl rfl ⟨Nat.le_of_ble_eq_true rfl, Nat.le_of_ble_eq_true rfl⟩ [0, 1] [2] [1, 2, 0] rfl rfl rfl rfl rfl rfl rfl rfl rfl rfl hl.1 (Nat.le_of_ble_eq_true rfl) rfl dX7_on_21 (fun H locs hV => ?_)
    refine lv_istore_n (lv' := [(3, .int x4), (0, .ref a_t), (1, .int p1), (2, .int p2)]) C.1 C.2.1 dX7_on_24 rfl hl (by decide) rfl (fun ls hl => ?_)
    refine lv_iload_n C.1 C.2.1 dX7_on_25 rfl (lv_at hl 0 rfl) ?_
    refine lv_iconst (v := (-1)) C.1 C.2.1 dX7_on_26 rfl ?_
    refine g_icmp_ne (tgt := 38) C hF dX7_on_27 rfl (fun hF => ?_) (fun hF => ?_)
    · refine lv_iload_n C.1 C.2.1 dX7_on_38 rfl (lv_at hl 0 rfl) ?_
      exact hret (x4, f_found) _ _ _ _ dX7_on_39 hF hV
    refine lv_aload_n C.1 C.2.1 dX7_on_30 rfl (lv_at hl 1 rfl) ?_
    refine lv_iconst (v := 3) C.1 C.2.1 dX7_on_31 rfl ?_
    obtain ⟨x5, g6, hc, hF⟩ := bd2_s hF
    refine g_cVi (ws' := [oX7 a_t a_d a_e a_kept v_isKept a_found a_tape v_taped v_gone a_hears a_near a_firstDay a_daily v_begin v_round v_leastFar v_leastWhere v_mostLed a_heardNow v_firstMove v_at v_sort v_from v_value v_fault a_bitsOf a_sizeOf a_number a_passing, aA cI a_d 40 f_d, aA cI a_found 7 g6]) (wr := [aA cI a_d 40 f_d]) C hV (k_X7_finds l dC dI cI cB cO n0 H.size a_t a_d a_e a_kept a_found a_tape a_hears a_near a_firstDay a_daily a_heardNow a_bitsOf a_sizeOf a_number a_passing v_isKept v_taped v_gone v_begin v_round v_leastFar v_leastWhere v_mostLed v_firstMove v_at v_sort v_from v_value v_fault f_found 3 hc) mdX7_finds gX7_on_X7_finds rfl rfl ⟨Nat.le_of_ble_eq_true rfl, Nat.le_of_ble_eq_true rfl⟩ [0, 2] [1] [1, 0, 2] rfl rfl rfl rfl rfl rfl rfl rfl rfl rfl hl.1 (Nat.le_of_ble_eq_true rfl) rfl dX7_on_32 (fun H locs hV => ?_)
    refine lv_goto (tgt := 39) C.1 C.2.1 dX7_on_35 rfl ?_
    exact hret (x5, g6) _ _ _ _ dX7_on_39 hF hV
  refine lv_aload_n C.1 C.2.1 dX7_on_8 rfl (lv_at hl 0 rfl) ?_
  refine lv_iconst (v := 0) C.1 C.2.1 dX7_on_9 rfl ?_
  obtain ⟨x7, g8, hc, hF⟩ := bd2_s hF
  refine g_cVi (ws' := [oX7 a_t a_d a_e a_kept v_isKept a_found a_tape v_taped v_gone a_hears a_near a_firstDay a_daily v_begin v_round v_leastFar v_leastWhere v_mostLed a_heardNow v_firstMove v_at v_sort v_from v_value v_fault a_bitsOf a_sizeOf a_number a_passing, aA cI a_d 40 f_d, aA cI a_found 7 g8]) (wr := [aA cI a_d 40 f_d]) C hV (k_X7_finds l dC dI cI cB cO n0 H.size a_t a_d a_e a_kept a_found a_tape a_hears a_near a_firstDay a_daily a_heardNow a_bitsOf a_sizeOf a_number a_passing v_isKept v_taped v_gone v_begin v_round v_leastFar v_leastWhere v_mostLed v_firstMove v_at v_sort v_from v_value v_fault f_found 0 hc) mdX7_finds gX7_on_X7_finds rfl rfl ⟨Nat.le_of_ble_eq_true rfl, Nat.le_of_ble_eq_true rfl⟩ [0, 2] [1] [1, 0, 2] rfl rfl rfl rfl rfl rfl rfl rfl rfl rfl hl.1 (Nat.le_of_ble_eq_true rfl) rfl dX7_on_10 (fun H locs hV => ?_)
  exact hret (x7, g8) _ _ _ _ dX7_on_13 hF hV
abbrev rmX7_far : Room := { frames := 2, cells := 0, slots := 0, locals := 46 }
theorem mdX7_far : gMd yX7_far wsX7_far cX7_far 3 (some .int) 2 := ⟨⟨_, rfl⟩, by decide +kernel⟩
def F_X7_far (n0 : Nat) (f_d : Nat → Int32) (f_found : Nat → Int32) (p1 : Int32) (p2 : Int32) : Option (Int32 × (Nat → Int32)) := bd1 (F_X7_isTent n0 f_d p1) (fun x1 => (if x1 = 0 then bd2 (F_X7_finds n0 f_found 0) (fun x2 g3 => some (x2, g3)) else bd1 (F_X7_isTent n0 f_d p2) (fun x4 => (if x4 = 0 then bd2 (F_X7_finds n0 f_found 0) (fun x5 g6 => some (x5, g6)) else bd1 (F_X7_yard n0 f_d p1) (fun x7 => bd1 (F_X7_yard n0 f_d p2) (fun x8 => bd1 (F_X7_farOf n0 f_d x7 x8) (fun x9 => some (x9, f_found))))))))
set_option maxRecDepth 100000 in
set_option maxHeartbeats 4000000 in
theorem k_X7_far (l : Launch) (dC : Nat → ClassId) (dI : Nat → Nat → Nat) (cI cB cO : ClassId) (n0 sz : Nat) (a_t : Nat) (a_d : Nat) (a_e : Nat) (a_kept : Nat) (a_found : Nat) (a_tape : Nat) (a_hears : Nat) (a_near : Nat) (a_firstDay : Nat) (a_daily : Nat) (a_heardNow : Nat) (a_bitsOf : Nat) (a_sizeOf : Nat) (a_number : Nat) (a_passing : Nat)   (v_isKept : Int32) (v_taped : Int32) (v_gone : Int32) (v_begin : Int32) (v_round : Int32) (v_leastFar : Int32) (v_leastWhere : Int32) (v_mostLed : Int32) (v_firstMove : Int32) (v_at : Int32) (v_sort : Int32) (v_from : Int32) (v_value : Int64) (v_fault : Int32) (f_d : Nat → Int32) (f_found : Nat → Int32) (p1 : Int32) (p2 : Int32)  {ro : Int32} {o0 : Nat → Int32} (hF : F_X7_far n0 f_d f_found p1 p2 = some (ro, o0)) : Met l yX7_far wsX7_far rmX7_far (va_Pc [.ref a_t, .int p1, .int p2] (gPre (dC, dI) (gT cI cB cO) sz [oX7 a_t a_d a_e a_kept v_isKept a_found a_tape v_taped v_gone a_hears a_near a_firstDay a_daily v_begin v_round v_leastFar v_leastWhere v_mostLed a_heardNow v_firstMove v_at v_sort v_from v_value v_fault a_bitsOf a_sizeOf a_number a_passing, aA cI a_d 40 f_d, aA cI a_found 7 f_found])) (gQi (dC, dI) (gT cI cB cO) sz [oX7 a_t a_d a_e a_kept v_isKept a_found a_tape v_taped v_gone a_hears a_near a_firstDay a_daily v_begin v_round v_leastFar v_leastWhere v_mostLed a_heardNow v_firstMove v_at v_sort v_from v_value v_fault a_bitsOf a_sizeOf a_number a_passing, aA cI a_d 40 f_d, aA cI a_found 7 f_found] ro [oX7 a_t a_d a_e a_kept v_isKept a_found a_tape v_taped v_gone a_hears a_near a_firstDay a_daily v_begin v_round v_leastFar v_leastWhere v_mostLed a_heardNow v_firstMove v_at v_sort v_from v_value v_fault a_bitsOf a_sizeOf a_number a_passing, aA cI a_d 40 f_d, aA cI a_found 7 o0]) 0 0 (va_A [oX7 a_t a_d a_e a_kept v_isKept a_found a_tape v_taped v_gone a_hears a_near a_firstDay a_daily v_begin v_round v_leastFar v_leastWhere v_mostLed a_heardNow v_firstMove v_at v_sort v_from v_value v_fault a_bitsOf a_sizeOf a_number a_passing, aA cI a_d 40 f_d, aA cI a_found 7 f_found] sz) := by
  refine g_metI (Out := Int32 × (Nat → Int32)) (fun oo => oo.1) (fun oo => [oX7 a_t a_d a_e a_kept v_isKept a_found a_tape v_taped v_gone a_hears a_near a_firstDay a_daily v_begin v_round v_leastFar v_leastWhere v_mostLed a_heardNow v_firstMove v_at v_sort v_from v_value v_fault a_bitsOf a_sizeOf a_number a_passing, aA cI a_d 40 f_d, aA cI a_found 7 oo.2]) (ro, o0) (own := RX7) (lv := [(0, .ref a_t), (1, .int p1), (2, .int p2)]) (by decide) rfl rfl (Nat.le_of_ble_eq_true rfl) rfl ?_
  intro p e s m args below meth c Q ls C hret hV hl
  obtain ⟨out, hout⟩ : ∃ z : Int32 × (Nat → Int32), z = (ro, o0) := ⟨_, rfl⟩
  rw [← hout] at hF hret
  obtain ⟨H0, hH0⟩ : ∃ z : Heap, z = s.heap := ⟨_, rfl⟩
  obtain ⟨A0, hA0⟩ : ∃ z : Nat → Prop, z = va_A [oX7 a_t a_d a_e a_kept v_isKept a_found a_tape v_taped v_gone a_hears a_near a_firstDay a_daily v_begin v_round v_leastFar v_leastWhere v_mostLed a_heardNow v_firstMove v_at v_sort v_from v_value v_fault a_bitsOf a_sizeOf a_number a_passing, aA cI a_d 40 f_d, aA cI a_found 7 f_found] s.heap.size := ⟨_, rfl⟩
  rw [← hA0] at hret hV
  rw [← hH0] at hret hV
  rw [← hH0]
  obtain ⟨H, locs, hH⟩ : ∃ (z : Heap) (y : List Loc), z = H0 ∧ y = [] := ⟨_, _, rfl, rfl⟩
  rw [← hH.1, ← hH.2]
  have hV : gV (dC, dI) (gT cI cB cO) A0 H0 s [oX7 a_t a_d a_e a_kept v_isKept a_found a_tape v_taped v_gone a_hears a_near a_firstDay a_daily v_begin v_round v_leastFar v_leastWhere v_mostLed a_heardNow v_firstMove v_at v_sort v_from v_value v_fault a_bitsOf a_sizeOf a_number a_passing, aA cI a_d 40 f_d, aA cI a_found 7 f_found] H locs := by rw [hH.1, hH.2]; exact hV
  unfold F_X7_far at hF
  refine lv_aload_n C.1 C.2.1 dX7_far_0 rfl (lv_at hl 0 rfl) ?_
  refine lv_iload_n C.1 C.2.1 dX7_far_1 rfl (lv_at hl 1 rfl) ?_
  obtain ⟨x1, hc, hF⟩ := bd1_s hF
  refine g_cVi (ws' := [oX7 a_t a_d a_e a_kept v_isKept a_found a_tape v_taped v_gone a_hears a_near a_firstDay a_daily v_begin v_round v_leastFar v_leastWhere v_mostLed a_heardNow v_firstMove v_at v_sort v_from v_value v_fault a_bitsOf a_sizeOf a_number a_passing, aA cI a_d 40 f_d, aA cI a_found 7 f_found]) (wr := [aA cI a_found 7 f_found]) C hV (k_X7_isTent l dC dI cI cB cO n0 H.size a_t a_d a_e a_kept a_found a_tape a_hears a_near a_firstDay a_daily a_heardNow a_bitsOf a_sizeOf a_number a_passing v_isKept v_taped v_gone v_begin v_round v_leastFar v_leastWhere v_mostLed v_firstMove v_at v_sort v_from v_value v_fault f_d p1 hc) mdX7_isTent gX7_far_X7_isTent rfl rfl ⟨Nat.le_of_ble_eq_true rfl, Nat.le_of_ble_eq_true rfl⟩ [0, 1] [2] [1, 2, 0] rfl rfl rfl rfl rfl rfl rfl rfl rfl rfl hl.1 (Nat.le_of_ble_eq_true rfl) rfl dX7_far_2 (fun H locs hV => ?_)
  refine g_if_eq (tgt := 33) C hF dX7_far_5 rfl (fun hF => ?_) (fun hF => ?_)
  · refine lv_aload_n C.1 C.2.1 dX7_far_33 rfl (lv_at hl 0 rfl) ?_
    refine lv_iconst (v := 0) C.1 C.2.1 dX7_far_34 rfl ?_
    obtain ⟨x2, g3, hc, hF⟩ := bd2_s hF
    refine g_cVi (ws' := [oX7 a_t a_d a_e a_kept v_isKept a_found a_tape v_taped v_gone a_hears a_near a_firstDay a_daily v_begin v_round v_leastFar v_leastWhere v_mostLed a_heardNow v_firstMove v_at v_sort v_from v_value v_fault a_bitsOf a_sizeOf a_number a_passing, aA cI a_d 40 f_d, aA cI a_found 7 g3]) (wr := [aA cI a_d 40 f_d]) C hV (k_X7_finds l dC dI cI cB cO n0 H.size a_t a_d a_e a_kept a_found a_tape a_hears a_near a_firstDay a_daily a_heardNow a_bitsOf a_sizeOf a_number a_passing v_isKept v_taped v_gone v_begin v_round v_leastFar v_leastWhere v_mostLed v_firstMove v_at v_sort v_from v_value v_fault f_found 0 hc) mdX7_finds gX7_far_X7_finds rfl rfl ⟨Nat.le_of_ble_eq_true rfl, Nat.le_of_ble_eq_true rfl⟩ [0, 2] [1] [1, 0, 2] rfl rfl rfl rfl rfl rfl rfl rfl rfl rfl hl.1 (Nat.le_of_ble_eq_true rfl) rfl dX7_far_35 (fun H locs hV => ?_)
    exact hret (x2, g3) _ _ _ _ dX7_far_38 hF hV
  refine lv_aload_n C.1 C.2.1 dX7_far_8 rfl (lv_at hl 0 rfl) ?_
  refine lv_iload_n C.1 C.2.1 dX7_far_9 rfl (lv_at hl 2 rfl) ?_
  obtain ⟨x4, hc, hF⟩ := bd1_s hF
  refine g_cVi (ws' := [oX7 a_t a_d a_e a_kept v_isKept a_found a_tape v_taped v_gone a_hears a_near a_firstDay a_daily v_begin v_round v_leastFar v_leastWhere v_mostLed a_heardNow v_firstMove v_at v_sort v_from v_value v_fault a_bitsOf a_sizeOf a_number a_passing, aA cI a_d 40 f_d, aA cI a_found 7 f_found]) (wr := [aA cI a_found 7 f_found]) C hV (k_X7_isTent l dC dI cI cB cO n0 H.size a_t a_d a_e a_kept a_found a_tape a_hears a_near a_firstDay a_daily a_heardNow a_bitsOf a_sizeOf a_number a_passing v_isKept v_taped v_gone v_begin v_round v_leastFar v_leastWhere v_mostLed v_firstMove v_at v_sort v_from v_value v_fault f_d p2 hc) mdX7_isTent gX7_far_X7_isTent rfl rfl ⟨Nat.le_of_ble_eq_true rfl, Nat.le_of_ble_eq_true rfl⟩ [0, 1] [2] [1, 2, 0] rfl rfl rfl rfl rfl rfl rfl rfl rfl rfl hl.1 (Nat.le_of_ble_eq_true rfl) rfl dX7_far_10 (fun H locs hV => ?_)
  refine g_if_eq (tgt := 33) C hF dX7_far_13 rfl (fun hF => ?_) (fun hF => ?_)
  · refine lv_aload_n C.1 C.2.1 dX7_far_33 rfl (lv_at hl 0 rfl) ?_
    refine lv_iconst (v := 0) C.1 C.2.1 dX7_far_34 rfl ?_
    obtain ⟨x5, g6, hc, hF⟩ := bd2_s hF
    refine g_cVi (ws' := [oX7 a_t a_d a_e a_kept v_isKept a_found a_tape v_taped v_gone a_hears a_near a_firstDay a_daily v_begin v_round v_leastFar v_leastWhere v_mostLed a_heardNow v_firstMove v_at v_sort v_from v_value v_fault a_bitsOf a_sizeOf a_number a_passing, aA cI a_d 40 f_d, aA cI a_found 7 g6]) (wr := [aA cI a_d 40 f_d]) C hV (k_X7_finds l dC dI cI cB cO n0 H.size a_t a_d a_e a_kept a_found a_tape a_hears a_near a_firstDay a_daily a_heardNow a_bitsOf a_sizeOf a_number a_passing v_isKept v_taped v_gone v_begin v_round v_leastFar v_leastWhere v_mostLed v_firstMove v_at v_sort v_from v_value v_fault f_found 0 hc) mdX7_finds gX7_far_X7_finds rfl rfl ⟨Nat.le_of_ble_eq_true rfl, Nat.le_of_ble_eq_true rfl⟩ [0, 2] [1] [1, 0, 2] rfl rfl rfl rfl rfl rfl rfl rfl rfl rfl hl.1 (Nat.le_of_ble_eq_true rfl) rfl dX7_far_35 (fun H locs hV => ?_)
    exact hret (x5, g6) _ _ _ _ dX7_far_38 hF hV
  refine lv_aload_n C.1 C.2.1 dX7_far_16 rfl (lv_at hl 0 rfl) ?_
  refine lv_aload_n C.1 C.2.1 dX7_far_17 rfl (lv_at hl 0 rfl) ?_
  refine lv_iload_n C.1 C.2.1 dX7_far_18 rfl (lv_at hl 1 rfl) ?_
  obtain ⟨x7, hc, hF⟩ := bd1_s hF
  refine g_cVi (ws' := [oX7 a_t a_d a_e a_kept v_isKept a_found a_tape v_taped v_gone a_hears a_near a_firstDay a_daily v_begin v_round v_leastFar v_leastWhere v_mostLed a_heardNow v_firstMove v_at v_sort v_from v_value v_fault a_bitsOf a_sizeOf a_number a_passing, aA cI a_d 40 f_d, aA cI a_found 7 f_found]) (wr := [aA cI a_found 7 f_found]) C hV (k_X7_yard l dC dI cI cB cO n0 H.size a_t a_d a_e a_kept a_found a_tape a_hears a_near a_firstDay a_daily a_heardNow a_bitsOf a_sizeOf a_number a_passing v_isKept v_taped v_gone v_begin v_round v_leastFar v_leastWhere v_mostLed v_firstMove v_at v_sort v_from v_value v_fault f_d p1 hc) mdX7_yard gX7_far_X7_yard rfl rfl ⟨Nat.le_of_ble_eq_true rfl, Nat.le_of_ble_eq_true rfl⟩ [0, 1] [2] [1, 2, 0] rfl rfl rfl rfl rfl rfl rfl rfl rfl rfl hl.1 (Nat.le_of_ble_eq_true rfl) rfl dX7_far_19 (fun H locs hV => ?_)
  refine lv_aload_n C.1 C.2.1 dX7_far_22 rfl (lv_at hl 0 rfl) ?_
  refine lv_iload_n C.1 C.2.1 dX7_far_23 rfl (lv_at hl 2 rfl) ?_
  obtain ⟨x8, hc, hF⟩ := bd1_s hF
  refine g_cVi (ws' := [oX7 a_t a_d a_e a_kept v_isKept a_found a_tape v_taped v_gone a_hears a_near a_firstDay a_daily v_begin v_round v_leastFar v_leastWhere v_mostLed a_heardNow v_firstMove v_at v_sort v_from v_value v_fault a_bitsOf a_sizeOf a_number a_passing, aA cI a_d 40 f_d, aA cI a_found 7 f_found]) (wr := [aA cI a_found 7 f_found]) C hV (k_X7_yard l dC dI cI cB cO n0 H.size a_t a_d a_e a_kept a_found a_tape a_hears a_near a_firstDay a_daily a_heardNow a_bitsOf a_sizeOf a_number a_passing v_isKept v_taped v_gone v_begin v_round v_leastFar v_leastWhere v_mostLed v_firstMove v_at v_sort v_from v_value v_fault f_d p2 hc) mdX7_yard gX7_far_X7_yard rfl rfl ⟨Nat.le_of_ble_eq_true rfl, Nat.le_of_ble_eq_true rfl⟩ [0, 1] [2] [1, 2, 0] rfl rfl rfl rfl rfl rfl rfl rfl rfl rfl hl.1 (Nat.le_of_ble_eq_true rfl) rfl dX7_far_24 (fun H locs hV => ?_)
  obtain ⟨x9, hc, hF⟩ := bd1_s hF
  refine g_cVi (ws' := [oX7 a_t a_d a_e a_kept v_isKept a_found a_tape v_taped v_gone a_hears a_near a_firstDay a_daily v_begin v_round v_leastFar v_leastWhere v_mostLed a_heardNow v_firstMove v_at v_sort v_from v_value v_fault a_bitsOf a_sizeOf a_number a_passing, aA cI a_d 40 f_d, aA cI a_found 7 f_found]) (wr := [aA cI a_found 7 f_found]) C hV (k_X7_farOf l dC dI cI cB cO n0 H.size a_t a_d a_e a_kept a_found a_tape a_hears a_near a_firstDay a_daily a_heardNow a_bitsOf a_sizeOf a_number a_passing v_isKept v_taped v_gone v_begin v_round v_leastFar v_leastWhere v_mostLed v_firstMove v_at v_sort v_from v_value v_fault f_d x7 x8 hc) mdX7_farOf gX7_far_X7_farOf rfl rfl ⟨Nat.le_of_ble_eq_true rfl, Nat.le_of_ble_eq_true rfl⟩ [0, 1] [2] [1, 2, 0] rfl rfl rfl rfl rfl rfl rfl rfl rfl rfl hl.1 (Nat.le_of_ble_eq_true rfl) rfl dX7_far_27 (fun H locs hV => ?_)
  refine lv_goto (tgt := 38) C.1 C.2.1 dX7_far_30 rfl ?_
  exact hret (x9, f_found) _ _ _ _ dX7_far_38 hF hV
abbrev rmX7_nearest : Room := { frames := 3, cells := 0, slots := 0, locals := 70 }
theorem mdX7_nearest : gMd yX7_nearest wsX7_nearest cX7_nearest 3 (some .int) 1 := ⟨⟨_, rfl⟩, by decide +kernel⟩
theorem flX7_nearest_7 : gFL wsX7_nearest RX7 7 7 0 RX7 TX7 28 := ⟨rfl, fun w h => List.mem_cons_of_mem _ (List.mem_append_right _ (h)), Nat.le_of_ble_eq_true rfl, List.mem_cons_of_mem _ (List.mem_append_left _ (List.mem_append_left _ (List.mem_of_getElem? (i := 0) rfl)))⟩
def F_X7_nearest (n0 : Nat) (v_gone : Int32) (f_d : Nat → Int32) (f_found : Nat → Int32) (p1 : Int32) : Option (Int32 × (Nat → Int32)) := bd1 (F_X7_isTent n0 f_d p1) (fun x1 => (if x1 = 0 then bd2 (F_X7_finds n0 f_found 0) (fun x6 g7 => some (x6, g7)) else rd f_d 40 0 (fun x2 => bd1 (F_X7_nearestOf n0 v_gone f_d p1 x2) (fun x3 => (if x3 = ((-1)) then bd2 (F_X7_finds n0 f_found 3) (fun x4 g5 => some (x4, g5)) else some (x3, f_found))))))
set_option maxRecDepth 100000 in
set_option maxHeartbeats 4000000 in
theorem k_X7_nearest (l : Launch) (dC : Nat → ClassId) (dI : Nat → Nat → Nat) (cI cB cO : ClassId) (n0 sz : Nat) (a_t : Nat) (a_d : Nat) (a_e : Nat) (a_kept : Nat) (a_found : Nat) (a_tape : Nat) (a_hears : Nat) (a_near : Nat) (a_firstDay : Nat) (a_daily : Nat) (a_heardNow : Nat) (a_bitsOf : Nat) (a_sizeOf : Nat) (a_number : Nat) (a_passing : Nat)   (v_isKept : Int32) (v_taped : Int32) (v_gone : Int32) (v_begin : Int32) (v_round : Int32) (v_leastFar : Int32) (v_leastWhere : Int32) (v_mostLed : Int32) (v_firstMove : Int32) (v_at : Int32) (v_sort : Int32) (v_from : Int32) (v_value : Int64) (v_fault : Int32) (f_d : Nat → Int32) (f_found : Nat → Int32) (p1 : Int32)  {ro : Int32} {o0 : Nat → Int32} (hF : F_X7_nearest n0 v_gone f_d f_found p1 = some (ro, o0)) : Met l yX7_nearest wsX7_nearest rmX7_nearest (va_Pc [.ref a_t, .int p1] (gPre (dC, dI) (gT cI cB cO) sz [oX7 a_t a_d a_e a_kept v_isKept a_found a_tape v_taped v_gone a_hears a_near a_firstDay a_daily v_begin v_round v_leastFar v_leastWhere v_mostLed a_heardNow v_firstMove v_at v_sort v_from v_value v_fault a_bitsOf a_sizeOf a_number a_passing, aA cI a_d 40 f_d, aA cI a_found 7 f_found])) (gQi (dC, dI) (gT cI cB cO) sz [oX7 a_t a_d a_e a_kept v_isKept a_found a_tape v_taped v_gone a_hears a_near a_firstDay a_daily v_begin v_round v_leastFar v_leastWhere v_mostLed a_heardNow v_firstMove v_at v_sort v_from v_value v_fault a_bitsOf a_sizeOf a_number a_passing, aA cI a_d 40 f_d, aA cI a_found 7 f_found] ro [oX7 a_t a_d a_e a_kept v_isKept a_found a_tape v_taped v_gone a_hears a_near a_firstDay a_daily v_begin v_round v_leastFar v_leastWhere v_mostLed a_heardNow v_firstMove v_at v_sort v_from v_value v_fault a_bitsOf a_sizeOf a_number a_passing, aA cI a_d 40 f_d, aA cI a_found 7 o0]) 0 0 (va_A [oX7 a_t a_d a_e a_kept v_isKept a_found a_tape v_taped v_gone a_hears a_near a_firstDay a_daily v_begin v_round v_leastFar v_leastWhere v_mostLed a_heardNow v_firstMove v_at v_sort v_from v_value v_fault a_bitsOf a_sizeOf a_number a_passing, aA cI a_d 40 f_d, aA cI a_found 7 f_found] sz) := by
  refine g_metI (Out := Int32 × (Nat → Int32)) (fun oo => oo.1) (fun oo => [oX7 a_t a_d a_e a_kept v_isKept a_found a_tape v_taped v_gone a_hears a_near a_firstDay a_daily v_begin v_round v_leastFar v_leastWhere v_mostLed a_heardNow v_firstMove v_at v_sort v_from v_value v_fault a_bitsOf a_sizeOf a_number a_passing, aA cI a_d 40 f_d, aA cI a_found 7 oo.2]) (ro, o0) (own := RX7) (lv := [(0, .ref a_t), (1, .int p1)]) (by decide) rfl rfl (Nat.le_of_ble_eq_true rfl) rfl ?_
  intro p e s m args below meth c Q ls C hret hV hl
  obtain ⟨out, hout⟩ : ∃ z : Int32 × (Nat → Int32), z = (ro, o0) := ⟨_, rfl⟩
  rw [← hout] at hF hret
  obtain ⟨H0, hH0⟩ : ∃ z : Heap, z = s.heap := ⟨_, rfl⟩
  obtain ⟨A0, hA0⟩ : ∃ z : Nat → Prop, z = va_A [oX7 a_t a_d a_e a_kept v_isKept a_found a_tape v_taped v_gone a_hears a_near a_firstDay a_daily v_begin v_round v_leastFar v_leastWhere v_mostLed a_heardNow v_firstMove v_at v_sort v_from v_value v_fault a_bitsOf a_sizeOf a_number a_passing, aA cI a_d 40 f_d, aA cI a_found 7 f_found] s.heap.size := ⟨_, rfl⟩
  rw [← hA0] at hret hV
  rw [← hH0] at hret hV
  rw [← hH0]
  obtain ⟨H, locs, hH⟩ : ∃ (z : Heap) (y : List Loc), z = H0 ∧ y = [] := ⟨_, _, rfl, rfl⟩
  rw [← hH.1, ← hH.2]
  have hV : gV (dC, dI) (gT cI cB cO) A0 H0 s [oX7 a_t a_d a_e a_kept v_isKept a_found a_tape v_taped v_gone a_hears a_near a_firstDay a_daily v_begin v_round v_leastFar v_leastWhere v_mostLed a_heardNow v_firstMove v_at v_sort v_from v_value v_fault a_bitsOf a_sizeOf a_number a_passing, aA cI a_d 40 f_d, aA cI a_found 7 f_found] H locs := by rw [hH.1, hH.2]; exact hV
  unfold F_X7_nearest at hF
  refine lv_aload_n C.1 C.2.1 dX7_nearest_0 rfl (lv_at hl 0 rfl) ?_
  refine lv_iload_n C.1 C.2.1 dX7_nearest_1 rfl (lv_at hl 1 rfl) ?_
  obtain ⟨x1, hc, hF⟩ := bd1_s hF
  refine g_cVi (ws' := [oX7 a_t a_d a_e a_kept v_isKept a_found a_tape v_taped v_gone a_hears a_near a_firstDay a_daily v_begin v_round v_leastFar v_leastWhere v_mostLed a_heardNow v_firstMove v_at v_sort v_from v_value v_fault a_bitsOf a_sizeOf a_number a_passing, aA cI a_d 40 f_d, aA cI a_found 7 f_found]) (wr := [aA cI a_found 7 f_found]) C hV (k_X7_isTent l dC dI cI cB cO n0 H.size a_t a_d a_e a_kept a_found a_tape a_hears a_near a_firstDay a_daily a_heardNow a_bitsOf a_sizeOf a_number a_passing v_isKept v_taped v_gone v_begin v_round v_leastFar v_leastWhere v_mostLed v_firstMove v_at v_sort v_from v_value v_fault f_d p1 hc) mdX7_isTent gX7_nearest_X7_isTent rfl rfl ⟨Nat.le_of_ble_eq_true rfl, Nat.le_of_ble_eq_true rfl⟩ [0, 1] [2] [1, 2, 0] rfl rfl rfl rfl rfl rfl rfl rfl rfl rfl hl.1 (Nat.le_of_ble_eq_true rfl) rfl dX7_nearest_2 (fun H locs hV => ?_)
  refine g_if_ne (tgt := 14) C hF dX7_nearest_5 rfl (fun hF => ?_) (fun hF => ?_)
  · refine lv_aload_n C.1 C.2.1 dX7_nearest_14 rfl (lv_at hl 0 rfl) ?_
    refine lv_iload_n C.1 C.2.1 dX7_nearest_15 rfl (lv_at hl 1 rfl) ?_
    refine lv_aload_n C.1 C.2.1 dX7_nearest_16 rfl (lv_at hl 0 rfl) ?_
    refine g_get C hV flX7_nearest_7 0 rfl rfl dX7_nearest_17 ?_
    refine lv_iconst (v := 0) C.1 C.2.1 dX7_nearest_20 rfl ?_
    refine g_iald C hV 1 rfl hF dX7_nearest_21 (fun x2 hF => ?_)
    obtain ⟨x3, hc, hF⟩ := bd1_s hF
    refine g_cVi (ws' := [oX7 a_t a_d a_e a_kept v_isKept a_found a_tape v_taped v_gone a_hears a_near a_firstDay a_daily v_begin v_round v_leastFar v_leastWhere v_mostLed a_heardNow v_firstMove v_at v_sort v_from v_value v_fault a_bitsOf a_sizeOf a_number a_passing, aA cI a_d 40 f_d, aA cI a_found 7 f_found]) (wr := [aA cI a_found 7 f_found]) C hV (k_X7_nearestOf l dC dI cI cB cO n0 H.size a_t a_d a_e a_kept a_found a_tape a_hears a_near a_firstDay a_daily a_heardNow a_bitsOf a_sizeOf a_number a_passing v_isKept v_taped v_gone v_begin v_round v_leastFar v_leastWhere v_mostLed v_firstMove v_at v_sort v_from v_value v_fault f_d p1 x2 hc) mdX7_nearestOf gX7_nearest_X7_nearestOf rfl rfl ⟨Nat.le_of_ble_eq_true rfl, Nat.le_of_ble_eq_true rfl⟩ [0, 1] [2] [1, 2, 0] rfl rfl rfl rfl rfl rfl rfl rfl rfl rfl hl.1 (Nat.le_of_ble_eq_true rfl) rfl dX7_nearest_22 (fun H locs hV => ?_)
    refine lv_istore_n (lv' := [(2, .int x3), (0, .ref a_t), (1, .int p1)]) C.1 C.2.1 dX7_nearest_25 rfl hl (by decide) rfl (fun ls hl => ?_)
    refine lv_iload_n C.1 C.2.1 dX7_nearest_26 rfl (lv_at hl 0 rfl) ?_
    refine lv_iconst (v := (-1)) C.1 C.2.1 dX7_nearest_27 rfl ?_
    refine g_icmp_ne (tgt := 39) C hF dX7_nearest_28 rfl (fun hF => ?_) (fun hF => ?_)
    · refine lv_iload_n C.1 C.2.1 dX7_nearest_39 rfl (lv_at hl 0 rfl) ?_
      exact hret (x3, f_found) _ _ _ _ dX7_nearest_40 hF hV
    refine lv_aload_n C.1 C.2.1 dX7_nearest_31 rfl (lv_at hl 1 rfl) ?_
    refine lv_iconst (v := 3) C.1 C.2.1 dX7_nearest_32 rfl ?_
    obtain ⟨x4, g5, hc, hF⟩ := bd2_s hF
    refine g_cVi (ws' := [oX7 a_t a_d a_e a_kept v_isKept a_found a_tape v_taped v_gone a_hears a_near a_firstDay a_daily v_begin v_round v_leastFar v_leastWhere v_mostLed a_heardNow v_firstMove v_at v_sort v_from v_value v_fault a_bitsOf a_sizeOf a_number a_passing, aA cI a_d 40 f_d, aA cI a_found 7 g5]) (wr := [aA cI a_d 40 f_d]) C hV (k_X7_finds l dC dI cI cB cO n0 H.size a_t a_d a_e a_kept a_found a_tape a_hears a_near a_firstDay a_daily a_heardNow a_bitsOf a_sizeOf a_number a_passing v_isKept v_taped v_gone v_begin v_round v_leastFar v_leastWhere v_mostLed v_firstMove v_at v_sort v_from v_value v_fault f_found 3 hc) mdX7_finds gX7_nearest_X7_finds rfl rfl ⟨Nat.le_of_ble_eq_true rfl, Nat.le_of_ble_eq_true rfl⟩ [0, 2] [1] [1, 0, 2] rfl rfl rfl rfl rfl rfl rfl rfl rfl rfl hl.1 (Nat.le_of_ble_eq_true rfl) rfl dX7_nearest_33 (fun H locs hV => ?_)
    refine lv_goto (tgt := 40) C.1 C.2.1 dX7_nearest_36 rfl ?_
    exact hret (x4, g5) _ _ _ _ dX7_nearest_40 hF hV
  refine lv_aload_n C.1 C.2.1 dX7_nearest_8 rfl (lv_at hl 0 rfl) ?_
  refine lv_iconst (v := 0) C.1 C.2.1 dX7_nearest_9 rfl ?_
  obtain ⟨x6, g7, hc, hF⟩ := bd2_s hF
  refine g_cVi (ws' := [oX7 a_t a_d a_e a_kept v_isKept a_found a_tape v_taped v_gone a_hears a_near a_firstDay a_daily v_begin v_round v_leastFar v_leastWhere v_mostLed a_heardNow v_firstMove v_at v_sort v_from v_value v_fault a_bitsOf a_sizeOf a_number a_passing, aA cI a_d 40 f_d, aA cI a_found 7 g7]) (wr := [aA cI a_d 40 f_d]) C hV (k_X7_finds l dC dI cI cB cO n0 H.size a_t a_d a_e a_kept a_found a_tape a_hears a_near a_firstDay a_daily a_heardNow a_bitsOf a_sizeOf a_number a_passing v_isKept v_taped v_gone v_begin v_round v_leastFar v_leastWhere v_mostLed v_firstMove v_at v_sort v_from v_value v_fault f_found 0 hc) mdX7_finds gX7_nearest_X7_finds rfl rfl ⟨Nat.le_of_ble_eq_true rfl, Nat.le_of_ble_eq_true rfl⟩ [0, 2] [1] [1, 0, 2] rfl rfl rfl rfl rfl rfl rfl rfl rfl rfl hl.1 (Nat.le_of_ble_eq_true rfl) rfl dX7_nearest_10 (fun H locs hV => ?_)
  exact hret (x6, g7) _ _ _ _ dX7_nearest_13 hF hV
abbrev rmX7_hearing : Room := { frames := 4, cells := 0, slots := 0, locals := 92 }
theorem mdX7_hearing : gMd yX7_hearing wsX7_hearing cX7_hearing 4 (some .int) 1 := ⟨⟨_, rfl⟩, by decide +kernel⟩
theorem flX7_hearing_7 : gFL wsX7_hearing RX7 7 7 0 RX7 TX7 28 := ⟨rfl, fun w h => List.mem_cons_of_mem _ (List.mem_append_right _ (h)), Nat.le_of_ble_eq_true rfl, List.mem_cons_of_mem _ (List.mem_append_left _ (List.mem_append_left _ (List.mem_of_getElem? (i := 0) rfl)))⟩
theorem flX7_hearing_30 : gFL wsX7_hearing RX7 30 7 8 RX7 TX7 28 := ⟨rfl, fun w h => List.mem_cons_of_mem _ (List.mem_append_right _ (h)), Nat.le_of_ble_eq_true rfl, List.mem_cons_of_mem _ (List.mem_append_left _ (List.mem_append_left _ (List.mem_of_getElem? (i := 1) rfl)))⟩
def L_X7_hearing_22 (f_d : Nat → Int32) (f_found : Nat → Int32) (g2 : Nat → Int32) (g3 : Nat → Int32) (p1 : Int32) : Nat → Int32 → Int32 → Option (Int32 × (Nat → Int32) × (Nat → Int32) × (Nat → Int32)) := lpp2 (fun s4 s5 kk22 => rd f_d 40 0 (fun x6 => (if x6 ≤ s5 then some (s4, f_found, g2, g3) else rd g2 10 s5 (fun x7 => (if x7 = p1 then nm (1 <<< (s5 &&& 31)) (fun x10 => nm (s4 ||| x10) (fun x11 => nm (s5 + 1) (fun x12 => kk22 x11 x12))) else nm (s4 ||| 0) (fun x8 => nm (s5 + 1) (fun x9 => kk22 x8 x9)))))))
def F_X7_hearing (n0 : Nat) (v_gone : Int32) (f_d : Nat → Int32) (f_found : Nat → Int32) (f_hears : Nat → Int32) (f_near : Nat → Int32) (p1 : Int32) : Option (Int32 × (Nat → Int32) × (Nat → Int32) × (Nat → Int32)) := bd1 (F_X7_isTent n0 f_d p1) (fun x1 => (if x1 = 0 then bd2 (F_X7_finds n0 f_found 0) (fun x13 g14 => some (x13, g14, f_hears, f_near)) else bd2 (F_X7_listen n0 v_gone f_d f_hears f_near) (fun g2 g3 => L_X7_hearing_22 f_d f_found g2 g3 p1 n0 0 0)))
set_option maxRecDepth 100000 in
set_option maxHeartbeats 4000000 in
theorem k_X7_hearing (l : Launch) (dC : Nat → ClassId) (dI : Nat → Nat → Nat) (cI cB cO : ClassId) (n0 sz : Nat) (a_t : Nat) (a_d : Nat) (a_e : Nat) (a_kept : Nat) (a_found : Nat) (a_tape : Nat) (a_hears : Nat) (a_near : Nat) (a_firstDay : Nat) (a_daily : Nat) (a_heardNow : Nat) (a_bitsOf : Nat) (a_sizeOf : Nat) (a_number : Nat) (a_passing : Nat)   (v_isKept : Int32) (v_taped : Int32) (v_gone : Int32) (v_begin : Int32) (v_round : Int32) (v_leastFar : Int32) (v_leastWhere : Int32) (v_mostLed : Int32) (v_firstMove : Int32) (v_at : Int32) (v_sort : Int32) (v_from : Int32) (v_value : Int64) (v_fault : Int32) (f_d : Nat → Int32) (f_found : Nat → Int32) (f_hears : Nat → Int32) (f_near : Nat → Int32) (p1 : Int32)  {ro : Int32} {o0 : Nat → Int32} {o1 : Nat → Int32} {o2 : Nat → Int32} (hF : F_X7_hearing n0 v_gone f_d f_found f_hears f_near p1 = some (ro, o0, o1, o2)) : Met l yX7_hearing wsX7_hearing rmX7_hearing (va_Pc [.ref a_t, .int p1] (gPre (dC, dI) (gT cI cB cO) sz [oX7 a_t a_d a_e a_kept v_isKept a_found a_tape v_taped v_gone a_hears a_near a_firstDay a_daily v_begin v_round v_leastFar v_leastWhere v_mostLed a_heardNow v_firstMove v_at v_sort v_from v_value v_fault a_bitsOf a_sizeOf a_number a_passing, aA cI a_d 40 f_d, aA cI a_found 7 f_found, aA cI a_hears 10 f_hears, aA cI a_near 10 f_near])) (gQi (dC, dI) (gT cI cB cO) sz [oX7 a_t a_d a_e a_kept v_isKept a_found a_tape v_taped v_gone a_hears a_near a_firstDay a_daily v_begin v_round v_leastFar v_leastWhere v_mostLed a_heardNow v_firstMove v_at v_sort v_from v_value v_fault a_bitsOf a_sizeOf a_number a_passing, aA cI a_d 40 f_d, aA cI a_found 7 f_found, aA cI a_hears 10 f_hears, aA cI a_near 10 f_near] ro [oX7 a_t a_d a_e a_kept v_isKept a_found a_tape v_taped v_gone a_hears a_near a_firstDay a_daily v_begin v_round v_leastFar v_leastWhere v_mostLed a_heardNow v_firstMove v_at v_sort v_from v_value v_fault a_bitsOf a_sizeOf a_number a_passing, aA cI a_d 40 f_d, aA cI a_found 7 o0, aA cI a_hears 10 o1, aA cI a_near 10 o2]) 0 0 (va_A [oX7 a_t a_d a_e a_kept v_isKept a_found a_tape v_taped v_gone a_hears a_near a_firstDay a_daily v_begin v_round v_leastFar v_leastWhere v_mostLed a_heardNow v_firstMove v_at v_sort v_from v_value v_fault a_bitsOf a_sizeOf a_number a_passing, aA cI a_d 40 f_d, aA cI a_found 7 f_found, aA cI a_hears 10 f_hears, aA cI a_near 10 f_near] sz) := by
  refine g_metI (Out := Int32 × (Nat → Int32) × (Nat → Int32) × (Nat → Int32)) (fun oo => oo.1) (fun oo => [oX7 a_t a_d a_e a_kept v_isKept a_found a_tape v_taped v_gone a_hears a_near a_firstDay a_daily v_begin v_round v_leastFar v_leastWhere v_mostLed a_heardNow v_firstMove v_at v_sort v_from v_value v_fault a_bitsOf a_sizeOf a_number a_passing, aA cI a_d 40 f_d, aA cI a_found 7 oo.2.1, aA cI a_hears 10 oo.2.2.1, aA cI a_near 10 oo.2.2.2]) (ro, o0, o1, o2) (own := RX7) (lv := [(0, .ref a_t), (1, .int p1)]) (by decide) rfl rfl (Nat.le_of_ble_eq_true rfl) rfl ?_
  intro p e s m args below meth c Q ls C hret hV hl
  obtain ⟨out, hout⟩ : ∃ z : Int32 × (Nat → Int32) × (Nat → Int32) × (Nat → Int32), z = (ro, o0, o1, o2) := ⟨_, rfl⟩
  rw [← hout] at hF hret
  obtain ⟨H0, hH0⟩ : ∃ z : Heap, z = s.heap := ⟨_, rfl⟩
  obtain ⟨A0, hA0⟩ : ∃ z : Nat → Prop, z = va_A [oX7 a_t a_d a_e a_kept v_isKept a_found a_tape v_taped v_gone a_hears a_near a_firstDay a_daily v_begin v_round v_leastFar v_leastWhere v_mostLed a_heardNow v_firstMove v_at v_sort v_from v_value v_fault a_bitsOf a_sizeOf a_number a_passing, aA cI a_d 40 f_d, aA cI a_found 7 f_found, aA cI a_hears 10 f_hears, aA cI a_near 10 f_near] s.heap.size := ⟨_, rfl⟩
  rw [← hA0] at hret hV
  rw [← hH0] at hret hV
  rw [← hH0]
  obtain ⟨H, locs, hH⟩ : ∃ (z : Heap) (y : List Loc), z = H0 ∧ y = [] := ⟨_, _, rfl, rfl⟩
  rw [← hH.1, ← hH.2]
  have hV : gV (dC, dI) (gT cI cB cO) A0 H0 s [oX7 a_t a_d a_e a_kept v_isKept a_found a_tape v_taped v_gone a_hears a_near a_firstDay a_daily v_begin v_round v_leastFar v_leastWhere v_mostLed a_heardNow v_firstMove v_at v_sort v_from v_value v_fault a_bitsOf a_sizeOf a_number a_passing, aA cI a_d 40 f_d, aA cI a_found 7 f_found, aA cI a_hears 10 f_hears, aA cI a_near 10 f_near] H locs := by rw [hH.1, hH.2]; exact hV
  unfold F_X7_hearing at hF
  refine lv_aload_n C.1 C.2.1 dX7_hearing_0 rfl (lv_at hl 0 rfl) ?_
  refine lv_iload_n C.1 C.2.1 dX7_hearing_1 rfl (lv_at hl 1 rfl) ?_
  obtain ⟨x1, hc, hF⟩ := bd1_s hF
  refine g_cVi (ws' := [oX7 a_t a_d a_e a_kept v_isKept a_found a_tape v_taped v_gone a_hears a_near a_firstDay a_daily v_begin v_round v_leastFar v_leastWhere v_mostLed a_heardNow v_firstMove v_at v_sort v_from v_value v_fault a_bitsOf a_sizeOf a_number a_passing, aA cI a_d 40 f_d, aA cI a_found 7 f_found, aA cI a_hears 10 f_hears, aA cI a_near 10 f_near]) (wr := [aA cI a_found 7 f_found, aA cI a_hears 10 f_hears, aA cI a_near 10 f_near]) C hV (k_X7_isTent l dC dI cI cB cO n0 H.size a_t a_d a_e a_kept a_found a_tape a_hears a_near a_firstDay a_daily a_heardNow a_bitsOf a_sizeOf a_number a_passing v_isKept v_taped v_gone v_begin v_round v_leastFar v_leastWhere v_mostLed v_firstMove v_at v_sort v_from v_value v_fault f_d p1 hc) mdX7_isTent gX7_hearing_X7_isTent rfl rfl ⟨Nat.le_of_ble_eq_true rfl, Nat.le_of_ble_eq_true rfl⟩ [0, 1] [2, 3, 4] [3, 4, 0, 1, 2] rfl rfl rfl rfl rfl rfl rfl rfl rfl rfl hl.1 (Nat.le_of_ble_eq_true rfl) rfl dX7_hearing_2 (fun H locs hV => ?_)
  refine g_if_ne (tgt := 14) C hF dX7_hearing_5 rfl (fun hF => ?_) (fun hF => ?_)
  · refine lv_aload_n C.1 C.2.1 dX7_hearing_14 rfl (lv_at hl 0 rfl) ?_
    obtain ⟨g2, g3, hc, hF⟩ := bd2_s hF
    refine g_cVv (ws' := [oX7 a_t a_d a_e a_kept v_isKept a_found a_tape v_taped v_gone a_hears a_near a_firstDay a_daily v_begin v_round v_leastFar v_leastWhere v_mostLed a_heardNow v_firstMove v_at v_sort v_from v_value v_fault a_bitsOf a_sizeOf a_number a_passing, aA cI a_d 40 f_d, aA cI a_found 7 f_found, aA cI a_hears 10 g2, aA cI a_near 10 g3]) (wr := [aA cI a_found 7 f_found]) C hV (k_X7_listen l dC dI cI cB cO n0 H.size a_t a_d a_e a_kept a_found a_tape a_hears a_near a_firstDay a_daily a_heardNow a_bitsOf a_sizeOf a_number a_passing v_isKept v_taped v_gone v_begin v_round v_leastFar v_leastWhere v_mostLed v_firstMove v_at v_sort v_from v_value v_fault f_d f_hears f_near hc) mdX7_listen gX7_hearing_X7_listen rfl rfl ⟨Nat.le_of_ble_eq_true rfl, Nat.le_of_ble_eq_true rfl⟩ [0, 1, 3, 4] [2] [1, 2, 0, 3, 4] rfl rfl rfl rfl rfl rfl rfl rfl rfl rfl hl.1 (Nat.le_of_ble_eq_true rfl) rfl dX7_hearing_15 (fun H locs hV => ?_)
    refine lv_iconst (v := 0) C.1 C.2.1 dX7_hearing_18 rfl ?_
    refine lv_istore_n (lv' := [(2, .int 0), (0, .ref a_t), (1, .int p1)]) C.1 C.2.1 dX7_hearing_19 rfl hl (by decide) rfl (fun ls hl => ?_)
    refine lv_iconst (v := 0) C.1 C.2.1 dX7_hearing_20 rfl ?_
    refine lv_istore_n (lv' := [(3, .int 0), (2, .int 0), (0, .ref a_t), (1, .int p1)]) C.1 C.2.1 dX7_hearing_21 rfl hl (by decide) rfl (fun ls hl => ?_)
    have hL22 : ∀ (n : Nat) (s4 : Int32) (s5 : Int32) (H : Heap) (locs : List Loc) (ls : Array Slot), gV (dC, dI) (gT cI cB cO) A0 H0 s [oX7 a_t a_d a_e a_kept v_isKept a_found a_tape v_taped v_gone a_hears a_near a_firstDay a_daily v_begin v_round v_leastFar v_leastWhere v_mostLed a_heardNow v_firstMove v_at v_sort v_from v_value v_fault a_bitsOf a_sizeOf a_number a_passing, aA cI a_d 40 f_d, aA cI a_found 7 f_found, aA cI a_hears 10 g2, aA cI a_near 10 g3] H locs → lv_has ls 4 [(0, .ref a_t), (1, .int p1), (2, .int s4), (3, .int s5)] → L_X7_hearing_22 f_d f_found g2 g3 p1 n s4 s5 = some out → W p l e rmX7_hearing s m args below meth c H locs 0 0 Q (F0 m 22 ls []) := by
      intro n
      induction n with
      | zero => intro s4 s5 H locs ls hV hl hF; exact lpp2_z hF
      | succ n ih22 =>
        intro s4 s5 H locs ls hV hl hF
        obtain ⟨kk22, hk22, hF⟩ := lpp2_g hF
        have hq22 : ∀ (s4 : Int32) (s5 : Int32), kk22 s4 s5 = some out → L_X7_hearing_22 f_d f_found g2 g3 p1 n s4 s5 = some out := fun _ _ h => by rw [hk22] at h; exact h
        refine lv_iload_n C.1 C.2.1 dX7_hearing_22 rfl (lv_at hl 3 rfl) ?_
        refine lv_aload_n C.1 C.2.1 dX7_hearing_23 rfl (lv_at hl 0 rfl) ?_
        refine g_get C hV flX7_hearing_7 0 rfl rfl dX7_hearing_24 ?_
        refine lv_iconst (v := 0) C.1 C.2.1 dX7_hearing_27 rfl ?_
        refine g_iald C hV 1 rfl hF dX7_hearing_28 (fun x6 hF => ?_)
        refine g_icmp_ge (tgt := 58) C hF dX7_hearing_29 rfl (fun hF => ?_) (fun hF => ?_)
        · refine lv_iload_n C.1 C.2.1 dX7_hearing_58 rfl (lv_at hl 2 rfl) ?_
          exact hret (s4, f_found, g2, g3) _ _ _ _ dX7_hearing_59 hF hV
        refine lv_iload_n C.1 C.2.1 dX7_hearing_32 rfl (lv_at hl 2 rfl) ?_
        refine lv_aload_n C.1 C.2.1 dX7_hearing_33 rfl (lv_at hl 0 rfl) ?_
        refine g_get C hV flX7_hearing_30 0 rfl rfl dX7_hearing_34 ?_
        refine lv_iload_n C.1 C.2.1 dX7_hearing_37 rfl (lv_at hl 3 rfl) ?_
        refine g_iald C hV 3 rfl hF dX7_hearing_38 (fun x7 hF => ?_)
        refine lv_iload_n C.1 C.2.1 dX7_hearing_39 rfl (lv_at hl 1 rfl) ?_
        refine g_icmp_ne (tgt := 49) C hF dX7_hearing_40 rfl (fun hF => ?_) (fun hF => ?_)
        · refine lv_iconst (v := 0) C.1 C.2.1 dX7_hearing_49 rfl ?_
          refine g_ior C hF dX7_hearing_50 (fun x8 hF => ?_)
          refine lv_istore_n (lv' := [(2, .int x8), (0, .ref a_t), (1, .int p1), (3, .int s5)]) C.1 C.2.1 dX7_hearing_51 rfl hl (by decide) rfl (fun ls hl => ?_)
          refine g_iinc C hF dX7_hearing_52 (d := 1) rfl hl (j := 3) rfl (by decide) (fun y => [(3, .int y), (2, .int x8), (0, .ref a_t), (1, .int p1)]) (fun _ => rfl) (fun x9 ls hF hl => ?_)
          refine lv_goto (tgt := 22) C.1 C.2.1 dX7_hearing_55 rfl ?_
          exact ih22 x8 x9 H locs ls hV (lv_sub hl [2, 3, 1, 0] rfl) (hq22 x8 x9 hF)
        refine lv_iconst (v := 1) C.1 C.2.1 dX7_hearing_43 rfl ?_
        refine lv_iload_n C.1 C.2.1 dX7_hearing_44 rfl (lv_at hl 3 rfl) ?_
        refine g_ishl C hF dX7_hearing_45 (fun x10 hF => ?_)
        refine lv_goto (tgt := 50) C.1 C.2.1 dX7_hearing_46 rfl ?_
        refine g_ior C hF dX7_hearing_50 (fun x11 hF => ?_)
        refine lv_istore_n (lv' := [(2, .int x11), (0, .ref a_t), (1, .int p1), (3, .int s5)]) C.1 C.2.1 dX7_hearing_51 rfl hl (by decide) rfl (fun ls hl => ?_)
        refine g_iinc C hF dX7_hearing_52 (d := 1) rfl hl (j := 3) rfl (by decide) (fun y => [(3, .int y), (2, .int x11), (0, .ref a_t), (1, .int p1)]) (fun _ => rfl) (fun x12 ls hF hl => ?_)
        refine lv_goto (tgt := 22) C.1 C.2.1 dX7_hearing_55 rfl ?_
        exact ih22 x11 x12 H locs ls hV (lv_sub hl [2, 3, 1, 0] rfl) (hq22 x11 x12 hF)
    exact hL22 n0 0 0 H locs ls hV (lv_sub hl [2, 3, 1, 0] rfl) hF
  refine lv_aload_n C.1 C.2.1 dX7_hearing_8 rfl (lv_at hl 0 rfl) ?_
  refine lv_iconst (v := 0) C.1 C.2.1 dX7_hearing_9 rfl ?_
  obtain ⟨x13, g14, hc, hF⟩ := bd2_s hF
  refine g_cVi (ws' := [oX7 a_t a_d a_e a_kept v_isKept a_found a_tape v_taped v_gone a_hears a_near a_firstDay a_daily v_begin v_round v_leastFar v_leastWhere v_mostLed a_heardNow v_firstMove v_at v_sort v_from v_value v_fault a_bitsOf a_sizeOf a_number a_passing, aA cI a_d 40 f_d, aA cI a_found 7 g14, aA cI a_hears 10 f_hears, aA cI a_near 10 f_near]) (wr := [aA cI a_d 40 f_d, aA cI a_hears 10 f_hears, aA cI a_near 10 f_near]) C hV (k_X7_finds l dC dI cI cB cO n0 H.size a_t a_d a_e a_kept a_found a_tape a_hears a_near a_firstDay a_daily a_heardNow a_bitsOf a_sizeOf a_number a_passing v_isKept v_taped v_gone v_begin v_round v_leastFar v_leastWhere v_mostLed v_firstMove v_at v_sort v_from v_value v_fault f_found 0 hc) mdX7_finds gX7_hearing_X7_finds rfl rfl ⟨Nat.le_of_ble_eq_true rfl, Nat.le_of_ble_eq_true rfl⟩ [0, 2] [1, 3, 4] [3, 0, 4, 1, 2] rfl rfl rfl rfl rfl rfl rfl rfl rfl rfl hl.1 (Nat.le_of_ble_eq_true rfl) rfl dX7_hearing_10 (fun H locs hV => ?_)
  exact hret (x13, g14, f_hears, f_near) _ _ _ _ dX7_hearing_13 hF hV
abbrev rmX7_days : Room := { frames := 4, cells := 0, slots := 0, locals := 92 }
theorem mdX7_days : gMd yX7_days wsX7_days cX7_days 2 (some .int) 1 := ⟨⟨_, rfl⟩, by decide +kernel⟩
theorem ctX7_days_138 : Cond.constantLong RX7 138 100000 ∈ wsX7_days := List.mem_cons_of_mem _ (List.mem_append_left _ (List.mem_append_left _ (List.mem_of_getElem? (i := 0) rfl)))
theorem flX7_days_7 : gFL wsX7_days RX7 7 7 0 RX7 TX7 28 := ⟨rfl, fun w h => List.mem_cons_of_mem _ (List.mem_append_right _ (h)), Nat.le_of_ble_eq_true rfl, List.mem_cons_of_mem _ (List.mem_append_left _ (List.mem_append_left _ (List.mem_of_getElem? (i := 1) rfl)))⟩
theorem ctX7_days_140 : Cond.constant RX7 140 999999999 ∈ wsX7_days := List.mem_cons_of_mem _ (List.mem_append_left _ (List.mem_append_left _ (List.mem_of_getElem? (i := 2) rfl)))
def F_X7_days (n0 : Nat) (v_gone : Int32) (v_begin : Int32) (v_round : Int32) (f_d : Nat → Int32) (f_daily : Nat → Int32) (f_firstDay : Nat → Int32) (f_found : Nat → Int32) (f_hears : Nat → Int32) (f_near : Nat → Int32) (p1 : Int32) : Option (Int32 × Int32 × Int32 × (Nat → Int32) × (Nat → Int32) × (Nat → Int32) × (Nat → Int32) × (Nat → Int32) × (Nat → Int32)) := nm (p1.toInt64) (fun x1 => bd1 (F_X7_in n0 x1 1 100000) (fun x2 => (if x2 = 0 then bd2 (F_X7_finds n0 f_found 0) (fun x21 g22 => some (x21, v_begin, v_round, f_d, f_daily, f_firstDay, g22, f_hears, f_near)) else rd f_d 40 1 (fun x3 => nm (x3 + p1) (fun x4 => (if x4 ≤ 999999999 then bd2 (F_X7_listen n0 v_gone f_d f_hears f_near) (fun g5 g6 => rd f_d 40 6 (fun x7 => bd4 (F_X7_goThrough n0 v_begin v_round f_d f_daily f_firstDay g5 g6 x7) (fun x8 x9 g10 g11 => bd1 (F_X7_saidBehind n0 x8 x9 g10 p1) (fun x12 => wrt f_d 40 6 x12 (fun g13 => rd g13 40 1 (fun x14 => nm (x14 + p1) (fun x15 => wrt g13 40 1 x15 (fun g16 => rd g16 40 6 (fun x17 => bd1 (F_X7_ones n0 x17) (fun x18 => some (x18, x8, x9, g16, g10, g11, f_found, g5, g6))))))))))) else bd2 (F_X7_finds n0 f_found 4) (fun x19 g20 => some (x19, v_begin, v_round, f_d, f_daily, f_firstDay, g20, f_hears, f_near))))))))
set_option maxRecDepth 100000 in
set_option maxHeartbeats 4000000 in
theorem k_X7_days (l : Launch) (dC : Nat → ClassId) (dI : Nat → Nat → Nat) (cI cB cO : ClassId) (n0 sz : Nat) (a_t : Nat) (a_d : Nat) (a_e : Nat) (a_kept : Nat) (a_found : Nat) (a_tape : Nat) (a_hears : Nat) (a_near : Nat) (a_firstDay : Nat) (a_daily : Nat) (a_heardNow : Nat) (a_bitsOf : Nat) (a_sizeOf : Nat) (a_number : Nat) (a_passing : Nat)   (v_isKept : Int32) (v_taped : Int32) (v_gone : Int32) (v_begin : Int32) (v_round : Int32) (v_leastFar : Int32) (v_leastWhere : Int32) (v_mostLed : Int32) (v_firstMove : Int32) (v_at : Int32) (v_sort : Int32) (v_from : Int32) (v_value : Int64) (v_fault : Int32) (f_d : Nat → Int32) (f_daily : Nat → Int32) (f_firstDay : Nat → Int32) (f_found : Nat → Int32) (f_hears : Nat → Int32) (f_near : Nat → Int32) (p1 : Int32)  {ro : Int32} {o0 : Int32} {o1 : Int32} {o2 : Nat → Int32} {o3 : Nat → Int32} {o4 : Nat → Int32} {o5 : Nat → Int32} {o6 : Nat → Int32} {o7 : Nat → Int32} (hF : F_X7_days n0 v_gone v_begin v_round f_d f_daily f_firstDay f_found f_hears f_near p1 = some (ro, o0, o1, o2, o3, o4, o5, o6, o7)) : Met l yX7_days wsX7_days rmX7_days (va_Pc [.ref a_t, .int p1] (gPre (dC, dI) (gT cI cB cO) sz [oX7 a_t a_d a_e a_kept v_isKept a_found a_tape v_taped v_gone a_hears a_near a_firstDay a_daily v_begin v_round v_leastFar v_leastWhere v_mostLed a_heardNow v_firstMove v_at v_sort v_from v_value v_fault a_bitsOf a_sizeOf a_number a_passing, aA cI a_d 40 f_d, aA cI a_daily 1026 f_daily, aA cI a_firstDay 1024 f_firstDay, aA cI a_found 7 f_found, aA cI a_hears 10 f_hears, aA cI a_near 10 f_near])) (gQi (dC, dI) (gT cI cB cO) sz [oX7 a_t a_d a_e a_kept v_isKept a_found a_tape v_taped v_gone a_hears a_near a_firstDay a_daily v_begin v_round v_leastFar v_leastWhere v_mostLed a_heardNow v_firstMove v_at v_sort v_from v_value v_fault a_bitsOf a_sizeOf a_number a_passing, aA cI a_d 40 f_d, aA cI a_daily 1026 f_daily, aA cI a_firstDay 1024 f_firstDay, aA cI a_found 7 f_found, aA cI a_hears 10 f_hears, aA cI a_near 10 f_near] ro [oX7 a_t a_d a_e a_kept v_isKept a_found a_tape v_taped v_gone a_hears a_near a_firstDay a_daily o0 o1 v_leastFar v_leastWhere v_mostLed a_heardNow v_firstMove v_at v_sort v_from v_value v_fault a_bitsOf a_sizeOf a_number a_passing, aA cI a_d 40 o2, aA cI a_daily 1026 o3, aA cI a_firstDay 1024 o4, aA cI a_found 7 o5, aA cI a_hears 10 o6, aA cI a_near 10 o7]) 0 0 (va_A [oX7 a_t a_d a_e a_kept v_isKept a_found a_tape v_taped v_gone a_hears a_near a_firstDay a_daily v_begin v_round v_leastFar v_leastWhere v_mostLed a_heardNow v_firstMove v_at v_sort v_from v_value v_fault a_bitsOf a_sizeOf a_number a_passing, aA cI a_d 40 f_d, aA cI a_daily 1026 f_daily, aA cI a_firstDay 1024 f_firstDay, aA cI a_found 7 f_found, aA cI a_hears 10 f_hears, aA cI a_near 10 f_near] sz) := by
  refine g_metI (Out := Int32 × Int32 × Int32 × (Nat → Int32) × (Nat → Int32) × (Nat → Int32) × (Nat → Int32) × (Nat → Int32) × (Nat → Int32)) (fun oo => oo.1) (fun oo => [oX7 a_t a_d a_e a_kept v_isKept a_found a_tape v_taped v_gone a_hears a_near a_firstDay a_daily oo.2.1 oo.2.2.1 v_leastFar v_leastWhere v_mostLed a_heardNow v_firstMove v_at v_sort v_from v_value v_fault a_bitsOf a_sizeOf a_number a_passing, aA cI a_d 40 oo.2.2.2.1, aA cI a_daily 1026 oo.2.2.2.2.1, aA cI a_firstDay 1024 oo.2.2.2.2.2.1, aA cI a_found 7 oo.2.2.2.2.2.2.1, aA cI a_hears 10 oo.2.2.2.2.2.2.2.1, aA cI a_near 10 oo.2.2.2.2.2.2.2.2]) (ro, o0, o1, o2, o3, o4, o5, o6, o7) (own := RX7) (lv := [(0, .ref a_t), (1, .int p1)]) (by decide) rfl rfl (Nat.le_of_ble_eq_true rfl) rfl ?_
  intro p e s m args below meth c Q ls C hret hV hl
  obtain ⟨out, hout⟩ : ∃ z : Int32 × Int32 × Int32 × (Nat → Int32) × (Nat → Int32) × (Nat → Int32) × (Nat → Int32) × (Nat → Int32) × (Nat → Int32), z = (ro, o0, o1, o2, o3, o4, o5, o6, o7) := ⟨_, rfl⟩
  rw [← hout] at hF hret
  obtain ⟨H0, hH0⟩ : ∃ z : Heap, z = s.heap := ⟨_, rfl⟩
  obtain ⟨A0, hA0⟩ : ∃ z : Nat → Prop, z = va_A [oX7 a_t a_d a_e a_kept v_isKept a_found a_tape v_taped v_gone a_hears a_near a_firstDay a_daily v_begin v_round v_leastFar v_leastWhere v_mostLed a_heardNow v_firstMove v_at v_sort v_from v_value v_fault a_bitsOf a_sizeOf a_number a_passing, aA cI a_d 40 f_d, aA cI a_daily 1026 f_daily, aA cI a_firstDay 1024 f_firstDay, aA cI a_found 7 f_found, aA cI a_hears 10 f_hears, aA cI a_near 10 f_near] s.heap.size := ⟨_, rfl⟩
  rw [← hA0] at hret hV
  rw [← hH0] at hret hV
  rw [← hH0]
  obtain ⟨H, locs, hH⟩ : ∃ (z : Heap) (y : List Loc), z = H0 ∧ y = [] := ⟨_, _, rfl, rfl⟩
  rw [← hH.1, ← hH.2]
  have hV : gV (dC, dI) (gT cI cB cO) A0 H0 s [oX7 a_t a_d a_e a_kept v_isKept a_found a_tape v_taped v_gone a_hears a_near a_firstDay a_daily v_begin v_round v_leastFar v_leastWhere v_mostLed a_heardNow v_firstMove v_at v_sort v_from v_value v_fault a_bitsOf a_sizeOf a_number a_passing, aA cI a_d 40 f_d, aA cI a_daily 1026 f_daily, aA cI a_firstDay 1024 f_firstDay, aA cI a_found 7 f_found, aA cI a_hears 10 f_hears, aA cI a_near 10 f_near] H locs := by rw [hH.1, hH.2]; exact hV
  unfold F_X7_days at hF
  refine lv_iload_n C.1 C.2.1 dX7_days_0 rfl (lv_at hl 1 rfl) ?_
  refine g_i2l C hF dX7_days_1 (fun x1 hF => ?_)
  refine lv_lconst (v := 1) C.1 C.2.1 dX7_days_2 rfl ?_
  refine lv_ldc2 (v := 100000) C.1 C.2.1 C.2.2.2.1 (C.2.2.2.2 _ ctX7_days_138) dX7_days_3 ?_
  obtain ⟨x2, hc, hF⟩ := bd1_s hF
  refine g_cSi (ws' := [oX7 a_t a_d a_e a_kept v_isKept a_found a_tape v_taped v_gone a_hears a_near a_firstDay a_daily v_begin v_round v_leastFar v_leastWhere v_mostLed a_heardNow v_firstMove v_at v_sort v_from v_value v_fault a_bitsOf a_sizeOf a_number a_passing, aA cI a_d 40 f_d, aA cI a_daily 1026 f_daily, aA cI a_firstDay 1024 f_firstDay, aA cI a_found 7 f_found, aA cI a_hears 10 f_hears, aA cI a_near 10 f_near]) (wr := [oX7 a_t a_d a_e a_kept v_isKept a_found a_tape v_taped v_gone a_hears a_near a_firstDay a_daily v_begin v_round v_leastFar v_leastWhere v_mostLed a_heardNow v_firstMove v_at v_sort v_from v_value v_fault a_bitsOf a_sizeOf a_number a_passing, aA cI a_d 40 f_d, aA cI a_daily 1026 f_daily, aA cI a_firstDay 1024 f_firstDay, aA cI a_found 7 f_found, aA cI a_hears 10 f_hears, aA cI a_near 10 f_near]) C hV (k_X7_in l dC dI cI cB cO n0 H.size x1 1 100000 hc) mdX7_in gX7_days_X7_in rfl rfl ⟨Nat.le_of_ble_eq_true rfl, Nat.le_of_ble_eq_true rfl⟩ [] [0, 1, 2, 3, 4, 5, 6] [0, 1, 2, 3, 4, 5, 6] rfl rfl rfl rfl rfl rfl rfl rfl hl.1 (Nat.le_of_ble_eq_true rfl) rfl dX7_days_6 (fun H locs hV => ?_)
  refine g_if_ne (tgt := 18) C hF dX7_days_9 rfl (fun hF => ?_) (fun hF => ?_)
  · refine lv_aload_n C.1 C.2.1 dX7_days_18 rfl (lv_at hl 0 rfl) ?_
    refine g_get C hV flX7_days_7 0 rfl rfl dX7_days_19 ?_
    refine lv_iconst (v := 1) C.1 C.2.1 dX7_days_22 rfl ?_
    refine g_iald C hV 1 rfl hF dX7_days_23 (fun x3 hF => ?_)
    refine lv_iload_n C.1 C.2.1 dX7_days_24 rfl (lv_at hl 1 rfl) ?_
    refine g_iadd C hF dX7_days_25 (fun x4 hF => ?_)
    refine lv_ldc (v := 999999999) C.1 C.2.1 C.2.2.2.1 (C.2.2.2.2 _ ctX7_days_140) dX7_days_26 ?_
    refine g_icmp_le (tgt := 37) C hF dX7_days_28 rfl (fun hF => ?_) (fun hF => ?_)
    · refine lv_aload_n C.1 C.2.1 dX7_days_37 rfl (lv_at hl 0 rfl) ?_
      obtain ⟨g5, g6, hc, hF⟩ := bd2_s hF
      refine g_cVv (ws' := [oX7 a_t a_d a_e a_kept v_isKept a_found a_tape v_taped v_gone a_hears a_near a_firstDay a_daily v_begin v_round v_leastFar v_leastWhere v_mostLed a_heardNow v_firstMove v_at v_sort v_from v_value v_fault a_bitsOf a_sizeOf a_number a_passing, aA cI a_d 40 f_d, aA cI a_daily 1026 f_daily, aA cI a_firstDay 1024 f_firstDay, aA cI a_found 7 f_found, aA cI a_hears 10 g5, aA cI a_near 10 g6]) (wr := [aA cI a_daily 1026 f_daily, aA cI a_firstDay 1024 f_firstDay, aA cI a_found 7 f_found]) C hV (k_X7_listen l dC dI cI cB cO n0 H.size a_t a_d a_e a_kept a_found a_tape a_hears a_near a_firstDay a_daily a_heardNow a_bitsOf a_sizeOf a_number a_passing v_isKept v_taped v_gone v_begin v_round v_leastFar v_leastWhere v_mostLed v_firstMove v_at v_sort v_from v_value v_fault f_d f_hears f_near hc) mdX7_listen gX7_days_X7_listen rfl rfl ⟨Nat.le_of_ble_eq_true rfl, Nat.le_of_ble_eq_true rfl⟩ [0, 1, 5, 6] [2, 3, 4] [3, 4, 0, 1, 2, 5, 6] rfl rfl rfl rfl rfl rfl rfl rfl rfl rfl hl.1 (Nat.le_of_ble_eq_true rfl) rfl dX7_days_38 (fun H locs hV => ?_)
      refine lv_aload_n C.1 C.2.1 dX7_days_41 rfl (lv_at hl 0 rfl) ?_
      refine lv_aload_n C.1 C.2.1 dX7_days_42 rfl (lv_at hl 0 rfl) ?_
      refine g_get C hV flX7_days_7 0 rfl rfl dX7_days_43 ?_
      refine lv_bipush (v := 6) C.1 C.2.1 dX7_days_46 rfl ?_
      refine g_iald C hV 1 rfl hF dX7_days_48 (fun x7 hF => ?_)
      obtain ⟨x8, x9, g10, g11, hc, hF⟩ := bd4_s hF
      refine g_cVv (ws' := [oX7 a_t a_d a_e a_kept v_isKept a_found a_tape v_taped v_gone a_hears a_near a_firstDay a_daily x8 x9 v_leastFar v_leastWhere v_mostLed a_heardNow v_firstMove v_at v_sort v_from v_value v_fault a_bitsOf a_sizeOf a_number a_passing, aA cI a_d 40 f_d, aA cI a_daily 1026 g10, aA cI a_firstDay 1024 g11, aA cI a_found 7 f_found, aA cI a_hears 10 g5, aA cI a_near 10 g6]) (wr := [aA cI a_found 7 f_found]) C hV (k_X7_goThrough l dC dI cI cB cO n0 H.size a_t a_d a_e a_kept a_found a_tape a_hears a_near a_firstDay a_daily a_heardNow a_bitsOf a_sizeOf a_number a_passing v_isKept v_taped v_gone v_begin v_round v_leastFar v_leastWhere v_mostLed v_firstMove v_at v_sort v_from v_value v_fault f_d f_daily f_firstDay g5 g6 x7 hc) mdX7_goThrough gX7_days_X7_goThrough rfl rfl ⟨Nat.le_of_ble_eq_true rfl, Nat.le_of_ble_eq_true rfl⟩ [0, 1, 2, 3, 5, 6] [4] [1, 2, 3, 4, 0, 5, 6] rfl rfl rfl rfl rfl rfl rfl rfl rfl rfl hl.1 (Nat.le_of_ble_eq_true rfl) rfl dX7_days_49 (fun H locs hV => ?_)
      refine lv_aload_n C.1 C.2.1 dX7_days_52 rfl (lv_at hl 0 rfl) ?_
      refine g_get C hV flX7_days_7 0 rfl rfl dX7_days_53 ?_
      refine lv_bipush (v := 6) C.1 C.2.1 dX7_days_56 rfl ?_
      refine lv_aload_n C.1 C.2.1 dX7_days_58 rfl (lv_at hl 0 rfl) ?_
      refine lv_iload_n C.1 C.2.1 dX7_days_59 rfl (lv_at hl 1 rfl) ?_
      obtain ⟨x12, hc, hF⟩ := bd1_s hF
      refine g_cVi (ws' := [oX7 a_t a_d a_e a_kept v_isKept a_found a_tape v_taped v_gone a_hears a_near a_firstDay a_daily x8 x9 v_leastFar v_leastWhere v_mostLed a_heardNow v_firstMove v_at v_sort v_from v_value v_fault a_bitsOf a_sizeOf a_number a_passing, aA cI a_d 40 f_d, aA cI a_daily 1026 g10, aA cI a_firstDay 1024 g11, aA cI a_found 7 f_found, aA cI a_hears 10 g5, aA cI a_near 10 g6]) (wr := [aA cI a_d 40 f_d, aA cI a_firstDay 1024 g11, aA cI a_found 7 f_found, aA cI a_hears 10 g5, aA cI a_near 10 g6]) C hV (k_X7_saidBehind l dC dI cI cB cO n0 H.size a_t a_d a_e a_kept a_found a_tape a_hears a_near a_firstDay a_daily a_heardNow a_bitsOf a_sizeOf a_number a_passing v_isKept v_taped v_gone x8 x9 v_leastFar v_leastWhere v_mostLed v_firstMove v_at v_sort v_from v_value v_fault g10 p1 hc) mdX7_saidBehind gX7_days_X7_saidBehind rfl rfl ⟨Nat.le_of_ble_eq_true rfl, Nat.le_of_ble_eq_true rfl⟩ [0, 2] [1, 3, 4, 5, 6] [5, 0, 6, 1, 2, 3, 4] rfl rfl rfl rfl rfl rfl rfl rfl rfl rfl hl.1 (Nat.le_of_ble_eq_true rfl) rfl dX7_days_60 (fun H locs hV => ?_)
      refine g_iast C hV 1 rfl hF (fun gq => [oX7 a_t a_d a_e a_kept v_isKept a_found a_tape v_taped v_gone a_hears a_near a_firstDay a_daily x8 x9 v_leastFar v_leastWhere v_mostLed a_heardNow v_firstMove v_at v_sort v_from v_value v_fault a_bitsOf a_sizeOf a_number a_passing, aA cI a_d 40 gq, aA cI a_daily 1026 g10, aA cI a_firstDay 1024 g11, aA cI a_found 7 f_found, aA cI a_hears 10 g5, aA cI a_near 10 g6]) (fun _ => rfl) dX7_days_63 (fun g13 H locs hF hV => ?_)
      refine lv_aload_n C.1 C.2.1 dX7_days_64 rfl (lv_at hl 0 rfl) ?_
      refine g_get C hV flX7_days_7 0 rfl rfl dX7_days_65 ?_
      refine lv_iconst (v := 1) C.1 C.2.1 dX7_days_68 rfl ?_
      refine lv_dup2_11 C.1 C.2.1 dX7_days_69 rfl rfl ?_
      refine g_iald C hV 1 rfl hF dX7_days_70 (fun x14 hF => ?_)
      refine lv_iload_n C.1 C.2.1 dX7_days_71 rfl (lv_at hl 1 rfl) ?_
      refine g_iadd C hF dX7_days_72 (fun x15 hF => ?_)
      refine g_iast C hV 1 rfl hF (fun gq => [oX7 a_t a_d a_e a_kept v_isKept a_found a_tape v_taped v_gone a_hears a_near a_firstDay a_daily x8 x9 v_leastFar v_leastWhere v_mostLed a_heardNow v_firstMove v_at v_sort v_from v_value v_fault a_bitsOf a_sizeOf a_number a_passing, aA cI a_d 40 gq, aA cI a_daily 1026 g10, aA cI a_firstDay 1024 g11, aA cI a_found 7 f_found, aA cI a_hears 10 g5, aA cI a_near 10 g6]) (fun _ => rfl) dX7_days_73 (fun g16 H locs hF hV => ?_)
      refine lv_aload_n C.1 C.2.1 dX7_days_74 rfl (lv_at hl 0 rfl) ?_
      refine g_get C hV flX7_days_7 0 rfl rfl dX7_days_75 ?_
      refine lv_bipush (v := 6) C.1 C.2.1 dX7_days_78 rfl ?_
      refine g_iald C hV 1 rfl hF dX7_days_80 (fun x17 hF => ?_)
      obtain ⟨x18, hc, hF⟩ := bd1_s hF
      refine g_cSi (ws' := [oX7 a_t a_d a_e a_kept v_isKept a_found a_tape v_taped v_gone a_hears a_near a_firstDay a_daily x8 x9 v_leastFar v_leastWhere v_mostLed a_heardNow v_firstMove v_at v_sort v_from v_value v_fault a_bitsOf a_sizeOf a_number a_passing, aA cI a_d 40 g16, aA cI a_daily 1026 g10, aA cI a_firstDay 1024 g11, aA cI a_found 7 f_found, aA cI a_hears 10 g5, aA cI a_near 10 g6]) (wr := [oX7 a_t a_d a_e a_kept v_isKept a_found a_tape v_taped v_gone a_hears a_near a_firstDay a_daily x8 x9 v_leastFar v_leastWhere v_mostLed a_heardNow v_firstMove v_at v_sort v_from v_value v_fault a_bitsOf a_sizeOf a_number a_passing, aA cI a_d 40 g16, aA cI a_daily 1026 g10, aA cI a_firstDay 1024 g11, aA cI a_found 7 f_found, aA cI a_hears 10 g5, aA cI a_near 10 g6]) C hV (k_X7_ones l dC dI cI cB cO n0 H.size x17 hc) mdX7_ones gX7_days_X7_ones rfl rfl ⟨Nat.le_of_ble_eq_true rfl, Nat.le_of_ble_eq_true rfl⟩ [] [0, 1, 2, 3, 4, 5, 6] [0, 1, 2, 3, 4, 5, 6] rfl rfl rfl rfl rfl rfl rfl rfl hl.1 (Nat.le_of_ble_eq_true rfl) rfl dX7_days_81 (fun H locs hV => ?_)
      exact hret (x18, x8, x9, g16, g10, g11, f_found, g5, g6) _ _ _ _ dX7_days_84 hF hV
    refine lv_aload_n C.1 C.2.1 dX7_days_31 rfl (lv_at hl 0 rfl) ?_
    refine lv_iconst (v := 4) C.1 C.2.1 dX7_days_32 rfl ?_
    obtain ⟨x19, g20, hc, hF⟩ := bd2_s hF
    refine g_cVi (ws' := [oX7 a_t a_d a_e a_kept v_isKept a_found a_tape v_taped v_gone a_hears a_near a_firstDay a_daily v_begin v_round v_leastFar v_leastWhere v_mostLed a_heardNow v_firstMove v_at v_sort v_from v_value v_fault a_bitsOf a_sizeOf a_number a_passing, aA cI a_d 40 f_d, aA cI a_daily 1026 f_daily, aA cI a_firstDay 1024 f_firstDay, aA cI a_found 7 g20, aA cI a_hears 10 f_hears, aA cI a_near 10 f_near]) (wr := [aA cI a_d 40 f_d, aA cI a_daily 1026 f_daily, aA cI a_firstDay 1024 f_firstDay, aA cI a_hears 10 f_hears, aA cI a_near 10 f_near]) C hV (k_X7_finds l dC dI cI cB cO n0 H.size a_t a_d a_e a_kept a_found a_tape a_hears a_near a_firstDay a_daily a_heardNow a_bitsOf a_sizeOf a_number a_passing v_isKept v_taped v_gone v_begin v_round v_leastFar v_leastWhere v_mostLed v_firstMove v_at v_sort v_from v_value v_fault f_found 4 hc) mdX7_finds gX7_days_X7_finds rfl rfl ⟨Nat.le_of_ble_eq_true rfl, Nat.le_of_ble_eq_true rfl⟩ [0, 4] [1, 2, 3, 5, 6] [5, 0, 1, 2, 6, 3, 4] rfl rfl rfl rfl rfl rfl rfl rfl rfl rfl hl.1 (Nat.le_of_ble_eq_true rfl) rfl dX7_days_33 (fun H locs hV => ?_)
    exact hret (x19, v_begin, v_round, f_d, f_daily, f_firstDay, g20, f_hears, f_near) _ _ _ _ dX7_days_36 hF hV
  refine lv_aload_n C.1 C.2.1 dX7_days_12 rfl (lv_at hl 0 rfl) ?_
  refine lv_iconst (v := 0) C.1 C.2.1 dX7_days_13 rfl ?_
  obtain ⟨x21, g22, hc, hF⟩ := bd2_s hF
  refine g_cVi (ws' := [oX7 a_t a_d a_e a_kept v_isKept a_found a_tape v_taped v_gone a_hears a_near a_firstDay a_daily v_begin v_round v_leastFar v_leastWhere v_mostLed a_heardNow v_firstMove v_at v_sort v_from v_value v_fault a_bitsOf a_sizeOf a_number a_passing, aA cI a_d 40 f_d, aA cI a_daily 1026 f_daily, aA cI a_firstDay 1024 f_firstDay, aA cI a_found 7 g22, aA cI a_hears 10 f_hears, aA cI a_near 10 f_near]) (wr := [aA cI a_d 40 f_d, aA cI a_daily 1026 f_daily, aA cI a_firstDay 1024 f_firstDay, aA cI a_hears 10 f_hears, aA cI a_near 10 f_near]) C hV (k_X7_finds l dC dI cI cB cO n0 H.size a_t a_d a_e a_kept a_found a_tape a_hears a_near a_firstDay a_daily a_heardNow a_bitsOf a_sizeOf a_number a_passing v_isKept v_taped v_gone v_begin v_round v_leastFar v_leastWhere v_mostLed v_firstMove v_at v_sort v_from v_value v_fault f_found 0 hc) mdX7_finds gX7_days_X7_finds rfl rfl ⟨Nat.le_of_ble_eq_true rfl, Nat.le_of_ble_eq_true rfl⟩ [0, 4] [1, 2, 3, 5, 6] [5, 0, 1, 2, 6, 3, 4] rfl rfl rfl rfl rfl rfl rfl rfl rfl rfl hl.1 (Nat.le_of_ble_eq_true rfl) rfl dX7_days_14 (fun H locs hV => ?_)
  exact hret (x21, v_begin, v_round, f_d, f_daily, f_firstDay, g22, f_hears, f_near) _ _ _ _ dX7_days_17 hF hV
abbrev rmX7_unheard : Room := { frames := 0, cells := 0, slots := 0, locals := 0 }
theorem mdX7_unheard : gMd yX7_unheard wsX7_unheard cX7_unheard 5 (some .int) 0 := ⟨⟨_, rfl⟩, by decide +kernel⟩
theorem flX7_unheard_7 : gFL wsX7_unheard RX7 7 7 0 RX7 TX7 28 := ⟨rfl, fun w h => List.mem_cons_of_mem _ (List.mem_append_right _ (h)), Nat.le_of_ble_eq_true rfl, List.mem_cons_of_mem _ (List.mem_append_left _ (List.mem_of_getElem? (i := 0) rfl))⟩
theorem flX7_unheard_30 : gFL wsX7_unheard RX7 30 7 8 RX7 TX7 28 := ⟨rfl, fun w h => List.mem_cons_of_mem _ (List.mem_append_right _ (h)), Nat.le_of_ble_eq_true rfl, List.mem_cons_of_mem _ (List.mem_append_left _ (List.mem_of_getElem? (i := 1) rfl))⟩
def L_X7_unheard_19 (f_d : Nat → Int32) (s2 : Int32) (s1 : Int32) (kk4 : Int32 → Int32 → Option (Int32)) (f_hears : Nat → Int32) : Nat → Int32 → Int32 → Option (Int32) := lpp2 (fun s4 s5 kk19 => rd f_d 40 0 (fun x6 => (if x6 ≤ s5 then (if s4 = 0 then nm (1 <<< (s2 &&& 31)) (fun x7 => nm (s1 ||| x7) (fun x8 => nm (s2 + 1) (fun x9 => kk4 x8 x9))) else nm (s1 ||| 0) (fun x10 => nm (s2 + 1) (fun x11 => kk4 x10 x11))) else (if s4 = 0 then rd f_hears 10 s5 (fun x13 => (if x13 = s2 then nm (s5 + 1) (fun x15 => kk19 1 x15) else nm (s5 + 1) (fun x14 => kk19 0 x14))) else nm (s5 + 1) (fun x12 => kk19 1 x12)))))
def L_X7_unheard_4 (f_d : Nat → Int32) (f_hears : Nat → Int32) (n0 : Nat) : Nat → Int32 → Int32 → Option (Int32) := lpp2 (fun s1 s2 kk4 => rd f_d 40 0 (fun x3 => (if x3 ≤ s2 then some s1 else L_X7_unheard_19 f_d s2 s1 kk4 f_hears n0 0 0)))
def F_X7_unheard (n0 : Nat) (f_d : Nat → Int32) (f_hears : Nat → Int32) : Option (Int32) := L_X7_unheard_4 f_d f_hears n0 n0 0 0
set_option maxRecDepth 100000 in
set_option maxHeartbeats 4000000 in
theorem k_X7_unheard (l : Launch) (dC : Nat → ClassId) (dI : Nat → Nat → Nat) (cI cB cO : ClassId) (n0 sz : Nat) (a_t : Nat) (a_d : Nat) (a_e : Nat) (a_kept : Nat) (a_found : Nat) (a_tape : Nat) (a_hears : Nat) (a_near : Nat) (a_firstDay : Nat) (a_daily : Nat) (a_heardNow : Nat) (a_bitsOf : Nat) (a_sizeOf : Nat) (a_number : Nat) (a_passing : Nat)   (v_isKept : Int32) (v_taped : Int32) (v_gone : Int32) (v_begin : Int32) (v_round : Int32) (v_leastFar : Int32) (v_leastWhere : Int32) (v_mostLed : Int32) (v_firstMove : Int32) (v_at : Int32) (v_sort : Int32) (v_from : Int32) (v_value : Int64) (v_fault : Int32) (f_d : Nat → Int32) (f_hears : Nat → Int32)   {ro : Int32} (hF : F_X7_unheard n0 f_d f_hears = some ro) : Met l yX7_unheard wsX7_unheard rmX7_unheard (va_Pc [.ref a_t] (gPre (dC, dI) (gT cI cB cO) sz [oX7 a_t a_d a_e a_kept v_isKept a_found a_tape v_taped v_gone a_hears a_near a_firstDay a_daily v_begin v_round v_leastFar v_leastWhere v_mostLed a_heardNow v_firstMove v_at v_sort v_from v_value v_fault a_bitsOf a_sizeOf a_number a_passing, aA cI a_d 40 f_d, aA cI a_hears 10 f_hears])) (gQi (dC, dI) (gT cI cB cO) sz [oX7 a_t a_d a_e a_kept v_isKept a_found a_tape v_taped v_gone a_hears a_near a_firstDay a_daily v_begin v_round v_leastFar v_leastWhere v_mostLed a_heardNow v_firstMove v_at v_sort v_from v_value v_fault a_bitsOf a_sizeOf a_number a_passing, aA cI a_d 40 f_d, aA cI a_hears 10 f_hears] ro [oX7 a_t a_d a_e a_kept v_isKept a_found a_tape v_taped v_gone a_hears a_near a_firstDay a_daily v_begin v_round v_leastFar v_leastWhere v_mostLed a_heardNow v_firstMove v_at v_sort v_from v_value v_fault a_bitsOf a_sizeOf a_number a_passing, aA cI a_d 40 f_d, aA cI a_hears 10 f_hears]) 0 0 (va_A [oX7 a_t a_d a_e a_kept v_isKept a_found a_tape v_taped v_gone a_hears a_near a_firstDay a_daily v_begin v_round v_leastFar v_leastWhere v_mostLed a_heardNow v_firstMove v_at v_sort v_from v_value v_fault a_bitsOf a_sizeOf a_number a_passing, aA cI a_d 40 f_d, aA cI a_hears 10 f_hears] sz) := by
  refine g_metI (Out := Int32) (fun oo => oo) (fun oo => [oX7 a_t a_d a_e a_kept v_isKept a_found a_tape v_taped v_gone a_hears a_near a_firstDay a_daily v_begin v_round v_leastFar v_leastWhere v_mostLed a_heardNow v_firstMove v_at v_sort v_from v_value v_fault a_bitsOf a_sizeOf a_number a_passing, aA cI a_d 40 f_d, aA cI a_hears 10 f_hears]) ro (own := RX7) (lv := [(0, .ref a_t)]) (by decide) rfl rfl (Nat.le_of_ble_eq_true rfl) rfl ?_
  intro p e s m args below meth c Q ls C hret hV hl
  obtain ⟨out, hout⟩ : ∃ z : Int32, z = ro := ⟨_, rfl⟩
  rw [← hout] at hF hret
  obtain ⟨H0, hH0⟩ : ∃ z : Heap, z = s.heap := ⟨_, rfl⟩
  obtain ⟨A0, hA0⟩ : ∃ z : Nat → Prop, z = va_A [oX7 a_t a_d a_e a_kept v_isKept a_found a_tape v_taped v_gone a_hears a_near a_firstDay a_daily v_begin v_round v_leastFar v_leastWhere v_mostLed a_heardNow v_firstMove v_at v_sort v_from v_value v_fault a_bitsOf a_sizeOf a_number a_passing, aA cI a_d 40 f_d, aA cI a_hears 10 f_hears] s.heap.size := ⟨_, rfl⟩
  rw [← hA0] at hret hV
  rw [← hH0] at hret hV
  rw [← hH0]
  obtain ⟨H, locs, hH⟩ : ∃ (z : Heap) (y : List Loc), z = H0 ∧ y = [] := ⟨_, _, rfl, rfl⟩
  rw [← hH.1, ← hH.2]
  have hV : gV (dC, dI) (gT cI cB cO) A0 H0 s [oX7 a_t a_d a_e a_kept v_isKept a_found a_tape v_taped v_gone a_hears a_near a_firstDay a_daily v_begin v_round v_leastFar v_leastWhere v_mostLed a_heardNow v_firstMove v_at v_sort v_from v_value v_fault a_bitsOf a_sizeOf a_number a_passing, aA cI a_d 40 f_d, aA cI a_hears 10 f_hears] H locs := by rw [hH.1, hH.2]; exact hV
  unfold F_X7_unheard at hF
  refine lv_iconst (v := 0) C.1 C.2.1 dX7_unheard_0 rfl ?_
  refine lv_istore_n (lv' := [(1, .int 0), (0, .ref a_t)]) C.1 C.2.1 dX7_unheard_1 rfl hl (by decide) rfl (fun ls hl => ?_)
  refine lv_iconst (v := 0) C.1 C.2.1 dX7_unheard_2 rfl ?_
  refine lv_istore_n (lv' := [(2, .int 0), (1, .int 0), (0, .ref a_t)]) C.1 C.2.1 dX7_unheard_3 rfl hl (by decide) rfl (fun ls hl => ?_)
  have hL4 : ∀ (n : Nat) (s1 : Int32) (s2 : Int32) (H : Heap) (locs : List Loc) (ls : Array Slot), gV (dC, dI) (gT cI cB cO) A0 H0 s [oX7 a_t a_d a_e a_kept v_isKept a_found a_tape v_taped v_gone a_hears a_near a_firstDay a_daily v_begin v_round v_leastFar v_leastWhere v_mostLed a_heardNow v_firstMove v_at v_sort v_from v_value v_fault a_bitsOf a_sizeOf a_number a_passing, aA cI a_d 40 f_d, aA cI a_hears 10 f_hears] H locs → lv_has ls 5 [(0, .ref a_t), (1, .int s1), (2, .int s2)] → L_X7_unheard_4 f_d f_hears n0 n s1 s2 = some out → W p l e rmX7_unheard s m args below meth c H locs 0 0 Q (F0 m 4 ls []) := by
    intro n
    induction n with
    | zero => intro s1 s2 H locs ls hV hl hF; exact lpp2_z hF
    | succ n ih4 =>
      intro s1 s2 H locs ls hV hl hF
      obtain ⟨kk4, hk4, hF⟩ := lpp2_g hF
      have hq4 : ∀ (s1 : Int32) (s2 : Int32), kk4 s1 s2 = some out → L_X7_unheard_4 f_d f_hears n0 n s1 s2 = some out := fun _ _ h => by rw [hk4] at h; exact h
      refine lv_iload_n C.1 C.2.1 dX7_unheard_4 rfl (lv_at hl 2 rfl) ?_
      refine lv_aload_n C.1 C.2.1 dX7_unheard_5 rfl (lv_at hl 0 rfl) ?_
      refine g_get C hV flX7_unheard_7 0 rfl rfl dX7_unheard_6 ?_
      refine lv_iconst (v := 0) C.1 C.2.1 dX7_unheard_9 rfl ?_
      refine g_iald C hV 1 rfl hF dX7_unheard_10 (fun x3 hF => ?_)
      refine g_icmp_ge (tgt := 77) C hF dX7_unheard_11 rfl (fun hF => ?_) (fun hF => ?_)
      · refine lv_iload_n C.1 C.2.1 dX7_unheard_77 rfl (lv_at hl 1 rfl) ?_
        exact hret s1 _ _ _ _ dX7_unheard_78 hF hV
      refine lv_iconst (v := 0) C.1 C.2.1 dX7_unheard_14 rfl ?_
      refine lv_istore_n (lv' := [(3, .int 0), (0, .ref a_t), (1, .int s1), (2, .int s2)]) C.1 C.2.1 dX7_unheard_15 rfl hl (by decide) rfl (fun ls hl => ?_)
      refine lv_iconst (v := 0) C.1 C.2.1 dX7_unheard_16 rfl ?_
      refine lv_istore (lv' := [(4, .int 0), (3, .int 0), (0, .ref a_t), (1, .int s1), (2, .int s2)]) C.1 C.2.1 dX7_unheard_17 hl (by decide) rfl (fun ls hl => ?_)
      have hL19 : ∀ (n : Nat) (s4 : Int32) (s5 : Int32) (H : Heap) (locs : List Loc) (ls : Array Slot), gV (dC, dI) (gT cI cB cO) A0 H0 s [oX7 a_t a_d a_e a_kept v_isKept a_found a_tape v_taped v_gone a_hears a_near a_firstDay a_daily v_begin v_round v_leastFar v_leastWhere v_mostLed a_heardNow v_firstMove v_at v_sort v_from v_value v_fault a_bitsOf a_sizeOf a_number a_passing, aA cI a_d 40 f_d, aA cI a_hears 10 f_hears] H locs → lv_has ls 5 [(0, .ref a_t), (1, .int s1), (2, .int s2), (3, .int s4), (4, .int s5)] → L_X7_unheard_19 f_d s2 s1 kk4 f_hears n s4 s5 = some out → W p l e rmX7_unheard s m args below meth c H locs 0 0 Q (F0 m 19 ls []) := by
        intro n
        induction n with
        | zero => intro s4 s5 H locs ls hV hl hF; exact lpp2_z hF
        | succ n ih19 =>
          intro s4 s5 H locs ls hV hl hF
          obtain ⟨kk19, hk19, hF⟩ := lpp2_g hF
          have hq19 : ∀ (s4 : Int32) (s5 : Int32), kk19 s4 s5 = some out → L_X7_unheard_19 f_d s2 s1 kk4 f_hears n s4 s5 = some out := fun _ _ h => by rw [hk19] at h; exact h
          refine lv_iload C.1 C.2.1 dX7_unheard_19 (lv_at hl 4 rfl) ?_
          refine lv_aload_n C.1 C.2.1 dX7_unheard_21 rfl (lv_at hl 0 rfl) ?_
          refine g_get C hV flX7_unheard_7 0 rfl rfl dX7_unheard_22 ?_
          refine lv_iconst (v := 0) C.1 C.2.1 dX7_unheard_25 rfl ?_
          refine g_iald C hV 1 rfl hF dX7_unheard_26 (fun x6 hF => ?_)
          refine g_icmp_ge (tgt := 57) C hF dX7_unheard_27 rfl (fun hF => ?_) (fun hF => ?_)
          · refine lv_iload_n C.1 C.2.1 dX7_unheard_57 rfl (lv_at hl 1 rfl) ?_
            refine lv_iload_n C.1 C.2.1 dX7_unheard_58 rfl (lv_at hl 3 rfl) ?_
            refine g_if_eq (tgt := 66) C hF dX7_unheard_59 rfl (fun hF => ?_) (fun hF => ?_)
            · refine lv_iconst (v := 1) C.1 C.2.1 dX7_unheard_66 rfl ?_
              refine lv_iload_n C.1 C.2.1 dX7_unheard_67 rfl (lv_at hl 2 rfl) ?_
              refine g_ishl C hF dX7_unheard_68 (fun x7 hF => ?_)
              refine g_ior C hF dX7_unheard_69 (fun x8 hF => ?_)
              refine lv_istore_n (lv' := [(1, .int x8), (0, .ref a_t), (2, .int s2), (3, .int s4), (4, .int s5)]) C.1 C.2.1 dX7_unheard_70 rfl hl (by decide) rfl (fun ls hl => ?_)
              refine g_iinc C hF dX7_unheard_71 (d := 1) rfl hl (j := 2) rfl (by decide) (fun y => [(2, .int y), (1, .int x8), (0, .ref a_t), (3, .int s4), (4, .int s5)]) (fun _ => rfl) (fun x9 ls hF hl => ?_)
              refine lv_goto (tgt := 4) C.1 C.2.1 dX7_unheard_74 rfl ?_
              exact ih4 x8 x9 H locs ls hV (lv_sub hl [2, 1, 0] rfl) (hq4 x8 x9 hF)
            refine lv_iconst (v := 0) C.1 C.2.1 dX7_unheard_62 rfl ?_
            refine lv_goto (tgt := 69) C.1 C.2.1 dX7_unheard_63 rfl ?_
            refine g_ior C hF dX7_unheard_69 (fun x10 hF => ?_)
            refine lv_istore_n (lv' := [(1, .int x10), (0, .ref a_t), (2, .int s2), (3, .int s4), (4, .int s5)]) C.1 C.2.1 dX7_unheard_70 rfl hl (by decide) rfl (fun ls hl => ?_)
            refine g_iinc C hF dX7_unheard_71 (d := 1) rfl hl (j := 2) rfl (by decide) (fun y => [(2, .int y), (1, .int x10), (0, .ref a_t), (3, .int s4), (4, .int s5)]) (fun _ => rfl) (fun x11 ls hF hl => ?_)
            refine lv_goto (tgt := 4) C.1 C.2.1 dX7_unheard_74 rfl ?_
            exact ih4 x10 x11 H locs ls hV (lv_sub hl [2, 1, 0] rfl) (hq4 x10 x11 hF)
          refine lv_iload_n C.1 C.2.1 dX7_unheard_30 rfl (lv_at hl 3 rfl) ?_
          refine g_if_ne (tgt := 45) C hF dX7_unheard_31 rfl (fun hF => ?_) (fun hF => ?_)
          · refine lv_iconst (v := 1) C.1 C.2.1 dX7_unheard_45 rfl ?_
            refine lv_goto (tgt := 50) C.1 C.2.1 dX7_unheard_46 rfl ?_
            refine lv_istore_n (lv' := [(3, .int 1), (0, .ref a_t), (1, .int s1), (2, .int s2), (4, .int s5)]) C.1 C.2.1 dX7_unheard_50 rfl hl (by decide) rfl (fun ls hl => ?_)
            refine g_iinc C hF dX7_unheard_51 (d := 1) rfl hl (j := 4) rfl (by decide) (fun y => [(4, .int y), (3, .int 1), (0, .ref a_t), (1, .int s1), (2, .int s2)]) (fun _ => rfl) (fun x12 ls hF hl => ?_)
            refine lv_goto (tgt := 19) C.1 C.2.1 dX7_unheard_54 rfl ?_
            exact ih19 1 x12 H locs ls hV (lv_sub hl [2, 3, 4, 1, 0] rfl) (hq19 1 x12 hF)
          refine lv_aload_n C.1 C.2.1 dX7_unheard_34 rfl (lv_at hl 0 rfl) ?_
          refine g_get C hV flX7_unheard_30 0 rfl rfl dX7_unheard_35 ?_
          refine lv_iload C.1 C.2.1 dX7_unheard_38 (lv_at hl 4 rfl) ?_
          refine g_iald C hV 2 rfl hF dX7_unheard_40 (fun x13 hF => ?_)
          refine lv_iload_n C.1 C.2.1 dX7_unheard_41 rfl (lv_at hl 2 rfl) ?_
          refine g_icmp_ne (tgt := 49) C hF dX7_unheard_42 rfl (fun hF => ?_) (fun hF => ?_)
          · refine lv_iconst (v := 0) C.1 C.2.1 dX7_unheard_49 rfl ?_
            refine lv_istore_n (lv' := [(3, .int 0), (0, .ref a_t), (1, .int s1), (2, .int s2), (4, .int s5)]) C.1 C.2.1 dX7_unheard_50 rfl hl (by decide) rfl (fun ls hl => ?_)
            refine g_iinc C hF dX7_unheard_51 (d := 1) rfl hl (j := 4) rfl (by decide) (fun y => [(4, .int y), (3, .int 0), (0, .ref a_t), (1, .int s1), (2, .int s2)]) (fun _ => rfl) (fun x14 ls hF hl => ?_)
            refine lv_goto (tgt := 19) C.1 C.2.1 dX7_unheard_54 rfl ?_
            exact ih19 0 x14 H locs ls hV (lv_sub hl [2, 3, 4, 1, 0] rfl) (hq19 0 x14 hF)
          refine lv_iconst (v := 1) C.1 C.2.1 dX7_unheard_45 rfl ?_
          refine lv_goto (tgt := 50) C.1 C.2.1 dX7_unheard_46 rfl ?_
          refine lv_istore_n (lv' := [(3, .int 1), (0, .ref a_t), (1, .int s1), (2, .int s2), (4, .int s5)]) C.1 C.2.1 dX7_unheard_50 rfl hl (by decide) rfl (fun ls hl => ?_)
          refine g_iinc C hF dX7_unheard_51 (d := 1) rfl hl (j := 4) rfl (by decide) (fun y => [(4, .int y), (3, .int 1), (0, .ref a_t), (1, .int s1), (2, .int s2)]) (fun _ => rfl) (fun x15 ls hF hl => ?_)
          refine lv_goto (tgt := 19) C.1 C.2.1 dX7_unheard_54 rfl ?_
          exact ih19 1 x15 H locs ls hV (lv_sub hl [2, 3, 4, 1, 0] rfl) (hq19 1 x15 hF)
      exact hL19 n0 0 0 H locs ls hV (lv_sub hl [2, 3, 4, 1, 0] rfl) hF
  exact hL4 n0 0 0 H locs ls hV (lv_sub hl [2, 1, 0] rfl) hF
abbrev rmX7_now : Room := { frames := 4, cells := 0, slots := 0, locals := 92 }
theorem mdX7_now : gMd yX7_now wsX7_now cX7_now 5 (some .int) 1 := ⟨⟨_, rfl⟩, by decide +kernel⟩
theorem ctX7_now_100 : Cond.constantLong RX7 100 6 ∈ wsX7_now := List.mem_cons_of_mem _ (List.mem_append_left _ (List.mem_append_left _ (List.mem_of_getElem? (i := 0) rfl)))
theorem flX7_now_7 : gFL wsX7_now RX7 7 7 0 RX7 TX7 28 := ⟨rfl, fun w h => List.mem_cons_of_mem _ (List.mem_append_right _ (h)), Nat.le_of_ble_eq_true rfl, List.mem_cons_of_mem _ (List.mem_append_left _ (List.mem_append_left _ (List.mem_of_getElem? (i := 1) rfl)))⟩
def J_X7_now_58 (k17 : Int32) (k16 : Int32) (n0 : Nat) (g3 : Nat → Int32) (s7 : Int32) (s6 : Int32) (kk29 : Int32 → Int32 → Int32 → Option (Int32 × (Nat → Int32) × (Nat → Int32) × (Nat → Int32))) : Option (Int32 × (Nat → Int32) × (Nat → Int32) × (Nat → Int32)) := nm (k17 ||| k16) (fun x18 => bd1 (F_X7_lineOf n0 g3 s7) (fun x19 => (if x19 ≤ s6 then nm (s7 + 1) (fun x20 => kk29 x18 s6 x20) else bd1 (F_X7_lineOf n0 g3 s7) (fun x21 => nm (s7 + 1) (fun x22 => kk29 x18 x21 x22)))))
def L_X7_now_29 (f_d : Nat → Int32) (p1 : Int32) (f_found : Nat → Int32) (g3 : Nat → Int32) (g4 : Nat → Int32) (n0 : Nat) : Nat → Int32 → Int32 → Int32 → Option (Int32 × (Nat → Int32) × (Nat → Int32) × (Nat → Int32)) := lpp3 (fun s5 s6 s7 kk29 => rd f_d 40 0 (fun x8 => (if x8 ≤ s7 then (if p1 = 0 then rd f_d 40 1 (fun x9 => some (x9, f_found, g3, g4)) else (if p1 = 1 then rd f_d 40 6 (fun x10 => some (x10, f_found, g3, g4)) else (if p1 = 2 then rd f_d 40 6 (fun x11 => bd1 (F_X7_ones n0 x11) (fun x12 => some (x12, f_found, g3, g4))) else (if p1 = 3 then bd1 (F_X7_pairs n0 f_d g3) (fun x13 => some (x13, f_found, g3, g4)) else (if p1 = 4 then some (s5, f_found, g3, g4) else (if p1 = 5 then bd1 (F_X7_unheard n0 f_d g3) (fun x14 => some (x14, f_found, g3, g4)) else some (s6, f_found, g3, g4))))))) else bd1 (F_X7_isPaired n0 g3 s7) (fun x15 => (if x15 = 0 then J_X7_now_58 s5 0 n0 g3 s7 s6 kk29 else nm (1 <<< (s7 &&& 31)) (fun x23 => J_X7_now_58 s5 x23 n0 g3 s7 s6 kk29))))))
def F_X7_now (n0 : Nat) (v_gone : Int32) (f_d : Nat → Int32) (f_found : Nat → Int32) (f_hears : Nat → Int32) (f_near : Nat → Int32) (p1 : Int32) : Option (Int32 × (Nat → Int32) × (Nat → Int32) × (Nat → Int32)) := nm (p1.toInt64) (fun x1 => bd1 (F_X7_in n0 x1 0 6) (fun x2 => (if x2 = 0 then bd2 (F_X7_finds n0 f_found 0) (fun x24 g25 => some (x24, g25, f_hears, f_near)) else bd2 (F_X7_listen n0 v_gone f_d f_hears f_near) (fun g3 g4 => L_X7_now_29 f_d p1 f_found g3 g4 n0 n0 0 ((-1)) 0))))
set_option maxRecDepth 100000 in
set_option maxHeartbeats 4000000 in
theorem k_X7_now (l : Launch) (dC : Nat → ClassId) (dI : Nat → Nat → Nat) (cI cB cO : ClassId) (n0 sz : Nat) (a_t : Nat) (a_d : Nat) (a_e : Nat) (a_kept : Nat) (a_found : Nat) (a_tape : Nat) (a_hears : Nat) (a_near : Nat) (a_firstDay : Nat) (a_daily : Nat) (a_heardNow : Nat) (a_bitsOf : Nat) (a_sizeOf : Nat) (a_number : Nat) (a_passing : Nat)   (v_isKept : Int32) (v_taped : Int32) (v_gone : Int32) (v_begin : Int32) (v_round : Int32) (v_leastFar : Int32) (v_leastWhere : Int32) (v_mostLed : Int32) (v_firstMove : Int32) (v_at : Int32) (v_sort : Int32) (v_from : Int32) (v_value : Int64) (v_fault : Int32) (f_d : Nat → Int32) (f_found : Nat → Int32) (f_hears : Nat → Int32) (f_near : Nat → Int32) (p1 : Int32)  {ro : Int32} {o0 : Nat → Int32} {o1 : Nat → Int32} {o2 : Nat → Int32} (hF : F_X7_now n0 v_gone f_d f_found f_hears f_near p1 = some (ro, o0, o1, o2)) : Met l yX7_now wsX7_now rmX7_now (va_Pc [.ref a_t, .int p1] (gPre (dC, dI) (gT cI cB cO) sz [oX7 a_t a_d a_e a_kept v_isKept a_found a_tape v_taped v_gone a_hears a_near a_firstDay a_daily v_begin v_round v_leastFar v_leastWhere v_mostLed a_heardNow v_firstMove v_at v_sort v_from v_value v_fault a_bitsOf a_sizeOf a_number a_passing, aA cI a_d 40 f_d, aA cI a_found 7 f_found, aA cI a_hears 10 f_hears, aA cI a_near 10 f_near])) (gQi (dC, dI) (gT cI cB cO) sz [oX7 a_t a_d a_e a_kept v_isKept a_found a_tape v_taped v_gone a_hears a_near a_firstDay a_daily v_begin v_round v_leastFar v_leastWhere v_mostLed a_heardNow v_firstMove v_at v_sort v_from v_value v_fault a_bitsOf a_sizeOf a_number a_passing, aA cI a_d 40 f_d, aA cI a_found 7 f_found, aA cI a_hears 10 f_hears, aA cI a_near 10 f_near] ro [oX7 a_t a_d a_e a_kept v_isKept a_found a_tape v_taped v_gone a_hears a_near a_firstDay a_daily v_begin v_round v_leastFar v_leastWhere v_mostLed a_heardNow v_firstMove v_at v_sort v_from v_value v_fault a_bitsOf a_sizeOf a_number a_passing, aA cI a_d 40 f_d, aA cI a_found 7 o0, aA cI a_hears 10 o1, aA cI a_near 10 o2]) 0 0 (va_A [oX7 a_t a_d a_e a_kept v_isKept a_found a_tape v_taped v_gone a_hears a_near a_firstDay a_daily v_begin v_round v_leastFar v_leastWhere v_mostLed a_heardNow v_firstMove v_at v_sort v_from v_value v_fault a_bitsOf a_sizeOf a_number a_passing, aA cI a_d 40 f_d, aA cI a_found 7 f_found, aA cI a_hears 10 f_hears, aA cI a_near 10 f_near] sz) := by
  refine g_metI (Out := Int32 × (Nat → Int32) × (Nat → Int32) × (Nat → Int32)) (fun oo => oo.1) (fun oo => [oX7 a_t a_d a_e a_kept v_isKept a_found a_tape v_taped v_gone a_hears a_near a_firstDay a_daily v_begin v_round v_leastFar v_leastWhere v_mostLed a_heardNow v_firstMove v_at v_sort v_from v_value v_fault a_bitsOf a_sizeOf a_number a_passing, aA cI a_d 40 f_d, aA cI a_found 7 oo.2.1, aA cI a_hears 10 oo.2.2.1, aA cI a_near 10 oo.2.2.2]) (ro, o0, o1, o2) (own := RX7) (lv := [(0, .ref a_t), (1, .int p1)]) (by decide) rfl rfl (Nat.le_of_ble_eq_true rfl) rfl ?_
  intro p e s m args below meth c Q ls C hret hV hl
  obtain ⟨out, hout⟩ : ∃ z : Int32 × (Nat → Int32) × (Nat → Int32) × (Nat → Int32), z = (ro, o0, o1, o2) := ⟨_, rfl⟩
  rw [← hout] at hF hret
  obtain ⟨H0, hH0⟩ : ∃ z : Heap, z = s.heap := ⟨_, rfl⟩
  obtain ⟨A0, hA0⟩ : ∃ z : Nat → Prop, z = va_A [oX7 a_t a_d a_e a_kept v_isKept a_found a_tape v_taped v_gone a_hears a_near a_firstDay a_daily v_begin v_round v_leastFar v_leastWhere v_mostLed a_heardNow v_firstMove v_at v_sort v_from v_value v_fault a_bitsOf a_sizeOf a_number a_passing, aA cI a_d 40 f_d, aA cI a_found 7 f_found, aA cI a_hears 10 f_hears, aA cI a_near 10 f_near] s.heap.size := ⟨_, rfl⟩
  rw [← hA0] at hret hV
  rw [← hH0] at hret hV
  rw [← hH0]
  obtain ⟨H, locs, hH⟩ : ∃ (z : Heap) (y : List Loc), z = H0 ∧ y = [] := ⟨_, _, rfl, rfl⟩
  rw [← hH.1, ← hH.2]
  have hV : gV (dC, dI) (gT cI cB cO) A0 H0 s [oX7 a_t a_d a_e a_kept v_isKept a_found a_tape v_taped v_gone a_hears a_near a_firstDay a_daily v_begin v_round v_leastFar v_leastWhere v_mostLed a_heardNow v_firstMove v_at v_sort v_from v_value v_fault a_bitsOf a_sizeOf a_number a_passing, aA cI a_d 40 f_d, aA cI a_found 7 f_found, aA cI a_hears 10 f_hears, aA cI a_near 10 f_near] H locs := by rw [hH.1, hH.2]; exact hV
  unfold F_X7_now at hF
  refine lv_iload_n C.1 C.2.1 dX7_now_0 rfl (lv_at hl 1 rfl) ?_
  refine g_i2l C hF dX7_now_1 (fun x1 hF => ?_)
  refine lv_lconst (v := 0) C.1 C.2.1 dX7_now_2 rfl ?_
  refine lv_ldc2 (v := 6) C.1 C.2.1 C.2.2.2.1 (C.2.2.2.2 _ ctX7_now_100) dX7_now_3 ?_
  obtain ⟨x2, hc, hF⟩ := bd1_s hF
  refine g_cSi (ws' := [oX7 a_t a_d a_e a_kept v_isKept a_found a_tape v_taped v_gone a_hears a_near a_firstDay a_daily v_begin v_round v_leastFar v_leastWhere v_mostLed a_heardNow v_firstMove v_at v_sort v_from v_value v_fault a_bitsOf a_sizeOf a_number a_passing, aA cI a_d 40 f_d, aA cI a_found 7 f_found, aA cI a_hears 10 f_hears, aA cI a_near 10 f_near]) (wr := [oX7 a_t a_d a_e a_kept v_isKept a_found a_tape v_taped v_gone a_hears a_near a_firstDay a_daily v_begin v_round v_leastFar v_leastWhere v_mostLed a_heardNow v_firstMove v_at v_sort v_from v_value v_fault a_bitsOf a_sizeOf a_number a_passing, aA cI a_d 40 f_d, aA cI a_found 7 f_found, aA cI a_hears 10 f_hears, aA cI a_near 10 f_near]) C hV (k_X7_in l dC dI cI cB cO n0 H.size x1 0 6 hc) mdX7_in gX7_now_X7_in rfl rfl ⟨Nat.le_of_ble_eq_true rfl, Nat.le_of_ble_eq_true rfl⟩ [] [0, 1, 2, 3, 4] [0, 1, 2, 3, 4] rfl rfl rfl rfl rfl rfl rfl rfl hl.1 (Nat.le_of_ble_eq_true rfl) rfl dX7_now_6 (fun H locs hV => ?_)
  refine g_if_ne (tgt := 18) C hF dX7_now_9 rfl (fun hF => ?_) (fun hF => ?_)
  · refine lv_aload_n C.1 C.2.1 dX7_now_18 rfl (lv_at hl 0 rfl) ?_
    obtain ⟨g3, g4, hc, hF⟩ := bd2_s hF
    refine g_cVv (ws' := [oX7 a_t a_d a_e a_kept v_isKept a_found a_tape v_taped v_gone a_hears a_near a_firstDay a_daily v_begin v_round v_leastFar v_leastWhere v_mostLed a_heardNow v_firstMove v_at v_sort v_from v_value v_fault a_bitsOf a_sizeOf a_number a_passing, aA cI a_d 40 f_d, aA cI a_found 7 f_found, aA cI a_hears 10 g3, aA cI a_near 10 g4]) (wr := [aA cI a_found 7 f_found]) C hV (k_X7_listen l dC dI cI cB cO n0 H.size a_t a_d a_e a_kept a_found a_tape a_hears a_near a_firstDay a_daily a_heardNow a_bitsOf a_sizeOf a_number a_passing v_isKept v_taped v_gone v_begin v_round v_leastFar v_leastWhere v_mostLed v_firstMove v_at v_sort v_from v_value v_fault f_d f_hears f_near hc) mdX7_listen gX7_now_X7_listen rfl rfl ⟨Nat.le_of_ble_eq_true rfl, Nat.le_of_ble_eq_true rfl⟩ [0, 1, 3, 4] [2] [1, 2, 0, 3, 4] rfl rfl rfl rfl rfl rfl rfl rfl rfl rfl hl.1 (Nat.le_of_ble_eq_true rfl) rfl dX7_now_19 (fun H locs hV => ?_)
    refine lv_iconst (v := 0) C.1 C.2.1 dX7_now_22 rfl ?_
    refine lv_istore_n (lv' := [(2, .int 0), (0, .ref a_t), (1, .int p1)]) C.1 C.2.1 dX7_now_23 rfl hl (by decide) rfl (fun ls hl => ?_)
    refine lv_iconst (v := (-1)) C.1 C.2.1 dX7_now_24 rfl ?_
    refine lv_istore_n (lv' := [(3, .int ((-1))), (2, .int 0), (0, .ref a_t), (1, .int p1)]) C.1 C.2.1 dX7_now_25 rfl hl (by decide) rfl (fun ls hl => ?_)
    refine lv_iconst (v := 0) C.1 C.2.1 dX7_now_26 rfl ?_
    refine lv_istore (lv' := [(4, .int 0), (3, .int ((-1))), (2, .int 0), (0, .ref a_t), (1, .int p1)]) C.1 C.2.1 dX7_now_27 hl (by decide) rfl (fun ls hl => ?_)
    have hL29 : ∀ (n : Nat) (s5 : Int32) (s6 : Int32) (s7 : Int32) (H : Heap) (locs : List Loc) (ls : Array Slot), gV (dC, dI) (gT cI cB cO) A0 H0 s [oX7 a_t a_d a_e a_kept v_isKept a_found a_tape v_taped v_gone a_hears a_near a_firstDay a_daily v_begin v_round v_leastFar v_leastWhere v_mostLed a_heardNow v_firstMove v_at v_sort v_from v_value v_fault a_bitsOf a_sizeOf a_number a_passing, aA cI a_d 40 f_d, aA cI a_found 7 f_found, aA cI a_hears 10 g3, aA cI a_near 10 g4] H locs → lv_has ls 5 [(0, .ref a_t), (1, .int p1), (2, .int s5), (3, .int s6), (4, .int s7)] → L_X7_now_29 f_d p1 f_found g3 g4 n0 n s5 s6 s7 = some out → W p l e rmX7_now s m args below meth c H locs 0 0 Q (F0 m 29 ls []) := by
      intro n
      induction n with
      | zero => intro s5 s6 s7 H locs ls hV hl hF; exact lpp3_z hF
      | succ n ih29 =>
        intro s5 s6 s7 H locs ls hV hl hF
        obtain ⟨kk29, hk29, hF⟩ := lpp3_g hF
        have hq29 : ∀ (s5 : Int32) (s6 : Int32) (s7 : Int32), kk29 s5 s6 s7 = some out → L_X7_now_29 f_d p1 f_found g3 g4 n0 n s5 s6 s7 = some out := fun _ _ _ h => by rw [hk29] at h; exact h
        refine lv_iload C.1 C.2.1 dX7_now_29 (lv_at hl 4 rfl) ?_
        refine lv_aload_n C.1 C.2.1 dX7_now_31 rfl (lv_at hl 0 rfl) ?_
        refine g_get C hV flX7_now_7 0 rfl rfl dX7_now_32 ?_
        refine lv_iconst (v := 0) C.1 C.2.1 dX7_now_35 rfl ?_
        refine g_iald C hV 1 rfl hF dX7_now_36 (fun x8 hF => ?_)
        refine g_icmp_ge (tgt := 87) C hF dX7_now_37 rfl (fun hF => ?_) (fun hF => ?_)
        · refine lv_iload_n C.1 C.2.1 dX7_now_87 rfl (lv_at hl 1 rfl) ?_
          rcases ite_or hF with ⟨hc, hF⟩ | ⟨hc88_0, hF⟩
          · refine lv_tableIn (off := 40) (tgt := 128) C.1 C.2.1 dX7_now_88 (by rw [hc]; decide) (by rw [hc]; decide) (by rw [hc]; rfl) rfl ?_
            refine lv_aload_n C.1 C.2.1 dX7_now_128 rfl (lv_at hl 0 rfl) ?_
            refine g_get C hV flX7_now_7 0 rfl rfl dX7_now_129 ?_
            refine lv_iconst (v := 1) C.1 C.2.1 dX7_now_132 rfl ?_
            refine g_iald C hV 1 rfl hF dX7_now_133 (fun x9 hF => ?_)
            exact hret (x9, f_found, g3, g4) _ _ _ _ dX7_now_134 hF hV
          rcases ite_or hF with ⟨hc, hF⟩ | ⟨hc88_1, hF⟩
          · refine lv_tableIn (off := 47) (tgt := 135) C.1 C.2.1 dX7_now_88 (by rw [hc]; decide) (by rw [hc]; decide) (by rw [hc]; rfl) rfl ?_
            refine lv_aload_n C.1 C.2.1 dX7_now_135 rfl (lv_at hl 0 rfl) ?_
            refine g_get C hV flX7_now_7 0 rfl rfl dX7_now_136 ?_
            refine lv_bipush (v := 6) C.1 C.2.1 dX7_now_139 rfl ?_
            refine g_iald C hV 1 rfl hF dX7_now_141 (fun x10 hF => ?_)
            exact hret (x10, f_found, g3, g4) _ _ _ _ dX7_now_142 hF hV
          rcases ite_or hF with ⟨hc, hF⟩ | ⟨hc88_2, hF⟩
          · refine lv_tableIn (off := 55) (tgt := 143) C.1 C.2.1 dX7_now_88 (by rw [hc]; decide) (by rw [hc]; decide) (by rw [hc]; rfl) rfl ?_
            refine lv_aload_n C.1 C.2.1 dX7_now_143 rfl (lv_at hl 0 rfl) ?_
            refine g_get C hV flX7_now_7 0 rfl rfl dX7_now_144 ?_
            refine lv_bipush (v := 6) C.1 C.2.1 dX7_now_147 rfl ?_
            refine g_iald C hV 1 rfl hF dX7_now_149 (fun x11 hF => ?_)
            obtain ⟨x12, hc, hF⟩ := bd1_s hF
            refine g_cSi (ws' := [oX7 a_t a_d a_e a_kept v_isKept a_found a_tape v_taped v_gone a_hears a_near a_firstDay a_daily v_begin v_round v_leastFar v_leastWhere v_mostLed a_heardNow v_firstMove v_at v_sort v_from v_value v_fault a_bitsOf a_sizeOf a_number a_passing, aA cI a_d 40 f_d, aA cI a_found 7 f_found, aA cI a_hears 10 g3, aA cI a_near 10 g4]) (wr := [oX7 a_t a_d a_e a_kept v_isKept a_found a_tape v_taped v_gone a_hears a_near a_firstDay a_daily v_begin v_round v_leastFar v_leastWhere v_mostLed a_heardNow v_firstMove v_at v_sort v_from v_value v_fault a_bitsOf a_sizeOf a_number a_passing, aA cI a_d 40 f_d, aA cI a_found 7 f_found, aA cI a_hears 10 g3, aA cI a_near 10 g4]) C hV (k_X7_ones l dC dI cI cB cO n0 H.size x11 hc) mdX7_ones gX7_now_X7_ones rfl rfl ⟨Nat.le_of_ble_eq_true rfl, Nat.le_of_ble_eq_true rfl⟩ [] [0, 1, 2, 3, 4] [0, 1, 2, 3, 4] rfl rfl rfl rfl rfl rfl rfl rfl hl.1 (Nat.le_of_ble_eq_true rfl) rfl dX7_now_150 (fun H locs hV => ?_)
            exact hret (x12, f_found, g3, g4) _ _ _ _ dX7_now_153 hF hV
          rcases ite_or hF with ⟨hc, hF⟩ | ⟨hc88_3, hF⟩
          · refine lv_tableIn (off := 66) (tgt := 154) C.1 C.2.1 dX7_now_88 (by rw [hc]; decide) (by rw [hc]; decide) (by rw [hc]; rfl) rfl ?_
            refine lv_aload_n C.1 C.2.1 dX7_now_154 rfl (lv_at hl 0 rfl) ?_
            obtain ⟨x13, hc, hF⟩ := bd1_s hF
            refine g_cVi (ws' := [oX7 a_t a_d a_e a_kept v_isKept a_found a_tape v_taped v_gone a_hears a_near a_firstDay a_daily v_begin v_round v_leastFar v_leastWhere v_mostLed a_heardNow v_firstMove v_at v_sort v_from v_value v_fault a_bitsOf a_sizeOf a_number a_passing, aA cI a_d 40 f_d, aA cI a_found 7 f_found, aA cI a_hears 10 g3, aA cI a_near 10 g4]) (wr := [aA cI a_found 7 f_found, aA cI a_near 10 g4]) C hV (k_X7_pairs l dC dI cI cB cO n0 H.size a_t a_d a_e a_kept a_found a_tape a_hears a_near a_firstDay a_daily a_heardNow a_bitsOf a_sizeOf a_number a_passing v_isKept v_taped v_gone v_begin v_round v_leastFar v_leastWhere v_mostLed v_firstMove v_at v_sort v_from v_value v_fault f_d g3 hc) mdX7_pairs gX7_now_X7_pairs rfl rfl ⟨Nat.le_of_ble_eq_true rfl, Nat.le_of_ble_eq_true rfl⟩ [0, 1, 3] [2, 4] [2, 3, 0, 4, 1] rfl rfl rfl rfl rfl rfl rfl rfl rfl rfl hl.1 (Nat.le_of_ble_eq_true rfl) rfl dX7_now_155 (fun H locs hV => ?_)
            exact hret (x13, f_found, g3, g4) _ _ _ _ dX7_now_158 hF hV
          rcases ite_or hF with ⟨hc, hF⟩ | ⟨hc88_4, hF⟩
          · refine lv_tableIn (off := 71) (tgt := 159) C.1 C.2.1 dX7_now_88 (by rw [hc]; decide) (by rw [hc]; decide) (by rw [hc]; rfl) rfl ?_
            refine lv_iload_n C.1 C.2.1 dX7_now_159 rfl (lv_at hl 2 rfl) ?_
            exact hret (s5, f_found, g3, g4) _ _ _ _ dX7_now_160 hF hV
          rcases ite_or hF with ⟨hc, hF⟩ | ⟨hc88_5, hF⟩
          · refine lv_tableIn (off := 73) (tgt := 161) C.1 C.2.1 dX7_now_88 (by rw [hc]; decide) (by rw [hc]; decide) (by rw [hc]; rfl) rfl ?_
            refine lv_aload_n C.1 C.2.1 dX7_now_161 rfl (lv_at hl 0 rfl) ?_
            obtain ⟨x14, hc, hF⟩ := bd1_s hF
            refine g_cVi (ws' := [oX7 a_t a_d a_e a_kept v_isKept a_found a_tape v_taped v_gone a_hears a_near a_firstDay a_daily v_begin v_round v_leastFar v_leastWhere v_mostLed a_heardNow v_firstMove v_at v_sort v_from v_value v_fault a_bitsOf a_sizeOf a_number a_passing, aA cI a_d 40 f_d, aA cI a_found 7 f_found, aA cI a_hears 10 g3, aA cI a_near 10 g4]) (wr := [aA cI a_found 7 f_found, aA cI a_near 10 g4]) C hV (k_X7_unheard l dC dI cI cB cO n0 H.size a_t a_d a_e a_kept a_found a_tape a_hears a_near a_firstDay a_daily a_heardNow a_bitsOf a_sizeOf a_number a_passing v_isKept v_taped v_gone v_begin v_round v_leastFar v_leastWhere v_mostLed v_firstMove v_at v_sort v_from v_value v_fault f_d g3 hc) mdX7_unheard gX7_now_X7_unheard rfl rfl ⟨Nat.le_of_ble_eq_true rfl, Nat.le_of_ble_eq_true rfl⟩ [0, 1, 3] [2, 4] [2, 3, 0, 4, 1] rfl rfl rfl rfl rfl rfl rfl rfl rfl rfl hl.1 (Nat.le_of_ble_eq_true rfl) rfl dX7_now_162 (fun H locs hV => ?_)
            exact hret (x14, f_found, g3, g4) _ _ _ _ dX7_now_165 hF hV
          refine lv_tableOut (tgt := 166) C.1 C.2.1 dX7_now_88 (sw_out (fun j h1 h2 => by rcases (show j = 0 ∨ j = 1 ∨ j = 2 ∨ j = 3 ∨ j = 4 ∨ j = 5 by omega) with rfl | rfl | rfl | rfl | rfl | rfl <;> first | exact hc88_0 | exact hc88_1 | exact hc88_2 | exact hc88_3 | exact hc88_4 | exact hc88_5)) rfl ?_
          refine lv_iload_n C.1 C.2.1 dX7_now_166 rfl (lv_at hl 3 rfl) ?_
          exact hret (s6, f_found, g3, g4) _ _ _ _ dX7_now_167 hF hV
        refine lv_iload_n C.1 C.2.1 dX7_now_40 rfl (lv_at hl 2 rfl) ?_
        refine lv_aload_n C.1 C.2.1 dX7_now_41 rfl (lv_at hl 0 rfl) ?_
        refine lv_iload C.1 C.2.1 dX7_now_42 (lv_at hl 4 rfl) ?_
        obtain ⟨x15, hc, hF⟩ := bd1_s hF
        refine g_cVi (ws' := [oX7 a_t a_d a_e a_kept v_isKept a_found a_tape v_taped v_gone a_hears a_near a_firstDay a_daily v_begin v_round v_leastFar v_leastWhere v_mostLed a_heardNow v_firstMove v_at v_sort v_from v_value v_fault a_bitsOf a_sizeOf a_number a_passing, aA cI a_d 40 f_d, aA cI a_found 7 f_found, aA cI a_hears 10 g3, aA cI a_near 10 g4]) (wr := [aA cI a_d 40 f_d, aA cI a_found 7 f_found, aA cI a_near 10 g4]) C hV (k_X7_isPaired l dC dI cI cB cO n0 H.size a_t a_d a_e a_kept a_found a_tape a_hears a_near a_firstDay a_daily a_heardNow a_bitsOf a_sizeOf a_number a_passing v_isKept v_taped v_gone v_begin v_round v_leastFar v_leastWhere v_mostLed v_firstMove v_at v_sort v_from v_value v_fault g3 s7 hc) mdX7_isPaired gX7_now_X7_isPaired rfl rfl ⟨Nat.le_of_ble_eq_true rfl, Nat.le_of_ble_eq_true rfl⟩ [0, 3] [1, 2, 4] [3, 0, 1, 4, 2] rfl rfl rfl rfl rfl rfl rfl rfl rfl rfl hl.1 (Nat.le_of_ble_eq_true rfl) rfl dX7_now_44 (fun H locs hV => ?_)
        have hJ58 : ∀ (k16 : Int32) (k17 : Int32) (H : Heap) (locs : List Loc) (ls : Array Slot), gV (dC, dI) (gT cI cB cO) A0 H0 s [oX7 a_t a_d a_e a_kept v_isKept a_found a_tape v_taped v_gone a_hears a_near a_firstDay a_daily v_begin v_round v_leastFar v_leastWhere v_mostLed a_heardNow v_firstMove v_at v_sort v_from v_value v_fault a_bitsOf a_sizeOf a_number a_passing, aA cI a_d 40 f_d, aA cI a_found 7 f_found, aA cI a_hears 10 g3, aA cI a_near 10 g4] H locs → lv_has ls 5 [(0, .ref a_t), (1, .int p1), (3, .int s6), (4, .int s7)] → J_X7_now_58 k17 k16 n0 g3 s7 s6 kk29 = some out → W p l e rmX7_now s m args below meth c H locs 0 0 Q (F0 m 58 ls [.int k16, .int k17]) := by
          intro k16 k17 H locs ls hV hl hF
          unfold J_X7_now_58 at hF
          refine g_ior C hF dX7_now_58 (fun x18 hF => ?_)
          refine lv_istore_n (lv' := [(2, .int x18), (0, .ref a_t), (1, .int p1), (3, .int s6), (4, .int s7)]) C.1 C.2.1 dX7_now_59 rfl hl (by decide) rfl (fun ls hl => ?_)
          refine lv_aload_n C.1 C.2.1 dX7_now_60 rfl (lv_at hl 1 rfl) ?_
          refine lv_iload C.1 C.2.1 dX7_now_61 (lv_at hl 4 rfl) ?_
          obtain ⟨x19, hc, hF⟩ := bd1_s hF
          refine g_cVi (ws' := [oX7 a_t a_d a_e a_kept v_isKept a_found a_tape v_taped v_gone a_hears a_near a_firstDay a_daily v_begin v_round v_leastFar v_leastWhere v_mostLed a_heardNow v_firstMove v_at v_sort v_from v_value v_fault a_bitsOf a_sizeOf a_number a_passing, aA cI a_d 40 f_d, aA cI a_found 7 f_found, aA cI a_hears 10 g3, aA cI a_near 10 g4]) (wr := [aA cI a_d 40 f_d, aA cI a_found 7 f_found, aA cI a_near 10 g4]) C hV (k_X7_lineOf l dC dI cI cB cO n0 H.size a_t a_d a_e a_kept a_found a_tape a_hears a_near a_firstDay a_daily a_heardNow a_bitsOf a_sizeOf a_number a_passing v_isKept v_taped v_gone v_begin v_round v_leastFar v_leastWhere v_mostLed v_firstMove v_at v_sort v_from v_value v_fault g3 s7 hc) mdX7_lineOf gX7_now_X7_lineOf rfl rfl ⟨Nat.le_of_ble_eq_true rfl, Nat.le_of_ble_eq_true rfl⟩ [0, 3] [1, 2, 4] [3, 0, 1, 4, 2] rfl rfl rfl rfl rfl rfl rfl rfl rfl rfl hl.1 (Nat.le_of_ble_eq_true rfl) rfl dX7_now_63 (fun H locs hV => ?_)
          refine lv_iload_n C.1 C.2.1 dX7_now_66 rfl (lv_at hl 3 rfl) ?_
          refine g_icmp_le (tgt := 79) C hF dX7_now_67 rfl (fun hF => ?_) (fun hF => ?_)
          · refine lv_iload_n C.1 C.2.1 dX7_now_79 rfl (lv_at hl 3 rfl) ?_
            refine lv_istore_n (lv' := [(3, .int s6), (2, .int x18), (0, .ref a_t), (1, .int p1), (4, .int s7)]) C.1 C.2.1 dX7_now_80 rfl hl (by decide) rfl (fun ls hl => ?_)
            refine g_iinc C hF dX7_now_81 (d := 1) rfl hl (j := 4) rfl (by decide) (fun y => [(4, .int y), (3, .int s6), (2, .int x18), (0, .ref a_t), (1, .int p1)]) (fun _ => rfl) (fun x20 ls hF hl => ?_)
            refine lv_goto (tgt := 29) C.1 C.2.1 dX7_now_84 rfl ?_
            exact ih29 x18 s6 x20 H locs ls hV (lv_sub hl [3, 4, 2, 1, 0] rfl) (hq29 x18 s6 x20 hF)
          refine lv_aload_n C.1 C.2.1 dX7_now_70 rfl (lv_at hl 1 rfl) ?_
          refine lv_iload C.1 C.2.1 dX7_now_71 (lv_at hl 4 rfl) ?_
          obtain ⟨x21, hc, hF⟩ := bd1_s hF
          refine g_cVi (ws' := [oX7 a_t a_d a_e a_kept v_isKept a_found a_tape v_taped v_gone a_hears a_near a_firstDay a_daily v_begin v_round v_leastFar v_leastWhere v_mostLed a_heardNow v_firstMove v_at v_sort v_from v_value v_fault a_bitsOf a_sizeOf a_number a_passing, aA cI a_d 40 f_d, aA cI a_found 7 f_found, aA cI a_hears 10 g3, aA cI a_near 10 g4]) (wr := [aA cI a_d 40 f_d, aA cI a_found 7 f_found, aA cI a_near 10 g4]) C hV (k_X7_lineOf l dC dI cI cB cO n0 H.size a_t a_d a_e a_kept a_found a_tape a_hears a_near a_firstDay a_daily a_heardNow a_bitsOf a_sizeOf a_number a_passing v_isKept v_taped v_gone v_begin v_round v_leastFar v_leastWhere v_mostLed v_firstMove v_at v_sort v_from v_value v_fault g3 s7 hc) mdX7_lineOf gX7_now_X7_lineOf rfl rfl ⟨Nat.le_of_ble_eq_true rfl, Nat.le_of_ble_eq_true rfl⟩ [0, 3] [1, 2, 4] [3, 0, 1, 4, 2] rfl rfl rfl rfl rfl rfl rfl rfl rfl rfl hl.1 (Nat.le_of_ble_eq_true rfl) rfl dX7_now_73 (fun H locs hV => ?_)
          refine lv_goto (tgt := 80) C.1 C.2.1 dX7_now_76 rfl ?_
          refine lv_istore_n (lv' := [(3, .int x21), (2, .int x18), (0, .ref a_t), (1, .int p1), (4, .int s7)]) C.1 C.2.1 dX7_now_80 rfl hl (by decide) rfl (fun ls hl => ?_)
          refine g_iinc C hF dX7_now_81 (d := 1) rfl hl (j := 4) rfl (by decide) (fun y => [(4, .int y), (3, .int x21), (2, .int x18), (0, .ref a_t), (1, .int p1)]) (fun _ => rfl) (fun x22 ls hF hl => ?_)
          refine lv_goto (tgt := 29) C.1 C.2.1 dX7_now_84 rfl ?_
          exact ih29 x18 x21 x22 H locs ls hV (lv_sub hl [3, 4, 2, 1, 0] rfl) (hq29 x18 x21 x22 hF)
        refine g_if_eq (tgt := 57) C hF dX7_now_47 rfl (fun hF => ?_) (fun hF => ?_)
        · refine lv_iconst (v := 0) C.1 C.2.1 dX7_now_57 rfl ?_
          exact hJ58 0 s5 H locs ls hV (lv_sub hl [0, 1, 3, 4] rfl) hF
        refine lv_iconst (v := 1) C.1 C.2.1 dX7_now_50 rfl ?_
        refine lv_iload C.1 C.2.1 dX7_now_51 (lv_at hl 4 rfl) ?_
        refine g_ishl C hF dX7_now_53 (fun x23 hF => ?_)
        refine lv_goto (tgt := 58) C.1 C.2.1 dX7_now_54 rfl ?_
        exact hJ58 x23 s5 H locs ls hV (lv_sub hl [0, 1, 3, 4] rfl) hF
    exact hL29 n0 0 ((-1)) 0 H locs ls hV (lv_sub hl [3, 4, 2, 1, 0] rfl) hF
  refine lv_aload_n C.1 C.2.1 dX7_now_12 rfl (lv_at hl 0 rfl) ?_
  refine lv_iconst (v := 0) C.1 C.2.1 dX7_now_13 rfl ?_
  obtain ⟨x24, g25, hc, hF⟩ := bd2_s hF
  refine g_cVi (ws' := [oX7 a_t a_d a_e a_kept v_isKept a_found a_tape v_taped v_gone a_hears a_near a_firstDay a_daily v_begin v_round v_leastFar v_leastWhere v_mostLed a_heardNow v_firstMove v_at v_sort v_from v_value v_fault a_bitsOf a_sizeOf a_number a_passing, aA cI a_d 40 f_d, aA cI a_found 7 g25, aA cI a_hears 10 f_hears, aA cI a_near 10 f_near]) (wr := [aA cI a_d 40 f_d, aA cI a_hears 10 f_hears, aA cI a_near 10 f_near]) C hV (k_X7_finds l dC dI cI cB cO n0 H.size a_t a_d a_e a_kept a_found a_tape a_hears a_near a_firstDay a_daily a_heardNow a_bitsOf a_sizeOf a_number a_passing v_isKept v_taped v_gone v_begin v_round v_leastFar v_leastWhere v_mostLed v_firstMove v_at v_sort v_from v_value v_fault f_found 0 hc) mdX7_finds gX7_now_X7_finds rfl rfl ⟨Nat.le_of_ble_eq_true rfl, Nat.le_of_ble_eq_true rfl⟩ [0, 2] [1, 3, 4] [3, 0, 4, 1, 2] rfl rfl rfl rfl rfl rfl rfl rfl rfl rfl hl.1 (Nat.le_of_ble_eq_true rfl) rfl dX7_now_14 (fun H locs hV => ?_)
  exact hret (x24, g25, f_hears, f_near) _ _ _ _ dX7_now_17 hF hV
abbrev rmX7_saying : Room := { frames := 4, cells := 0, slots := 0, locals := 92 }
theorem mdX7_saying : gMd yX7_saying wsX7_saying cX7_saying 2 (some .int) 1 := ⟨⟨_, rfl⟩, by decide +kernel⟩
theorem ctX7_saying_158 : Cond.constantLong RX7 158 999999 ∈ wsX7_saying := List.mem_cons_of_mem _ (List.mem_append_left _ (List.mem_append_left _ (List.mem_of_getElem? (i := 0) rfl)))
theorem flX7_saying_7 : gFL wsX7_saying RX7 7 7 0 RX7 TX7 28 := ⟨rfl, fun w h => List.mem_cons_of_mem _ (List.mem_append_right _ (h)), Nat.le_of_ble_eq_true rfl, List.mem_cons_of_mem _ (List.mem_append_left _ (List.mem_append_left _ (List.mem_of_getElem? (i := 1) rfl)))⟩
def F_X7_saying (n0 : Nat) (v_gone : Int32) (v_begin : Int32) (v_round : Int32) (f_d : Nat → Int32) (f_daily : Nat → Int32) (f_firstDay : Nat → Int32) (f_found : Nat → Int32) (f_hears : Nat → Int32) (f_near : Nat → Int32) (p1 : Int32) : Option (Int32 × Int32 × Int32 × (Nat → Int32) × (Nat → Int32) × (Nat → Int32) × (Nat → Int32) × (Nat → Int32)) := nm (p1.toInt64) (fun x1 => bd1 (F_X7_in n0 x1 0 999999) (fun x2 => (if x2 = 0 then bd2 (F_X7_finds n0 f_found 0) (fun x11 g12 => some (x11, v_begin, v_round, f_daily, f_firstDay, g12, f_hears, f_near)) else bd2 (F_X7_listen n0 v_gone f_d f_hears f_near) (fun g3 g4 => rd f_d 40 6 (fun x5 => bd4 (F_X7_goThrough n0 v_begin v_round f_d f_daily f_firstDay g3 g4 x5) (fun x6 x7 g8 g9 => bd1 (F_X7_saidBehind n0 x6 x7 g8 p1) (fun x10 => some (x10, x6, x7, g8, g9, f_found, g3, g4))))))))
set_option maxRecDepth 100000 in
set_option maxHeartbeats 4000000 in
theorem k_X7_saying (l : Launch) (dC : Nat → ClassId) (dI : Nat → Nat → Nat) (cI cB cO : ClassId) (n0 sz : Nat) (a_t : Nat) (a_d : Nat) (a_e : Nat) (a_kept : Nat) (a_found : Nat) (a_tape : Nat) (a_hears : Nat) (a_near : Nat) (a_firstDay : Nat) (a_daily : Nat) (a_heardNow : Nat) (a_bitsOf : Nat) (a_sizeOf : Nat) (a_number : Nat) (a_passing : Nat)   (v_isKept : Int32) (v_taped : Int32) (v_gone : Int32) (v_begin : Int32) (v_round : Int32) (v_leastFar : Int32) (v_leastWhere : Int32) (v_mostLed : Int32) (v_firstMove : Int32) (v_at : Int32) (v_sort : Int32) (v_from : Int32) (v_value : Int64) (v_fault : Int32) (f_d : Nat → Int32) (f_daily : Nat → Int32) (f_firstDay : Nat → Int32) (f_found : Nat → Int32) (f_hears : Nat → Int32) (f_near : Nat → Int32) (p1 : Int32)  {ro : Int32} {o0 : Int32} {o1 : Int32} {o2 : Nat → Int32} {o3 : Nat → Int32} {o4 : Nat → Int32} {o5 : Nat → Int32} {o6 : Nat → Int32} (hF : F_X7_saying n0 v_gone v_begin v_round f_d f_daily f_firstDay f_found f_hears f_near p1 = some (ro, o0, o1, o2, o3, o4, o5, o6)) : Met l yX7_saying wsX7_saying rmX7_saying (va_Pc [.ref a_t, .int p1] (gPre (dC, dI) (gT cI cB cO) sz [oX7 a_t a_d a_e a_kept v_isKept a_found a_tape v_taped v_gone a_hears a_near a_firstDay a_daily v_begin v_round v_leastFar v_leastWhere v_mostLed a_heardNow v_firstMove v_at v_sort v_from v_value v_fault a_bitsOf a_sizeOf a_number a_passing, aA cI a_d 40 f_d, aA cI a_daily 1026 f_daily, aA cI a_firstDay 1024 f_firstDay, aA cI a_found 7 f_found, aA cI a_hears 10 f_hears, aA cI a_near 10 f_near])) (gQi (dC, dI) (gT cI cB cO) sz [oX7 a_t a_d a_e a_kept v_isKept a_found a_tape v_taped v_gone a_hears a_near a_firstDay a_daily v_begin v_round v_leastFar v_leastWhere v_mostLed a_heardNow v_firstMove v_at v_sort v_from v_value v_fault a_bitsOf a_sizeOf a_number a_passing, aA cI a_d 40 f_d, aA cI a_daily 1026 f_daily, aA cI a_firstDay 1024 f_firstDay, aA cI a_found 7 f_found, aA cI a_hears 10 f_hears, aA cI a_near 10 f_near] ro [oX7 a_t a_d a_e a_kept v_isKept a_found a_tape v_taped v_gone a_hears a_near a_firstDay a_daily o0 o1 v_leastFar v_leastWhere v_mostLed a_heardNow v_firstMove v_at v_sort v_from v_value v_fault a_bitsOf a_sizeOf a_number a_passing, aA cI a_d 40 f_d, aA cI a_daily 1026 o2, aA cI a_firstDay 1024 o3, aA cI a_found 7 o4, aA cI a_hears 10 o5, aA cI a_near 10 o6]) 0 0 (va_A [oX7 a_t a_d a_e a_kept v_isKept a_found a_tape v_taped v_gone a_hears a_near a_firstDay a_daily v_begin v_round v_leastFar v_leastWhere v_mostLed a_heardNow v_firstMove v_at v_sort v_from v_value v_fault a_bitsOf a_sizeOf a_number a_passing, aA cI a_d 40 f_d, aA cI a_daily 1026 f_daily, aA cI a_firstDay 1024 f_firstDay, aA cI a_found 7 f_found, aA cI a_hears 10 f_hears, aA cI a_near 10 f_near] sz) := by
  refine g_metI (Out := Int32 × Int32 × Int32 × (Nat → Int32) × (Nat → Int32) × (Nat → Int32) × (Nat → Int32) × (Nat → Int32)) (fun oo => oo.1) (fun oo => [oX7 a_t a_d a_e a_kept v_isKept a_found a_tape v_taped v_gone a_hears a_near a_firstDay a_daily oo.2.1 oo.2.2.1 v_leastFar v_leastWhere v_mostLed a_heardNow v_firstMove v_at v_sort v_from v_value v_fault a_bitsOf a_sizeOf a_number a_passing, aA cI a_d 40 f_d, aA cI a_daily 1026 oo.2.2.2.1, aA cI a_firstDay 1024 oo.2.2.2.2.1, aA cI a_found 7 oo.2.2.2.2.2.1, aA cI a_hears 10 oo.2.2.2.2.2.2.1, aA cI a_near 10 oo.2.2.2.2.2.2.2]) (ro, o0, o1, o2, o3, o4, o5, o6) (own := RX7) (lv := [(0, .ref a_t), (1, .int p1)]) (by decide) rfl rfl (Nat.le_of_ble_eq_true rfl) rfl ?_
  intro p e s m args below meth c Q ls C hret hV hl
  obtain ⟨out, hout⟩ : ∃ z : Int32 × Int32 × Int32 × (Nat → Int32) × (Nat → Int32) × (Nat → Int32) × (Nat → Int32) × (Nat → Int32), z = (ro, o0, o1, o2, o3, o4, o5, o6) := ⟨_, rfl⟩
  rw [← hout] at hF hret
  obtain ⟨H0, hH0⟩ : ∃ z : Heap, z = s.heap := ⟨_, rfl⟩
  obtain ⟨A0, hA0⟩ : ∃ z : Nat → Prop, z = va_A [oX7 a_t a_d a_e a_kept v_isKept a_found a_tape v_taped v_gone a_hears a_near a_firstDay a_daily v_begin v_round v_leastFar v_leastWhere v_mostLed a_heardNow v_firstMove v_at v_sort v_from v_value v_fault a_bitsOf a_sizeOf a_number a_passing, aA cI a_d 40 f_d, aA cI a_daily 1026 f_daily, aA cI a_firstDay 1024 f_firstDay, aA cI a_found 7 f_found, aA cI a_hears 10 f_hears, aA cI a_near 10 f_near] s.heap.size := ⟨_, rfl⟩
  rw [← hA0] at hret hV
  rw [← hH0] at hret hV
  rw [← hH0]
  obtain ⟨H, locs, hH⟩ : ∃ (z : Heap) (y : List Loc), z = H0 ∧ y = [] := ⟨_, _, rfl, rfl⟩
  rw [← hH.1, ← hH.2]
  have hV : gV (dC, dI) (gT cI cB cO) A0 H0 s [oX7 a_t a_d a_e a_kept v_isKept a_found a_tape v_taped v_gone a_hears a_near a_firstDay a_daily v_begin v_round v_leastFar v_leastWhere v_mostLed a_heardNow v_firstMove v_at v_sort v_from v_value v_fault a_bitsOf a_sizeOf a_number a_passing, aA cI a_d 40 f_d, aA cI a_daily 1026 f_daily, aA cI a_firstDay 1024 f_firstDay, aA cI a_found 7 f_found, aA cI a_hears 10 f_hears, aA cI a_near 10 f_near] H locs := by rw [hH.1, hH.2]; exact hV
  unfold F_X7_saying at hF
  refine lv_iload_n C.1 C.2.1 dX7_saying_0 rfl (lv_at hl 1 rfl) ?_
  refine g_i2l C hF dX7_saying_1 (fun x1 hF => ?_)
  refine lv_lconst (v := 0) C.1 C.2.1 dX7_saying_2 rfl ?_
  refine lv_ldc2 (v := 999999) C.1 C.2.1 C.2.2.2.1 (C.2.2.2.2 _ ctX7_saying_158) dX7_saying_3 ?_
  obtain ⟨x2, hc, hF⟩ := bd1_s hF
  refine g_cSi (ws' := [oX7 a_t a_d a_e a_kept v_isKept a_found a_tape v_taped v_gone a_hears a_near a_firstDay a_daily v_begin v_round v_leastFar v_leastWhere v_mostLed a_heardNow v_firstMove v_at v_sort v_from v_value v_fault a_bitsOf a_sizeOf a_number a_passing, aA cI a_d 40 f_d, aA cI a_daily 1026 f_daily, aA cI a_firstDay 1024 f_firstDay, aA cI a_found 7 f_found, aA cI a_hears 10 f_hears, aA cI a_near 10 f_near]) (wr := [oX7 a_t a_d a_e a_kept v_isKept a_found a_tape v_taped v_gone a_hears a_near a_firstDay a_daily v_begin v_round v_leastFar v_leastWhere v_mostLed a_heardNow v_firstMove v_at v_sort v_from v_value v_fault a_bitsOf a_sizeOf a_number a_passing, aA cI a_d 40 f_d, aA cI a_daily 1026 f_daily, aA cI a_firstDay 1024 f_firstDay, aA cI a_found 7 f_found, aA cI a_hears 10 f_hears, aA cI a_near 10 f_near]) C hV (k_X7_in l dC dI cI cB cO n0 H.size x1 0 999999 hc) mdX7_in gX7_saying_X7_in rfl rfl ⟨Nat.le_of_ble_eq_true rfl, Nat.le_of_ble_eq_true rfl⟩ [] [0, 1, 2, 3, 4, 5, 6] [0, 1, 2, 3, 4, 5, 6] rfl rfl rfl rfl rfl rfl rfl rfl hl.1 (Nat.le_of_ble_eq_true rfl) rfl dX7_saying_6 (fun H locs hV => ?_)
  refine g_if_ne (tgt := 18) C hF dX7_saying_9 rfl (fun hF => ?_) (fun hF => ?_)
  · refine lv_aload_n C.1 C.2.1 dX7_saying_18 rfl (lv_at hl 0 rfl) ?_
    obtain ⟨g3, g4, hc, hF⟩ := bd2_s hF
    refine g_cVv (ws' := [oX7 a_t a_d a_e a_kept v_isKept a_found a_tape v_taped v_gone a_hears a_near a_firstDay a_daily v_begin v_round v_leastFar v_leastWhere v_mostLed a_heardNow v_firstMove v_at v_sort v_from v_value v_fault a_bitsOf a_sizeOf a_number a_passing, aA cI a_d 40 f_d, aA cI a_daily 1026 f_daily, aA cI a_firstDay 1024 f_firstDay, aA cI a_found 7 f_found, aA cI a_hears 10 g3, aA cI a_near 10 g4]) (wr := [aA cI a_daily 1026 f_daily, aA cI a_firstDay 1024 f_firstDay, aA cI a_found 7 f_found]) C hV (k_X7_listen l dC dI cI cB cO n0 H.size a_t a_d a_e a_kept a_found a_tape a_hears a_near a_firstDay a_daily a_heardNow a_bitsOf a_sizeOf a_number a_passing v_isKept v_taped v_gone v_begin v_round v_leastFar v_leastWhere v_mostLed v_firstMove v_at v_sort v_from v_value v_fault f_d f_hears f_near hc) mdX7_listen gX7_saying_X7_listen rfl rfl ⟨Nat.le_of_ble_eq_true rfl, Nat.le_of_ble_eq_true rfl⟩ [0, 1, 5, 6] [2, 3, 4] [3, 4, 0, 1, 2, 5, 6] rfl rfl rfl rfl rfl rfl rfl rfl rfl rfl hl.1 (Nat.le_of_ble_eq_true rfl) rfl dX7_saying_19 (fun H locs hV => ?_)
    refine lv_aload_n C.1 C.2.1 dX7_saying_22 rfl (lv_at hl 0 rfl) ?_
    refine lv_aload_n C.1 C.2.1 dX7_saying_23 rfl (lv_at hl 0 rfl) ?_
    refine g_get C hV flX7_saying_7 0 rfl rfl dX7_saying_24 ?_
    refine lv_bipush (v := 6) C.1 C.2.1 dX7_saying_27 rfl ?_
    refine g_iald C hV 1 rfl hF dX7_saying_29 (fun x5 hF => ?_)
    obtain ⟨x6, x7, g8, g9, hc, hF⟩ := bd4_s hF
    refine g_cVv (ws' := [oX7 a_t a_d a_e a_kept v_isKept a_found a_tape v_taped v_gone a_hears a_near a_firstDay a_daily x6 x7 v_leastFar v_leastWhere v_mostLed a_heardNow v_firstMove v_at v_sort v_from v_value v_fault a_bitsOf a_sizeOf a_number a_passing, aA cI a_d 40 f_d, aA cI a_daily 1026 g8, aA cI a_firstDay 1024 g9, aA cI a_found 7 f_found, aA cI a_hears 10 g3, aA cI a_near 10 g4]) (wr := [aA cI a_found 7 f_found]) C hV (k_X7_goThrough l dC dI cI cB cO n0 H.size a_t a_d a_e a_kept a_found a_tape a_hears a_near a_firstDay a_daily a_heardNow a_bitsOf a_sizeOf a_number a_passing v_isKept v_taped v_gone v_begin v_round v_leastFar v_leastWhere v_mostLed v_firstMove v_at v_sort v_from v_value v_fault f_d f_daily f_firstDay g3 g4 x5 hc) mdX7_goThrough gX7_saying_X7_goThrough rfl rfl ⟨Nat.le_of_ble_eq_true rfl, Nat.le_of_ble_eq_true rfl⟩ [0, 1, 2, 3, 5, 6] [4] [1, 2, 3, 4, 0, 5, 6] rfl rfl rfl rfl rfl rfl rfl rfl rfl rfl hl.1 (Nat.le_of_ble_eq_true rfl) rfl dX7_saying_30 (fun H locs hV => ?_)
    refine lv_aload_n C.1 C.2.1 dX7_saying_33 rfl (lv_at hl 0 rfl) ?_
    refine lv_iload_n C.1 C.2.1 dX7_saying_34 rfl (lv_at hl 1 rfl) ?_
    obtain ⟨x10, hc, hF⟩ := bd1_s hF
    refine g_cVi (ws' := [oX7 a_t a_d a_e a_kept v_isKept a_found a_tape v_taped v_gone a_hears a_near a_firstDay a_daily x6 x7 v_leastFar v_leastWhere v_mostLed a_heardNow v_firstMove v_at v_sort v_from v_value v_fault a_bitsOf a_sizeOf a_number a_passing, aA cI a_d 40 f_d, aA cI a_daily 1026 g8, aA cI a_firstDay 1024 g9, aA cI a_found 7 f_found, aA cI a_hears 10 g3, aA cI a_near 10 g4]) (wr := [aA cI a_d 40 f_d, aA cI a_firstDay 1024 g9, aA cI a_found 7 f_found, aA cI a_hears 10 g3, aA cI a_near 10 g4]) C hV (k_X7_saidBehind l dC dI cI cB cO n0 H.size a_t a_d a_e a_kept a_found a_tape a_hears a_near a_firstDay a_daily a_heardNow a_bitsOf a_sizeOf a_number a_passing v_isKept v_taped v_gone x6 x7 v_leastFar v_leastWhere v_mostLed v_firstMove v_at v_sort v_from v_value v_fault g8 p1 hc) mdX7_saidBehind gX7_saying_X7_saidBehind rfl rfl ⟨Nat.le_of_ble_eq_true rfl, Nat.le_of_ble_eq_true rfl⟩ [0, 2] [1, 3, 4, 5, 6] [5, 0, 6, 1, 2, 3, 4] rfl rfl rfl rfl rfl rfl rfl rfl rfl rfl hl.1 (Nat.le_of_ble_eq_true rfl) rfl dX7_saying_35 (fun H locs hV => ?_)
    exact hret (x10, x6, x7, g8, g9, f_found, g3, g4) _ _ _ _ dX7_saying_38 hF hV
  refine lv_aload_n C.1 C.2.1 dX7_saying_12 rfl (lv_at hl 0 rfl) ?_
  refine lv_iconst (v := 0) C.1 C.2.1 dX7_saying_13 rfl ?_
  obtain ⟨x11, g12, hc, hF⟩ := bd2_s hF
  refine g_cVi (ws' := [oX7 a_t a_d a_e a_kept v_isKept a_found a_tape v_taped v_gone a_hears a_near a_firstDay a_daily v_begin v_round v_leastFar v_leastWhere v_mostLed a_heardNow v_firstMove v_at v_sort v_from v_value v_fault a_bitsOf a_sizeOf a_number a_passing, aA cI a_d 40 f_d, aA cI a_daily 1026 f_daily, aA cI a_firstDay 1024 f_firstDay, aA cI a_found 7 g12, aA cI a_hears 10 f_hears, aA cI a_near 10 f_near]) (wr := [aA cI a_d 40 f_d, aA cI a_daily 1026 f_daily, aA cI a_firstDay 1024 f_firstDay, aA cI a_hears 10 f_hears, aA cI a_near 10 f_near]) C hV (k_X7_finds l dC dI cI cB cO n0 H.size a_t a_d a_e a_kept a_found a_tape a_hears a_near a_firstDay a_daily a_heardNow a_bitsOf a_sizeOf a_number a_passing v_isKept v_taped v_gone v_begin v_round v_leastFar v_leastWhere v_mostLed v_firstMove v_at v_sort v_from v_value v_fault f_found 0 hc) mdX7_finds gX7_saying_X7_finds rfl rfl ⟨Nat.le_of_ble_eq_true rfl, Nat.le_of_ble_eq_true rfl⟩ [0, 4] [1, 2, 3, 5, 6] [5, 0, 1, 2, 6, 3, 4] rfl rfl rfl rfl rfl rfl rfl rfl rfl rfl hl.1 (Nat.le_of_ble_eq_true rfl) rfl dX7_saying_14 (fun H locs hV => ?_)
  exact hret (x11, v_begin, v_round, f_daily, f_firstDay, g12, f_hears, f_near) _ _ _ _ dX7_saying_17 hF hV
abbrev rmX7_says : Room := { frames := 5, cells := 0, slots := 0, locals := 113 }
theorem mdX7_says : gMd yX7_says wsX7_says cX7_says 3 (some .int) 2 := ⟨⟨_, rfl⟩, by decide +kernel⟩
theorem ctX7_says_158 : Cond.constantLong RX7 158 999999 ∈ wsX7_says := List.mem_cons_of_mem _ (List.mem_append_left _ (List.mem_append_left _ (List.mem_of_getElem? (i := 0) rfl)))
def F_X7_says (n0 : Nat) (v_gone : Int32) (v_begin : Int32) (v_round : Int32) (f_d : Nat → Int32) (f_daily : Nat → Int32) (f_firstDay : Nat → Int32) (f_found : Nat → Int32) (f_hears : Nat → Int32) (f_near : Nat → Int32) (p1 : Int32) (p2 : Int32) : Option (Int32 × Int32 × Int32 × (Nat → Int32) × (Nat → Int32) × (Nat → Int32) × (Nat → Int32) × (Nat → Int32)) := bd1 (F_X7_isTent n0 f_d p1) (fun x1 => (if x1 = 0 then bd2 (F_X7_finds n0 f_found 0) (fun x2 g3 => some (x2, v_begin, v_round, f_daily, f_firstDay, g3, f_hears, f_near)) else nm (p2.toInt64) (fun x4 => bd1 (F_X7_in n0 x4 0 999999) (fun x5 => (if x5 = 0 then bd2 (F_X7_finds n0 f_found 0) (fun x16 g17 => some (x16, v_begin, v_round, f_daily, f_firstDay, g17, f_hears, f_near)) else bd8 (F_X7_saying n0 v_gone v_begin v_round f_d f_daily f_firstDay f_found f_hears f_near p2) (fun x6 x7 x8 g9 g10 g11 g12 g13 => nm (x6 >>> (p1 &&& 31)) (fun x14 => nm (x14 &&& 1) (fun x15 => some (x15, x7, x8, g9, g10, g11, g12, g13)))))))))
set_option maxRecDepth 100000 in
set_option maxHeartbeats 4000000 in
theorem k_X7_says (l : Launch) (dC : Nat → ClassId) (dI : Nat → Nat → Nat) (cI cB cO : ClassId) (n0 sz : Nat) (a_t : Nat) (a_d : Nat) (a_e : Nat) (a_kept : Nat) (a_found : Nat) (a_tape : Nat) (a_hears : Nat) (a_near : Nat) (a_firstDay : Nat) (a_daily : Nat) (a_heardNow : Nat) (a_bitsOf : Nat) (a_sizeOf : Nat) (a_number : Nat) (a_passing : Nat)   (v_isKept : Int32) (v_taped : Int32) (v_gone : Int32) (v_begin : Int32) (v_round : Int32) (v_leastFar : Int32) (v_leastWhere : Int32) (v_mostLed : Int32) (v_firstMove : Int32) (v_at : Int32) (v_sort : Int32) (v_from : Int32) (v_value : Int64) (v_fault : Int32) (f_d : Nat → Int32) (f_daily : Nat → Int32) (f_firstDay : Nat → Int32) (f_found : Nat → Int32) (f_hears : Nat → Int32) (f_near : Nat → Int32) (p1 : Int32) (p2 : Int32)  {ro : Int32} {o0 : Int32} {o1 : Int32} {o2 : Nat → Int32} {o3 : Nat → Int32} {o4 : Nat → Int32} {o5 : Nat → Int32} {o6 : Nat → Int32} (hF : F_X7_says n0 v_gone v_begin v_round f_d f_daily f_firstDay f_found f_hears f_near p1 p2 = some (ro, o0, o1, o2, o3, o4, o5, o6)) : Met l yX7_says wsX7_says rmX7_says (va_Pc [.ref a_t, .int p1, .int p2] (gPre (dC, dI) (gT cI cB cO) sz [oX7 a_t a_d a_e a_kept v_isKept a_found a_tape v_taped v_gone a_hears a_near a_firstDay a_daily v_begin v_round v_leastFar v_leastWhere v_mostLed a_heardNow v_firstMove v_at v_sort v_from v_value v_fault a_bitsOf a_sizeOf a_number a_passing, aA cI a_d 40 f_d, aA cI a_daily 1026 f_daily, aA cI a_firstDay 1024 f_firstDay, aA cI a_found 7 f_found, aA cI a_hears 10 f_hears, aA cI a_near 10 f_near])) (gQi (dC, dI) (gT cI cB cO) sz [oX7 a_t a_d a_e a_kept v_isKept a_found a_tape v_taped v_gone a_hears a_near a_firstDay a_daily v_begin v_round v_leastFar v_leastWhere v_mostLed a_heardNow v_firstMove v_at v_sort v_from v_value v_fault a_bitsOf a_sizeOf a_number a_passing, aA cI a_d 40 f_d, aA cI a_daily 1026 f_daily, aA cI a_firstDay 1024 f_firstDay, aA cI a_found 7 f_found, aA cI a_hears 10 f_hears, aA cI a_near 10 f_near] ro [oX7 a_t a_d a_e a_kept v_isKept a_found a_tape v_taped v_gone a_hears a_near a_firstDay a_daily o0 o1 v_leastFar v_leastWhere v_mostLed a_heardNow v_firstMove v_at v_sort v_from v_value v_fault a_bitsOf a_sizeOf a_number a_passing, aA cI a_d 40 f_d, aA cI a_daily 1026 o2, aA cI a_firstDay 1024 o3, aA cI a_found 7 o4, aA cI a_hears 10 o5, aA cI a_near 10 o6]) 0 0 (va_A [oX7 a_t a_d a_e a_kept v_isKept a_found a_tape v_taped v_gone a_hears a_near a_firstDay a_daily v_begin v_round v_leastFar v_leastWhere v_mostLed a_heardNow v_firstMove v_at v_sort v_from v_value v_fault a_bitsOf a_sizeOf a_number a_passing, aA cI a_d 40 f_d, aA cI a_daily 1026 f_daily, aA cI a_firstDay 1024 f_firstDay, aA cI a_found 7 f_found, aA cI a_hears 10 f_hears, aA cI a_near 10 f_near] sz) := by
  refine g_metI (Out := Int32 × Int32 × Int32 × (Nat → Int32) × (Nat → Int32) × (Nat → Int32) × (Nat → Int32) × (Nat → Int32)) (fun oo => oo.1) (fun oo => [oX7 a_t a_d a_e a_kept v_isKept a_found a_tape v_taped v_gone a_hears a_near a_firstDay a_daily oo.2.1 oo.2.2.1 v_leastFar v_leastWhere v_mostLed a_heardNow v_firstMove v_at v_sort v_from v_value v_fault a_bitsOf a_sizeOf a_number a_passing, aA cI a_d 40 f_d, aA cI a_daily 1026 oo.2.2.2.1, aA cI a_firstDay 1024 oo.2.2.2.2.1, aA cI a_found 7 oo.2.2.2.2.2.1, aA cI a_hears 10 oo.2.2.2.2.2.2.1, aA cI a_near 10 oo.2.2.2.2.2.2.2]) (ro, o0, o1, o2, o3, o4, o5, o6) (own := RX7) (lv := [(0, .ref a_t), (1, .int p1), (2, .int p2)]) (by decide) rfl rfl (Nat.le_of_ble_eq_true rfl) rfl ?_
  intro p e s m args below meth c Q ls C hret hV hl
  obtain ⟨out, hout⟩ : ∃ z : Int32 × Int32 × Int32 × (Nat → Int32) × (Nat → Int32) × (Nat → Int32) × (Nat → Int32) × (Nat → Int32), z = (ro, o0, o1, o2, o3, o4, o5, o6) := ⟨_, rfl⟩
  rw [← hout] at hF hret
  obtain ⟨H0, hH0⟩ : ∃ z : Heap, z = s.heap := ⟨_, rfl⟩
  obtain ⟨A0, hA0⟩ : ∃ z : Nat → Prop, z = va_A [oX7 a_t a_d a_e a_kept v_isKept a_found a_tape v_taped v_gone a_hears a_near a_firstDay a_daily v_begin v_round v_leastFar v_leastWhere v_mostLed a_heardNow v_firstMove v_at v_sort v_from v_value v_fault a_bitsOf a_sizeOf a_number a_passing, aA cI a_d 40 f_d, aA cI a_daily 1026 f_daily, aA cI a_firstDay 1024 f_firstDay, aA cI a_found 7 f_found, aA cI a_hears 10 f_hears, aA cI a_near 10 f_near] s.heap.size := ⟨_, rfl⟩
  rw [← hA0] at hret hV
  rw [← hH0] at hret hV
  rw [← hH0]
  obtain ⟨H, locs, hH⟩ : ∃ (z : Heap) (y : List Loc), z = H0 ∧ y = [] := ⟨_, _, rfl, rfl⟩
  rw [← hH.1, ← hH.2]
  have hV : gV (dC, dI) (gT cI cB cO) A0 H0 s [oX7 a_t a_d a_e a_kept v_isKept a_found a_tape v_taped v_gone a_hears a_near a_firstDay a_daily v_begin v_round v_leastFar v_leastWhere v_mostLed a_heardNow v_firstMove v_at v_sort v_from v_value v_fault a_bitsOf a_sizeOf a_number a_passing, aA cI a_d 40 f_d, aA cI a_daily 1026 f_daily, aA cI a_firstDay 1024 f_firstDay, aA cI a_found 7 f_found, aA cI a_hears 10 f_hears, aA cI a_near 10 f_near] H locs := by rw [hH.1, hH.2]; exact hV
  unfold F_X7_says at hF
  refine lv_aload_n C.1 C.2.1 dX7_says_0 rfl (lv_at hl 0 rfl) ?_
  refine lv_iload_n C.1 C.2.1 dX7_says_1 rfl (lv_at hl 1 rfl) ?_
  obtain ⟨x1, hc, hF⟩ := bd1_s hF
  refine g_cVi (ws' := [oX7 a_t a_d a_e a_kept v_isKept a_found a_tape v_taped v_gone a_hears a_near a_firstDay a_daily v_begin v_round v_leastFar v_leastWhere v_mostLed a_heardNow v_firstMove v_at v_sort v_from v_value v_fault a_bitsOf a_sizeOf a_number a_passing, aA cI a_d 40 f_d, aA cI a_daily 1026 f_daily, aA cI a_firstDay 1024 f_firstDay, aA cI a_found 7 f_found, aA cI a_hears 10 f_hears, aA cI a_near 10 f_near]) (wr := [aA cI a_daily 1026 f_daily, aA cI a_firstDay 1024 f_firstDay, aA cI a_found 7 f_found, aA cI a_hears 10 f_hears, aA cI a_near 10 f_near]) C hV (k_X7_isTent l dC dI cI cB cO n0 H.size a_t a_d a_e a_kept a_found a_tape a_hears a_near a_firstDay a_daily a_heardNow a_bitsOf a_sizeOf a_number a_passing v_isKept v_taped v_gone v_begin v_round v_leastFar v_leastWhere v_mostLed v_firstMove v_at v_sort v_from v_value v_fault f_d p1 hc) mdX7_isTent gX7_says_X7_isTent rfl rfl ⟨Nat.le_of_ble_eq_true rfl, Nat.le_of_ble_eq_true rfl⟩ [0, 1] [2, 3, 4, 5, 6] [5, 6, 0, 1, 2, 3, 4] rfl rfl rfl rfl rfl rfl rfl rfl rfl rfl hl.1 (Nat.le_of_ble_eq_true rfl) rfl dX7_says_2 (fun H locs hV => ?_)
  refine g_if_eq (tgt := 20) C hF dX7_says_5 rfl (fun hF => ?_) (fun hF => ?_)
  · refine lv_aload_n C.1 C.2.1 dX7_says_20 rfl (lv_at hl 0 rfl) ?_
    refine lv_iconst (v := 0) C.1 C.2.1 dX7_says_21 rfl ?_
    obtain ⟨x2, g3, hc, hF⟩ := bd2_s hF
    refine g_cVi (ws' := [oX7 a_t a_d a_e a_kept v_isKept a_found a_tape v_taped v_gone a_hears a_near a_firstDay a_daily v_begin v_round v_leastFar v_leastWhere v_mostLed a_heardNow v_firstMove v_at v_sort v_from v_value v_fault a_bitsOf a_sizeOf a_number a_passing, aA cI a_d 40 f_d, aA cI a_daily 1026 f_daily, aA cI a_firstDay 1024 f_firstDay, aA cI a_found 7 g3, aA cI a_hears 10 f_hears, aA cI a_near 10 f_near]) (wr := [aA cI a_d 40 f_d, aA cI a_daily 1026 f_daily, aA cI a_firstDay 1024 f_firstDay, aA cI a_hears 10 f_hears, aA cI a_near 10 f_near]) C hV (k_X7_finds l dC dI cI cB cO n0 H.size a_t a_d a_e a_kept a_found a_tape a_hears a_near a_firstDay a_daily a_heardNow a_bitsOf a_sizeOf a_number a_passing v_isKept v_taped v_gone v_begin v_round v_leastFar v_leastWhere v_mostLed v_firstMove v_at v_sort v_from v_value v_fault f_found 0 hc) mdX7_finds gX7_says_X7_finds rfl rfl ⟨Nat.le_of_ble_eq_true rfl, Nat.le_of_ble_eq_true rfl⟩ [0, 4] [1, 2, 3, 5, 6] [5, 0, 1, 2, 6, 3, 4] rfl rfl rfl rfl rfl rfl rfl rfl rfl rfl hl.1 (Nat.le_of_ble_eq_true rfl) rfl dX7_says_22 (fun H locs hV => ?_)
    refine lv_goto (tgt := 37) C.1 C.2.1 dX7_says_25 rfl ?_
    exact hret (x2, v_begin, v_round, f_daily, f_firstDay, g3, f_hears, f_near) _ _ _ _ dX7_says_37 hF hV
  refine lv_iload_n C.1 C.2.1 dX7_says_8 rfl (lv_at hl 2 rfl) ?_
  refine g_i2l C hF dX7_says_9 (fun x4 hF => ?_)
  refine lv_lconst (v := 0) C.1 C.2.1 dX7_says_10 rfl ?_
  refine lv_ldc2 (v := 999999) C.1 C.2.1 C.2.2.2.1 (C.2.2.2.2 _ ctX7_says_158) dX7_says_11 ?_
  obtain ⟨x5, hc, hF⟩ := bd1_s hF
  refine g_cSi (ws' := [oX7 a_t a_d a_e a_kept v_isKept a_found a_tape v_taped v_gone a_hears a_near a_firstDay a_daily v_begin v_round v_leastFar v_leastWhere v_mostLed a_heardNow v_firstMove v_at v_sort v_from v_value v_fault a_bitsOf a_sizeOf a_number a_passing, aA cI a_d 40 f_d, aA cI a_daily 1026 f_daily, aA cI a_firstDay 1024 f_firstDay, aA cI a_found 7 f_found, aA cI a_hears 10 f_hears, aA cI a_near 10 f_near]) (wr := [oX7 a_t a_d a_e a_kept v_isKept a_found a_tape v_taped v_gone a_hears a_near a_firstDay a_daily v_begin v_round v_leastFar v_leastWhere v_mostLed a_heardNow v_firstMove v_at v_sort v_from v_value v_fault a_bitsOf a_sizeOf a_number a_passing, aA cI a_d 40 f_d, aA cI a_daily 1026 f_daily, aA cI a_firstDay 1024 f_firstDay, aA cI a_found 7 f_found, aA cI a_hears 10 f_hears, aA cI a_near 10 f_near]) C hV (k_X7_in l dC dI cI cB cO n0 H.size x4 0 999999 hc) mdX7_in gX7_says_X7_in rfl rfl ⟨Nat.le_of_ble_eq_true rfl, Nat.le_of_ble_eq_true rfl⟩ [] [0, 1, 2, 3, 4, 5, 6] [0, 1, 2, 3, 4, 5, 6] rfl rfl rfl rfl rfl rfl rfl rfl hl.1 (Nat.le_of_ble_eq_true rfl) rfl dX7_says_14 (fun H locs hV => ?_)
  refine g_if_ne (tgt := 28) C hF dX7_says_17 rfl (fun hF => ?_) (fun hF => ?_)
  · refine lv_aload_n C.1 C.2.1 dX7_says_28 rfl (lv_at hl 0 rfl) ?_
    refine lv_iload_n C.1 C.2.1 dX7_says_29 rfl (lv_at hl 2 rfl) ?_
    obtain ⟨x6, x7, x8, g9, g10, g11, g12, g13, hc, hF⟩ := bd8_s hF
    refine g_cVi (ws' := [oX7 a_t a_d a_e a_kept v_isKept a_found a_tape v_taped v_gone a_hears a_near a_firstDay a_daily x7 x8 v_leastFar v_leastWhere v_mostLed a_heardNow v_firstMove v_at v_sort v_from v_value v_fault a_bitsOf a_sizeOf a_number a_passing, aA cI a_d 40 f_d, aA cI a_daily 1026 g9, aA cI a_firstDay 1024 g10, aA cI a_found 7 g11, aA cI a_hears 10 g12, aA cI a_near 10 g13]) (wr := []) C hV (k_X7_saying l dC dI cI cB cO n0 H.size a_t a_d a_e a_kept a_found a_tape a_hears a_near a_firstDay a_daily a_heardNow a_bitsOf a_sizeOf a_number a_passing v_isKept v_taped v_gone v_begin v_round v_leastFar v_leastWhere v_mostLed v_firstMove v_at v_sort v_from v_value v_fault f_d f_daily f_firstDay f_found f_hears f_near p2 hc) mdX7_saying gX7_says_X7_saying rfl rfl ⟨Nat.le_of_ble_eq_true rfl, Nat.le_of_ble_eq_true rfl⟩ [0, 1, 2, 3, 4, 5, 6] [] [0, 1, 2, 3, 4, 5, 6] rfl rfl rfl rfl rfl rfl rfl rfl rfl rfl hl.1 (Nat.le_of_ble_eq_true rfl) rfl dX7_says_30 (fun H locs hV => ?_)
    refine lv_iload_n C.1 C.2.1 dX7_says_33 rfl (lv_at hl 1 rfl) ?_
    refine g_ishr C hF dX7_says_34 (fun x14 hF => ?_)
    refine lv_iconst (v := 1) C.1 C.2.1 dX7_says_35 rfl ?_
    refine g_iand C hF dX7_says_36 (fun x15 hF => ?_)
    exact hret (x15, x7, x8, g9, g10, g11, g12, g13) _ _ _ _ dX7_says_37 hF hV
  refine lv_aload_n C.1 C.2.1 dX7_says_20 rfl (lv_at hl 0 rfl) ?_
  refine lv_iconst (v := 0) C.1 C.2.1 dX7_says_21 rfl ?_
  obtain ⟨x16, g17, hc, hF⟩ := bd2_s hF
  refine g_cVi (ws' := [oX7 a_t a_d a_e a_kept v_isKept a_found a_tape v_taped v_gone a_hears a_near a_firstDay a_daily v_begin v_round v_leastFar v_leastWhere v_mostLed a_heardNow v_firstMove v_at v_sort v_from v_value v_fault a_bitsOf a_sizeOf a_number a_passing, aA cI a_d 40 f_d, aA cI a_daily 1026 f_daily, aA cI a_firstDay 1024 f_firstDay, aA cI a_found 7 g17, aA cI a_hears 10 f_hears, aA cI a_near 10 f_near]) (wr := [aA cI a_d 40 f_d, aA cI a_daily 1026 f_daily, aA cI a_firstDay 1024 f_firstDay, aA cI a_hears 10 f_hears, aA cI a_near 10 f_near]) C hV (k_X7_finds l dC dI cI cB cO n0 H.size a_t a_d a_e a_kept a_found a_tape a_hears a_near a_firstDay a_daily a_heardNow a_bitsOf a_sizeOf a_number a_passing v_isKept v_taped v_gone v_begin v_round v_leastFar v_leastWhere v_mostLed v_firstMove v_at v_sort v_from v_value v_fault f_found 0 hc) mdX7_finds gX7_says_X7_finds rfl rfl ⟨Nat.le_of_ble_eq_true rfl, Nat.le_of_ble_eq_true rfl⟩ [0, 4] [1, 2, 3, 5, 6] [5, 0, 1, 2, 6, 3, 4] rfl rfl rfl rfl rfl rfl rfl rfl rfl rfl hl.1 (Nat.le_of_ble_eq_true rfl) rfl dX7_says_22 (fun H locs hV => ?_)
  refine lv_goto (tgt := 37) C.1 C.2.1 dX7_says_25 rfl ?_
  exact hret (x16, v_begin, v_round, f_daily, f_firstDay, g17, f_hears, f_near) _ _ _ _ dX7_says_37 hF hV
abbrev rmX7_settles : Room := { frames := 4, cells := 0, slots := 0, locals := 92 }
theorem mdX7_settles : gMd yX7_settles wsX7_settles cX7_settles 1 (some .int) 0 := ⟨⟨_, rfl⟩, by decide +kernel⟩
theorem flX7_settles_7 : gFL wsX7_settles RX7 7 7 0 RX7 TX7 28 := ⟨rfl, fun w h => List.mem_cons_of_mem _ (List.mem_append_right _ (h)), Nat.le_of_ble_eq_true rfl, List.mem_cons_of_mem _ (List.mem_append_left _ (List.mem_append_left _ (List.mem_of_getElem? (i := 0) rfl)))⟩
theorem flX7_settles_90 : gFL wsX7_settles RX7 90 7 12 RX7 TX7 28 := ⟨rfl, fun w h => List.mem_cons_of_mem _ (List.mem_append_right _ (h)), Nat.le_of_ble_eq_true rfl, List.mem_cons_of_mem _ (List.mem_append_left _ (List.mem_append_left _ (List.mem_of_getElem? (i := 1) rfl)))⟩
def F_X7_settles (n0 : Nat) (v_gone : Int32) (v_begin : Int32) (v_round : Int32) (f_d : Nat → Int32) (f_daily : Nat → Int32) (f_firstDay : Nat → Int32) (f_hears : Nat → Int32) (f_near : Nat → Int32) : Option (Int32 × Int32 × Int32 × (Nat → Int32) × (Nat → Int32) × (Nat → Int32) × (Nat → Int32)) := bd2 (F_X7_listen n0 v_gone f_d f_hears f_near) (fun g1 g2 => rd f_d 40 6 (fun x3 => bd4 (F_X7_goThrough n0 v_begin v_round f_d f_daily f_firstDay g1 g2 x3) (fun x4 x5 g6 g7 => some (x4, x4, x5, g6, g7, g1, g2))))
set_option maxRecDepth 100000 in
set_option maxHeartbeats 4000000 in
theorem k_X7_settles (l : Launch) (dC : Nat → ClassId) (dI : Nat → Nat → Nat) (cI cB cO : ClassId) (n0 sz : Nat) (a_t : Nat) (a_d : Nat) (a_e : Nat) (a_kept : Nat) (a_found : Nat) (a_tape : Nat) (a_hears : Nat) (a_near : Nat) (a_firstDay : Nat) (a_daily : Nat) (a_heardNow : Nat) (a_bitsOf : Nat) (a_sizeOf : Nat) (a_number : Nat) (a_passing : Nat)   (v_isKept : Int32) (v_taped : Int32) (v_gone : Int32) (v_begin : Int32) (v_round : Int32) (v_leastFar : Int32) (v_leastWhere : Int32) (v_mostLed : Int32) (v_firstMove : Int32) (v_at : Int32) (v_sort : Int32) (v_from : Int32) (v_value : Int64) (v_fault : Int32) (f_d : Nat → Int32) (f_daily : Nat → Int32) (f_firstDay : Nat → Int32) (f_hears : Nat → Int32) (f_near : Nat → Int32)   {ro : Int32} {o0 : Int32} {o1 : Int32} {o2 : Nat → Int32} {o3 : Nat → Int32} {o4 : Nat → Int32} {o5 : Nat → Int32} (hF : F_X7_settles n0 v_gone v_begin v_round f_d f_daily f_firstDay f_hears f_near = some (ro, o0, o1, o2, o3, o4, o5)) : Met l yX7_settles wsX7_settles rmX7_settles (va_Pc [.ref a_t] (gPre (dC, dI) (gT cI cB cO) sz [oX7 a_t a_d a_e a_kept v_isKept a_found a_tape v_taped v_gone a_hears a_near a_firstDay a_daily v_begin v_round v_leastFar v_leastWhere v_mostLed a_heardNow v_firstMove v_at v_sort v_from v_value v_fault a_bitsOf a_sizeOf a_number a_passing, aA cI a_d 40 f_d, aA cI a_daily 1026 f_daily, aA cI a_firstDay 1024 f_firstDay, aA cI a_hears 10 f_hears, aA cI a_near 10 f_near])) (gQi (dC, dI) (gT cI cB cO) sz [oX7 a_t a_d a_e a_kept v_isKept a_found a_tape v_taped v_gone a_hears a_near a_firstDay a_daily v_begin v_round v_leastFar v_leastWhere v_mostLed a_heardNow v_firstMove v_at v_sort v_from v_value v_fault a_bitsOf a_sizeOf a_number a_passing, aA cI a_d 40 f_d, aA cI a_daily 1026 f_daily, aA cI a_firstDay 1024 f_firstDay, aA cI a_hears 10 f_hears, aA cI a_near 10 f_near] ro [oX7 a_t a_d a_e a_kept v_isKept a_found a_tape v_taped v_gone a_hears a_near a_firstDay a_daily o0 o1 v_leastFar v_leastWhere v_mostLed a_heardNow v_firstMove v_at v_sort v_from v_value v_fault a_bitsOf a_sizeOf a_number a_passing, aA cI a_d 40 f_d, aA cI a_daily 1026 o2, aA cI a_firstDay 1024 o3, aA cI a_hears 10 o4, aA cI a_near 10 o5]) 0 0 (va_A [oX7 a_t a_d a_e a_kept v_isKept a_found a_tape v_taped v_gone a_hears a_near a_firstDay a_daily v_begin v_round v_leastFar v_leastWhere v_mostLed a_heardNow v_firstMove v_at v_sort v_from v_value v_fault a_bitsOf a_sizeOf a_number a_passing, aA cI a_d 40 f_d, aA cI a_daily 1026 f_daily, aA cI a_firstDay 1024 f_firstDay, aA cI a_hears 10 f_hears, aA cI a_near 10 f_near] sz) := by
  refine g_metI (Out := Int32 × Int32 × Int32 × (Nat → Int32) × (Nat → Int32) × (Nat → Int32) × (Nat → Int32)) (fun oo => oo.1) (fun oo => [oX7 a_t a_d a_e a_kept v_isKept a_found a_tape v_taped v_gone a_hears a_near a_firstDay a_daily oo.2.1 oo.2.2.1 v_leastFar v_leastWhere v_mostLed a_heardNow v_firstMove v_at v_sort v_from v_value v_fault a_bitsOf a_sizeOf a_number a_passing, aA cI a_d 40 f_d, aA cI a_daily 1026 oo.2.2.2.1, aA cI a_firstDay 1024 oo.2.2.2.2.1, aA cI a_hears 10 oo.2.2.2.2.2.1, aA cI a_near 10 oo.2.2.2.2.2.2]) (ro, o0, o1, o2, o3, o4, o5) (own := RX7) (lv := [(0, .ref a_t)]) (by decide) rfl rfl (Nat.le_of_ble_eq_true rfl) rfl ?_
  intro p e s m args below meth c Q ls C hret hV hl
  obtain ⟨out, hout⟩ : ∃ z : Int32 × Int32 × Int32 × (Nat → Int32) × (Nat → Int32) × (Nat → Int32) × (Nat → Int32), z = (ro, o0, o1, o2, o3, o4, o5) := ⟨_, rfl⟩
  rw [← hout] at hF hret
  obtain ⟨H0, hH0⟩ : ∃ z : Heap, z = s.heap := ⟨_, rfl⟩
  obtain ⟨A0, hA0⟩ : ∃ z : Nat → Prop, z = va_A [oX7 a_t a_d a_e a_kept v_isKept a_found a_tape v_taped v_gone a_hears a_near a_firstDay a_daily v_begin v_round v_leastFar v_leastWhere v_mostLed a_heardNow v_firstMove v_at v_sort v_from v_value v_fault a_bitsOf a_sizeOf a_number a_passing, aA cI a_d 40 f_d, aA cI a_daily 1026 f_daily, aA cI a_firstDay 1024 f_firstDay, aA cI a_hears 10 f_hears, aA cI a_near 10 f_near] s.heap.size := ⟨_, rfl⟩
  rw [← hA0] at hret hV
  rw [← hH0] at hret hV
  rw [← hH0]
  obtain ⟨H, locs, hH⟩ : ∃ (z : Heap) (y : List Loc), z = H0 ∧ y = [] := ⟨_, _, rfl, rfl⟩
  rw [← hH.1, ← hH.2]
  have hV : gV (dC, dI) (gT cI cB cO) A0 H0 s [oX7 a_t a_d a_e a_kept v_isKept a_found a_tape v_taped v_gone a_hears a_near a_firstDay a_daily v_begin v_round v_leastFar v_leastWhere v_mostLed a_heardNow v_firstMove v_at v_sort v_from v_value v_fault a_bitsOf a_sizeOf a_number a_passing, aA cI a_d 40 f_d, aA cI a_daily 1026 f_daily, aA cI a_firstDay 1024 f_firstDay, aA cI a_hears 10 f_hears, aA cI a_near 10 f_near] H locs := by rw [hH.1, hH.2]; exact hV
  unfold F_X7_settles at hF
  refine lv_aload_n C.1 C.2.1 dX7_settles_0 rfl (lv_at hl 0 rfl) ?_
  obtain ⟨g1, g2, hc, hF⟩ := bd2_s hF
  refine g_cVv (ws' := [oX7 a_t a_d a_e a_kept v_isKept a_found a_tape v_taped v_gone a_hears a_near a_firstDay a_daily v_begin v_round v_leastFar v_leastWhere v_mostLed a_heardNow v_firstMove v_at v_sort v_from v_value v_fault a_bitsOf a_sizeOf a_number a_passing, aA cI a_d 40 f_d, aA cI a_daily 1026 f_daily, aA cI a_firstDay 1024 f_firstDay, aA cI a_hears 10 g1, aA cI a_near 10 g2]) (wr := [aA cI a_daily 1026 f_daily, aA cI a_firstDay 1024 f_firstDay]) C hV (k_X7_listen l dC dI cI cB cO n0 H.size a_t a_d a_e a_kept a_found a_tape a_hears a_near a_firstDay a_daily a_heardNow a_bitsOf a_sizeOf a_number a_passing v_isKept v_taped v_gone v_begin v_round v_leastFar v_leastWhere v_mostLed v_firstMove v_at v_sort v_from v_value v_fault f_d f_hears f_near hc) mdX7_listen gX7_settles_X7_listen rfl rfl ⟨Nat.le_of_ble_eq_true rfl, Nat.le_of_ble_eq_true rfl⟩ [0, 1, 4, 5] [2, 3] [2, 3, 0, 1, 4, 5] rfl rfl rfl rfl rfl rfl rfl rfl rfl rfl hl.1 (Nat.le_of_ble_eq_true rfl) rfl dX7_settles_1 (fun H locs hV => ?_)
  refine lv_aload_n C.1 C.2.1 dX7_settles_4 rfl (lv_at hl 0 rfl) ?_
  refine lv_aload_n C.1 C.2.1 dX7_settles_5 rfl (lv_at hl 0 rfl) ?_
  refine g_get C hV flX7_settles_7 0 rfl rfl dX7_settles_6 ?_
  refine lv_bipush (v := 6) C.1 C.2.1 dX7_settles_9 rfl ?_
  refine g_iald C hV 1 rfl hF dX7_settles_11 (fun x3 hF => ?_)
  obtain ⟨x4, x5, g6, g7, hc, hF⟩ := bd4_s hF
  refine g_cVv (ws' := [oX7 a_t a_d a_e a_kept v_isKept a_found a_tape v_taped v_gone a_hears a_near a_firstDay a_daily x4 x5 v_leastFar v_leastWhere v_mostLed a_heardNow v_firstMove v_at v_sort v_from v_value v_fault a_bitsOf a_sizeOf a_number a_passing, aA cI a_d 40 f_d, aA cI a_daily 1026 g6, aA cI a_firstDay 1024 g7, aA cI a_hears 10 g1, aA cI a_near 10 g2]) (wr := []) C hV (k_X7_goThrough l dC dI cI cB cO n0 H.size a_t a_d a_e a_kept a_found a_tape a_hears a_near a_firstDay a_daily a_heardNow a_bitsOf a_sizeOf a_number a_passing v_isKept v_taped v_gone v_begin v_round v_leastFar v_leastWhere v_mostLed v_firstMove v_at v_sort v_from v_value v_fault f_d f_daily f_firstDay g1 g2 x3 hc) mdX7_goThrough gX7_settles_X7_goThrough rfl rfl ⟨Nat.le_of_ble_eq_true rfl, Nat.le_of_ble_eq_true rfl⟩ [0, 1, 2, 3, 4, 5] [] [0, 1, 2, 3, 4, 5] rfl rfl rfl rfl rfl rfl rfl rfl rfl rfl hl.1 (Nat.le_of_ble_eq_true rfl) rfl dX7_settles_12 (fun H locs hV => ?_)
  refine lv_aload_n C.1 C.2.1 dX7_settles_15 rfl (lv_at hl 0 rfl) ?_
  refine g_get C hV flX7_settles_90 0 rfl rfl dX7_settles_16 ?_
  exact hret (x4, x4, x5, g6, g7, g1, g2) _ _ _ _ dX7_settles_19 hF hV
abbrev rmX7_circle : Room := { frames := 4, cells := 0, slots := 0, locals := 92 }
theorem mdX7_circle : gMd yX7_circle wsX7_circle cX7_circle 1 (some .int) 0 := ⟨⟨_, rfl⟩, by decide +kernel⟩
theorem flX7_circle_7 : gFL wsX7_circle RX7 7 7 0 RX7 TX7 28 := ⟨rfl, fun w h => List.mem_cons_of_mem _ (List.mem_append_right _ (h)), Nat.le_of_ble_eq_true rfl, List.mem_cons_of_mem _ (List.mem_append_left _ (List.mem_append_left _ (List.mem_of_getElem? (i := 0) rfl)))⟩
theorem flX7_circle_93 : gFL wsX7_circle RX7 93 7 13 RX7 TX7 28 := ⟨rfl, fun w h => List.mem_cons_of_mem _ (List.mem_append_right _ (h)), Nat.le_of_ble_eq_true rfl, List.mem_cons_of_mem _ (List.mem_append_left _ (List.mem_append_left _ (List.mem_of_getElem? (i := 1) rfl)))⟩
def F_X7_circle (n0 : Nat) (v_gone : Int32) (v_begin : Int32) (v_round : Int32) (f_d : Nat → Int32) (f_daily : Nat → Int32) (f_firstDay : Nat → Int32) (f_hears : Nat → Int32) (f_near : Nat → Int32) : Option (Int32 × Int32 × Int32 × (Nat → Int32) × (Nat → Int32) × (Nat → Int32) × (Nat → Int32)) := bd2 (F_X7_listen n0 v_gone f_d f_hears f_near) (fun g1 g2 => rd f_d 40 6 (fun x3 => bd4 (F_X7_goThrough n0 v_begin v_round f_d f_daily f_firstDay g1 g2 x3) (fun x4 x5 g6 g7 => some (x5, x4, x5, g6, g7, g1, g2))))
set_option maxRecDepth 100000 in
set_option maxHeartbeats 4000000 in
theorem k_X7_circle (l : Launch) (dC : Nat → ClassId) (dI : Nat → Nat → Nat) (cI cB cO : ClassId) (n0 sz : Nat) (a_t : Nat) (a_d : Nat) (a_e : Nat) (a_kept : Nat) (a_found : Nat) (a_tape : Nat) (a_hears : Nat) (a_near : Nat) (a_firstDay : Nat) (a_daily : Nat) (a_heardNow : Nat) (a_bitsOf : Nat) (a_sizeOf : Nat) (a_number : Nat) (a_passing : Nat)   (v_isKept : Int32) (v_taped : Int32) (v_gone : Int32) (v_begin : Int32) (v_round : Int32) (v_leastFar : Int32) (v_leastWhere : Int32) (v_mostLed : Int32) (v_firstMove : Int32) (v_at : Int32) (v_sort : Int32) (v_from : Int32) (v_value : Int64) (v_fault : Int32) (f_d : Nat → Int32) (f_daily : Nat → Int32) (f_firstDay : Nat → Int32) (f_hears : Nat → Int32) (f_near : Nat → Int32)   {ro : Int32} {o0 : Int32} {o1 : Int32} {o2 : Nat → Int32} {o3 : Nat → Int32} {o4 : Nat → Int32} {o5 : Nat → Int32} (hF : F_X7_circle n0 v_gone v_begin v_round f_d f_daily f_firstDay f_hears f_near = some (ro, o0, o1, o2, o3, o4, o5)) : Met l yX7_circle wsX7_circle rmX7_circle (va_Pc [.ref a_t] (gPre (dC, dI) (gT cI cB cO) sz [oX7 a_t a_d a_e a_kept v_isKept a_found a_tape v_taped v_gone a_hears a_near a_firstDay a_daily v_begin v_round v_leastFar v_leastWhere v_mostLed a_heardNow v_firstMove v_at v_sort v_from v_value v_fault a_bitsOf a_sizeOf a_number a_passing, aA cI a_d 40 f_d, aA cI a_daily 1026 f_daily, aA cI a_firstDay 1024 f_firstDay, aA cI a_hears 10 f_hears, aA cI a_near 10 f_near])) (gQi (dC, dI) (gT cI cB cO) sz [oX7 a_t a_d a_e a_kept v_isKept a_found a_tape v_taped v_gone a_hears a_near a_firstDay a_daily v_begin v_round v_leastFar v_leastWhere v_mostLed a_heardNow v_firstMove v_at v_sort v_from v_value v_fault a_bitsOf a_sizeOf a_number a_passing, aA cI a_d 40 f_d, aA cI a_daily 1026 f_daily, aA cI a_firstDay 1024 f_firstDay, aA cI a_hears 10 f_hears, aA cI a_near 10 f_near] ro [oX7 a_t a_d a_e a_kept v_isKept a_found a_tape v_taped v_gone a_hears a_near a_firstDay a_daily o0 o1 v_leastFar v_leastWhere v_mostLed a_heardNow v_firstMove v_at v_sort v_from v_value v_fault a_bitsOf a_sizeOf a_number a_passing, aA cI a_d 40 f_d, aA cI a_daily 1026 o2, aA cI a_firstDay 1024 o3, aA cI a_hears 10 o4, aA cI a_near 10 o5]) 0 0 (va_A [oX7 a_t a_d a_e a_kept v_isKept a_found a_tape v_taped v_gone a_hears a_near a_firstDay a_daily v_begin v_round v_leastFar v_leastWhere v_mostLed a_heardNow v_firstMove v_at v_sort v_from v_value v_fault a_bitsOf a_sizeOf a_number a_passing, aA cI a_d 40 f_d, aA cI a_daily 1026 f_daily, aA cI a_firstDay 1024 f_firstDay, aA cI a_hears 10 f_hears, aA cI a_near 10 f_near] sz) := by
  refine g_metI (Out := Int32 × Int32 × Int32 × (Nat → Int32) × (Nat → Int32) × (Nat → Int32) × (Nat → Int32)) (fun oo => oo.1) (fun oo => [oX7 a_t a_d a_e a_kept v_isKept a_found a_tape v_taped v_gone a_hears a_near a_firstDay a_daily oo.2.1 oo.2.2.1 v_leastFar v_leastWhere v_mostLed a_heardNow v_firstMove v_at v_sort v_from v_value v_fault a_bitsOf a_sizeOf a_number a_passing, aA cI a_d 40 f_d, aA cI a_daily 1026 oo.2.2.2.1, aA cI a_firstDay 1024 oo.2.2.2.2.1, aA cI a_hears 10 oo.2.2.2.2.2.1, aA cI a_near 10 oo.2.2.2.2.2.2]) (ro, o0, o1, o2, o3, o4, o5) (own := RX7) (lv := [(0, .ref a_t)]) (by decide) rfl rfl (Nat.le_of_ble_eq_true rfl) rfl ?_
  intro p e s m args below meth c Q ls C hret hV hl
  obtain ⟨out, hout⟩ : ∃ z : Int32 × Int32 × Int32 × (Nat → Int32) × (Nat → Int32) × (Nat → Int32) × (Nat → Int32), z = (ro, o0, o1, o2, o3, o4, o5) := ⟨_, rfl⟩
  rw [← hout] at hF hret
  obtain ⟨H0, hH0⟩ : ∃ z : Heap, z = s.heap := ⟨_, rfl⟩
  obtain ⟨A0, hA0⟩ : ∃ z : Nat → Prop, z = va_A [oX7 a_t a_d a_e a_kept v_isKept a_found a_tape v_taped v_gone a_hears a_near a_firstDay a_daily v_begin v_round v_leastFar v_leastWhere v_mostLed a_heardNow v_firstMove v_at v_sort v_from v_value v_fault a_bitsOf a_sizeOf a_number a_passing, aA cI a_d 40 f_d, aA cI a_daily 1026 f_daily, aA cI a_firstDay 1024 f_firstDay, aA cI a_hears 10 f_hears, aA cI a_near 10 f_near] s.heap.size := ⟨_, rfl⟩
  rw [← hA0] at hret hV
  rw [← hH0] at hret hV
  rw [← hH0]
  obtain ⟨H, locs, hH⟩ : ∃ (z : Heap) (y : List Loc), z = H0 ∧ y = [] := ⟨_, _, rfl, rfl⟩
  rw [← hH.1, ← hH.2]
  have hV : gV (dC, dI) (gT cI cB cO) A0 H0 s [oX7 a_t a_d a_e a_kept v_isKept a_found a_tape v_taped v_gone a_hears a_near a_firstDay a_daily v_begin v_round v_leastFar v_leastWhere v_mostLed a_heardNow v_firstMove v_at v_sort v_from v_value v_fault a_bitsOf a_sizeOf a_number a_passing, aA cI a_d 40 f_d, aA cI a_daily 1026 f_daily, aA cI a_firstDay 1024 f_firstDay, aA cI a_hears 10 f_hears, aA cI a_near 10 f_near] H locs := by rw [hH.1, hH.2]; exact hV
  unfold F_X7_circle at hF
  refine lv_aload_n C.1 C.2.1 dX7_circle_0 rfl (lv_at hl 0 rfl) ?_
  obtain ⟨g1, g2, hc, hF⟩ := bd2_s hF
  refine g_cVv (ws' := [oX7 a_t a_d a_e a_kept v_isKept a_found a_tape v_taped v_gone a_hears a_near a_firstDay a_daily v_begin v_round v_leastFar v_leastWhere v_mostLed a_heardNow v_firstMove v_at v_sort v_from v_value v_fault a_bitsOf a_sizeOf a_number a_passing, aA cI a_d 40 f_d, aA cI a_daily 1026 f_daily, aA cI a_firstDay 1024 f_firstDay, aA cI a_hears 10 g1, aA cI a_near 10 g2]) (wr := [aA cI a_daily 1026 f_daily, aA cI a_firstDay 1024 f_firstDay]) C hV (k_X7_listen l dC dI cI cB cO n0 H.size a_t a_d a_e a_kept a_found a_tape a_hears a_near a_firstDay a_daily a_heardNow a_bitsOf a_sizeOf a_number a_passing v_isKept v_taped v_gone v_begin v_round v_leastFar v_leastWhere v_mostLed v_firstMove v_at v_sort v_from v_value v_fault f_d f_hears f_near hc) mdX7_listen gX7_circle_X7_listen rfl rfl ⟨Nat.le_of_ble_eq_true rfl, Nat.le_of_ble_eq_true rfl⟩ [0, 1, 4, 5] [2, 3] [2, 3, 0, 1, 4, 5] rfl rfl rfl rfl rfl rfl rfl rfl rfl rfl hl.1 (Nat.le_of_ble_eq_true rfl) rfl dX7_circle_1 (fun H locs hV => ?_)
  refine lv_aload_n C.1 C.2.1 dX7_circle_4 rfl (lv_at hl 0 rfl) ?_
  refine lv_aload_n C.1 C.2.1 dX7_circle_5 rfl (lv_at hl 0 rfl) ?_
  refine g_get C hV flX7_circle_7 0 rfl rfl dX7_circle_6 ?_
  refine lv_bipush (v := 6) C.1 C.2.1 dX7_circle_9 rfl ?_
  refine g_iald C hV 1 rfl hF dX7_circle_11 (fun x3 hF => ?_)
  obtain ⟨x4, x5, g6, g7, hc, hF⟩ := bd4_s hF
  refine g_cVv (ws' := [oX7 a_t a_d a_e a_kept v_isKept a_found a_tape v_taped v_gone a_hears a_near a_firstDay a_daily x4 x5 v_leastFar v_leastWhere v_mostLed a_heardNow v_firstMove v_at v_sort v_from v_value v_fault a_bitsOf a_sizeOf a_number a_passing, aA cI a_d 40 f_d, aA cI a_daily 1026 g6, aA cI a_firstDay 1024 g7, aA cI a_hears 10 g1, aA cI a_near 10 g2]) (wr := []) C hV (k_X7_goThrough l dC dI cI cB cO n0 H.size a_t a_d a_e a_kept a_found a_tape a_hears a_near a_firstDay a_daily a_heardNow a_bitsOf a_sizeOf a_number a_passing v_isKept v_taped v_gone v_begin v_round v_leastFar v_leastWhere v_mostLed v_firstMove v_at v_sort v_from v_value v_fault f_d f_daily f_firstDay g1 g2 x3 hc) mdX7_goThrough gX7_circle_X7_goThrough rfl rfl ⟨Nat.le_of_ble_eq_true rfl, Nat.le_of_ble_eq_true rfl⟩ [0, 1, 2, 3, 4, 5] [] [0, 1, 2, 3, 4, 5] rfl rfl rfl rfl rfl rfl rfl rfl rfl rfl hl.1 (Nat.le_of_ble_eq_true rfl) rfl dX7_circle_12 (fun H locs hV => ?_)
  refine lv_aload_n C.1 C.2.1 dX7_circle_15 rfl (lv_at hl 0 rfl) ?_
  refine g_get C hV flX7_circle_93 0 rfl rfl dX7_circle_16 ?_
  exact hret (x5, x4, x5, g6, g7, g1, g2) _ _ _ _ dX7_circle_19 hF hV
abbrev rmX7_mind : Room := { frames := 4, cells := 0, slots := 0, locals := 92 }
theorem mdX7_mind : gMd yX7_mind wsX7_mind cX7_mind 3 (some .int) 0 := ⟨⟨_, rfl⟩, by decide +kernel⟩
theorem flX7_mind_7 : gFL wsX7_mind RX7 7 7 0 RX7 TX7 28 := ⟨rfl, fun w h => List.mem_cons_of_mem _ (List.mem_append_right _ (h)), Nat.le_of_ble_eq_true rfl, List.mem_cons_of_mem _ (List.mem_append_left _ (List.mem_append_left _ (List.mem_of_getElem? (i := 0) rfl)))⟩
theorem flX7_mind_90 : gFL wsX7_mind RX7 90 7 12 RX7 TX7 28 := ⟨rfl, fun w h => List.mem_cons_of_mem _ (List.mem_append_right _ (h)), Nat.le_of_ble_eq_true rfl, List.mem_cons_of_mem _ (List.mem_append_left _ (List.mem_append_left _ (List.mem_of_getElem? (i := 1) rfl)))⟩
theorem flX7_mind_93 : gFL wsX7_mind RX7 93 7 13 RX7 TX7 28 := ⟨rfl, fun w h => List.mem_cons_of_mem _ (List.mem_append_right _ (h)), Nat.le_of_ble_eq_true rfl, List.mem_cons_of_mem _ (List.mem_append_left _ (List.mem_append_left _ (List.mem_of_getElem? (i := 2) rfl)))⟩
theorem flX7_mind_39 : gFL wsX7_mind RX7 39 7 11 RX7 TX7 28 := ⟨rfl, fun w h => List.mem_cons_of_mem _ (List.mem_append_right _ (h)), Nat.le_of_ble_eq_true rfl, List.mem_cons_of_mem _ (List.mem_append_left _ (List.mem_append_left _ (List.mem_of_getElem? (i := 3) rfl)))⟩
def J_X7_mind_69 (f_d : Nat → Int32) (n0 : Nat) (f_found : Nat → Int32) (x4 : Int32) (x5 : Int32) (g6 : Nat → Int32) (g7 : Nat → Int32) (g1 : Nat → Int32) (g2 : Nat → Int32) (s12 : Int32) : Option (Int32 × Int32 × Int32 × (Nat → Int32) × (Nat → Int32) × (Nat → Int32) × (Nat → Int32) × (Nat → Int32)) := rd f_d 40 0 (fun x13 => (if x13 = 0 then bd2 (F_X7_finds n0 f_found 3) (fun x14 g15 => some (x14, x4, x5, g6, g7, g15, g1, g2)) else (if s12 ≤ x4 then some (s12, x4, x5, g6, g7, f_found, g1, g2) else bd2 (F_X7_finds n0 f_found 3) (fun x16 g17 => some (x16, x4, x5, g6, g7, g17, g1, g2)))))
def L_X7_mind_36 (f_d : Nat → Int32) (n0 : Nat) (f_found : Nat → Int32) (x4 : Int32) (x5 : Int32) (g6 : Nat → Int32) (g7 : Nat → Int32) (g1 : Nat → Int32) (g2 : Nat → Int32) (x10 : Int32) : Nat → Int32 → Option (Int32 × Int32 × Int32 × (Nat → Int32) × (Nat → Int32) × (Nat → Int32) × (Nat → Int32) × (Nat → Int32)) := lpp1 (fun s12 kk36 => (if s12 ≤ 0 then J_X7_mind_69 f_d n0 f_found x4 x5 g6 g7 g1 g2 s12 else nm (s12 - 1) (fun x18 => rd g6 1026 x18 (fun x19 => (if x19 = 0 then nm (s12 + (-1)) (fun x20 => kk36 x20) else nm (s12 - 1) (fun x21 => rd g6 1026 x21 (fun x22 => (if x22 = x10 then nm (s12 + (-1)) (fun x23 => kk36 x23) else J_X7_mind_69 f_d n0 f_found x4 x5 g6 g7 g1 g2 s12))))))))
def F_X7_mind (n0 : Nat) (v_gone : Int32) (v_begin : Int32) (v_round : Int32) (f_d : Nat → Int32) (f_daily : Nat → Int32) (f_firstDay : Nat → Int32) (f_found : Nat → Int32) (f_hears : Nat → Int32) (f_near : Nat → Int32) : Option (Int32 × Int32 × Int32 × (Nat → Int32) × (Nat → Int32) × (Nat → Int32) × (Nat → Int32) × (Nat → Int32)) := bd2 (F_X7_listen n0 v_gone f_d f_hears f_near) (fun g1 g2 => rd f_d 40 6 (fun x3 => bd4 (F_X7_goThrough n0 v_begin v_round f_d f_daily f_firstDay g1 g2 x3) (fun x4 x5 g6 g7 => rd f_d 40 0 (fun x8 => nm (1 <<< (x8 &&& 31)) (fun x9 => nm (x9 - 1) (fun x10 => nm (x4 + x5) (fun x11 => L_X7_mind_36 f_d n0 f_found x4 x5 g6 g7 g1 g2 x10 n0 x11)))))))
set_option maxRecDepth 100000 in
set_option maxHeartbeats 4000000 in
theorem k_X7_mind (l : Launch) (dC : Nat → ClassId) (dI : Nat → Nat → Nat) (cI cB cO : ClassId) (n0 sz : Nat) (a_t : Nat) (a_d : Nat) (a_e : Nat) (a_kept : Nat) (a_found : Nat) (a_tape : Nat) (a_hears : Nat) (a_near : Nat) (a_firstDay : Nat) (a_daily : Nat) (a_heardNow : Nat) (a_bitsOf : Nat) (a_sizeOf : Nat) (a_number : Nat) (a_passing : Nat)   (v_isKept : Int32) (v_taped : Int32) (v_gone : Int32) (v_begin : Int32) (v_round : Int32) (v_leastFar : Int32) (v_leastWhere : Int32) (v_mostLed : Int32) (v_firstMove : Int32) (v_at : Int32) (v_sort : Int32) (v_from : Int32) (v_value : Int64) (v_fault : Int32) (f_d : Nat → Int32) (f_daily : Nat → Int32) (f_firstDay : Nat → Int32) (f_found : Nat → Int32) (f_hears : Nat → Int32) (f_near : Nat → Int32)   {ro : Int32} {o0 : Int32} {o1 : Int32} {o2 : Nat → Int32} {o3 : Nat → Int32} {o4 : Nat → Int32} {o5 : Nat → Int32} {o6 : Nat → Int32} (hF : F_X7_mind n0 v_gone v_begin v_round f_d f_daily f_firstDay f_found f_hears f_near = some (ro, o0, o1, o2, o3, o4, o5, o6)) : Met l yX7_mind wsX7_mind rmX7_mind (va_Pc [.ref a_t] (gPre (dC, dI) (gT cI cB cO) sz [oX7 a_t a_d a_e a_kept v_isKept a_found a_tape v_taped v_gone a_hears a_near a_firstDay a_daily v_begin v_round v_leastFar v_leastWhere v_mostLed a_heardNow v_firstMove v_at v_sort v_from v_value v_fault a_bitsOf a_sizeOf a_number a_passing, aA cI a_d 40 f_d, aA cI a_daily 1026 f_daily, aA cI a_firstDay 1024 f_firstDay, aA cI a_found 7 f_found, aA cI a_hears 10 f_hears, aA cI a_near 10 f_near])) (gQi (dC, dI) (gT cI cB cO) sz [oX7 a_t a_d a_e a_kept v_isKept a_found a_tape v_taped v_gone a_hears a_near a_firstDay a_daily v_begin v_round v_leastFar v_leastWhere v_mostLed a_heardNow v_firstMove v_at v_sort v_from v_value v_fault a_bitsOf a_sizeOf a_number a_passing, aA cI a_d 40 f_d, aA cI a_daily 1026 f_daily, aA cI a_firstDay 1024 f_firstDay, aA cI a_found 7 f_found, aA cI a_hears 10 f_hears, aA cI a_near 10 f_near] ro [oX7 a_t a_d a_e a_kept v_isKept a_found a_tape v_taped v_gone a_hears a_near a_firstDay a_daily o0 o1 v_leastFar v_leastWhere v_mostLed a_heardNow v_firstMove v_at v_sort v_from v_value v_fault a_bitsOf a_sizeOf a_number a_passing, aA cI a_d 40 f_d, aA cI a_daily 1026 o2, aA cI a_firstDay 1024 o3, aA cI a_found 7 o4, aA cI a_hears 10 o5, aA cI a_near 10 o6]) 0 0 (va_A [oX7 a_t a_d a_e a_kept v_isKept a_found a_tape v_taped v_gone a_hears a_near a_firstDay a_daily v_begin v_round v_leastFar v_leastWhere v_mostLed a_heardNow v_firstMove v_at v_sort v_from v_value v_fault a_bitsOf a_sizeOf a_number a_passing, aA cI a_d 40 f_d, aA cI a_daily 1026 f_daily, aA cI a_firstDay 1024 f_firstDay, aA cI a_found 7 f_found, aA cI a_hears 10 f_hears, aA cI a_near 10 f_near] sz) := by
  refine g_metI (Out := Int32 × Int32 × Int32 × (Nat → Int32) × (Nat → Int32) × (Nat → Int32) × (Nat → Int32) × (Nat → Int32)) (fun oo => oo.1) (fun oo => [oX7 a_t a_d a_e a_kept v_isKept a_found a_tape v_taped v_gone a_hears a_near a_firstDay a_daily oo.2.1 oo.2.2.1 v_leastFar v_leastWhere v_mostLed a_heardNow v_firstMove v_at v_sort v_from v_value v_fault a_bitsOf a_sizeOf a_number a_passing, aA cI a_d 40 f_d, aA cI a_daily 1026 oo.2.2.2.1, aA cI a_firstDay 1024 oo.2.2.2.2.1, aA cI a_found 7 oo.2.2.2.2.2.1, aA cI a_hears 10 oo.2.2.2.2.2.2.1, aA cI a_near 10 oo.2.2.2.2.2.2.2]) (ro, o0, o1, o2, o3, o4, o5, o6) (own := RX7) (lv := [(0, .ref a_t)]) (by decide) rfl rfl (Nat.le_of_ble_eq_true rfl) rfl ?_
  intro p e s m args below meth c Q ls C hret hV hl
  obtain ⟨out, hout⟩ : ∃ z : Int32 × Int32 × Int32 × (Nat → Int32) × (Nat → Int32) × (Nat → Int32) × (Nat → Int32) × (Nat → Int32), z = (ro, o0, o1, o2, o3, o4, o5, o6) := ⟨_, rfl⟩
  rw [← hout] at hF hret
  obtain ⟨H0, hH0⟩ : ∃ z : Heap, z = s.heap := ⟨_, rfl⟩
  obtain ⟨A0, hA0⟩ : ∃ z : Nat → Prop, z = va_A [oX7 a_t a_d a_e a_kept v_isKept a_found a_tape v_taped v_gone a_hears a_near a_firstDay a_daily v_begin v_round v_leastFar v_leastWhere v_mostLed a_heardNow v_firstMove v_at v_sort v_from v_value v_fault a_bitsOf a_sizeOf a_number a_passing, aA cI a_d 40 f_d, aA cI a_daily 1026 f_daily, aA cI a_firstDay 1024 f_firstDay, aA cI a_found 7 f_found, aA cI a_hears 10 f_hears, aA cI a_near 10 f_near] s.heap.size := ⟨_, rfl⟩
  rw [← hA0] at hret hV
  rw [← hH0] at hret hV
  rw [← hH0]
  obtain ⟨H, locs, hH⟩ : ∃ (z : Heap) (y : List Loc), z = H0 ∧ y = [] := ⟨_, _, rfl, rfl⟩
  rw [← hH.1, ← hH.2]
  have hV : gV (dC, dI) (gT cI cB cO) A0 H0 s [oX7 a_t a_d a_e a_kept v_isKept a_found a_tape v_taped v_gone a_hears a_near a_firstDay a_daily v_begin v_round v_leastFar v_leastWhere v_mostLed a_heardNow v_firstMove v_at v_sort v_from v_value v_fault a_bitsOf a_sizeOf a_number a_passing, aA cI a_d 40 f_d, aA cI a_daily 1026 f_daily, aA cI a_firstDay 1024 f_firstDay, aA cI a_found 7 f_found, aA cI a_hears 10 f_hears, aA cI a_near 10 f_near] H locs := by rw [hH.1, hH.2]; exact hV
  unfold F_X7_mind at hF
  refine lv_aload_n C.1 C.2.1 dX7_mind_0 rfl (lv_at hl 0 rfl) ?_
  obtain ⟨g1, g2, hc, hF⟩ := bd2_s hF
  refine g_cVv (ws' := [oX7 a_t a_d a_e a_kept v_isKept a_found a_tape v_taped v_gone a_hears a_near a_firstDay a_daily v_begin v_round v_leastFar v_leastWhere v_mostLed a_heardNow v_firstMove v_at v_sort v_from v_value v_fault a_bitsOf a_sizeOf a_number a_passing, aA cI a_d 40 f_d, aA cI a_daily 1026 f_daily, aA cI a_firstDay 1024 f_firstDay, aA cI a_found 7 f_found, aA cI a_hears 10 g1, aA cI a_near 10 g2]) (wr := [aA cI a_daily 1026 f_daily, aA cI a_firstDay 1024 f_firstDay, aA cI a_found 7 f_found]) C hV (k_X7_listen l dC dI cI cB cO n0 H.size a_t a_d a_e a_kept a_found a_tape a_hears a_near a_firstDay a_daily a_heardNow a_bitsOf a_sizeOf a_number a_passing v_isKept v_taped v_gone v_begin v_round v_leastFar v_leastWhere v_mostLed v_firstMove v_at v_sort v_from v_value v_fault f_d f_hears f_near hc) mdX7_listen gX7_mind_X7_listen rfl rfl ⟨Nat.le_of_ble_eq_true rfl, Nat.le_of_ble_eq_true rfl⟩ [0, 1, 5, 6] [2, 3, 4] [3, 4, 0, 1, 2, 5, 6] rfl rfl rfl rfl rfl rfl rfl rfl rfl rfl hl.1 (Nat.le_of_ble_eq_true rfl) rfl dX7_mind_1 (fun H locs hV => ?_)
  refine lv_aload_n C.1 C.2.1 dX7_mind_4 rfl (lv_at hl 0 rfl) ?_
  refine lv_aload_n C.1 C.2.1 dX7_mind_5 rfl (lv_at hl 0 rfl) ?_
  refine g_get C hV flX7_mind_7 0 rfl rfl dX7_mind_6 ?_
  refine lv_bipush (v := 6) C.1 C.2.1 dX7_mind_9 rfl ?_
  refine g_iald C hV 1 rfl hF dX7_mind_11 (fun x3 hF => ?_)
  obtain ⟨x4, x5, g6, g7, hc, hF⟩ := bd4_s hF
  refine g_cVv (ws' := [oX7 a_t a_d a_e a_kept v_isKept a_found a_tape v_taped v_gone a_hears a_near a_firstDay a_daily x4 x5 v_leastFar v_leastWhere v_mostLed a_heardNow v_firstMove v_at v_sort v_from v_value v_fault a_bitsOf a_sizeOf a_number a_passing, aA cI a_d 40 f_d, aA cI a_daily 1026 g6, aA cI a_firstDay 1024 g7, aA cI a_found 7 f_found, aA cI a_hears 10 g1, aA cI a_near 10 g2]) (wr := [aA cI a_found 7 f_found]) C hV (k_X7_goThrough l dC dI cI cB cO n0 H.size a_t a_d a_e a_kept a_found a_tape a_hears a_near a_firstDay a_daily a_heardNow a_bitsOf a_sizeOf a_number a_passing v_isKept v_taped v_gone v_begin v_round v_leastFar v_leastWhere v_mostLed v_firstMove v_at v_sort v_from v_value v_fault f_d f_daily f_firstDay g1 g2 x3 hc) mdX7_goThrough gX7_mind_X7_goThrough rfl rfl ⟨Nat.le_of_ble_eq_true rfl, Nat.le_of_ble_eq_true rfl⟩ [0, 1, 2, 3, 5, 6] [4] [1, 2, 3, 4, 0, 5, 6] rfl rfl rfl rfl rfl rfl rfl rfl rfl rfl hl.1 (Nat.le_of_ble_eq_true rfl) rfl dX7_mind_12 (fun H locs hV => ?_)
  refine lv_iconst (v := 1) C.1 C.2.1 dX7_mind_15 rfl ?_
  refine lv_aload_n C.1 C.2.1 dX7_mind_16 rfl (lv_at hl 0 rfl) ?_
  refine g_get C hV flX7_mind_7 0 rfl rfl dX7_mind_17 ?_
  refine lv_iconst (v := 0) C.1 C.2.1 dX7_mind_20 rfl ?_
  refine g_iald C hV 1 rfl hF dX7_mind_21 (fun x8 hF => ?_)
  refine g_ishl C hF dX7_mind_22 (fun x9 hF => ?_)
  refine lv_iconst (v := 1) C.1 C.2.1 dX7_mind_23 rfl ?_
  refine g_isub C hF dX7_mind_24 (fun x10 hF => ?_)
  refine lv_istore_n (lv' := [(1, .int x10), (0, .ref a_t)]) C.1 C.2.1 dX7_mind_25 rfl hl (by decide) rfl (fun ls hl => ?_)
  refine lv_aload_n C.1 C.2.1 dX7_mind_26 rfl (lv_at hl 1 rfl) ?_
  refine g_get C hV flX7_mind_90 0 rfl rfl dX7_mind_27 ?_
  refine lv_aload_n C.1 C.2.1 dX7_mind_30 rfl (lv_at hl 1 rfl) ?_
  refine g_get C hV flX7_mind_93 0 rfl rfl dX7_mind_31 ?_
  refine g_iadd C hF dX7_mind_34 (fun x11 hF => ?_)
  refine lv_istore_n (lv' := [(2, .int x11), (1, .int x10), (0, .ref a_t)]) C.1 C.2.1 dX7_mind_35 rfl hl (by decide) rfl (fun ls hl => ?_)
  have hL36 : ∀ (n : Nat) (s12 : Int32) (H : Heap) (locs : List Loc) (ls : Array Slot), gV (dC, dI) (gT cI cB cO) A0 H0 s [oX7 a_t a_d a_e a_kept v_isKept a_found a_tape v_taped v_gone a_hears a_near a_firstDay a_daily x4 x5 v_leastFar v_leastWhere v_mostLed a_heardNow v_firstMove v_at v_sort v_from v_value v_fault a_bitsOf a_sizeOf a_number a_passing, aA cI a_d 40 f_d, aA cI a_daily 1026 g6, aA cI a_firstDay 1024 g7, aA cI a_found 7 f_found, aA cI a_hears 10 g1, aA cI a_near 10 g2] H locs → lv_has ls 3 [(0, .ref a_t), (1, .int x10), (2, .int s12)] → L_X7_mind_36 f_d n0 f_found x4 x5 g6 g7 g1 g2 x10 n s12 = some out → W p l e rmX7_mind s m args below meth c H locs 0 0 Q (F0 m 36 ls []) := by
    intro n
    induction n with
    | zero => intro s12 H locs ls hV hl hF; exact lpp1_z hF
    | succ n ih36 =>
      intro s12 H locs ls hV hl hF
      obtain ⟨kk36, hk36, hF⟩ := lpp1_g hF
      have hq36 : ∀ (s12 : Int32), kk36 s12 = some out → L_X7_mind_36 f_d n0 f_found x4 x5 g6 g7 g1 g2 x10 n s12 = some out := fun _ h => by rw [hk36] at h; exact h
      refine lv_iload_n C.1 C.2.1 dX7_mind_36 rfl (lv_at hl 2 rfl) ?_
      have hJ69 : ∀  (H : Heap) (locs : List Loc) (ls : Array Slot), gV (dC, dI) (gT cI cB cO) A0 H0 s [oX7 a_t a_d a_e a_kept v_isKept a_found a_tape v_taped v_gone a_hears a_near a_firstDay a_daily x4 x5 v_leastFar v_leastWhere v_mostLed a_heardNow v_firstMove v_at v_sort v_from v_value v_fault a_bitsOf a_sizeOf a_number a_passing, aA cI a_d 40 f_d, aA cI a_daily 1026 g6, aA cI a_firstDay 1024 g7, aA cI a_found 7 f_found, aA cI a_hears 10 g1, aA cI a_near 10 g2] H locs → lv_has ls 3 [(0, .ref a_t), (2, .int s12)] → J_X7_mind_69 f_d n0 f_found x4 x5 g6 g7 g1 g2 s12 = some out → W p l e rmX7_mind s m args below meth c H locs 0 0 Q (F0 m 69 ls []) := by
        intro  H locs ls hV hl hF
        unfold J_X7_mind_69 at hF
        refine lv_aload_n C.1 C.2.1 dX7_mind_69 rfl (lv_at hl 0 rfl) ?_
        refine g_get C hV flX7_mind_7 0 rfl rfl dX7_mind_70 ?_
        refine lv_iconst (v := 0) C.1 C.2.1 dX7_mind_73 rfl ?_
        refine g_iald C hV 1 rfl hF dX7_mind_74 (fun x13 hF => ?_)
        refine g_if_eq (tgt := 86) C hF dX7_mind_75 rfl (fun hF => ?_) (fun hF => ?_)
        · refine lv_aload_n C.1 C.2.1 dX7_mind_86 rfl (lv_at hl 0 rfl) ?_
          refine lv_iconst (v := 3) C.1 C.2.1 dX7_mind_87 rfl ?_
          obtain ⟨x14, g15, hc, hF⟩ := bd2_s hF
          refine g_cVi (ws' := [oX7 a_t a_d a_e a_kept v_isKept a_found a_tape v_taped v_gone a_hears a_near a_firstDay a_daily x4 x5 v_leastFar v_leastWhere v_mostLed a_heardNow v_firstMove v_at v_sort v_from v_value v_fault a_bitsOf a_sizeOf a_number a_passing, aA cI a_d 40 f_d, aA cI a_daily 1026 g6, aA cI a_firstDay 1024 g7, aA cI a_found 7 g15, aA cI a_hears 10 g1, aA cI a_near 10 g2]) (wr := [aA cI a_d 40 f_d, aA cI a_daily 1026 g6, aA cI a_firstDay 1024 g7, aA cI a_hears 10 g1, aA cI a_near 10 g2]) C hV (k_X7_finds l dC dI cI cB cO n0 H.size a_t a_d a_e a_kept a_found a_tape a_hears a_near a_firstDay a_daily a_heardNow a_bitsOf a_sizeOf a_number a_passing v_isKept v_taped v_gone x4 x5 v_leastFar v_leastWhere v_mostLed v_firstMove v_at v_sort v_from v_value v_fault f_found 3 hc) mdX7_finds gX7_mind_X7_finds rfl rfl ⟨Nat.le_of_ble_eq_true rfl, Nat.le_of_ble_eq_true rfl⟩ [0, 4] [1, 2, 3, 5, 6] [5, 0, 1, 2, 6, 3, 4] rfl rfl rfl rfl rfl rfl rfl rfl rfl rfl hl.1 (Nat.le_of_ble_eq_true rfl) rfl dX7_mind_88 (fun H locs hV => ?_)
          refine lv_goto (tgt := 95) C.1 C.2.1 dX7_mind_91 rfl ?_
          exact hret (x14, x4, x5, g6, g7, g15, g1, g2) _ _ _ _ dX7_mind_95 hF hV
        refine lv_iload_n C.1 C.2.1 dX7_mind_78 rfl (lv_at hl 1 rfl) ?_
        refine lv_aload_n C.1 C.2.1 dX7_mind_79 rfl (lv_at hl 0 rfl) ?_
        refine g_get C hV flX7_mind_90 0 rfl rfl dX7_mind_80 ?_
        refine g_icmp_le (tgt := 94) C hF dX7_mind_83 rfl (fun hF => ?_) (fun hF => ?_)
        · refine lv_iload_n C.1 C.2.1 dX7_mind_94 rfl (lv_at hl 1 rfl) ?_
          exact hret (s12, x4, x5, g6, g7, f_found, g1, g2) _ _ _ _ dX7_mind_95 hF hV
        refine lv_aload_n C.1 C.2.1 dX7_mind_86 rfl (lv_at hl 0 rfl) ?_
        refine lv_iconst (v := 3) C.1 C.2.1 dX7_mind_87 rfl ?_
        obtain ⟨x16, g17, hc, hF⟩ := bd2_s hF
        refine g_cVi (ws' := [oX7 a_t a_d a_e a_kept v_isKept a_found a_tape v_taped v_gone a_hears a_near a_firstDay a_daily x4 x5 v_leastFar v_leastWhere v_mostLed a_heardNow v_firstMove v_at v_sort v_from v_value v_fault a_bitsOf a_sizeOf a_number a_passing, aA cI a_d 40 f_d, aA cI a_daily 1026 g6, aA cI a_firstDay 1024 g7, aA cI a_found 7 g17, aA cI a_hears 10 g1, aA cI a_near 10 g2]) (wr := [aA cI a_d 40 f_d, aA cI a_daily 1026 g6, aA cI a_firstDay 1024 g7, aA cI a_hears 10 g1, aA cI a_near 10 g2]) C hV (k_X7_finds l dC dI cI cB cO n0 H.size a_t a_d a_e a_kept a_found a_tape a_hears a_near a_firstDay a_daily a_heardNow a_bitsOf a_sizeOf a_number a_passing v_isKept v_taped v_gone x4 x5 v_leastFar v_leastWhere v_mostLed v_firstMove v_at v_sort v_from v_value v_fault f_found 3 hc) mdX7_finds gX7_mind_X7_finds rfl rfl ⟨Nat.le_of_ble_eq_true rfl, Nat.le_of_ble_eq_true rfl⟩ [0, 4] [1, 2, 3, 5, 6] [5, 0, 1, 2, 6, 3, 4] rfl rfl rfl rfl rfl rfl rfl rfl rfl rfl hl.1 (Nat.le_of_ble_eq_true rfl) rfl dX7_mind_88 (fun H locs hV => ?_)
        refine lv_goto (tgt := 95) C.1 C.2.1 dX7_mind_91 rfl ?_
        exact hret (x16, x4, x5, g6, g7, g17, g1, g2) _ _ _ _ dX7_mind_95 hF hV
      refine g_if_le (tgt := 69) C hF dX7_mind_37 rfl (fun hF => ?_) (fun hF => ?_)
      · exact hJ69  H locs ls hV (lv_sub hl [0, 2] rfl) hF
      refine lv_aload_n C.1 C.2.1 dX7_mind_40 rfl (lv_at hl 0 rfl) ?_
      refine g_get C hV flX7_mind_39 0 rfl rfl dX7_mind_41 ?_
      refine lv_iload_n C.1 C.2.1 dX7_mind_44 rfl (lv_at hl 2 rfl) ?_
      refine lv_iconst (v := 1) C.1 C.2.1 dX7_mind_45 rfl ?_
      refine g_isub C hF dX7_mind_46 (fun x18 hF => ?_)
      refine g_iald C hV 2 rfl hF dX7_mind_47 (fun x19 hF => ?_)
      refine g_if_eq (tgt := 63) C hF dX7_mind_48 rfl (fun hF => ?_) (fun hF => ?_)
      · refine g_iinc C hF dX7_mind_63 (d := (-1)) rfl hl (j := 2) rfl (by decide) (fun y => [(2, .int y), (0, .ref a_t), (1, .int x10)]) (fun _ => rfl) (fun x20 ls hF hl => ?_)
        refine lv_goto (tgt := 36) C.1 C.2.1 dX7_mind_66 rfl ?_
        exact ih36 x20 H locs ls hV (lv_sub hl [1, 2, 0] rfl) (hq36 x20 hF)
      refine lv_aload_n C.1 C.2.1 dX7_mind_51 rfl (lv_at hl 0 rfl) ?_
      refine g_get C hV flX7_mind_39 0 rfl rfl dX7_mind_52 ?_
      refine lv_iload_n C.1 C.2.1 dX7_mind_55 rfl (lv_at hl 2 rfl) ?_
      refine lv_iconst (v := 1) C.1 C.2.1 dX7_mind_56 rfl ?_
      refine g_isub C hF dX7_mind_57 (fun x21 hF => ?_)
      refine g_iald C hV 2 rfl hF dX7_mind_58 (fun x22 hF => ?_)
      refine lv_iload_n C.1 C.2.1 dX7_mind_59 rfl (lv_at hl 1 rfl) ?_
      refine g_icmp_ne (tgt := 69) C hF dX7_mind_60 rfl (fun hF => ?_) (fun hF => ?_)
      · exact hJ69  H locs ls hV (lv_sub hl [0, 2] rfl) hF
      refine g_iinc C hF dX7_mind_63 (d := (-1)) rfl hl (j := 2) rfl (by decide) (fun y => [(2, .int y), (0, .ref a_t), (1, .int x10)]) (fun _ => rfl) (fun x23 ls hF hl => ?_)
      refine lv_goto (tgt := 36) C.1 C.2.1 dX7_mind_66 rfl ?_
      exact ih36 x23 H locs ls hV (lv_sub hl [1, 2, 0] rfl) (hq36 x23 hF)
  exact hL36 n0 x11 H locs ls hV (lv_sub hl [2, 1, 0] rfl) hF
abbrev rmX7_isMore : Room := { frames := 4, cells := 0, slots := 0, locals := 92 }
theorem mdX7_isMore : gMd yX7_isMore wsX7_isMore cX7_isMore 2 (some .boolean) 1 := ⟨⟨_, rfl⟩, by decide +kernel⟩
theorem flX7_isMore_7 : gFL wsX7_isMore RX7 7 7 0 RX7 TX7 28 := ⟨rfl, fun w h => List.mem_cons_of_mem _ (List.mem_append_right _ (h)), Nat.le_of_ble_eq_true rfl, List.mem_cons_of_mem _ (List.mem_append_left _ (List.mem_append_left _ (List.mem_of_getElem? (i := 0) rfl)))⟩
def F_X7_isMore (n0 : Nat) (v_gone : Int32) (f_d : Nat → Int32) (f_hears : Nat → Int32) (f_near : Nat → Int32) (p1 : Int32) : Option (Int32 × (Nat → Int32) × (Nat → Int32)) := bd2 (F_X7_listen n0 v_gone f_d f_hears f_near) (fun g1 g2 => rd f_d 40 6 (fun x3 => bd1 (F_X7_ahead n0 f_d g1 g2 x3 p1) (fun x4 => bd1 (F_X7_ones n0 x4) (fun x5 => nm (2 * x5) (fun x6 => rd f_d 40 0 (fun x7 => (if x6 ≤ x7 then some ((0, g1, g2) : Int32 × (Nat → Int32) × (Nat → Int32)) else some ((1, g1, g2) : Int32 × (Nat → Int32) × (Nat → Int32)))))))))
set_option maxRecDepth 100000 in
set_option maxHeartbeats 4000000 in
theorem k_X7_isMore (l : Launch) (dC : Nat → ClassId) (dI : Nat → Nat → Nat) (cI cB cO : ClassId) (n0 sz : Nat) (a_t : Nat) (a_d : Nat) (a_e : Nat) (a_kept : Nat) (a_found : Nat) (a_tape : Nat) (a_hears : Nat) (a_near : Nat) (a_firstDay : Nat) (a_daily : Nat) (a_heardNow : Nat) (a_bitsOf : Nat) (a_sizeOf : Nat) (a_number : Nat) (a_passing : Nat)   (v_isKept : Int32) (v_taped : Int32) (v_gone : Int32) (v_begin : Int32) (v_round : Int32) (v_leastFar : Int32) (v_leastWhere : Int32) (v_mostLed : Int32) (v_firstMove : Int32) (v_at : Int32) (v_sort : Int32) (v_from : Int32) (v_value : Int64) (v_fault : Int32) (f_d : Nat → Int32) (f_hears : Nat → Int32) (f_near : Nat → Int32) (p1 : Int32)  {ro : Int32} {o0 : Nat → Int32} {o1 : Nat → Int32} (hF : F_X7_isMore n0 v_gone f_d f_hears f_near p1 = some (ro, o0, o1)) : Met l yX7_isMore wsX7_isMore rmX7_isMore (va_Pc [.ref a_t, .int p1] (gPre (dC, dI) (gT cI cB cO) sz [oX7 a_t a_d a_e a_kept v_isKept a_found a_tape v_taped v_gone a_hears a_near a_firstDay a_daily v_begin v_round v_leastFar v_leastWhere v_mostLed a_heardNow v_firstMove v_at v_sort v_from v_value v_fault a_bitsOf a_sizeOf a_number a_passing, aA cI a_d 40 f_d, aA cI a_hears 10 f_hears, aA cI a_near 10 f_near])) (gQi (dC, dI) (gT cI cB cO) sz [oX7 a_t a_d a_e a_kept v_isKept a_found a_tape v_taped v_gone a_hears a_near a_firstDay a_daily v_begin v_round v_leastFar v_leastWhere v_mostLed a_heardNow v_firstMove v_at v_sort v_from v_value v_fault a_bitsOf a_sizeOf a_number a_passing, aA cI a_d 40 f_d, aA cI a_hears 10 f_hears, aA cI a_near 10 f_near] ro [oX7 a_t a_d a_e a_kept v_isKept a_found a_tape v_taped v_gone a_hears a_near a_firstDay a_daily v_begin v_round v_leastFar v_leastWhere v_mostLed a_heardNow v_firstMove v_at v_sort v_from v_value v_fault a_bitsOf a_sizeOf a_number a_passing, aA cI a_d 40 f_d, aA cI a_hears 10 o0, aA cI a_near 10 o1]) 0 0 (va_A [oX7 a_t a_d a_e a_kept v_isKept a_found a_tape v_taped v_gone a_hears a_near a_firstDay a_daily v_begin v_round v_leastFar v_leastWhere v_mostLed a_heardNow v_firstMove v_at v_sort v_from v_value v_fault a_bitsOf a_sizeOf a_number a_passing, aA cI a_d 40 f_d, aA cI a_hears 10 f_hears, aA cI a_near 10 f_near] sz) := by
  refine g_metZ (Out := Int32 × (Nat → Int32) × (Nat → Int32)) (fun oo => oo.1) (fun oo => [oX7 a_t a_d a_e a_kept v_isKept a_found a_tape v_taped v_gone a_hears a_near a_firstDay a_daily v_begin v_round v_leastFar v_leastWhere v_mostLed a_heardNow v_firstMove v_at v_sort v_from v_value v_fault a_bitsOf a_sizeOf a_number a_passing, aA cI a_d 40 f_d, aA cI a_hears 10 oo.2.1, aA cI a_near 10 oo.2.2]) (ro, o0, o1) (own := RX7) (lv := [(0, .ref a_t), (1, .int p1)]) (by decide) rfl rfl (Nat.le_of_ble_eq_true rfl) rfl ?_
  intro p e s m args below meth c Q ls C hret hV hl
  obtain ⟨out, hout⟩ : ∃ z : Int32 × (Nat → Int32) × (Nat → Int32), z = (ro, o0, o1) := ⟨_, rfl⟩
  rw [← hout] at hF hret
  obtain ⟨H0, hH0⟩ : ∃ z : Heap, z = s.heap := ⟨_, rfl⟩
  obtain ⟨A0, hA0⟩ : ∃ z : Nat → Prop, z = va_A [oX7 a_t a_d a_e a_kept v_isKept a_found a_tape v_taped v_gone a_hears a_near a_firstDay a_daily v_begin v_round v_leastFar v_leastWhere v_mostLed a_heardNow v_firstMove v_at v_sort v_from v_value v_fault a_bitsOf a_sizeOf a_number a_passing, aA cI a_d 40 f_d, aA cI a_hears 10 f_hears, aA cI a_near 10 f_near] s.heap.size := ⟨_, rfl⟩
  rw [← hA0] at hret hV
  rw [← hH0] at hret hV
  rw [← hH0]
  obtain ⟨H, locs, hH⟩ : ∃ (z : Heap) (y : List Loc), z = H0 ∧ y = [] := ⟨_, _, rfl, rfl⟩
  rw [← hH.1, ← hH.2]
  have hV : gV (dC, dI) (gT cI cB cO) A0 H0 s [oX7 a_t a_d a_e a_kept v_isKept a_found a_tape v_taped v_gone a_hears a_near a_firstDay a_daily v_begin v_round v_leastFar v_leastWhere v_mostLed a_heardNow v_firstMove v_at v_sort v_from v_value v_fault a_bitsOf a_sizeOf a_number a_passing, aA cI a_d 40 f_d, aA cI a_hears 10 f_hears, aA cI a_near 10 f_near] H locs := by rw [hH.1, hH.2]; exact hV
  unfold F_X7_isMore at hF
  refine lv_aload_n C.1 C.2.1 dX7_isMore_0 rfl (lv_at hl 0 rfl) ?_
  obtain ⟨g1, g2, hc, hF⟩ := bd2_s hF
  refine g_cVv (ws' := [oX7 a_t a_d a_e a_kept v_isKept a_found a_tape v_taped v_gone a_hears a_near a_firstDay a_daily v_begin v_round v_leastFar v_leastWhere v_mostLed a_heardNow v_firstMove v_at v_sort v_from v_value v_fault a_bitsOf a_sizeOf a_number a_passing, aA cI a_d 40 f_d, aA cI a_hears 10 g1, aA cI a_near 10 g2]) (wr := []) C hV (k_X7_listen l dC dI cI cB cO n0 H.size a_t a_d a_e a_kept a_found a_tape a_hears a_near a_firstDay a_daily a_heardNow a_bitsOf a_sizeOf a_number a_passing v_isKept v_taped v_gone v_begin v_round v_leastFar v_leastWhere v_mostLed v_firstMove v_at v_sort v_from v_value v_fault f_d f_hears f_near hc) mdX7_listen gX7_isMore_X7_listen rfl rfl ⟨Nat.le_of_ble_eq_true rfl, Nat.le_of_ble_eq_true rfl⟩ [0, 1, 2, 3] [] [0, 1, 2, 3] rfl rfl rfl rfl rfl rfl rfl rfl rfl rfl hl.1 (Nat.le_of_ble_eq_true rfl) rfl dX7_isMore_1 (fun H locs hV => ?_)
  refine lv_iconst (v := 2) C.1 C.2.1 dX7_isMore_4 rfl ?_
  refine lv_aload_n C.1 C.2.1 dX7_isMore_5 rfl (lv_at hl 0 rfl) ?_
  refine lv_aload_n C.1 C.2.1 dX7_isMore_6 rfl (lv_at hl 0 rfl) ?_
  refine g_get C hV flX7_isMore_7 0 rfl rfl dX7_isMore_7 ?_
  refine lv_bipush (v := 6) C.1 C.2.1 dX7_isMore_10 rfl ?_
  refine g_iald C hV 1 rfl hF dX7_isMore_12 (fun x3 hF => ?_)
  refine lv_iload_n C.1 C.2.1 dX7_isMore_13 rfl (lv_at hl 1 rfl) ?_
  obtain ⟨x4, hc, hF⟩ := bd1_s hF
  refine g_cVi (ws' := [oX7 a_t a_d a_e a_kept v_isKept a_found a_tape v_taped v_gone a_hears a_near a_firstDay a_daily v_begin v_round v_leastFar v_leastWhere v_mostLed a_heardNow v_firstMove v_at v_sort v_from v_value v_fault a_bitsOf a_sizeOf a_number a_passing, aA cI a_d 40 f_d, aA cI a_hears 10 g1, aA cI a_near 10 g2]) (wr := []) C hV (k_X7_ahead l dC dI cI cB cO n0 H.size a_t a_d a_e a_kept a_found a_tape a_hears a_near a_firstDay a_daily a_heardNow a_bitsOf a_sizeOf a_number a_passing v_isKept v_taped v_gone v_begin v_round v_leastFar v_leastWhere v_mostLed v_firstMove v_at v_sort v_from v_value v_fault f_d g1 g2 x3 p1 hc) mdX7_ahead gX7_isMore_X7_ahead rfl rfl ⟨Nat.le_of_ble_eq_true rfl, Nat.le_of_ble_eq_true rfl⟩ [0, 1, 2, 3] [] [0, 1, 2, 3] rfl rfl rfl rfl rfl rfl rfl rfl rfl rfl hl.1 (Nat.le_of_ble_eq_true rfl) rfl dX7_isMore_14 (fun H locs hV => ?_)
  obtain ⟨x5, hc, hF⟩ := bd1_s hF
  refine g_cSi (ws' := [oX7 a_t a_d a_e a_kept v_isKept a_found a_tape v_taped v_gone a_hears a_near a_firstDay a_daily v_begin v_round v_leastFar v_leastWhere v_mostLed a_heardNow v_firstMove v_at v_sort v_from v_value v_fault a_bitsOf a_sizeOf a_number a_passing, aA cI a_d 40 f_d, aA cI a_hears 10 g1, aA cI a_near 10 g2]) (wr := [oX7 a_t a_d a_e a_kept v_isKept a_found a_tape v_taped v_gone a_hears a_near a_firstDay a_daily v_begin v_round v_leastFar v_leastWhere v_mostLed a_heardNow v_firstMove v_at v_sort v_from v_value v_fault a_bitsOf a_sizeOf a_number a_passing, aA cI a_d 40 f_d, aA cI a_hears 10 g1, aA cI a_near 10 g2]) C hV (k_X7_ones l dC dI cI cB cO n0 H.size x4 hc) mdX7_ones gX7_isMore_X7_ones rfl rfl ⟨Nat.le_of_ble_eq_true rfl, Nat.le_of_ble_eq_true rfl⟩ [] [0, 1, 2, 3] [0, 1, 2, 3] rfl rfl rfl rfl rfl rfl rfl rfl hl.1 (Nat.le_of_ble_eq_true rfl) rfl dX7_isMore_17 (fun H locs hV => ?_)
  refine g_imul C hF dX7_isMore_20 (fun x6 hF => ?_)
  refine lv_aload_n C.1 C.2.1 dX7_isMore_21 rfl (lv_at hl 0 rfl) ?_
  refine g_get C hV flX7_isMore_7 0 rfl rfl dX7_isMore_22 ?_
  refine lv_iconst (v := 0) C.1 C.2.1 dX7_isMore_25 rfl ?_
  refine g_iald C hV 1 rfl hF dX7_isMore_26 (fun x7 hF => ?_)
  refine g_icmp_le (tgt := 34) C hF dX7_isMore_27 rfl (fun hF => ?_) (fun hF => ?_)
  · refine lv_iconst (v := 0) C.1 C.2.1 dX7_isMore_34 rfl ?_
    exact hret ((0, g1, g2) : Int32 × (Nat → Int32) × (Nat → Int32)) _ _ _ _ dX7_isMore_35 hF (Or.inl rfl) hV
  refine lv_iconst (v := 1) C.1 C.2.1 dX7_isMore_30 rfl ?_
  refine lv_goto (tgt := 35) C.1 C.2.1 dX7_isMore_31 rfl ?_
  exact hret ((1, g1, g2) : Int32 × (Nat → Int32) × (Nat → Int32)) _ _ _ _ dX7_isMore_35 hF (Or.inr rfl) hV
abbrev rmX7_findLeast : Room := { frames := 5, cells := 0, slots := 0, locals := 113 }
theorem mdX7_findLeast : gMd yX7_findLeast wsX7_findLeast cX7_findLeast 7 none 1 := ⟨⟨_, rfl⟩, by decide +kernel⟩
theorem flX7_findLeast_166 : gFL wsX7_findLeast RX7 166 7 14 RX7 TX7 28 := ⟨rfl, fun w h => List.mem_cons_of_mem _ (List.mem_append_right _ (h)), Nat.le_of_ble_eq_true rfl, List.mem_cons_of_mem _ (List.mem_append_left _ (List.mem_append_left _ (List.mem_of_getElem? (i := 0) rfl)))⟩
theorem fpX7_findLeast_166 : gFP wsX7_findLeast RX7 166 7 14 RX7 TX7 28 .int := ⟨flX7_findLeast_166, ⟨tyX7, tyX7_ok⟩, nmX7, rfl, by decide +kernel⟩
theorem flX7_findLeast_169 : gFL wsX7_findLeast RX7 169 7 15 RX7 TX7 28 := ⟨rfl, fun w h => List.mem_cons_of_mem _ (List.mem_append_right _ (h)), Nat.le_of_ble_eq_true rfl, List.mem_cons_of_mem _ (List.mem_append_left _ (List.mem_append_left _ (List.mem_of_getElem? (i := 1) rfl)))⟩
theorem fpX7_findLeast_169 : gFP wsX7_findLeast RX7 169 7 15 RX7 TX7 28 .int := ⟨flX7_findLeast_169, ⟨tyX7, tyX7_ok⟩, nmX7, rfl, by decide +kernel⟩
theorem flX7_findLeast_7 : gFL wsX7_findLeast RX7 7 7 0 RX7 TX7 28 := ⟨rfl, fun w h => List.mem_cons_of_mem _ (List.mem_append_right _ (h)), Nat.le_of_ble_eq_true rfl, List.mem_cons_of_mem _ (List.mem_append_left _ (List.mem_append_left _ (List.mem_of_getElem? (i := 2) rfl)))⟩
def J_X7_findLeast_126 (s1 : Int32) (g20 : Nat → Int32) (x8 : Int32) (s9 : Int32) (kk31 : Int32 → (Nat → Int32) → (Nat → Int32) → (Nat → Int32) → Int32 → Int32 → Option (Int32 × Int32 × (Nat → Int32) × (Nat → Int32) × (Nat → Int32))) (g22 : Nat → Int32) (g23 : Nat → Int32) (u24 : Int32) (u25 : Int32) : Option (Int32 × Int32 × (Nat → Int32) × (Nat → Int32) × (Nat → Int32)) := nm (20 + s1) (fun x26 => wrt g20 40 x26 x8 (fun g27 => nm (s9 + 1) (fun x28 => kk31 x28 g27 g22 g23 u24 u25)))
def J_X7_findLeast_79 (k18 : Int32) (s9 : Int32) (kk31 : Int32 → (Nat → Int32) → (Nat → Int32) → (Nat → Int32) → Int32 → Int32 → Option (Int32 × Int32 × (Nat → Int32) × (Nat → Int32) × (Nat → Int32))) (t10 : Nat → Int32) (t11 : Nat → Int32) (t12 : Nat → Int32) (u13 : Int32) (u14 : Int32) (s1 : Int32) (n0 : Nat) (v_gone : Int32) (p1 : Int32) (x8 : Int32) (x16 : Int32) : Option (Int32 × Int32 × (Nat → Int32) × (Nat → Int32) × (Nat → Int32)) := (if k18 = 0 then nm (s9 + 1) (fun x31 => kk31 x31 t10 t11 t12 u13 u14) else nm (20 + s1) (fun x19 => wrt t10 40 x19 s9 (fun g20 => bd3 (F_X7_isMore n0 v_gone g20 t11 t12 p1) (fun x21 g22 g23 => (if x21 = 0 then J_X7_findLeast_126 s1 g20 x8 s9 kk31 g22 g23 u13 u14 else nm (1000 * s1) (fun x29 => nm (x29 + s9) (fun x30 => J_X7_findLeast_126 s1 g20 x8 s9 kk31 g22 g23 x16 x30)))))))
def J_X7_findLeast_78 (s9 : Int32) (kk31 : Int32 → (Nat → Int32) → (Nat → Int32) → (Nat → Int32) → Int32 → Int32 → Option (Int32 × Int32 × (Nat → Int32) × (Nat → Int32) × (Nat → Int32))) (t10 : Nat → Int32) (t11 : Nat → Int32) (t12 : Nat → Int32) (u13 : Int32) (u14 : Int32) (s1 : Int32) (n0 : Nat) (v_gone : Int32) (p1 : Int32) (x8 : Int32) (x16 : Int32) : Option (Int32 × Int32 × (Nat → Int32) × (Nat → Int32) × (Nat → Int32)) := J_X7_findLeast_79 0 s9 kk31 t10 t11 t12 u13 u14 s1 n0 v_gone p1 x8 x16
def J_X7_findLeast_74 (s9 : Int32) (kk31 : Int32 → (Nat → Int32) → (Nat → Int32) → (Nat → Int32) → Int32 → Int32 → Option (Int32 × Int32 × (Nat → Int32) × (Nat → Int32) × (Nat → Int32))) (t10 : Nat → Int32) (t11 : Nat → Int32) (t12 : Nat → Int32) (u13 : Int32) (u14 : Int32) (s1 : Int32) (n0 : Nat) (v_gone : Int32) (p1 : Int32) (x8 : Int32) (x16 : Int32) : Option (Int32 × Int32 × (Nat → Int32) × (Nat → Int32) × (Nat → Int32)) := J_X7_findLeast_79 1 s9 kk31 t10 t11 t12 u13 u14 s1 n0 v_gone p1 x8 x16
def L_X7_findLeast_31 (s1 : Int32) (kk12 : Int32 → (Nat → Int32) → (Nat → Int32) → (Nat → Int32) → Int32 → Int32 → Option (Int32 × Int32 × (Nat → Int32) × (Nat → Int32) × (Nat → Int32))) (n0 : Nat) (x8 : Int32) (v_gone : Int32) (p1 : Int32) : Nat → Int32 → (Nat → Int32) → (Nat → Int32) → (Nat → Int32) → Int32 → Int32 → Option (Int32 × Int32 × (Nat → Int32) × (Nat → Int32) × (Nat → Int32)) := lpp6 (fun s9 t10 t11 t12 u13 u14 kk31 => (if 144 ≤ s9 then nm (s1 + 1) (fun x15 => kk12 x15 t10 t11 t12 u13 u14) else bd1 (F_X7_farOf n0 t10 x8 s9) (fun x16 => bd1 (F_X7_whoIs n0 t10 s9) (fun x17 => (if x17 = ((-1)) then (if u13 < 0 then J_X7_findLeast_74 s9 kk31 t10 t11 t12 u13 u14 s1 n0 v_gone p1 x8 x16 else (if u13 ≤ x16 then J_X7_findLeast_78 s9 kk31 t10 t11 t12 u13 u14 s1 n0 v_gone p1 x8 x16 else J_X7_findLeast_74 s9 kk31 t10 t11 t12 u13 u14 s1 n0 v_gone p1 x8 x16)) else J_X7_findLeast_78 s9 kk31 t10 t11 t12 u13 u14 s1 n0 v_gone p1 x8 x16)))))
def L_X7_findLeast_12 (n0 : Nat) (v_gone : Int32) (p1 : Int32) : Nat → Int32 → (Nat → Int32) → (Nat → Int32) → (Nat → Int32) → Int32 → Int32 → Option (Int32 × Int32 × (Nat → Int32) × (Nat → Int32) × (Nat → Int32)) := lpp6 (fun s1 t2 t3 t4 u5 u6 kk12 => rd t2 40 0 (fun x7 => (if x7 ≤ s1 then some (u5, u6, t2, t3, t4) else bd1 (F_X7_yard n0 t2 s1) (fun x8 => L_X7_findLeast_31 s1 kk12 n0 x8 v_gone p1 n0 0 t2 t3 t4 u5 u6))))
def F_X7_findLeast (n0 : Nat) (v_gone : Int32) (v_leastFar : Int32) (v_leastWhere : Int32) (f_d : Nat → Int32) (f_hears : Nat → Int32) (f_near : Nat → Int32) (p1 : Int32) : Option (Int32 × Int32 × (Nat → Int32) × (Nat → Int32) × (Nat → Int32)) := L_X7_findLeast_12 n0 v_gone p1 n0 0 f_d f_hears f_near ((-1)) 0
set_option maxRecDepth 100000 in
set_option maxHeartbeats 4000000 in
theorem k_X7_findLeast (l : Launch) (dC : Nat → ClassId) (dI : Nat → Nat → Nat) (cI cB cO : ClassId) (n0 sz : Nat) (a_t : Nat) (a_d : Nat) (a_e : Nat) (a_kept : Nat) (a_found : Nat) (a_tape : Nat) (a_hears : Nat) (a_near : Nat) (a_firstDay : Nat) (a_daily : Nat) (a_heardNow : Nat) (a_bitsOf : Nat) (a_sizeOf : Nat) (a_number : Nat) (a_passing : Nat)   (v_isKept : Int32) (v_taped : Int32) (v_gone : Int32) (v_begin : Int32) (v_round : Int32) (v_leastFar : Int32) (v_leastWhere : Int32) (v_mostLed : Int32) (v_firstMove : Int32) (v_at : Int32) (v_sort : Int32) (v_from : Int32) (v_value : Int64) (v_fault : Int32) (f_d : Nat → Int32) (f_hears : Nat → Int32) (f_near : Nat → Int32) (p1 : Int32)  {o0 : Int32} {o1 : Int32} {o2 : Nat → Int32} {o3 : Nat → Int32} {o4 : Nat → Int32} (hF : F_X7_findLeast n0 v_gone v_leastFar v_leastWhere f_d f_hears f_near p1 = some (o0, o1, o2, o3, o4)) : Met l yX7_findLeast wsX7_findLeast rmX7_findLeast (va_Pc [.ref a_t, .int p1] (gPre (dC, dI) (gT cI cB cO) sz [oX7 a_t a_d a_e a_kept v_isKept a_found a_tape v_taped v_gone a_hears a_near a_firstDay a_daily v_begin v_round v_leastFar v_leastWhere v_mostLed a_heardNow v_firstMove v_at v_sort v_from v_value v_fault a_bitsOf a_sizeOf a_number a_passing, aA cI a_d 40 f_d, aA cI a_hears 10 f_hears, aA cI a_near 10 f_near])) (gQv (dC, dI) (gT cI cB cO) sz [oX7 a_t a_d a_e a_kept v_isKept a_found a_tape v_taped v_gone a_hears a_near a_firstDay a_daily v_begin v_round v_leastFar v_leastWhere v_mostLed a_heardNow v_firstMove v_at v_sort v_from v_value v_fault a_bitsOf a_sizeOf a_number a_passing, aA cI a_d 40 f_d, aA cI a_hears 10 f_hears, aA cI a_near 10 f_near] [oX7 a_t a_d a_e a_kept v_isKept a_found a_tape v_taped v_gone a_hears a_near a_firstDay a_daily v_begin v_round o0 o1 v_mostLed a_heardNow v_firstMove v_at v_sort v_from v_value v_fault a_bitsOf a_sizeOf a_number a_passing, aA cI a_d 40 o2, aA cI a_hears 10 o3, aA cI a_near 10 o4]) 0 0 (va_A [oX7 a_t a_d a_e a_kept v_isKept a_found a_tape v_taped v_gone a_hears a_near a_firstDay a_daily v_begin v_round v_leastFar v_leastWhere v_mostLed a_heardNow v_firstMove v_at v_sort v_from v_value v_fault a_bitsOf a_sizeOf a_number a_passing, aA cI a_d 40 f_d, aA cI a_hears 10 f_hears, aA cI a_near 10 f_near] sz) := by
  refine g_metV (Out := Int32 × Int32 × (Nat → Int32) × (Nat → Int32) × (Nat → Int32)) (fun oo => [oX7 a_t a_d a_e a_kept v_isKept a_found a_tape v_taped v_gone a_hears a_near a_firstDay a_daily v_begin v_round oo.1 oo.2.1 v_mostLed a_heardNow v_firstMove v_at v_sort v_from v_value v_fault a_bitsOf a_sizeOf a_number a_passing, aA cI a_d 40 oo.2.2.1, aA cI a_hears 10 oo.2.2.2.1, aA cI a_near 10 oo.2.2.2.2]) (o0, o1, o2, o3, o4) (own := RX7) (lv := [(0, .ref a_t), (1, .int p1)]) (by decide) rfl rfl (Nat.le_of_ble_eq_true rfl) rfl ?_
  intro p e s m args below meth c Q ls C hret hV hl
  obtain ⟨out, hout⟩ : ∃ z : Int32 × Int32 × (Nat → Int32) × (Nat → Int32) × (Nat → Int32), z = (o0, o1, o2, o3, o4) := ⟨_, rfl⟩
  rw [← hout] at hF hret
  obtain ⟨H0, hH0⟩ : ∃ z : Heap, z = s.heap := ⟨_, rfl⟩
  obtain ⟨A0, hA0⟩ : ∃ z : Nat → Prop, z = va_A [oX7 a_t a_d a_e a_kept v_isKept a_found a_tape v_taped v_gone a_hears a_near a_firstDay a_daily v_begin v_round v_leastFar v_leastWhere v_mostLed a_heardNow v_firstMove v_at v_sort v_from v_value v_fault a_bitsOf a_sizeOf a_number a_passing, aA cI a_d 40 f_d, aA cI a_hears 10 f_hears, aA cI a_near 10 f_near] s.heap.size := ⟨_, rfl⟩
  rw [← hA0] at hret hV
  rw [← hH0] at hret hV
  rw [← hH0]
  obtain ⟨H, locs, hH⟩ : ∃ (z : Heap) (y : List Loc), z = H0 ∧ y = [] := ⟨_, _, rfl, rfl⟩
  rw [← hH.1, ← hH.2]
  have hV : gV (dC, dI) (gT cI cB cO) A0 H0 s [oX7 a_t a_d a_e a_kept v_isKept a_found a_tape v_taped v_gone a_hears a_near a_firstDay a_daily v_begin v_round v_leastFar v_leastWhere v_mostLed a_heardNow v_firstMove v_at v_sort v_from v_value v_fault a_bitsOf a_sizeOf a_number a_passing, aA cI a_d 40 f_d, aA cI a_hears 10 f_hears, aA cI a_near 10 f_near] H locs := by rw [hH.1, hH.2]; exact hV
  unfold F_X7_findLeast at hF
  refine lv_aload_n C.1 C.2.1 dX7_findLeast_0 rfl (lv_at hl 0 rfl) ?_
  refine lv_iconst (v := (-1)) C.1 C.2.1 dX7_findLeast_1 rfl ?_
  refine g_put (ws' := [oX7 a_t a_d a_e a_kept v_isKept a_found a_tape v_taped v_gone a_hears a_near a_firstDay a_daily v_begin v_round ((-1)) v_leastWhere v_mostLed a_heardNow v_firstMove v_at v_sort v_from v_value v_fault a_bitsOf a_sizeOf a_number a_passing, aA cI a_d 40 f_d, aA cI a_hears 10 f_hears, aA cI a_near 10 f_near]) C hV fpX7_findLeast_166 0 rfl rfl rfl (Nat.le_of_ble_eq_true rfl) rfl dX7_findLeast_2 (fun H locs hV => ?_)
  refine lv_aload_n C.1 C.2.1 dX7_findLeast_5 rfl (lv_at hl 0 rfl) ?_
  refine lv_iconst (v := 0) C.1 C.2.1 dX7_findLeast_6 rfl ?_
  refine g_put (ws' := [oX7 a_t a_d a_e a_kept v_isKept a_found a_tape v_taped v_gone a_hears a_near a_firstDay a_daily v_begin v_round ((-1)) 0 v_mostLed a_heardNow v_firstMove v_at v_sort v_from v_value v_fault a_bitsOf a_sizeOf a_number a_passing, aA cI a_d 40 f_d, aA cI a_hears 10 f_hears, aA cI a_near 10 f_near]) C hV fpX7_findLeast_169 0 rfl rfl rfl (Nat.le_of_ble_eq_true rfl) rfl dX7_findLeast_7 (fun H locs hV => ?_)
  refine lv_iconst (v := 0) C.1 C.2.1 dX7_findLeast_10 rfl ?_
  refine lv_istore_n (lv' := [(2, .int 0), (0, .ref a_t), (1, .int p1)]) C.1 C.2.1 dX7_findLeast_11 rfl hl (by decide) rfl (fun ls hl => ?_)
  have hL12 : ∀ (n : Nat) (s1 : Int32) (t2 : Nat → Int32) (t3 : Nat → Int32) (t4 : Nat → Int32) (u5 : Int32) (u6 : Int32) (H : Heap) (locs : List Loc) (ls : Array Slot), gV (dC, dI) (gT cI cB cO) A0 H0 s [oX7 a_t a_d a_e a_kept v_isKept a_found a_tape v_taped v_gone a_hears a_near a_firstDay a_daily v_begin v_round u5 u6 v_mostLed a_heardNow v_firstMove v_at v_sort v_from v_value v_fault a_bitsOf a_sizeOf a_number a_passing, aA cI a_d 40 t2, aA cI a_hears 10 t3, aA cI a_near 10 t4] H locs → lv_has ls 7 [(0, .ref a_t), (1, .int p1), (2, .int s1)] → L_X7_findLeast_12 n0 v_gone p1 n s1 t2 t3 t4 u5 u6 = some out → W p l e rmX7_findLeast s m args below meth c H locs 0 0 Q (F0 m 12 ls []) := by
    intro n
    induction n with
    | zero => intro s1 t2 t3 t4 u5 u6 H locs ls hV hl hF; exact lpp6_z hF
    | succ n ih12 =>
      intro s1 t2 t3 t4 u5 u6 H locs ls hV hl hF
      obtain ⟨kk12, hk12, hF⟩ := lpp6_g hF
      have hq12 : ∀ (s1 : Int32) (t2 : Nat → Int32) (t3 : Nat → Int32) (t4 : Nat → Int32) (u5 : Int32) (u6 : Int32), kk12 s1 t2 t3 t4 u5 u6 = some out → L_X7_findLeast_12 n0 v_gone p1 n s1 t2 t3 t4 u5 u6 = some out := fun _ _ _ _ _ _ h => by rw [hk12] at h; exact h
      refine lv_iload_n C.1 C.2.1 dX7_findLeast_12 rfl (lv_at hl 2 rfl) ?_
      refine lv_aload_n C.1 C.2.1 dX7_findLeast_13 rfl (lv_at hl 0 rfl) ?_
      refine g_get C hV flX7_findLeast_7 0 rfl rfl dX7_findLeast_14 ?_
      refine lv_iconst (v := 0) C.1 C.2.1 dX7_findLeast_17 rfl ?_
      refine g_iald C hV 1 rfl hF dX7_findLeast_18 (fun x7 hF => ?_)
      refine g_icmp_ge (tgt := 148) C hF dX7_findLeast_19 rfl (fun hF => ?_) (fun hF => ?_)
      · exact hret (u5, u6, t2, t3, t4) _ _ _ _ dX7_findLeast_148 hF hV
      refine lv_aload_n C.1 C.2.1 dX7_findLeast_22 rfl (lv_at hl 0 rfl) ?_
      refine lv_iload_n C.1 C.2.1 dX7_findLeast_23 rfl (lv_at hl 2 rfl) ?_
      obtain ⟨x8, hc, hF⟩ := bd1_s hF
      refine g_cVi (ws' := [oX7 a_t a_d a_e a_kept v_isKept a_found a_tape v_taped v_gone a_hears a_near a_firstDay a_daily v_begin v_round u5 u6 v_mostLed a_heardNow v_firstMove v_at v_sort v_from v_value v_fault a_bitsOf a_sizeOf a_number a_passing, aA cI a_d 40 t2, aA cI a_hears 10 t3, aA cI a_near 10 t4]) (wr := [aA cI a_hears 10 t3, aA cI a_near 10 t4]) C hV (k_X7_yard l dC dI cI cB cO n0 H.size a_t a_d a_e a_kept a_found a_tape a_hears a_near a_firstDay a_daily a_heardNow a_bitsOf a_sizeOf a_number a_passing v_isKept v_taped v_gone v_begin v_round u5 u6 v_mostLed v_firstMove v_at v_sort v_from v_value v_fault t2 s1 hc) mdX7_yard gX7_findLeast_X7_yard rfl rfl ⟨Nat.le_of_ble_eq_true rfl, Nat.le_of_ble_eq_true rfl⟩ [0, 1] [2, 3] [2, 3, 0, 1] rfl rfl rfl rfl rfl rfl rfl rfl rfl rfl hl.1 (Nat.le_of_ble_eq_true rfl) rfl dX7_findLeast_24 (fun H locs hV => ?_)
      refine lv_istore_n (lv' := [(3, .int x8), (0, .ref a_t), (1, .int p1), (2, .int s1)]) C.1 C.2.1 dX7_findLeast_27 rfl hl (by decide) rfl (fun ls hl => ?_)
      refine lv_iconst (v := 0) C.1 C.2.1 dX7_findLeast_28 rfl ?_
      refine lv_istore (lv' := [(4, .int 0), (3, .int x8), (0, .ref a_t), (1, .int p1), (2, .int s1)]) C.1 C.2.1 dX7_findLeast_29 hl (by decide) rfl (fun ls hl => ?_)
      have hL31 : ∀ (n : Nat) (s9 : Int32) (t10 : Nat → Int32) (t11 : Nat → Int32) (t12 : Nat → Int32) (u13 : Int32) (u14 : Int32) (H : Heap) (locs : List Loc) (ls : Array Slot), gV (dC, dI) (gT cI cB cO) A0 H0 s [oX7 a_t a_d a_e a_kept v_isKept a_found a_tape v_taped v_gone a_hears a_near a_firstDay a_daily v_begin v_round u13 u14 v_mostLed a_heardNow v_firstMove v_at v_sort v_from v_value v_fault a_bitsOf a_sizeOf a_number a_passing, aA cI a_d 40 t10, aA cI a_hears 10 t11, aA cI a_near 10 t12] H locs → lv_has ls 7 [(0, .ref a_t), (1, .int p1), (2, .int s1), (3, .int x8), (4, .int s9)] → L_X7_findLeast_31 s1 kk12 n0 x8 v_gone p1 n s9 t10 t11 t12 u13 u14 = some out → W p l e rmX7_findLeast s m args below meth c H locs 0 0 Q (F0 m 31 ls []) := by
        intro n
        induction n with
        | zero => intro s9 t10 t11 t12 u13 u14 H locs ls hV hl hF; exact lpp6_z hF
        | succ n ih31 =>
          intro s9 t10 t11 t12 u13 u14 H locs ls hV hl hF
          obtain ⟨kk31, hk31, hF⟩ := lpp6_g hF
          have hq31 : ∀ (s9 : Int32) (t10 : Nat → Int32) (t11 : Nat → Int32) (t12 : Nat → Int32) (u13 : Int32) (u14 : Int32), kk31 s9 t10 t11 t12 u13 u14 = some out → L_X7_findLeast_31 s1 kk12 n0 x8 v_gone p1 n s9 t10 t11 t12 u13 u14 = some out := fun _ _ _ _ _ _ h => by rw [hk31] at h; exact h
          refine lv_iload C.1 C.2.1 dX7_findLeast_31 (lv_at hl 4 rfl) ?_
          refine lv_sipush (v := 144) C.1 C.2.1 dX7_findLeast_33 rfl ?_
          refine g_icmp_ge (tgt := 142) C hF dX7_findLeast_36 rfl (fun hF => ?_) (fun hF => ?_)
          · refine g_iinc C hF dX7_findLeast_142 (d := 1) rfl hl (j := 2) rfl (by decide) (fun y => [(2, .int y), (0, .ref a_t), (1, .int p1), (3, .int x8), (4, .int s9)]) (fun _ => rfl) (fun x15 ls hF hl => ?_)
            refine lv_goto (tgt := 12) C.1 C.2.1 dX7_findLeast_145 rfl ?_
            exact ih12 x15 t10 t11 t12 u13 u14 H locs ls hV (lv_sub hl [1, 2, 0] rfl) (hq12 x15 t10 t11 t12 u13 u14 hF)
          refine lv_aload_n C.1 C.2.1 dX7_findLeast_39 rfl (lv_at hl 0 rfl) ?_
          refine lv_iload_n C.1 C.2.1 dX7_findLeast_40 rfl (lv_at hl 3 rfl) ?_
          refine lv_iload C.1 C.2.1 dX7_findLeast_41 (lv_at hl 4 rfl) ?_
          obtain ⟨x16, hc, hF⟩ := bd1_s hF
          refine g_cVi (ws' := [oX7 a_t a_d a_e a_kept v_isKept a_found a_tape v_taped v_gone a_hears a_near a_firstDay a_daily v_begin v_round u13 u14 v_mostLed a_heardNow v_firstMove v_at v_sort v_from v_value v_fault a_bitsOf a_sizeOf a_number a_passing, aA cI a_d 40 t10, aA cI a_hears 10 t11, aA cI a_near 10 t12]) (wr := [aA cI a_hears 10 t11, aA cI a_near 10 t12]) C hV (k_X7_farOf l dC dI cI cB cO n0 H.size a_t a_d a_e a_kept a_found a_tape a_hears a_near a_firstDay a_daily a_heardNow a_bitsOf a_sizeOf a_number a_passing v_isKept v_taped v_gone v_begin v_round u13 u14 v_mostLed v_firstMove v_at v_sort v_from v_value v_fault t10 x8 s9 hc) mdX7_farOf gX7_findLeast_X7_farOf rfl rfl ⟨Nat.le_of_ble_eq_true rfl, Nat.le_of_ble_eq_true rfl⟩ [0, 1] [2, 3] [2, 3, 0, 1] rfl rfl rfl rfl rfl rfl rfl rfl rfl rfl hl.1 (Nat.le_of_ble_eq_true rfl) rfl dX7_findLeast_43 (fun H locs hV => ?_)
          refine lv_istore (lv' := [(5, .int x16), (0, .ref a_t), (1, .int p1), (2, .int s1), (3, .int x8), (4, .int s9)]) C.1 C.2.1 dX7_findLeast_46 hl (by decide) rfl (fun ls hl => ?_)
          refine lv_aload_n C.1 C.2.1 dX7_findLeast_48 rfl (lv_at hl 1 rfl) ?_
          refine lv_iload C.1 C.2.1 dX7_findLeast_49 (lv_at hl 5 rfl) ?_
          obtain ⟨x17, hc, hF⟩ := bd1_s hF
          refine g_cVi (ws' := [oX7 a_t a_d a_e a_kept v_isKept a_found a_tape v_taped v_gone a_hears a_near a_firstDay a_daily v_begin v_round u13 u14 v_mostLed a_heardNow v_firstMove v_at v_sort v_from v_value v_fault a_bitsOf a_sizeOf a_number a_passing, aA cI a_d 40 t10, aA cI a_hears 10 t11, aA cI a_near 10 t12]) (wr := [aA cI a_hears 10 t11, aA cI a_near 10 t12]) C hV (k_X7_whoIs l dC dI cI cB cO n0 H.size a_t a_d a_e a_kept a_found a_tape a_hears a_near a_firstDay a_daily a_heardNow a_bitsOf a_sizeOf a_number a_passing v_isKept v_taped v_gone v_begin v_round u13 u14 v_mostLed v_firstMove v_at v_sort v_from v_value v_fault t10 s9 hc) mdX7_whoIs gX7_findLeast_X7_whoIs rfl rfl ⟨Nat.le_of_ble_eq_true rfl, Nat.le_of_ble_eq_true rfl⟩ [0, 1] [2, 3] [2, 3, 0, 1] rfl rfl rfl rfl rfl rfl rfl rfl rfl rfl hl.1 (Nat.le_of_ble_eq_true rfl) rfl dX7_findLeast_51 (fun H locs hV => ?_)
          refine lv_iconst (v := (-1)) C.1 C.2.1 dX7_findLeast_54 rfl ?_
          have hJ79 : ∀ (k18 : Int32) (H : Heap) (locs : List Loc) (ls : Array Slot), gV (dC, dI) (gT cI cB cO) A0 H0 s [oX7 a_t a_d a_e a_kept v_isKept a_found a_tape v_taped v_gone a_hears a_near a_firstDay a_daily v_begin v_round u13 u14 v_mostLed a_heardNow v_firstMove v_at v_sort v_from v_value v_fault a_bitsOf a_sizeOf a_number a_passing, aA cI a_d 40 t10, aA cI a_hears 10 t11, aA cI a_near 10 t12] H locs → lv_has ls 7 [(0, .ref a_t), (1, .int p1), (2, .int s1), (3, .int x8), (4, .int s9), (5, .int x16)] → J_X7_findLeast_79 k18 s9 kk31 t10 t11 t12 u13 u14 s1 n0 v_gone p1 x8 x16 = some out → W p l e rmX7_findLeast s m args below meth c H locs 0 0 Q (F0 m 79 ls [.int k18]) := by
            intro k18 H locs ls hV hl hF
            unfold J_X7_findLeast_79 at hF
            refine lv_istore (lv' := [(6, .int k18), (0, .ref a_t), (1, .int p1), (2, .int s1), (3, .int x8), (4, .int s9), (5, .int x16)]) C.1 C.2.1 dX7_findLeast_79 hl (by decide) rfl (fun ls hl => ?_)
            refine lv_iload C.1 C.2.1 dX7_findLeast_81 (lv_at hl 0 rfl) ?_
            refine g_if_ne (tgt := 89) C hF dX7_findLeast_83 rfl (fun hF => ?_) (fun hF => ?_)
            · refine lv_aload_n C.1 C.2.1 dX7_findLeast_89 rfl (lv_at hl 1 rfl) ?_
              refine g_get C hV flX7_findLeast_7 0 rfl rfl dX7_findLeast_90 ?_
              refine lv_bipush (v := 20) C.1 C.2.1 dX7_findLeast_93 rfl ?_
              refine lv_iload_n C.1 C.2.1 dX7_findLeast_95 rfl (lv_at hl 3 rfl) ?_
              refine g_iadd C hF dX7_findLeast_96 (fun x19 hF => ?_)
              refine lv_iload C.1 C.2.1 dX7_findLeast_97 (lv_at hl 5 rfl) ?_
              refine g_iast C hV 1 rfl hF (fun gq => [oX7 a_t a_d a_e a_kept v_isKept a_found a_tape v_taped v_gone a_hears a_near a_firstDay a_daily v_begin v_round u13 u14 v_mostLed a_heardNow v_firstMove v_at v_sort v_from v_value v_fault a_bitsOf a_sizeOf a_number a_passing, aA cI a_d 40 gq, aA cI a_hears 10 t11, aA cI a_near 10 t12]) (fun _ => rfl) dX7_findLeast_99 (fun g20 H locs hF hV => ?_)
              refine lv_aload_n C.1 C.2.1 dX7_findLeast_100 rfl (lv_at hl 1 rfl) ?_
              refine lv_iload_n C.1 C.2.1 dX7_findLeast_101 rfl (lv_at hl 2 rfl) ?_
              obtain ⟨x21, g22, g23, hc, hF⟩ := bd3_s hF
              refine g_cVi (ws' := [oX7 a_t a_d a_e a_kept v_isKept a_found a_tape v_taped v_gone a_hears a_near a_firstDay a_daily v_begin v_round u13 u14 v_mostLed a_heardNow v_firstMove v_at v_sort v_from v_value v_fault a_bitsOf a_sizeOf a_number a_passing, aA cI a_d 40 g20, aA cI a_hears 10 g22, aA cI a_near 10 g23]) (wr := []) C hV (k_X7_isMore l dC dI cI cB cO n0 H.size a_t a_d a_e a_kept a_found a_tape a_hears a_near a_firstDay a_daily a_heardNow a_bitsOf a_sizeOf a_number a_passing v_isKept v_taped v_gone v_begin v_round u13 u14 v_mostLed v_firstMove v_at v_sort v_from v_value v_fault g20 t11 t12 p1 hc) mdX7_isMore gX7_findLeast_X7_isMore rfl rfl ⟨Nat.le_of_ble_eq_true rfl, Nat.le_of_ble_eq_true rfl⟩ [0, 1, 2, 3] [] [0, 1, 2, 3] rfl rfl rfl rfl rfl rfl rfl rfl rfl rfl hl.1 (Nat.le_of_ble_eq_true rfl) rfl dX7_findLeast_102 (fun H locs hV => ?_)
              have hJ126 : ∀ (u24 : Int32) (u25 : Int32) (H : Heap) (locs : List Loc) (ls : Array Slot), gV (dC, dI) (gT cI cB cO) A0 H0 s [oX7 a_t a_d a_e a_kept v_isKept a_found a_tape v_taped v_gone a_hears a_near a_firstDay a_daily v_begin v_round u24 u25 v_mostLed a_heardNow v_firstMove v_at v_sort v_from v_value v_fault a_bitsOf a_sizeOf a_number a_passing, aA cI a_d 40 g20, aA cI a_hears 10 g22, aA cI a_near 10 g23] H locs → lv_has ls 7 [(0, .ref a_t), (1, .int p1), (2, .int s1), (3, .int x8), (4, .int s9)] → J_X7_findLeast_126 s1 g20 x8 s9 kk31 g22 g23 u24 u25 = some out → W p l e rmX7_findLeast s m args below meth c H locs 0 0 Q (F0 m 126 ls []) := by
                intro u24 u25 H locs ls hV hl hF
                unfold J_X7_findLeast_126 at hF
                refine lv_aload_n C.1 C.2.1 dX7_findLeast_126 rfl (lv_at hl 0 rfl) ?_
                refine g_get C hV flX7_findLeast_7 0 rfl rfl dX7_findLeast_127 ?_
                refine lv_bipush (v := 20) C.1 C.2.1 dX7_findLeast_130 rfl ?_
                refine lv_iload_n C.1 C.2.1 dX7_findLeast_132 rfl (lv_at hl 2 rfl) ?_
                refine g_iadd C hF dX7_findLeast_133 (fun x26 hF => ?_)
                refine lv_iload_n C.1 C.2.1 dX7_findLeast_134 rfl (lv_at hl 3 rfl) ?_
                refine g_iast C hV 1 rfl hF (fun gq => [oX7 a_t a_d a_e a_kept v_isKept a_found a_tape v_taped v_gone a_hears a_near a_firstDay a_daily v_begin v_round u24 u25 v_mostLed a_heardNow v_firstMove v_at v_sort v_from v_value v_fault a_bitsOf a_sizeOf a_number a_passing, aA cI a_d 40 gq, aA cI a_hears 10 g22, aA cI a_near 10 g23]) (fun _ => rfl) dX7_findLeast_135 (fun g27 H locs hF hV => ?_)
                refine g_iinc C hF dX7_findLeast_136 (d := 1) rfl hl (j := 4) rfl (by decide) (fun y => [(4, .int y), (0, .ref a_t), (1, .int p1), (2, .int s1), (3, .int x8)]) (fun _ => rfl) (fun x28 ls hF hl => ?_)
                refine lv_goto (tgt := 31) C.1 C.2.1 dX7_findLeast_139 rfl ?_
                exact ih31 x28 g27 g22 g23 u24 u25 H locs ls hV (lv_sub hl [1, 2, 3, 4, 0] rfl) (hq31 x28 g27 g22 g23 u24 u25 hF)
              refine g_if_eq (tgt := 126) C hF dX7_findLeast_105 rfl (fun hF => ?_) (fun hF => ?_)
              · exact hJ126 u13 u14 H locs ls hV (lv_sub hl [1, 2, 3, 4, 5] rfl) hF
              refine lv_aload_n C.1 C.2.1 dX7_findLeast_108 rfl (lv_at hl 1 rfl) ?_
              refine lv_iload C.1 C.2.1 dX7_findLeast_109 (lv_at hl 6 rfl) ?_
              refine g_put (ws' := [oX7 a_t a_d a_e a_kept v_isKept a_found a_tape v_taped v_gone a_hears a_near a_firstDay a_daily v_begin v_round x16 u14 v_mostLed a_heardNow v_firstMove v_at v_sort v_from v_value v_fault a_bitsOf a_sizeOf a_number a_passing, aA cI a_d 40 g20, aA cI a_hears 10 g22, aA cI a_near 10 g23]) C hV fpX7_findLeast_166 0 rfl rfl rfl (Nat.le_of_ble_eq_true rfl) rfl dX7_findLeast_111 (fun H locs hV => ?_)
              refine lv_aload_n C.1 C.2.1 dX7_findLeast_114 rfl (lv_at hl 1 rfl) ?_
              refine lv_sipush (v := 1000) C.1 C.2.1 dX7_findLeast_115 rfl ?_
              refine lv_iload_n C.1 C.2.1 dX7_findLeast_118 rfl (lv_at hl 3 rfl) ?_
              refine g_imul C hF dX7_findLeast_119 (fun x29 hF => ?_)
              refine lv_iload C.1 C.2.1 dX7_findLeast_120 (lv_at hl 5 rfl) ?_
              refine g_iadd C hF dX7_findLeast_122 (fun x30 hF => ?_)
              refine g_put (ws' := [oX7 a_t a_d a_e a_kept v_isKept a_found a_tape v_taped v_gone a_hears a_near a_firstDay a_daily v_begin v_round x16 x30 v_mostLed a_heardNow v_firstMove v_at v_sort v_from v_value v_fault a_bitsOf a_sizeOf a_number a_passing, aA cI a_d 40 g20, aA cI a_hears 10 g22, aA cI a_near 10 g23]) C hV fpX7_findLeast_169 0 rfl rfl rfl (Nat.le_of_ble_eq_true rfl) rfl dX7_findLeast_123 (fun H locs hV => ?_)
              exact hJ126 x16 x30 H locs ls hV (lv_sub hl [1, 2, 3, 4, 5] rfl) hF
            refine lv_goto (tgt := 136) C.1 C.2.1 dX7_findLeast_86 rfl ?_
            refine g_iinc C hF dX7_findLeast_136 (d := 1) rfl hl (j := 5) rfl (by decide) (fun y => [(4, .int y), (6, .int k18), (0, .ref a_t), (1, .int p1), (2, .int s1), (3, .int x8), (5, .int x16)]) (fun _ => rfl) (fun x31 ls hF hl => ?_)
            refine lv_goto (tgt := 31) C.1 C.2.1 dX7_findLeast_139 rfl ?_
            exact ih31 x31 t10 t11 t12 u13 u14 H locs ls hV (lv_sub hl [2, 3, 4, 5, 0] rfl) (hq31 x31 t10 t11 t12 u13 u14 hF)
          have hJ78 : ∀  (H : Heap) (locs : List Loc) (ls : Array Slot), gV (dC, dI) (gT cI cB cO) A0 H0 s [oX7 a_t a_d a_e a_kept v_isKept a_found a_tape v_taped v_gone a_hears a_near a_firstDay a_daily v_begin v_round u13 u14 v_mostLed a_heardNow v_firstMove v_at v_sort v_from v_value v_fault a_bitsOf a_sizeOf a_number a_passing, aA cI a_d 40 t10, aA cI a_hears 10 t11, aA cI a_near 10 t12] H locs → lv_has ls 7 [(0, .ref a_t), (1, .int p1), (2, .int s1), (3, .int x8), (4, .int s9), (5, .int x16)] → J_X7_findLeast_78 s9 kk31 t10 t11 t12 u13 u14 s1 n0 v_gone p1 x8 x16 = some out → W p l e rmX7_findLeast s m args below meth c H locs 0 0 Q (F0 m 78 ls []) := by
            intro  H locs ls hV hl hF
            unfold J_X7_findLeast_78 at hF
            refine lv_iconst (v := 0) C.1 C.2.1 dX7_findLeast_78 rfl ?_
            exact hJ79 0 H locs ls hV (lv_sub hl [0, 1, 2, 3, 4, 5] rfl) hF
          refine g_icmp_ne (tgt := 78) C hF dX7_findLeast_55 rfl (fun hF => ?_) (fun hF => ?_)
          · exact hJ78  H locs ls hV (lv_sub hl [1, 2, 3, 4, 5, 0] rfl) hF
          refine lv_aload_n C.1 C.2.1 dX7_findLeast_58 rfl (lv_at hl 1 rfl) ?_
          refine g_get C hV flX7_findLeast_166 0 rfl rfl dX7_findLeast_59 ?_
          have hJ74 : ∀  (H : Heap) (locs : List Loc) (ls : Array Slot), gV (dC, dI) (gT cI cB cO) A0 H0 s [oX7 a_t a_d a_e a_kept v_isKept a_found a_tape v_taped v_gone a_hears a_near a_firstDay a_daily v_begin v_round u13 u14 v_mostLed a_heardNow v_firstMove v_at v_sort v_from v_value v_fault a_bitsOf a_sizeOf a_number a_passing, aA cI a_d 40 t10, aA cI a_hears 10 t11, aA cI a_near 10 t12] H locs → lv_has ls 7 [(0, .ref a_t), (1, .int p1), (2, .int s1), (3, .int x8), (4, .int s9), (5, .int x16)] → J_X7_findLeast_74 s9 kk31 t10 t11 t12 u13 u14 s1 n0 v_gone p1 x8 x16 = some out → W p l e rmX7_findLeast s m args below meth c H locs 0 0 Q (F0 m 74 ls []) := by
            intro  H locs ls hV hl hF
            unfold J_X7_findLeast_74 at hF
            refine lv_iconst (v := 1) C.1 C.2.1 dX7_findLeast_74 rfl ?_
            refine lv_goto (tgt := 79) C.1 C.2.1 dX7_findLeast_75 rfl ?_
            exact hJ79 1 H locs ls hV (lv_sub hl [0, 1, 2, 3, 4, 5] rfl) hF
          refine g_if_lt (tgt := 74) C hF dX7_findLeast_62 rfl (fun hF => ?_) (fun hF => ?_)
          · exact hJ74  H locs ls hV (lv_sub hl [1, 2, 3, 4, 5, 0] rfl) hF
          refine lv_iload C.1 C.2.1 dX7_findLeast_65 (lv_at hl 0 rfl) ?_
          refine lv_aload_n C.1 C.2.1 dX7_findLeast_67 rfl (lv_at hl 1 rfl) ?_
          refine g_get C hV flX7_findLeast_166 0 rfl rfl dX7_findLeast_68 ?_
          refine g_icmp_ge (tgt := 78) C hF dX7_findLeast_71 rfl (fun hF => ?_) (fun hF => ?_)
          · exact hJ78  H locs ls hV (lv_sub hl [1, 2, 3, 4, 5, 0] rfl) hF
          exact hJ74  H locs ls hV (lv_sub hl [1, 2, 3, 4, 5, 0] rfl) hF
      exact hL31 n0 0 t2 t3 t4 u5 u6 H locs ls hV (lv_sub hl [2, 3, 4, 1, 0] rfl) hF
  exact hL12 n0 0 f_d f_hears f_near ((-1)) 0 H locs ls hV (lv_sub hl [1, 2, 0] rfl) hF
abbrev rmX7_least : Room := { frames := 6, cells := 0, slots := 0, locals := 139 }
theorem mdX7_least : gMd yX7_least wsX7_least cX7_least 2 (some .int) 1 := ⟨⟨_, rfl⟩, by decide +kernel⟩
theorem ctX7_least_175 : Cond.constantLong RX7 175 60 ∈ wsX7_least := List.mem_cons_of_mem _ (List.mem_append_left _ (List.mem_append_left _ (List.mem_of_getElem? (i := 0) rfl)))
theorem flX7_least_166 : gFL wsX7_least RX7 166 7 14 RX7 TX7 28 := ⟨rfl, fun w h => List.mem_cons_of_mem _ (List.mem_append_right _ (h)), Nat.le_of_ble_eq_true rfl, List.mem_cons_of_mem _ (List.mem_append_left _ (List.mem_append_left _ (List.mem_of_getElem? (i := 1) rfl)))⟩
def F_X7_least (n0 : Nat) (v_gone : Int32) (v_leastFar : Int32) (v_leastWhere : Int32) (f_d : Nat → Int32) (f_found : Nat → Int32) (f_hears : Nat → Int32) (f_near : Nat → Int32) (p1 : Int32) : Option (Int32 × Int32 × Int32 × (Nat → Int32) × (Nat → Int32) × (Nat → Int32) × (Nat → Int32)) := nm (p1.toInt64) (fun x1 => bd1 (F_X7_in n0 x1 1 60) (fun x2 => (if x2 = 0 then bd2 (F_X7_finds n0 f_found 0) (fun x13 g14 => some (x13, v_leastFar, v_leastWhere, f_d, g14, f_hears, f_near)) else bd3 (F_X7_isMore n0 v_gone f_d f_hears f_near p1) (fun x3 g4 g5 => (if x3 = 0 then bd5 (F_X7_findLeast n0 v_gone v_leastFar v_leastWhere f_d g4 g5 p1) (fun x6 x7 g8 g9 g10 => (if 0 ≤ x6 then some (x6, x6, x7, g8, f_found, g9, g10) else bd2 (F_X7_finds n0 f_found 3) (fun x11 g12 => some (x11, x6, x7, g8, g12, g9, g10)))) else some ((0, v_leastFar, v_leastWhere, f_d, f_found, g4, g5) : Int32 × Int32 × Int32 × (Nat → Int32) × (Nat → Int32) × (Nat → Int32) × (Nat → Int32)))))))
set_option maxRecDepth 100000 in
set_option maxHeartbeats 4000000 in
theorem k_X7_least (l : Launch) (dC : Nat → ClassId) (dI : Nat → Nat → Nat) (cI cB cO : ClassId) (n0 sz : Nat) (a_t : Nat) (a_d : Nat) (a_e : Nat) (a_kept : Nat) (a_found : Nat) (a_tape : Nat) (a_hears : Nat) (a_near : Nat) (a_firstDay : Nat) (a_daily : Nat) (a_heardNow : Nat) (a_bitsOf : Nat) (a_sizeOf : Nat) (a_number : Nat) (a_passing : Nat)   (v_isKept : Int32) (v_taped : Int32) (v_gone : Int32) (v_begin : Int32) (v_round : Int32) (v_leastFar : Int32) (v_leastWhere : Int32) (v_mostLed : Int32) (v_firstMove : Int32) (v_at : Int32) (v_sort : Int32) (v_from : Int32) (v_value : Int64) (v_fault : Int32) (f_d : Nat → Int32) (f_found : Nat → Int32) (f_hears : Nat → Int32) (f_near : Nat → Int32) (p1 : Int32)  {ro : Int32} {o0 : Int32} {o1 : Int32} {o2 : Nat → Int32} {o3 : Nat → Int32} {o4 : Nat → Int32} {o5 : Nat → Int32} (hF : F_X7_least n0 v_gone v_leastFar v_leastWhere f_d f_found f_hears f_near p1 = some (ro, o0, o1, o2, o3, o4, o5)) : Met l yX7_least wsX7_least rmX7_least (va_Pc [.ref a_t, .int p1] (gPre (dC, dI) (gT cI cB cO) sz [oX7 a_t a_d a_e a_kept v_isKept a_found a_tape v_taped v_gone a_hears a_near a_firstDay a_daily v_begin v_round v_leastFar v_leastWhere v_mostLed a_heardNow v_firstMove v_at v_sort v_from v_value v_fault a_bitsOf a_sizeOf a_number a_passing, aA cI a_d 40 f_d, aA cI a_found 7 f_found, aA cI a_hears 10 f_hears, aA cI a_near 10 f_near])) (gQi (dC, dI) (gT cI cB cO) sz [oX7 a_t a_d a_e a_kept v_isKept a_found a_tape v_taped v_gone a_hears a_near a_firstDay a_daily v_begin v_round v_leastFar v_leastWhere v_mostLed a_heardNow v_firstMove v_at v_sort v_from v_value v_fault a_bitsOf a_sizeOf a_number a_passing, aA cI a_d 40 f_d, aA cI a_found 7 f_found, aA cI a_hears 10 f_hears, aA cI a_near 10 f_near] ro [oX7 a_t a_d a_e a_kept v_isKept a_found a_tape v_taped v_gone a_hears a_near a_firstDay a_daily v_begin v_round o0 o1 v_mostLed a_heardNow v_firstMove v_at v_sort v_from v_value v_fault a_bitsOf a_sizeOf a_number a_passing, aA cI a_d 40 o2, aA cI a_found 7 o3, aA cI a_hears 10 o4, aA cI a_near 10 o5]) 0 0 (va_A [oX7 a_t a_d a_e a_kept v_isKept a_found a_tape v_taped v_gone a_hears a_near a_firstDay a_daily v_begin v_round v_leastFar v_leastWhere v_mostLed a_heardNow v_firstMove v_at v_sort v_from v_value v_fault a_bitsOf a_sizeOf a_number a_passing, aA cI a_d 40 f_d, aA cI a_found 7 f_found, aA cI a_hears 10 f_hears, aA cI a_near 10 f_near] sz) := by
  refine g_metI (Out := Int32 × Int32 × Int32 × (Nat → Int32) × (Nat → Int32) × (Nat → Int32) × (Nat → Int32)) (fun oo => oo.1) (fun oo => [oX7 a_t a_d a_e a_kept v_isKept a_found a_tape v_taped v_gone a_hears a_near a_firstDay a_daily v_begin v_round oo.2.1 oo.2.2.1 v_mostLed a_heardNow v_firstMove v_at v_sort v_from v_value v_fault a_bitsOf a_sizeOf a_number a_passing, aA cI a_d 40 oo.2.2.2.1, aA cI a_found 7 oo.2.2.2.2.1, aA cI a_hears 10 oo.2.2.2.2.2.1, aA cI a_near 10 oo.2.2.2.2.2.2]) (ro, o0, o1, o2, o3, o4, o5) (own := RX7) (lv := [(0, .ref a_t), (1, .int p1)]) (by decide) rfl rfl (Nat.le_of_ble_eq_true rfl) rfl ?_
  intro p e s m args below meth c Q ls C hret hV hl
  obtain ⟨out, hout⟩ : ∃ z : Int32 × Int32 × Int32 × (Nat → Int32) × (Nat → Int32) × (Nat → Int32) × (Nat → Int32), z = (ro, o0, o1, o2, o3, o4, o5) := ⟨_, rfl⟩
  rw [← hout] at hF hret
  obtain ⟨H0, hH0⟩ : ∃ z : Heap, z = s.heap := ⟨_, rfl⟩
  obtain ⟨A0, hA0⟩ : ∃ z : Nat → Prop, z = va_A [oX7 a_t a_d a_e a_kept v_isKept a_found a_tape v_taped v_gone a_hears a_near a_firstDay a_daily v_begin v_round v_leastFar v_leastWhere v_mostLed a_heardNow v_firstMove v_at v_sort v_from v_value v_fault a_bitsOf a_sizeOf a_number a_passing, aA cI a_d 40 f_d, aA cI a_found 7 f_found, aA cI a_hears 10 f_hears, aA cI a_near 10 f_near] s.heap.size := ⟨_, rfl⟩
  rw [← hA0] at hret hV
  rw [← hH0] at hret hV
  rw [← hH0]
  obtain ⟨H, locs, hH⟩ : ∃ (z : Heap) (y : List Loc), z = H0 ∧ y = [] := ⟨_, _, rfl, rfl⟩
  rw [← hH.1, ← hH.2]
  have hV : gV (dC, dI) (gT cI cB cO) A0 H0 s [oX7 a_t a_d a_e a_kept v_isKept a_found a_tape v_taped v_gone a_hears a_near a_firstDay a_daily v_begin v_round v_leastFar v_leastWhere v_mostLed a_heardNow v_firstMove v_at v_sort v_from v_value v_fault a_bitsOf a_sizeOf a_number a_passing, aA cI a_d 40 f_d, aA cI a_found 7 f_found, aA cI a_hears 10 f_hears, aA cI a_near 10 f_near] H locs := by rw [hH.1, hH.2]; exact hV
  unfold F_X7_least at hF
  refine lv_iload_n C.1 C.2.1 dX7_least_0 rfl (lv_at hl 1 rfl) ?_
  refine g_i2l C hF dX7_least_1 (fun x1 hF => ?_)
  refine lv_lconst (v := 1) C.1 C.2.1 dX7_least_2 rfl ?_
  refine lv_ldc2 (v := 60) C.1 C.2.1 C.2.2.2.1 (C.2.2.2.2 _ ctX7_least_175) dX7_least_3 ?_
  obtain ⟨x2, hc, hF⟩ := bd1_s hF
  refine g_cSi (ws' := [oX7 a_t a_d a_e a_kept v_isKept a_found a_tape v_taped v_gone a_hears a_near a_firstDay a_daily v_begin v_round v_leastFar v_leastWhere v_mostLed a_heardNow v_firstMove v_at v_sort v_from v_value v_fault a_bitsOf a_sizeOf a_number a_passing, aA cI a_d 40 f_d, aA cI a_found 7 f_found, aA cI a_hears 10 f_hears, aA cI a_near 10 f_near]) (wr := [oX7 a_t a_d a_e a_kept v_isKept a_found a_tape v_taped v_gone a_hears a_near a_firstDay a_daily v_begin v_round v_leastFar v_leastWhere v_mostLed a_heardNow v_firstMove v_at v_sort v_from v_value v_fault a_bitsOf a_sizeOf a_number a_passing, aA cI a_d 40 f_d, aA cI a_found 7 f_found, aA cI a_hears 10 f_hears, aA cI a_near 10 f_near]) C hV (k_X7_in l dC dI cI cB cO n0 H.size x1 1 60 hc) mdX7_in gX7_least_X7_in rfl rfl ⟨Nat.le_of_ble_eq_true rfl, Nat.le_of_ble_eq_true rfl⟩ [] [0, 1, 2, 3, 4] [0, 1, 2, 3, 4] rfl rfl rfl rfl rfl rfl rfl rfl hl.1 (Nat.le_of_ble_eq_true rfl) rfl dX7_least_6 (fun H locs hV => ?_)
  refine g_if_ne (tgt := 18) C hF dX7_least_9 rfl (fun hF => ?_) (fun hF => ?_)
  · refine lv_aload_n C.1 C.2.1 dX7_least_18 rfl (lv_at hl 0 rfl) ?_
    refine lv_iload_n C.1 C.2.1 dX7_least_19 rfl (lv_at hl 1 rfl) ?_
    obtain ⟨x3, g4, g5, hc, hF⟩ := bd3_s hF
    refine g_cVi (ws' := [oX7 a_t a_d a_e a_kept v_isKept a_found a_tape v_taped v_gone a_hears a_near a_firstDay a_daily v_begin v_round v_leastFar v_leastWhere v_mostLed a_heardNow v_firstMove v_at v_sort v_from v_value v_fault a_bitsOf a_sizeOf a_number a_passing, aA cI a_d 40 f_d, aA cI a_found 7 f_found, aA cI a_hears 10 g4, aA cI a_near 10 g5]) (wr := [aA cI a_found 7 f_found]) C hV (k_X7_isMore l dC dI cI cB cO n0 H.size a_t a_d a_e a_kept a_found a_tape a_hears a_near a_firstDay a_daily a_heardNow a_bitsOf a_sizeOf a_number a_passing v_isKept v_taped v_gone v_begin v_round v_leastFar v_leastWhere v_mostLed v_firstMove v_at v_sort v_from v_value v_fault f_d f_hears f_near p1 hc) mdX7_isMore gX7_least_X7_isMore rfl rfl ⟨Nat.le_of_ble_eq_true rfl, Nat.le_of_ble_eq_true rfl⟩ [0, 1, 3, 4] [2] [1, 2, 0, 3, 4] rfl rfl rfl rfl rfl rfl rfl rfl rfl rfl hl.1 (Nat.le_of_ble_eq_true rfl) rfl dX7_least_20 (fun H locs hV => ?_)
    refine g_if_eq (tgt := 28) C hF dX7_least_23 rfl (fun hF => ?_) (fun hF => ?_)
    · refine lv_aload_n C.1 C.2.1 dX7_least_28 rfl (lv_at hl 0 rfl) ?_
      refine lv_iload_n C.1 C.2.1 dX7_least_29 rfl (lv_at hl 1 rfl) ?_
      obtain ⟨x6, x7, g8, g9, g10, hc, hF⟩ := bd5_s hF
      refine g_cVv (ws' := [oX7 a_t a_d a_e a_kept v_isKept a_found a_tape v_taped v_gone a_hears a_near a_firstDay a_daily v_begin v_round x6 x7 v_mostLed a_heardNow v_firstMove v_at v_sort v_from v_value v_fault a_bitsOf a_sizeOf a_number a_passing, aA cI a_d 40 g8, aA cI a_found 7 f_found, aA cI a_hears 10 g9, aA cI a_near 10 g10]) (wr := [aA cI a_found 7 f_found]) C hV (k_X7_findLeast l dC dI cI cB cO n0 H.size a_t a_d a_e a_kept a_found a_tape a_hears a_near a_firstDay a_daily a_heardNow a_bitsOf a_sizeOf a_number a_passing v_isKept v_taped v_gone v_begin v_round v_leastFar v_leastWhere v_mostLed v_firstMove v_at v_sort v_from v_value v_fault f_d g4 g5 p1 hc) mdX7_findLeast gX7_least_X7_findLeast rfl rfl ⟨Nat.le_of_ble_eq_true rfl, Nat.le_of_ble_eq_true rfl⟩ [0, 1, 3, 4] [2] [1, 2, 0, 3, 4] rfl rfl rfl rfl rfl rfl rfl rfl rfl rfl hl.1 (Nat.le_of_ble_eq_true rfl) rfl dX7_least_30 (fun H locs hV => ?_)
      refine lv_aload_n C.1 C.2.1 dX7_least_33 rfl (lv_at hl 0 rfl) ?_
      refine g_get C hV flX7_least_166 0 rfl rfl dX7_least_34 ?_
      refine g_if_ge (tgt := 48) C hF dX7_least_37 rfl (fun hF => ?_) (fun hF => ?_)
      · refine lv_aload_n C.1 C.2.1 dX7_least_48 rfl (lv_at hl 0 rfl) ?_
        refine g_get C hV flX7_least_166 0 rfl rfl dX7_least_49 ?_
        exact hret (x6, x6, x7, g8, f_found, g9, g10) _ _ _ _ dX7_least_52 hF hV
      refine lv_aload_n C.1 C.2.1 dX7_least_40 rfl (lv_at hl 0 rfl) ?_
      refine lv_iconst (v := 3) C.1 C.2.1 dX7_least_41 rfl ?_
      obtain ⟨x11, g12, hc, hF⟩ := bd2_s hF
      refine g_cVi (ws' := [oX7 a_t a_d a_e a_kept v_isKept a_found a_tape v_taped v_gone a_hears a_near a_firstDay a_daily v_begin v_round x6 x7 v_mostLed a_heardNow v_firstMove v_at v_sort v_from v_value v_fault a_bitsOf a_sizeOf a_number a_passing, aA cI a_d 40 g8, aA cI a_found 7 g12, aA cI a_hears 10 g9, aA cI a_near 10 g10]) (wr := [aA cI a_d 40 g8, aA cI a_hears 10 g9, aA cI a_near 10 g10]) C hV (k_X7_finds l dC dI cI cB cO n0 H.size a_t a_d a_e a_kept a_found a_tape a_hears a_near a_firstDay a_daily a_heardNow a_bitsOf a_sizeOf a_number a_passing v_isKept v_taped v_gone v_begin v_round x6 x7 v_mostLed v_firstMove v_at v_sort v_from v_value v_fault f_found 3 hc) mdX7_finds gX7_least_X7_finds rfl rfl ⟨Nat.le_of_ble_eq_true rfl, Nat.le_of_ble_eq_true rfl⟩ [0, 2] [1, 3, 4] [3, 0, 4, 1, 2] rfl rfl rfl rfl rfl rfl rfl rfl rfl rfl hl.1 (Nat.le_of_ble_eq_true rfl) rfl dX7_least_42 (fun H locs hV => ?_)
      refine lv_goto (tgt := 52) C.1 C.2.1 dX7_least_45 rfl ?_
      exact hret (x11, x6, x7, g8, g12, g9, g10) _ _ _ _ dX7_least_52 hF hV
    refine lv_iconst (v := 0) C.1 C.2.1 dX7_least_26 rfl ?_
    exact hret ((0, v_leastFar, v_leastWhere, f_d, f_found, g4, g5) : Int32 × Int32 × Int32 × (Nat → Int32) × (Nat → Int32) × (Nat → Int32) × (Nat → Int32)) _ _ _ _ dX7_least_27 hF hV
  refine lv_aload_n C.1 C.2.1 dX7_least_12 rfl (lv_at hl 0 rfl) ?_
  refine lv_iconst (v := 0) C.1 C.2.1 dX7_least_13 rfl ?_
  obtain ⟨x13, g14, hc, hF⟩ := bd2_s hF
  refine g_cVi (ws' := [oX7 a_t a_d a_e a_kept v_isKept a_found a_tape v_taped v_gone a_hears a_near a_firstDay a_daily v_begin v_round v_leastFar v_leastWhere v_mostLed a_heardNow v_firstMove v_at v_sort v_from v_value v_fault a_bitsOf a_sizeOf a_number a_passing, aA cI a_d 40 f_d, aA cI a_found 7 g14, aA cI a_hears 10 f_hears, aA cI a_near 10 f_near]) (wr := [aA cI a_d 40 f_d, aA cI a_hears 10 f_hears, aA cI a_near 10 f_near]) C hV (k_X7_finds l dC dI cI cB cO n0 H.size a_t a_d a_e a_kept a_found a_tape a_hears a_near a_firstDay a_daily a_heardNow a_bitsOf a_sizeOf a_number a_passing v_isKept v_taped v_gone v_begin v_round v_leastFar v_leastWhere v_mostLed v_firstMove v_at v_sort v_from v_value v_fault f_found 0 hc) mdX7_finds gX7_least_X7_finds rfl rfl ⟨Nat.le_of_ble_eq_true rfl, Nat.le_of_ble_eq_true rfl⟩ [0, 2] [1, 3, 4] [3, 0, 4, 1, 2] rfl rfl rfl rfl rfl rfl rfl rfl rfl rfl hl.1 (Nat.le_of_ble_eq_true rfl) rfl dX7_least_14 (fun H locs hV => ?_)
  exact hret (x13, v_leastFar, v_leastWhere, f_d, g14, f_hears, f_near) _ _ _ _ dX7_least_17 hF hV
abbrev rmX7_whom : Room := { frames := 6, cells := 0, slots := 0, locals := 139 }
theorem mdX7_whom : gMd yX7_whom wsX7_whom cX7_whom 2 (some .int) 1 := ⟨⟨_, rfl⟩, by decide +kernel⟩
theorem ctX7_whom_175 : Cond.constantLong RX7 175 60 ∈ wsX7_whom := List.mem_cons_of_mem _ (List.mem_append_left _ (List.mem_append_left _ (List.mem_of_getElem? (i := 0) rfl)))
theorem flX7_whom_166 : gFL wsX7_whom RX7 166 7 14 RX7 TX7 28 := ⟨rfl, fun w h => List.mem_cons_of_mem _ (List.mem_append_right _ (h)), Nat.le_of_ble_eq_true rfl, List.mem_cons_of_mem _ (List.mem_append_left _ (List.mem_append_left _ (List.mem_of_getElem? (i := 1) rfl)))⟩
theorem flX7_whom_169 : gFL wsX7_whom RX7 169 7 15 RX7 TX7 28 := ⟨rfl, fun w h => List.mem_cons_of_mem _ (List.mem_append_right _ (h)), Nat.le_of_ble_eq_true rfl, List.mem_cons_of_mem _ (List.mem_append_left _ (List.mem_append_left _ (List.mem_of_getElem? (i := 2) rfl)))⟩
def F_X7_whom (n0 : Nat) (v_gone : Int32) (v_leastFar : Int32) (v_leastWhere : Int32) (f_d : Nat → Int32) (f_found : Nat → Int32) (f_hears : Nat → Int32) (f_near : Nat → Int32) (p1 : Int32) : Option (Int32 × Int32 × Int32 × (Nat → Int32) × (Nat → Int32) × (Nat → Int32) × (Nat → Int32)) := nm (p1.toInt64) (fun x1 => bd1 (F_X7_in n0 x1 1 60) (fun x2 => (if x2 = 0 then bd2 (F_X7_finds n0 f_found 0) (fun x15 g16 => some (x15, v_leastFar, v_leastWhere, f_d, g16, f_hears, f_near)) else bd3 (F_X7_isMore n0 v_gone f_d f_hears f_near p1) (fun x3 g4 g5 => (if x3 = 0 then bd5 (F_X7_findLeast n0 v_gone v_leastFar v_leastWhere f_d g4 g5 p1) (fun x6 x7 g8 g9 g10 => (if 0 ≤ x6 then some (x7, x6, x7, g8, f_found, g9, g10) else bd2 (F_X7_finds n0 f_found 3) (fun x11 g12 => some (x11, x6, x7, g8, g12, g9, g10)))) else bd2 (F_X7_finds n0 f_found 3) (fun x13 g14 => some (x13, v_leastFar, v_leastWhere, f_d, g14, g4, g5)))))))
set_option maxRecDepth 100000 in
set_option maxHeartbeats 4000000 in
theorem k_X7_whom (l : Launch) (dC : Nat → ClassId) (dI : Nat → Nat → Nat) (cI cB cO : ClassId) (n0 sz : Nat) (a_t : Nat) (a_d : Nat) (a_e : Nat) (a_kept : Nat) (a_found : Nat) (a_tape : Nat) (a_hears : Nat) (a_near : Nat) (a_firstDay : Nat) (a_daily : Nat) (a_heardNow : Nat) (a_bitsOf : Nat) (a_sizeOf : Nat) (a_number : Nat) (a_passing : Nat)   (v_isKept : Int32) (v_taped : Int32) (v_gone : Int32) (v_begin : Int32) (v_round : Int32) (v_leastFar : Int32) (v_leastWhere : Int32) (v_mostLed : Int32) (v_firstMove : Int32) (v_at : Int32) (v_sort : Int32) (v_from : Int32) (v_value : Int64) (v_fault : Int32) (f_d : Nat → Int32) (f_found : Nat → Int32) (f_hears : Nat → Int32) (f_near : Nat → Int32) (p1 : Int32)  {ro : Int32} {o0 : Int32} {o1 : Int32} {o2 : Nat → Int32} {o3 : Nat → Int32} {o4 : Nat → Int32} {o5 : Nat → Int32} (hF : F_X7_whom n0 v_gone v_leastFar v_leastWhere f_d f_found f_hears f_near p1 = some (ro, o0, o1, o2, o3, o4, o5)) : Met l yX7_whom wsX7_whom rmX7_whom (va_Pc [.ref a_t, .int p1] (gPre (dC, dI) (gT cI cB cO) sz [oX7 a_t a_d a_e a_kept v_isKept a_found a_tape v_taped v_gone a_hears a_near a_firstDay a_daily v_begin v_round v_leastFar v_leastWhere v_mostLed a_heardNow v_firstMove v_at v_sort v_from v_value v_fault a_bitsOf a_sizeOf a_number a_passing, aA cI a_d 40 f_d, aA cI a_found 7 f_found, aA cI a_hears 10 f_hears, aA cI a_near 10 f_near])) (gQi (dC, dI) (gT cI cB cO) sz [oX7 a_t a_d a_e a_kept v_isKept a_found a_tape v_taped v_gone a_hears a_near a_firstDay a_daily v_begin v_round v_leastFar v_leastWhere v_mostLed a_heardNow v_firstMove v_at v_sort v_from v_value v_fault a_bitsOf a_sizeOf a_number a_passing, aA cI a_d 40 f_d, aA cI a_found 7 f_found, aA cI a_hears 10 f_hears, aA cI a_near 10 f_near] ro [oX7 a_t a_d a_e a_kept v_isKept a_found a_tape v_taped v_gone a_hears a_near a_firstDay a_daily v_begin v_round o0 o1 v_mostLed a_heardNow v_firstMove v_at v_sort v_from v_value v_fault a_bitsOf a_sizeOf a_number a_passing, aA cI a_d 40 o2, aA cI a_found 7 o3, aA cI a_hears 10 o4, aA cI a_near 10 o5]) 0 0 (va_A [oX7 a_t a_d a_e a_kept v_isKept a_found a_tape v_taped v_gone a_hears a_near a_firstDay a_daily v_begin v_round v_leastFar v_leastWhere v_mostLed a_heardNow v_firstMove v_at v_sort v_from v_value v_fault a_bitsOf a_sizeOf a_number a_passing, aA cI a_d 40 f_d, aA cI a_found 7 f_found, aA cI a_hears 10 f_hears, aA cI a_near 10 f_near] sz) := by
  refine g_metI (Out := Int32 × Int32 × Int32 × (Nat → Int32) × (Nat → Int32) × (Nat → Int32) × (Nat → Int32)) (fun oo => oo.1) (fun oo => [oX7 a_t a_d a_e a_kept v_isKept a_found a_tape v_taped v_gone a_hears a_near a_firstDay a_daily v_begin v_round oo.2.1 oo.2.2.1 v_mostLed a_heardNow v_firstMove v_at v_sort v_from v_value v_fault a_bitsOf a_sizeOf a_number a_passing, aA cI a_d 40 oo.2.2.2.1, aA cI a_found 7 oo.2.2.2.2.1, aA cI a_hears 10 oo.2.2.2.2.2.1, aA cI a_near 10 oo.2.2.2.2.2.2]) (ro, o0, o1, o2, o3, o4, o5) (own := RX7) (lv := [(0, .ref a_t), (1, .int p1)]) (by decide) rfl rfl (Nat.le_of_ble_eq_true rfl) rfl ?_
  intro p e s m args below meth c Q ls C hret hV hl
  obtain ⟨out, hout⟩ : ∃ z : Int32 × Int32 × Int32 × (Nat → Int32) × (Nat → Int32) × (Nat → Int32) × (Nat → Int32), z = (ro, o0, o1, o2, o3, o4, o5) := ⟨_, rfl⟩
  rw [← hout] at hF hret
  obtain ⟨H0, hH0⟩ : ∃ z : Heap, z = s.heap := ⟨_, rfl⟩
  obtain ⟨A0, hA0⟩ : ∃ z : Nat → Prop, z = va_A [oX7 a_t a_d a_e a_kept v_isKept a_found a_tape v_taped v_gone a_hears a_near a_firstDay a_daily v_begin v_round v_leastFar v_leastWhere v_mostLed a_heardNow v_firstMove v_at v_sort v_from v_value v_fault a_bitsOf a_sizeOf a_number a_passing, aA cI a_d 40 f_d, aA cI a_found 7 f_found, aA cI a_hears 10 f_hears, aA cI a_near 10 f_near] s.heap.size := ⟨_, rfl⟩
  rw [← hA0] at hret hV
  rw [← hH0] at hret hV
  rw [← hH0]
  obtain ⟨H, locs, hH⟩ : ∃ (z : Heap) (y : List Loc), z = H0 ∧ y = [] := ⟨_, _, rfl, rfl⟩
  rw [← hH.1, ← hH.2]
  have hV : gV (dC, dI) (gT cI cB cO) A0 H0 s [oX7 a_t a_d a_e a_kept v_isKept a_found a_tape v_taped v_gone a_hears a_near a_firstDay a_daily v_begin v_round v_leastFar v_leastWhere v_mostLed a_heardNow v_firstMove v_at v_sort v_from v_value v_fault a_bitsOf a_sizeOf a_number a_passing, aA cI a_d 40 f_d, aA cI a_found 7 f_found, aA cI a_hears 10 f_hears, aA cI a_near 10 f_near] H locs := by rw [hH.1, hH.2]; exact hV
  unfold F_X7_whom at hF
  refine lv_iload_n C.1 C.2.1 dX7_whom_0 rfl (lv_at hl 1 rfl) ?_
  refine g_i2l C hF dX7_whom_1 (fun x1 hF => ?_)
  refine lv_lconst (v := 1) C.1 C.2.1 dX7_whom_2 rfl ?_
  refine lv_ldc2 (v := 60) C.1 C.2.1 C.2.2.2.1 (C.2.2.2.2 _ ctX7_whom_175) dX7_whom_3 ?_
  obtain ⟨x2, hc, hF⟩ := bd1_s hF
  refine g_cSi (ws' := [oX7 a_t a_d a_e a_kept v_isKept a_found a_tape v_taped v_gone a_hears a_near a_firstDay a_daily v_begin v_round v_leastFar v_leastWhere v_mostLed a_heardNow v_firstMove v_at v_sort v_from v_value v_fault a_bitsOf a_sizeOf a_number a_passing, aA cI a_d 40 f_d, aA cI a_found 7 f_found, aA cI a_hears 10 f_hears, aA cI a_near 10 f_near]) (wr := [oX7 a_t a_d a_e a_kept v_isKept a_found a_tape v_taped v_gone a_hears a_near a_firstDay a_daily v_begin v_round v_leastFar v_leastWhere v_mostLed a_heardNow v_firstMove v_at v_sort v_from v_value v_fault a_bitsOf a_sizeOf a_number a_passing, aA cI a_d 40 f_d, aA cI a_found 7 f_found, aA cI a_hears 10 f_hears, aA cI a_near 10 f_near]) C hV (k_X7_in l dC dI cI cB cO n0 H.size x1 1 60 hc) mdX7_in gX7_whom_X7_in rfl rfl ⟨Nat.le_of_ble_eq_true rfl, Nat.le_of_ble_eq_true rfl⟩ [] [0, 1, 2, 3, 4] [0, 1, 2, 3, 4] rfl rfl rfl rfl rfl rfl rfl rfl hl.1 (Nat.le_of_ble_eq_true rfl) rfl dX7_whom_6 (fun H locs hV => ?_)
  refine g_if_ne (tgt := 18) C hF dX7_whom_9 rfl (fun hF => ?_) (fun hF => ?_)
  · refine lv_aload_n C.1 C.2.1 dX7_whom_18 rfl (lv_at hl 0 rfl) ?_
    refine lv_iload_n C.1 C.2.1 dX7_whom_19 rfl (lv_at hl 1 rfl) ?_
    obtain ⟨x3, g4, g5, hc, hF⟩ := bd3_s hF
    refine g_cVi (ws' := [oX7 a_t a_d a_e a_kept v_isKept a_found a_tape v_taped v_gone a_hears a_near a_firstDay a_daily v_begin v_round v_leastFar v_leastWhere v_mostLed a_heardNow v_firstMove v_at v_sort v_from v_value v_fault a_bitsOf a_sizeOf a_number a_passing, aA cI a_d 40 f_d, aA cI a_found 7 f_found, aA cI a_hears 10 g4, aA cI a_near 10 g5]) (wr := [aA cI a_found 7 f_found]) C hV (k_X7_isMore l dC dI cI cB cO n0 H.size a_t a_d a_e a_kept a_found a_tape a_hears a_near a_firstDay a_daily a_heardNow a_bitsOf a_sizeOf a_number a_passing v_isKept v_taped v_gone v_begin v_round v_leastFar v_leastWhere v_mostLed v_firstMove v_at v_sort v_from v_value v_fault f_d f_hears f_near p1 hc) mdX7_isMore gX7_whom_X7_isMore rfl rfl ⟨Nat.le_of_ble_eq_true rfl, Nat.le_of_ble_eq_true rfl⟩ [0, 1, 3, 4] [2] [1, 2, 0, 3, 4] rfl rfl rfl rfl rfl rfl rfl rfl rfl rfl hl.1 (Nat.le_of_ble_eq_true rfl) rfl dX7_whom_20 (fun H locs hV => ?_)
    refine g_if_eq (tgt := 32) C hF dX7_whom_23 rfl (fun hF => ?_) (fun hF => ?_)
    · refine lv_aload_n C.1 C.2.1 dX7_whom_32 rfl (lv_at hl 0 rfl) ?_
      refine lv_iload_n C.1 C.2.1 dX7_whom_33 rfl (lv_at hl 1 rfl) ?_
      obtain ⟨x6, x7, g8, g9, g10, hc, hF⟩ := bd5_s hF
      refine g_cVv (ws' := [oX7 a_t a_d a_e a_kept v_isKept a_found a_tape v_taped v_gone a_hears a_near a_firstDay a_daily v_begin v_round x6 x7 v_mostLed a_heardNow v_firstMove v_at v_sort v_from v_value v_fault a_bitsOf a_sizeOf a_number a_passing, aA cI a_d 40 g8, aA cI a_found 7 f_found, aA cI a_hears 10 g9, aA cI a_near 10 g10]) (wr := [aA cI a_found 7 f_found]) C hV (k_X7_findLeast l dC dI cI cB cO n0 H.size a_t a_d a_e a_kept a_found a_tape a_hears a_near a_firstDay a_daily a_heardNow a_bitsOf a_sizeOf a_number a_passing v_isKept v_taped v_gone v_begin v_round v_leastFar v_leastWhere v_mostLed v_firstMove v_at v_sort v_from v_value v_fault f_d g4 g5 p1 hc) mdX7_findLeast gX7_whom_X7_findLeast rfl rfl ⟨Nat.le_of_ble_eq_true rfl, Nat.le_of_ble_eq_true rfl⟩ [0, 1, 3, 4] [2] [1, 2, 0, 3, 4] rfl rfl rfl rfl rfl rfl rfl rfl rfl rfl hl.1 (Nat.le_of_ble_eq_true rfl) rfl dX7_whom_34 (fun H locs hV => ?_)
      refine lv_aload_n C.1 C.2.1 dX7_whom_37 rfl (lv_at hl 0 rfl) ?_
      refine g_get C hV flX7_whom_166 0 rfl rfl dX7_whom_38 ?_
      refine g_if_ge (tgt := 52) C hF dX7_whom_41 rfl (fun hF => ?_) (fun hF => ?_)
      · refine lv_aload_n C.1 C.2.1 dX7_whom_52 rfl (lv_at hl 0 rfl) ?_
        refine g_get C hV flX7_whom_169 0 rfl rfl dX7_whom_53 ?_
        exact hret (x7, x6, x7, g8, f_found, g9, g10) _ _ _ _ dX7_whom_56 hF hV
      refine lv_aload_n C.1 C.2.1 dX7_whom_44 rfl (lv_at hl 0 rfl) ?_
      refine lv_iconst (v := 3) C.1 C.2.1 dX7_whom_45 rfl ?_
      obtain ⟨x11, g12, hc, hF⟩ := bd2_s hF
      refine g_cVi (ws' := [oX7 a_t a_d a_e a_kept v_isKept a_found a_tape v_taped v_gone a_hears a_near a_firstDay a_daily v_begin v_round x6 x7 v_mostLed a_heardNow v_firstMove v_at v_sort v_from v_value v_fault a_bitsOf a_sizeOf a_number a_passing, aA cI a_d 40 g8, aA cI a_found 7 g12, aA cI a_hears 10 g9, aA cI a_near 10 g10]) (wr := [aA cI a_d 40 g8, aA cI a_hears 10 g9, aA cI a_near 10 g10]) C hV (k_X7_finds l dC dI cI cB cO n0 H.size a_t a_d a_e a_kept a_found a_tape a_hears a_near a_firstDay a_daily a_heardNow a_bitsOf a_sizeOf a_number a_passing v_isKept v_taped v_gone v_begin v_round x6 x7 v_mostLed v_firstMove v_at v_sort v_from v_value v_fault f_found 3 hc) mdX7_finds gX7_whom_X7_finds rfl rfl ⟨Nat.le_of_ble_eq_true rfl, Nat.le_of_ble_eq_true rfl⟩ [0, 2] [1, 3, 4] [3, 0, 4, 1, 2] rfl rfl rfl rfl rfl rfl rfl rfl rfl rfl hl.1 (Nat.le_of_ble_eq_true rfl) rfl dX7_whom_46 (fun H locs hV => ?_)
      refine lv_goto (tgt := 56) C.1 C.2.1 dX7_whom_49 rfl ?_
      exact hret (x11, x6, x7, g8, g12, g9, g10) _ _ _ _ dX7_whom_56 hF hV
    refine lv_aload_n C.1 C.2.1 dX7_whom_26 rfl (lv_at hl 0 rfl) ?_
    refine lv_iconst (v := 3) C.1 C.2.1 dX7_whom_27 rfl ?_
    obtain ⟨x13, g14, hc, hF⟩ := bd2_s hF
    refine g_cVi (ws' := [oX7 a_t a_d a_e a_kept v_isKept a_found a_tape v_taped v_gone a_hears a_near a_firstDay a_daily v_begin v_round v_leastFar v_leastWhere v_mostLed a_heardNow v_firstMove v_at v_sort v_from v_value v_fault a_bitsOf a_sizeOf a_number a_passing, aA cI a_d 40 f_d, aA cI a_found 7 g14, aA cI a_hears 10 g4, aA cI a_near 10 g5]) (wr := [aA cI a_d 40 f_d, aA cI a_hears 10 g4, aA cI a_near 10 g5]) C hV (k_X7_finds l dC dI cI cB cO n0 H.size a_t a_d a_e a_kept a_found a_tape a_hears a_near a_firstDay a_daily a_heardNow a_bitsOf a_sizeOf a_number a_passing v_isKept v_taped v_gone v_begin v_round v_leastFar v_leastWhere v_mostLed v_firstMove v_at v_sort v_from v_value v_fault f_found 3 hc) mdX7_finds gX7_whom_X7_finds rfl rfl ⟨Nat.le_of_ble_eq_true rfl, Nat.le_of_ble_eq_true rfl⟩ [0, 2] [1, 3, 4] [3, 0, 4, 1, 2] rfl rfl rfl rfl rfl rfl rfl rfl rfl rfl hl.1 (Nat.le_of_ble_eq_true rfl) rfl dX7_whom_28 (fun H locs hV => ?_)
    exact hret (x13, v_leastFar, v_leastWhere, f_d, g14, g4, g5) _ _ _ _ dX7_whom_31 hF hV
  refine lv_aload_n C.1 C.2.1 dX7_whom_12 rfl (lv_at hl 0 rfl) ?_
  refine lv_iconst (v := 0) C.1 C.2.1 dX7_whom_13 rfl ?_
  obtain ⟨x15, g16, hc, hF⟩ := bd2_s hF
  refine g_cVi (ws' := [oX7 a_t a_d a_e a_kept v_isKept a_found a_tape v_taped v_gone a_hears a_near a_firstDay a_daily v_begin v_round v_leastFar v_leastWhere v_mostLed a_heardNow v_firstMove v_at v_sort v_from v_value v_fault a_bitsOf a_sizeOf a_number a_passing, aA cI a_d 40 f_d, aA cI a_found 7 g16, aA cI a_hears 10 f_hears, aA cI a_near 10 f_near]) (wr := [aA cI a_d 40 f_d, aA cI a_hears 10 f_hears, aA cI a_near 10 f_near]) C hV (k_X7_finds l dC dI cI cB cO n0 H.size a_t a_d a_e a_kept a_found a_tape a_hears a_near a_firstDay a_daily a_heardNow a_bitsOf a_sizeOf a_number a_passing v_isKept v_taped v_gone v_begin v_round v_leastFar v_leastWhere v_mostLed v_firstMove v_at v_sort v_from v_value v_fault f_found 0 hc) mdX7_finds gX7_whom_X7_finds rfl rfl ⟨Nat.le_of_ble_eq_true rfl, Nat.le_of_ble_eq_true rfl⟩ [0, 2] [1, 3, 4] [3, 0, 4, 1, 2] rfl rfl rfl rfl rfl rfl rfl rfl rfl rfl hl.1 (Nat.le_of_ble_eq_true rfl) rfl dX7_whom_14 (fun H locs hV => ?_)
  exact hret (x15, v_leastFar, v_leastWhere, f_d, g16, f_hears, f_near) _ _ _ _ dX7_whom_17 hF hV
abbrev rmX7_findPlace : Room := { frames := 4, cells := 0, slots := 0, locals := 92 }
theorem mdX7_findPlace : gMd yX7_findPlace wsX7_findPlace cX7_findPlace 5 (some .int) 0 := ⟨⟨_, rfl⟩, by decide +kernel⟩
theorem flX7_findPlace_180 : gFL wsX7_findPlace RX7 180 7 16 RX7 TX7 28 := ⟨rfl, fun w h => List.mem_cons_of_mem _ (List.mem_append_right _ (h)), Nat.le_of_ble_eq_true rfl, List.mem_cons_of_mem _ (List.mem_append_left _ (List.mem_append_left _ (List.mem_of_getElem? (i := 0) rfl)))⟩
theorem fpX7_findPlace_180 : gFP wsX7_findPlace RX7 180 7 16 RX7 TX7 28 .int := ⟨flX7_findPlace_180, ⟨tyX7, tyX7_ok⟩, nmX7, rfl, by decide +kernel⟩
theorem flX7_findPlace_7 : gFL wsX7_findPlace RX7 7 7 0 RX7 TX7 28 := ⟨rfl, fun w h => List.mem_cons_of_mem _ (List.mem_append_right _ (h)), Nat.le_of_ble_eq_true rfl, List.mem_cons_of_mem _ (List.mem_append_left _ (List.mem_append_left _ (List.mem_of_getElem? (i := 1) rfl)))⟩
theorem flX7_findPlace_13 : gFL wsX7_findPlace RX7 13 7 1 RX7 TX7 28 := ⟨rfl, fun w h => List.mem_cons_of_mem _ (List.mem_append_right _ (h)), Nat.le_of_ble_eq_true rfl, List.mem_cons_of_mem _ (List.mem_append_left _ (List.mem_append_left _ (List.mem_of_getElem? (i := 2) rfl)))⟩
def J_X7_findPlace_96 (x19 : Int32) (u9 : Int32) (s5 : Int32) (kk27 : Int32 → Int32 → (Nat → Int32) → (Nat → Int32) → (Nat → Int32) → Int32 → Option (Int32 × Int32 × (Nat → Int32) × (Nat → Int32) × (Nat → Int32) × (Nat → Int32))) (k20 : Int32) (g15 : Nat → Int32) (g16 : Nat → Int32) (g17 : Nat → Int32) : Option (Int32 × Int32 × (Nat → Int32) × (Nat → Int32) × (Nat → Int32) × (Nat → Int32)) := (if x19 ≤ u9 then nm (s5 + 1) (fun x21 => kk27 k20 x21 g15 g16 g17 u9) else nm (s5 + 1) (fun x22 => kk27 k20 x22 g15 g16 g17 x19))
def L_X7_findPlace_27 (n0 : Nat) (g1 : Nat → Int32) (x2 : Int32) (v_gone : Int32) : Nat → Int32 → Int32 → (Nat → Int32) → (Nat → Int32) → (Nat → Int32) → Int32 → Option (Int32 × Int32 × (Nat → Int32) × (Nat → Int32) × (Nat → Int32) × (Nat → Int32)) := lpp6 (fun s4 s5 t6 t7 t8 u9 kk27 => (if 144 ≤ s5 then bd1 (F_X7_copies n0 40 40 g1 t6) (fun g10 => some (s4, u9, g10, g1, t7, t8)) else nm (20 + x2) (fun x11 => wrt t6 40 x11 144 (fun g12 => bd1 (F_X7_whoIs n0 g12 s5) (fun x13 => (if x13 = ((-1)) then nm (20 + x2) (fun x14 => wrt g12 40 x14 s5 (fun g15 => bd2 (F_X7_listen n0 v_gone g15 t7 t8) (fun g16 g17 => bd1 (F_X7_followersOf n0 g15 g16 x2) (fun x18 => bd1 (F_X7_ones n0 x18) (fun x19 => (if x19 ≤ u9 then J_X7_findPlace_96 x19 u9 s5 kk27 s4 g15 g16 g17 else J_X7_findPlace_96 x19 u9 s5 kk27 s5 g15 g16 g17)))))) else nm (s5 + 1) (fun x23 => kk27 s4 x23 g12 t7 t8 u9)))))))
def F_X7_findPlace (n0 : Nat) (v_gone : Int32) (v_mostLed : Int32) (f_d : Nat → Int32) (f_e : Nat → Int32) (f_hears : Nat → Int32) (f_near : Nat → Int32) : Option (Int32 × Int32 × (Nat → Int32) × (Nat → Int32) × (Nat → Int32) × (Nat → Int32)) := bd1 (F_X7_copies n0 40 40 f_d f_e) (fun g1 => bd2 (F_X7_comes n0 f_d 0 0) (fun x2 g3 => L_X7_findPlace_27 n0 g1 x2 v_gone n0 0 0 g3 f_hears f_near ((-1))))
set_option maxRecDepth 100000 in
set_option maxHeartbeats 4000000 in
theorem k_X7_findPlace (l : Launch) (dC : Nat → ClassId) (dI : Nat → Nat → Nat) (cI cB cO : ClassId) (n0 sz : Nat) (a_t : Nat) (a_d : Nat) (a_e : Nat) (a_kept : Nat) (a_found : Nat) (a_tape : Nat) (a_hears : Nat) (a_near : Nat) (a_firstDay : Nat) (a_daily : Nat) (a_heardNow : Nat) (a_bitsOf : Nat) (a_sizeOf : Nat) (a_number : Nat) (a_passing : Nat)   (v_isKept : Int32) (v_taped : Int32) (v_gone : Int32) (v_begin : Int32) (v_round : Int32) (v_leastFar : Int32) (v_leastWhere : Int32) (v_mostLed : Int32) (v_firstMove : Int32) (v_at : Int32) (v_sort : Int32) (v_from : Int32) (v_value : Int64) (v_fault : Int32) (f_d : Nat → Int32) (f_e : Nat → Int32) (f_hears : Nat → Int32) (f_near : Nat → Int32)   {ro : Int32} {o0 : Int32} {o1 : Nat → Int32} {o2 : Nat → Int32} {o3 : Nat → Int32} {o4 : Nat → Int32} (hF : F_X7_findPlace n0 v_gone v_mostLed f_d f_e f_hears f_near = some (ro, o0, o1, o2, o3, o4)) : Met l yX7_findPlace wsX7_findPlace rmX7_findPlace (va_Pc [.ref a_t] (gPre (dC, dI) (gT cI cB cO) sz [oX7 a_t a_d a_e a_kept v_isKept a_found a_tape v_taped v_gone a_hears a_near a_firstDay a_daily v_begin v_round v_leastFar v_leastWhere v_mostLed a_heardNow v_firstMove v_at v_sort v_from v_value v_fault a_bitsOf a_sizeOf a_number a_passing, aA cI a_d 40 f_d, aA cI a_e 40 f_e, aA cI a_hears 10 f_hears, aA cI a_near 10 f_near])) (gQi (dC, dI) (gT cI cB cO) sz [oX7 a_t a_d a_e a_kept v_isKept a_found a_tape v_taped v_gone a_hears a_near a_firstDay a_daily v_begin v_round v_leastFar v_leastWhere v_mostLed a_heardNow v_firstMove v_at v_sort v_from v_value v_fault a_bitsOf a_sizeOf a_number a_passing, aA cI a_d 40 f_d, aA cI a_e 40 f_e, aA cI a_hears 10 f_hears, aA cI a_near 10 f_near] ro [oX7 a_t a_d a_e a_kept v_isKept a_found a_tape v_taped v_gone a_hears a_near a_firstDay a_daily v_begin v_round v_leastFar v_leastWhere o0 a_heardNow v_firstMove v_at v_sort v_from v_value v_fault a_bitsOf a_sizeOf a_number a_passing, aA cI a_d 40 o1, aA cI a_e 40 o2, aA cI a_hears 10 o3, aA cI a_near 10 o4]) 0 0 (va_A [oX7 a_t a_d a_e a_kept v_isKept a_found a_tape v_taped v_gone a_hears a_near a_firstDay a_daily v_begin v_round v_leastFar v_leastWhere v_mostLed a_heardNow v_firstMove v_at v_sort v_from v_value v_fault a_bitsOf a_sizeOf a_number a_passing, aA cI a_d 40 f_d, aA cI a_e 40 f_e, aA cI a_hears 10 f_hears, aA cI a_near 10 f_near] sz) := by
  refine g_metI (Out := Int32 × Int32 × (Nat → Int32) × (Nat → Int32) × (Nat → Int32) × (Nat → Int32)) (fun oo => oo.1) (fun oo => [oX7 a_t a_d a_e a_kept v_isKept a_found a_tape v_taped v_gone a_hears a_near a_firstDay a_daily v_begin v_round v_leastFar v_leastWhere oo.2.1 a_heardNow v_firstMove v_at v_sort v_from v_value v_fault a_bitsOf a_sizeOf a_number a_passing, aA cI a_d 40 oo.2.2.1, aA cI a_e 40 oo.2.2.2.1, aA cI a_hears 10 oo.2.2.2.2.1, aA cI a_near 10 oo.2.2.2.2.2]) (ro, o0, o1, o2, o3, o4) (own := RX7) (lv := [(0, .ref a_t)]) (by decide) rfl rfl (Nat.le_of_ble_eq_true rfl) rfl ?_
  intro p e s m args below meth c Q ls C hret hV hl
  obtain ⟨out, hout⟩ : ∃ z : Int32 × Int32 × (Nat → Int32) × (Nat → Int32) × (Nat → Int32) × (Nat → Int32), z = (ro, o0, o1, o2, o3, o4) := ⟨_, rfl⟩
  rw [← hout] at hF hret
  obtain ⟨H0, hH0⟩ : ∃ z : Heap, z = s.heap := ⟨_, rfl⟩
  obtain ⟨A0, hA0⟩ : ∃ z : Nat → Prop, z = va_A [oX7 a_t a_d a_e a_kept v_isKept a_found a_tape v_taped v_gone a_hears a_near a_firstDay a_daily v_begin v_round v_leastFar v_leastWhere v_mostLed a_heardNow v_firstMove v_at v_sort v_from v_value v_fault a_bitsOf a_sizeOf a_number a_passing, aA cI a_d 40 f_d, aA cI a_e 40 f_e, aA cI a_hears 10 f_hears, aA cI a_near 10 f_near] s.heap.size := ⟨_, rfl⟩
  rw [← hA0] at hret hV
  rw [← hH0] at hret hV
  rw [← hH0]
  obtain ⟨H, locs, hH⟩ : ∃ (z : Heap) (y : List Loc), z = H0 ∧ y = [] := ⟨_, _, rfl, rfl⟩
  rw [← hH.1, ← hH.2]
  have hV : gV (dC, dI) (gT cI cB cO) A0 H0 s [oX7 a_t a_d a_e a_kept v_isKept a_found a_tape v_taped v_gone a_hears a_near a_firstDay a_daily v_begin v_round v_leastFar v_leastWhere v_mostLed a_heardNow v_firstMove v_at v_sort v_from v_value v_fault a_bitsOf a_sizeOf a_number a_passing, aA cI a_d 40 f_d, aA cI a_e 40 f_e, aA cI a_hears 10 f_hears, aA cI a_near 10 f_near] H locs := by rw [hH.1, hH.2]; exact hV
  unfold F_X7_findPlace at hF
  refine lv_iconst (v := 0) C.1 C.2.1 dX7_findPlace_0 rfl ?_
  refine lv_istore_n (lv' := [(1, .int 0), (0, .ref a_t)]) C.1 C.2.1 dX7_findPlace_1 rfl hl (by decide) rfl (fun ls hl => ?_)
  refine lv_aload_n C.1 C.2.1 dX7_findPlace_2 rfl (lv_at hl 1 rfl) ?_
  refine lv_iconst (v := (-1)) C.1 C.2.1 dX7_findPlace_3 rfl ?_
  refine g_put (ws' := [oX7 a_t a_d a_e a_kept v_isKept a_found a_tape v_taped v_gone a_hears a_near a_firstDay a_daily v_begin v_round v_leastFar v_leastWhere ((-1)) a_heardNow v_firstMove v_at v_sort v_from v_value v_fault a_bitsOf a_sizeOf a_number a_passing, aA cI a_d 40 f_d, aA cI a_e 40 f_e, aA cI a_hears 10 f_hears, aA cI a_near 10 f_near]) C hV fpX7_findPlace_180 0 rfl rfl rfl (Nat.le_of_ble_eq_true rfl) rfl dX7_findPlace_4 (fun H locs hV => ?_)
  refine lv_aload_n C.1 C.2.1 dX7_findPlace_7 rfl (lv_at hl 1 rfl) ?_
  refine g_get C hV flX7_findPlace_7 0 rfl rfl dX7_findPlace_8 ?_
  refine lv_aload_n C.1 C.2.1 dX7_findPlace_11 rfl (lv_at hl 1 rfl) ?_
  refine g_get C hV flX7_findPlace_13 0 rfl rfl dX7_findPlace_12 ?_
  obtain ⟨g1, hc, hF⟩ := bd1_s hF
  refine g_cSv (ws' := [oX7 a_t a_d a_e a_kept v_isKept a_found a_tape v_taped v_gone a_hears a_near a_firstDay a_daily v_begin v_round v_leastFar v_leastWhere ((-1)) a_heardNow v_firstMove v_at v_sort v_from v_value v_fault a_bitsOf a_sizeOf a_number a_passing, aA cI a_d 40 f_d, aA cI a_e 40 g1, aA cI a_hears 10 f_hears, aA cI a_near 10 f_near]) (wr := [oX7 a_t a_d a_e a_kept v_isKept a_found a_tape v_taped v_gone a_hears a_near a_firstDay a_daily v_begin v_round v_leastFar v_leastWhere ((-1)) a_heardNow v_firstMove v_at v_sort v_from v_value v_fault a_bitsOf a_sizeOf a_number a_passing, aA cI a_hears 10 f_hears, aA cI a_near 10 f_near]) C hV (k_X7_copies l dC dI cI cB cO n0 H.size a_d a_e 40 40 f_d f_e hc) mdX7_copies gX7_findPlace_X7_copies rfl rfl ⟨Nat.le_of_ble_eq_true rfl, Nat.le_of_ble_eq_true rfl⟩ [1, 2] [0, 3, 4] [0, 3, 4, 1, 2] rfl rfl rfl rfl rfl rfl rfl rfl hl.1 (Nat.le_of_ble_eq_true rfl) rfl dX7_findPlace_15 (fun H locs hV => ?_)
  refine lv_aload_n C.1 C.2.1 dX7_findPlace_18 rfl (lv_at hl 1 rfl) ?_
  refine lv_iconst (v := 0) C.1 C.2.1 dX7_findPlace_19 rfl ?_
  refine lv_iconst (v := 0) C.1 C.2.1 dX7_findPlace_20 rfl ?_
  obtain ⟨x2, g3, hc, hF⟩ := bd2_s hF
  refine g_cVi (ws' := [oX7 a_t a_d a_e a_kept v_isKept a_found a_tape v_taped v_gone a_hears a_near a_firstDay a_daily v_begin v_round v_leastFar v_leastWhere ((-1)) a_heardNow v_firstMove v_at v_sort v_from v_value v_fault a_bitsOf a_sizeOf a_number a_passing, aA cI a_d 40 g3, aA cI a_e 40 g1, aA cI a_hears 10 f_hears, aA cI a_near 10 f_near]) (wr := [aA cI a_e 40 g1, aA cI a_hears 10 f_hears, aA cI a_near 10 f_near]) C hV (k_X7_comes l dC dI cI cB cO n0 H.size a_t a_d a_e a_kept a_found a_tape a_hears a_near a_firstDay a_daily a_heardNow a_bitsOf a_sizeOf a_number a_passing v_isKept v_taped v_gone v_begin v_round v_leastFar v_leastWhere ((-1)) v_firstMove v_at v_sort v_from v_value v_fault f_d 0 0 hc) mdX7_comes gX7_findPlace_X7_comes rfl rfl ⟨Nat.le_of_ble_eq_true rfl, Nat.le_of_ble_eq_true rfl⟩ [0, 1] [2, 3, 4] [3, 4, 0, 1, 2] rfl rfl rfl rfl rfl rfl rfl rfl rfl rfl hl.1 (Nat.le_of_ble_eq_true rfl) rfl dX7_findPlace_21 (fun H locs hV => ?_)
  refine lv_istore_n (lv' := [(2, .int x2), (1, .int 0), (0, .ref a_t)]) C.1 C.2.1 dX7_findPlace_24 rfl hl (by decide) rfl (fun ls hl => ?_)
  refine lv_iconst (v := 0) C.1 C.2.1 dX7_findPlace_25 rfl ?_
  refine lv_istore_n (lv' := [(3, .int 0), (2, .int x2), (1, .int 0), (0, .ref a_t)]) C.1 C.2.1 dX7_findPlace_26 rfl hl (by decide) rfl (fun ls hl => ?_)
  have hL27 : ∀ (n : Nat) (s4 : Int32) (s5 : Int32) (t6 : Nat → Int32) (t7 : Nat → Int32) (t8 : Nat → Int32) (u9 : Int32) (H : Heap) (locs : List Loc) (ls : Array Slot), gV (dC, dI) (gT cI cB cO) A0 H0 s [oX7 a_t a_d a_e a_kept v_isKept a_found a_tape v_taped v_gone a_hears a_near a_firstDay a_daily v_begin v_round v_leastFar v_leastWhere u9 a_heardNow v_firstMove v_at v_sort v_from v_value v_fault a_bitsOf a_sizeOf a_number a_passing, aA cI a_d 40 t6, aA cI a_e 40 g1, aA cI a_hears 10 t7, aA cI a_near 10 t8] H locs → lv_has ls 5 [(0, .ref a_t), (1, .int s4), (2, .int x2), (3, .int s5)] → L_X7_findPlace_27 n0 g1 x2 v_gone n s4 s5 t6 t7 t8 u9 = some out → W p l e rmX7_findPlace s m args below meth c H locs 0 0 Q (F0 m 27 ls []) := by
    intro n
    induction n with
    | zero => intro s4 s5 t6 t7 t8 u9 H locs ls hV hl hF; exact lpp6_z hF
    | succ n ih27 =>
      intro s4 s5 t6 t7 t8 u9 H locs ls hV hl hF
      obtain ⟨kk27, hk27, hF⟩ := lpp6_g hF
      have hq27 : ∀ (s4 : Int32) (s5 : Int32) (t6 : Nat → Int32) (t7 : Nat → Int32) (t8 : Nat → Int32) (u9 : Int32), kk27 s4 s5 t6 t7 t8 u9 = some out → L_X7_findPlace_27 n0 g1 x2 v_gone n s4 s5 t6 t7 t8 u9 = some out := fun _ _ _ _ _ _ h => by rw [hk27] at h; exact h
      refine lv_iload_n C.1 C.2.1 dX7_findPlace_27 rfl (lv_at hl 3 rfl) ?_
      refine lv_sipush (v := 144) C.1 C.2.1 dX7_findPlace_28 rfl ?_
      refine g_icmp_ge (tgt := 125) C hF dX7_findPlace_31 rfl (fun hF => ?_) (fun hF => ?_)
      · refine lv_aload_n C.1 C.2.1 dX7_findPlace_125 rfl (lv_at hl 0 rfl) ?_
        refine g_get C hV flX7_findPlace_13 0 rfl rfl dX7_findPlace_126 ?_
        refine lv_aload_n C.1 C.2.1 dX7_findPlace_129 rfl (lv_at hl 0 rfl) ?_
        refine g_get C hV flX7_findPlace_7 0 rfl rfl dX7_findPlace_130 ?_
        obtain ⟨g10, hc, hF⟩ := bd1_s hF
        refine g_cSv (ws' := [oX7 a_t a_d a_e a_kept v_isKept a_found a_tape v_taped v_gone a_hears a_near a_firstDay a_daily v_begin v_round v_leastFar v_leastWhere u9 a_heardNow v_firstMove v_at v_sort v_from v_value v_fault a_bitsOf a_sizeOf a_number a_passing, aA cI a_d 40 g10, aA cI a_e 40 g1, aA cI a_hears 10 t7, aA cI a_near 10 t8]) (wr := [oX7 a_t a_d a_e a_kept v_isKept a_found a_tape v_taped v_gone a_hears a_near a_firstDay a_daily v_begin v_round v_leastFar v_leastWhere u9 a_heardNow v_firstMove v_at v_sort v_from v_value v_fault a_bitsOf a_sizeOf a_number a_passing, aA cI a_hears 10 t7, aA cI a_near 10 t8]) C hV (k_X7_copies l dC dI cI cB cO n0 H.size a_e a_d 40 40 g1 t6 hc) mdX7_copies gX7_findPlace_X7_copies rfl rfl ⟨Nat.le_of_ble_eq_true rfl, Nat.le_of_ble_eq_true rfl⟩ [2, 1] [0, 3, 4] [0, 4, 3, 1, 2] rfl rfl rfl rfl rfl rfl rfl rfl hl.1 (Nat.le_of_ble_eq_true rfl) rfl dX7_findPlace_133 (fun H locs hV => ?_)
        refine lv_iload_n C.1 C.2.1 dX7_findPlace_136 rfl (lv_at hl 1 rfl) ?_
        exact hret (s4, u9, g10, g1, t7, t8) _ _ _ _ dX7_findPlace_137 hF hV
      refine lv_aload_n C.1 C.2.1 dX7_findPlace_34 rfl (lv_at hl 0 rfl) ?_
      refine g_get C hV flX7_findPlace_7 0 rfl rfl dX7_findPlace_35 ?_
      refine lv_bipush (v := 20) C.1 C.2.1 dX7_findPlace_38 rfl ?_
      refine lv_iload_n C.1 C.2.1 dX7_findPlace_40 rfl (lv_at hl 2 rfl) ?_
      refine g_iadd C hF dX7_findPlace_41 (fun x11 hF => ?_)
      refine lv_sipush (v := 144) C.1 C.2.1 dX7_findPlace_42 rfl ?_
      refine g_iast C hV 1 rfl hF (fun gq => [oX7 a_t a_d a_e a_kept v_isKept a_found a_tape v_taped v_gone a_hears a_near a_firstDay a_daily v_begin v_round v_leastFar v_leastWhere u9 a_heardNow v_firstMove v_at v_sort v_from v_value v_fault a_bitsOf a_sizeOf a_number a_passing, aA cI a_d 40 gq, aA cI a_e 40 g1, aA cI a_hears 10 t7, aA cI a_near 10 t8]) (fun _ => rfl) dX7_findPlace_45 (fun g12 H locs hF hV => ?_)
      refine lv_aload_n C.1 C.2.1 dX7_findPlace_46 rfl (lv_at hl 0 rfl) ?_
      refine lv_iload_n C.1 C.2.1 dX7_findPlace_47 rfl (lv_at hl 3 rfl) ?_
      obtain ⟨x13, hc, hF⟩ := bd1_s hF
      refine g_cVi (ws' := [oX7 a_t a_d a_e a_kept v_isKept a_found a_tape v_taped v_gone a_hears a_near a_firstDay a_daily v_begin v_round v_leastFar v_leastWhere u9 a_heardNow v_firstMove v_at v_sort v_from v_value v_fault a_bitsOf a_sizeOf a_number a_passing, aA cI a_d 40 g12, aA cI a_e 40 g1, aA cI a_hears 10 t7, aA cI a_near 10 t8]) (wr := [aA cI a_e 40 g1, aA cI a_hears 10 t7, aA cI a_near 10 t8]) C hV (k_X7_whoIs l dC dI cI cB cO n0 H.size a_t a_d a_e a_kept a_found a_tape a_hears a_near a_firstDay a_daily a_heardNow a_bitsOf a_sizeOf a_number a_passing v_isKept v_taped v_gone v_begin v_round v_leastFar v_leastWhere u9 v_firstMove v_at v_sort v_from v_value v_fault g12 s5 hc) mdX7_whoIs gX7_findPlace_X7_whoIs rfl rfl ⟨Nat.le_of_ble_eq_true rfl, Nat.le_of_ble_eq_true rfl⟩ [0, 1] [2, 3, 4] [3, 4, 0, 1, 2] rfl rfl rfl rfl rfl rfl rfl rfl rfl rfl hl.1 (Nat.le_of_ble_eq_true rfl) rfl dX7_findPlace_48 (fun H locs hV => ?_)
      refine lv_iconst (v := (-1)) C.1 C.2.1 dX7_findPlace_51 rfl ?_
      refine g_icmp_eq (tgt := 58) C hF dX7_findPlace_52 rfl (fun hF => ?_) (fun hF => ?_)
      · refine lv_aload_n C.1 C.2.1 dX7_findPlace_58 rfl (lv_at hl 0 rfl) ?_
        refine g_get C hV flX7_findPlace_7 0 rfl rfl dX7_findPlace_59 ?_
        refine lv_bipush (v := 20) C.1 C.2.1 dX7_findPlace_62 rfl ?_
        refine lv_iload_n C.1 C.2.1 dX7_findPlace_64 rfl (lv_at hl 2 rfl) ?_
        refine g_iadd C hF dX7_findPlace_65 (fun x14 hF => ?_)
        refine lv_iload_n C.1 C.2.1 dX7_findPlace_66 rfl (lv_at hl 3 rfl) ?_
        refine g_iast C hV 1 rfl hF (fun gq => [oX7 a_t a_d a_e a_kept v_isKept a_found a_tape v_taped v_gone a_hears a_near a_firstDay a_daily v_begin v_round v_leastFar v_leastWhere u9 a_heardNow v_firstMove v_at v_sort v_from v_value v_fault a_bitsOf a_sizeOf a_number a_passing, aA cI a_d 40 gq, aA cI a_e 40 g1, aA cI a_hears 10 t7, aA cI a_near 10 t8]) (fun _ => rfl) dX7_findPlace_67 (fun g15 H locs hF hV => ?_)
        refine lv_aload_n C.1 C.2.1 dX7_findPlace_68 rfl (lv_at hl 0 rfl) ?_
        obtain ⟨g16, g17, hc, hF⟩ := bd2_s hF
        refine g_cVv (ws' := [oX7 a_t a_d a_e a_kept v_isKept a_found a_tape v_taped v_gone a_hears a_near a_firstDay a_daily v_begin v_round v_leastFar v_leastWhere u9 a_heardNow v_firstMove v_at v_sort v_from v_value v_fault a_bitsOf a_sizeOf a_number a_passing, aA cI a_d 40 g15, aA cI a_e 40 g1, aA cI a_hears 10 g16, aA cI a_near 10 g17]) (wr := [aA cI a_e 40 g1]) C hV (k_X7_listen l dC dI cI cB cO n0 H.size a_t a_d a_e a_kept a_found a_tape a_hears a_near a_firstDay a_daily a_heardNow a_bitsOf a_sizeOf a_number a_passing v_isKept v_taped v_gone v_begin v_round v_leastFar v_leastWhere u9 v_firstMove v_at v_sort v_from v_value v_fault g15 t7 t8 hc) mdX7_listen gX7_findPlace_X7_listen rfl rfl ⟨Nat.le_of_ble_eq_true rfl, Nat.le_of_ble_eq_true rfl⟩ [0, 1, 3, 4] [2] [1, 2, 0, 3, 4] rfl rfl rfl rfl rfl rfl rfl rfl rfl rfl hl.1 (Nat.le_of_ble_eq_true rfl) rfl dX7_findPlace_69 (fun H locs hV => ?_)
        refine lv_aload_n C.1 C.2.1 dX7_findPlace_72 rfl (lv_at hl 0 rfl) ?_
        refine lv_iload_n C.1 C.2.1 dX7_findPlace_73 rfl (lv_at hl 2 rfl) ?_
        obtain ⟨x18, hc, hF⟩ := bd1_s hF
        refine g_cVi (ws' := [oX7 a_t a_d a_e a_kept v_isKept a_found a_tape v_taped v_gone a_hears a_near a_firstDay a_daily v_begin v_round v_leastFar v_leastWhere u9 a_heardNow v_firstMove v_at v_sort v_from v_value v_fault a_bitsOf a_sizeOf a_number a_passing, aA cI a_d 40 g15, aA cI a_e 40 g1, aA cI a_hears 10 g16, aA cI a_near 10 g17]) (wr := [aA cI a_e 40 g1, aA cI a_near 10 g17]) C hV (k_X7_followersOf l dC dI cI cB cO n0 H.size a_t a_d a_e a_kept a_found a_tape a_hears a_near a_firstDay a_daily a_heardNow a_bitsOf a_sizeOf a_number a_passing v_isKept v_taped v_gone v_begin v_round v_leastFar v_leastWhere u9 v_firstMove v_at v_sort v_from v_value v_fault g15 g16 x2 hc) mdX7_followersOf gX7_findPlace_X7_followersOf rfl rfl ⟨Nat.le_of_ble_eq_true rfl, Nat.le_of_ble_eq_true rfl⟩ [0, 1, 3] [2, 4] [2, 3, 0, 4, 1] rfl rfl rfl rfl rfl rfl rfl rfl rfl rfl hl.1 (Nat.le_of_ble_eq_true rfl) rfl dX7_findPlace_74 (fun H locs hV => ?_)
        obtain ⟨x19, hc, hF⟩ := bd1_s hF
        refine g_cSi (ws' := [oX7 a_t a_d a_e a_kept v_isKept a_found a_tape v_taped v_gone a_hears a_near a_firstDay a_daily v_begin v_round v_leastFar v_leastWhere u9 a_heardNow v_firstMove v_at v_sort v_from v_value v_fault a_bitsOf a_sizeOf a_number a_passing, aA cI a_d 40 g15, aA cI a_e 40 g1, aA cI a_hears 10 g16, aA cI a_near 10 g17]) (wr := [oX7 a_t a_d a_e a_kept v_isKept a_found a_tape v_taped v_gone a_hears a_near a_firstDay a_daily v_begin v_round v_leastFar v_leastWhere u9 a_heardNow v_firstMove v_at v_sort v_from v_value v_fault a_bitsOf a_sizeOf a_number a_passing, aA cI a_d 40 g15, aA cI a_e 40 g1, aA cI a_hears 10 g16, aA cI a_near 10 g17]) C hV (k_X7_ones l dC dI cI cB cO n0 H.size x18 hc) mdX7_ones gX7_findPlace_X7_ones rfl rfl ⟨Nat.le_of_ble_eq_true rfl, Nat.le_of_ble_eq_true rfl⟩ [] [0, 1, 2, 3, 4] [0, 1, 2, 3, 4] rfl rfl rfl rfl rfl rfl rfl rfl hl.1 (Nat.le_of_ble_eq_true rfl) rfl dX7_findPlace_77 (fun H locs hV => ?_)
        refine lv_istore (lv' := [(4, .int x19), (0, .ref a_t), (1, .int s4), (2, .int x2), (3, .int s5)]) C.1 C.2.1 dX7_findPlace_80 hl (by decide) rfl (fun ls hl => ?_)
        refine lv_iload C.1 C.2.1 dX7_findPlace_82 (lv_at hl 0 rfl) ?_
        refine lv_aload_n C.1 C.2.1 dX7_findPlace_84 rfl (lv_at hl 1 rfl) ?_
        refine g_get C hV flX7_findPlace_180 0 rfl rfl dX7_findPlace_85 ?_
        have hJ96 : ∀ (k20 : Int32) (H : Heap) (locs : List Loc) (ls : Array Slot), gV (dC, dI) (gT cI cB cO) A0 H0 s [oX7 a_t a_d a_e a_kept v_isKept a_found a_tape v_taped v_gone a_hears a_near a_firstDay a_daily v_begin v_round v_leastFar v_leastWhere u9 a_heardNow v_firstMove v_at v_sort v_from v_value v_fault a_bitsOf a_sizeOf a_number a_passing, aA cI a_d 40 g15, aA cI a_e 40 g1, aA cI a_hears 10 g16, aA cI a_near 10 g17] H locs → lv_has ls 5 [(0, .ref a_t), (2, .int x2), (3, .int s5), (4, .int x19)] → J_X7_findPlace_96 x19 u9 s5 kk27 k20 g15 g16 g17 = some out → W p l e rmX7_findPlace s m args below meth c H locs 0 0 Q (F0 m 96 ls [.int k20]) := by
          intro k20 H locs ls hV hl hF
          unfold J_X7_findPlace_96 at hF
          refine lv_istore_n (lv' := [(1, .int k20), (0, .ref a_t), (2, .int x2), (3, .int s5), (4, .int x19)]) C.1 C.2.1 dX7_findPlace_96 rfl hl (by decide) rfl (fun ls hl => ?_)
          refine lv_aload_n C.1 C.2.1 dX7_findPlace_97 rfl (lv_at hl 1 rfl) ?_
          refine lv_iload C.1 C.2.1 dX7_findPlace_98 (lv_at hl 4 rfl) ?_
          refine lv_aload_n C.1 C.2.1 dX7_findPlace_100 rfl (lv_at hl 1 rfl) ?_
          refine g_get C hV flX7_findPlace_180 0 rfl rfl dX7_findPlace_101 ?_
          refine g_icmp_le (tgt := 112) C hF dX7_findPlace_104 rfl (fun hF => ?_) (fun hF => ?_)
          · refine lv_aload_n C.1 C.2.1 dX7_findPlace_112 rfl (lv_at hl 1 rfl) ?_
            refine g_get C hV flX7_findPlace_180 0 rfl rfl dX7_findPlace_113 ?_
            refine g_put (ws' := [oX7 a_t a_d a_e a_kept v_isKept a_found a_tape v_taped v_gone a_hears a_near a_firstDay a_daily v_begin v_round v_leastFar v_leastWhere u9 a_heardNow v_firstMove v_at v_sort v_from v_value v_fault a_bitsOf a_sizeOf a_number a_passing, aA cI a_d 40 g15, aA cI a_e 40 g1, aA cI a_hears 10 g16, aA cI a_near 10 g17]) C hV fpX7_findPlace_180 0 rfl rfl rfl (Nat.le_of_ble_eq_true rfl) rfl dX7_findPlace_116 (fun H locs hV => ?_)
            refine g_iinc C hF dX7_findPlace_119 (d := 1) rfl hl (j := 3) rfl (by decide) (fun y => [(3, .int y), (1, .int k20), (0, .ref a_t), (2, .int x2), (4, .int x19)]) (fun _ => rfl) (fun x21 ls hF hl => ?_)
            refine lv_goto (tgt := 27) C.1 C.2.1 dX7_findPlace_122 rfl ?_
            exact ih27 k20 x21 g15 g16 g17 u9 H locs ls hV (lv_sub hl [2, 1, 3, 0] rfl) (hq27 k20 x21 g15 g16 g17 u9 hF)
          refine lv_iload C.1 C.2.1 dX7_findPlace_107 (lv_at hl 4 rfl) ?_
          refine lv_goto (tgt := 116) C.1 C.2.1 dX7_findPlace_109 rfl ?_
          refine g_put (ws' := [oX7 a_t a_d a_e a_kept v_isKept a_found a_tape v_taped v_gone a_hears a_near a_firstDay a_daily v_begin v_round v_leastFar v_leastWhere x19 a_heardNow v_firstMove v_at v_sort v_from v_value v_fault a_bitsOf a_sizeOf a_number a_passing, aA cI a_d 40 g15, aA cI a_e 40 g1, aA cI a_hears 10 g16, aA cI a_near 10 g17]) C hV fpX7_findPlace_180 0 rfl rfl rfl (Nat.le_of_ble_eq_true rfl) rfl dX7_findPlace_116 (fun H locs hV => ?_)
          refine g_iinc C hF dX7_findPlace_119 (d := 1) rfl hl (j := 3) rfl (by decide) (fun y => [(3, .int y), (1, .int k20), (0, .ref a_t), (2, .int x2), (4, .int x19)]) (fun _ => rfl) (fun x22 ls hF hl => ?_)
          refine lv_goto (tgt := 27) C.1 C.2.1 dX7_findPlace_122 rfl ?_
          exact ih27 k20 x22 g15 g16 g17 x19 H locs ls hV (lv_sub hl [2, 1, 3, 0] rfl) (hq27 k20 x22 g15 g16 g17 x19 hF)
        refine g_icmp_le (tgt := 95) C hF dX7_findPlace_88 rfl (fun hF => ?_) (fun hF => ?_)
        · refine lv_iload_n C.1 C.2.1 dX7_findPlace_95 rfl (lv_at hl 2 rfl) ?_
          exact hJ96 s4 H locs ls hV (lv_sub hl [1, 3, 4, 0] rfl) hF
        refine lv_iload_n C.1 C.2.1 dX7_findPlace_91 rfl (lv_at hl 4 rfl) ?_
        refine lv_goto (tgt := 96) C.1 C.2.1 dX7_findPlace_92 rfl ?_
        exact hJ96 s5 H locs ls hV (lv_sub hl [1, 3, 4, 0] rfl) hF
      refine lv_goto (tgt := 119) C.1 C.2.1 dX7_findPlace_55 rfl ?_
      refine g_iinc C hF dX7_findPlace_119 (d := 1) rfl hl (j := 3) rfl (by decide) (fun y => [(3, .int y), (0, .ref a_t), (1, .int s4), (2, .int x2)]) (fun _ => rfl) (fun x23 ls hF hl => ?_)
      refine lv_goto (tgt := 27) C.1 C.2.1 dX7_findPlace_122 rfl ?_
      exact ih27 s4 x23 g12 t7 t8 u9 H locs ls hV (lv_sub hl [1, 2, 3, 0] rfl) (hq27 s4 x23 g12 t7 t8 u9 hF)
  exact hL27 n0 0 0 g3 f_hears f_near ((-1)) H locs ls hV (lv_sub hl [3, 2, 1, 0] rfl) hF
abbrev rmX7_place : Room := { frames := 5, cells := 0, slots := 0, locals := 116 }
theorem mdX7_place : gMd yX7_place wsX7_place cX7_place 1 (some .int) 0 := ⟨⟨_, rfl⟩, by decide +kernel⟩
theorem flX7_place_7 : gFL wsX7_place RX7 7 7 0 RX7 TX7 28 := ⟨rfl, fun w h => List.mem_cons_of_mem _ (List.mem_append_right _ (h)), Nat.le_of_ble_eq_true rfl, List.mem_cons_of_mem _ (List.mem_append_left _ (List.mem_append_left _ (List.mem_of_getElem? (i := 0) rfl)))⟩
def F_X7_place (n0 : Nat) (v_gone : Int32) (v_mostLed : Int32) (f_d : Nat → Int32) (f_e : Nat → Int32) (f_found : Nat → Int32) (f_hears : Nat → Int32) (f_near : Nat → Int32) : Option (Int32 × Int32 × (Nat → Int32) × (Nat → Int32) × (Nat → Int32) × (Nat → Int32) × (Nat → Int32)) := rd f_d 40 0 (fun x1 => (if x1 = 10 then bd2 (F_X7_finds n0 f_found 4) (fun x8 g9 => some (x8, v_mostLed, f_d, f_e, g9, f_hears, f_near)) else bd6 (F_X7_findPlace n0 v_gone v_mostLed f_d f_e f_hears f_near) (fun x2 x3 g4 g5 g6 g7 => some (x2, x3, g4, g5, f_found, g6, g7))))
set_option maxRecDepth 100000 in
set_option maxHeartbeats 4000000 in
theorem k_X7_place (l : Launch) (dC : Nat → ClassId) (dI : Nat → Nat → Nat) (cI cB cO : ClassId) (n0 sz : Nat) (a_t : Nat) (a_d : Nat) (a_e : Nat) (a_kept : Nat) (a_found : Nat) (a_tape : Nat) (a_hears : Nat) (a_near : Nat) (a_firstDay : Nat) (a_daily : Nat) (a_heardNow : Nat) (a_bitsOf : Nat) (a_sizeOf : Nat) (a_number : Nat) (a_passing : Nat)   (v_isKept : Int32) (v_taped : Int32) (v_gone : Int32) (v_begin : Int32) (v_round : Int32) (v_leastFar : Int32) (v_leastWhere : Int32) (v_mostLed : Int32) (v_firstMove : Int32) (v_at : Int32) (v_sort : Int32) (v_from : Int32) (v_value : Int64) (v_fault : Int32) (f_d : Nat → Int32) (f_e : Nat → Int32) (f_found : Nat → Int32) (f_hears : Nat → Int32) (f_near : Nat → Int32)   {ro : Int32} {o0 : Int32} {o1 : Nat → Int32} {o2 : Nat → Int32} {o3 : Nat → Int32} {o4 : Nat → Int32} {o5 : Nat → Int32} (hF : F_X7_place n0 v_gone v_mostLed f_d f_e f_found f_hears f_near = some (ro, o0, o1, o2, o3, o4, o5)) : Met l yX7_place wsX7_place rmX7_place (va_Pc [.ref a_t] (gPre (dC, dI) (gT cI cB cO) sz [oX7 a_t a_d a_e a_kept v_isKept a_found a_tape v_taped v_gone a_hears a_near a_firstDay a_daily v_begin v_round v_leastFar v_leastWhere v_mostLed a_heardNow v_firstMove v_at v_sort v_from v_value v_fault a_bitsOf a_sizeOf a_number a_passing, aA cI a_d 40 f_d, aA cI a_e 40 f_e, aA cI a_found 7 f_found, aA cI a_hears 10 f_hears, aA cI a_near 10 f_near])) (gQi (dC, dI) (gT cI cB cO) sz [oX7 a_t a_d a_e a_kept v_isKept a_found a_tape v_taped v_gone a_hears a_near a_firstDay a_daily v_begin v_round v_leastFar v_leastWhere v_mostLed a_heardNow v_firstMove v_at v_sort v_from v_value v_fault a_bitsOf a_sizeOf a_number a_passing, aA cI a_d 40 f_d, aA cI a_e 40 f_e, aA cI a_found 7 f_found, aA cI a_hears 10 f_hears, aA cI a_near 10 f_near] ro [oX7 a_t a_d a_e a_kept v_isKept a_found a_tape v_taped v_gone a_hears a_near a_firstDay a_daily v_begin v_round v_leastFar v_leastWhere o0 a_heardNow v_firstMove v_at v_sort v_from v_value v_fault a_bitsOf a_sizeOf a_number a_passing, aA cI a_d 40 o1, aA cI a_e 40 o2, aA cI a_found 7 o3, aA cI a_hears 10 o4, aA cI a_near 10 o5]) 0 0 (va_A [oX7 a_t a_d a_e a_kept v_isKept a_found a_tape v_taped v_gone a_hears a_near a_firstDay a_daily v_begin v_round v_leastFar v_leastWhere v_mostLed a_heardNow v_firstMove v_at v_sort v_from v_value v_fault a_bitsOf a_sizeOf a_number a_passing, aA cI a_d 40 f_d, aA cI a_e 40 f_e, aA cI a_found 7 f_found, aA cI a_hears 10 f_hears, aA cI a_near 10 f_near] sz) := by
  refine g_metI (Out := Int32 × Int32 × (Nat → Int32) × (Nat → Int32) × (Nat → Int32) × (Nat → Int32) × (Nat → Int32)) (fun oo => oo.1) (fun oo => [oX7 a_t a_d a_e a_kept v_isKept a_found a_tape v_taped v_gone a_hears a_near a_firstDay a_daily v_begin v_round v_leastFar v_leastWhere oo.2.1 a_heardNow v_firstMove v_at v_sort v_from v_value v_fault a_bitsOf a_sizeOf a_number a_passing, aA cI a_d 40 oo.2.2.1, aA cI a_e 40 oo.2.2.2.1, aA cI a_found 7 oo.2.2.2.2.1, aA cI a_hears 10 oo.2.2.2.2.2.1, aA cI a_near 10 oo.2.2.2.2.2.2]) (ro, o0, o1, o2, o3, o4, o5) (own := RX7) (lv := [(0, .ref a_t)]) (by decide) rfl rfl (Nat.le_of_ble_eq_true rfl) rfl ?_
  intro p e s m args below meth c Q ls C hret hV hl
  obtain ⟨out, hout⟩ : ∃ z : Int32 × Int32 × (Nat → Int32) × (Nat → Int32) × (Nat → Int32) × (Nat → Int32) × (Nat → Int32), z = (ro, o0, o1, o2, o3, o4, o5) := ⟨_, rfl⟩
  rw [← hout] at hF hret
  obtain ⟨H0, hH0⟩ : ∃ z : Heap, z = s.heap := ⟨_, rfl⟩
  obtain ⟨A0, hA0⟩ : ∃ z : Nat → Prop, z = va_A [oX7 a_t a_d a_e a_kept v_isKept a_found a_tape v_taped v_gone a_hears a_near a_firstDay a_daily v_begin v_round v_leastFar v_leastWhere v_mostLed a_heardNow v_firstMove v_at v_sort v_from v_value v_fault a_bitsOf a_sizeOf a_number a_passing, aA cI a_d 40 f_d, aA cI a_e 40 f_e, aA cI a_found 7 f_found, aA cI a_hears 10 f_hears, aA cI a_near 10 f_near] s.heap.size := ⟨_, rfl⟩
  rw [← hA0] at hret hV
  rw [← hH0] at hret hV
  rw [← hH0]
  obtain ⟨H, locs, hH⟩ : ∃ (z : Heap) (y : List Loc), z = H0 ∧ y = [] := ⟨_, _, rfl, rfl⟩
  rw [← hH.1, ← hH.2]
  have hV : gV (dC, dI) (gT cI cB cO) A0 H0 s [oX7 a_t a_d a_e a_kept v_isKept a_found a_tape v_taped v_gone a_hears a_near a_firstDay a_daily v_begin v_round v_leastFar v_leastWhere v_mostLed a_heardNow v_firstMove v_at v_sort v_from v_value v_fault a_bitsOf a_sizeOf a_number a_passing, aA cI a_d 40 f_d, aA cI a_e 40 f_e, aA cI a_found 7 f_found, aA cI a_hears 10 f_hears, aA cI a_near 10 f_near] H locs := by rw [hH.1, hH.2]; exact hV
  unfold F_X7_place at hF
  refine lv_aload_n C.1 C.2.1 dX7_place_0 rfl (lv_at hl 0 rfl) ?_
  refine g_get C hV flX7_place_7 0 rfl rfl dX7_place_1 ?_
  refine lv_iconst (v := 0) C.1 C.2.1 dX7_place_4 rfl ?_
  refine g_iald C hV 1 rfl hF dX7_place_5 (fun x1 hF => ?_)
  refine lv_bipush (v := 10) C.1 C.2.1 dX7_place_6 rfl ?_
  refine g_icmp_ne (tgt := 19) C hF dX7_place_8 rfl (fun hF => ?_) (fun hF => ?_)
  · refine lv_aload_n C.1 C.2.1 dX7_place_19 rfl (lv_at hl 0 rfl) ?_
    obtain ⟨x2, x3, g4, g5, g6, g7, hc, hF⟩ := bd6_s hF
    refine g_cVi (ws' := [oX7 a_t a_d a_e a_kept v_isKept a_found a_tape v_taped v_gone a_hears a_near a_firstDay a_daily v_begin v_round v_leastFar v_leastWhere x3 a_heardNow v_firstMove v_at v_sort v_from v_value v_fault a_bitsOf a_sizeOf a_number a_passing, aA cI a_d 40 g4, aA cI a_e 40 g5, aA cI a_found 7 f_found, aA cI a_hears 10 g6, aA cI a_near 10 g7]) (wr := [aA cI a_found 7 f_found]) C hV (k_X7_findPlace l dC dI cI cB cO n0 H.size a_t a_d a_e a_kept a_found a_tape a_hears a_near a_firstDay a_daily a_heardNow a_bitsOf a_sizeOf a_number a_passing v_isKept v_taped v_gone v_begin v_round v_leastFar v_leastWhere v_mostLed v_firstMove v_at v_sort v_from v_value v_fault f_d f_e f_hears f_near hc) mdX7_findPlace gX7_place_X7_findPlace rfl rfl ⟨Nat.le_of_ble_eq_true rfl, Nat.le_of_ble_eq_true rfl⟩ [0, 1, 2, 4, 5] [3] [1, 2, 3, 0, 4, 5] rfl rfl rfl rfl rfl rfl rfl rfl rfl rfl hl.1 (Nat.le_of_ble_eq_true rfl) rfl dX7_place_20 (fun H locs hV => ?_)
    exact hret (x2, x3, g4, g5, f_found, g6, g7) _ _ _ _ dX7_place_23 hF hV
  refine lv_aload_n C.1 C.2.1 dX7_place_11 rfl (lv_at hl 0 rfl) ?_
  refine lv_iconst (v := 4) C.1 C.2.1 dX7_place_12 rfl ?_
  obtain ⟨x8, g9, hc, hF⟩ := bd2_s hF
  refine g_cVi (ws' := [oX7 a_t a_d a_e a_kept v_isKept a_found a_tape v_taped v_gone a_hears a_near a_firstDay a_daily v_begin v_round v_leastFar v_leastWhere v_mostLed a_heardNow v_firstMove v_at v_sort v_from v_value v_fault a_bitsOf a_sizeOf a_number a_passing, aA cI a_d 40 f_d, aA cI a_e 40 f_e, aA cI a_found 7 g9, aA cI a_hears 10 f_hears, aA cI a_near 10 f_near]) (wr := [aA cI a_d 40 f_d, aA cI a_e 40 f_e, aA cI a_hears 10 f_hears, aA cI a_near 10 f_near]) C hV (k_X7_finds l dC dI cI cB cO n0 H.size a_t a_d a_e a_kept a_found a_tape a_hears a_near a_firstDay a_daily a_heardNow a_bitsOf a_sizeOf a_number a_passing v_isKept v_taped v_gone v_begin v_round v_leastFar v_leastWhere v_mostLed v_firstMove v_at v_sort v_from v_value v_fault f_found 4 hc) mdX7_finds gX7_place_X7_finds rfl rfl ⟨Nat.le_of_ble_eq_true rfl, Nat.le_of_ble_eq_true rfl⟩ [0, 3] [1, 2, 4, 5] [4, 0, 1, 5, 2, 3] rfl rfl rfl rfl rfl rfl rfl rfl rfl rfl hl.1 (Nat.le_of_ble_eq_true rfl) rfl dX7_place_13 (fun H locs hV => ?_)
  refine lv_goto (tgt := 23) C.1 C.2.1 dX7_place_16 rfl ?_
  exact hret (x8, v_mostLed, f_d, f_e, g9, f_hears, f_near) _ _ _ _ dX7_place_23 hF hV
abbrev rmX7_leads : Room := { frames := 5, cells := 0, slots := 0, locals := 116 }
theorem mdX7_leads : gMd yX7_leads wsX7_leads cX7_leads 2 (some .int) 0 := ⟨⟨_, rfl⟩, by decide +kernel⟩
theorem flX7_leads_7 : gFL wsX7_leads RX7 7 7 0 RX7 TX7 28 := ⟨rfl, fun w h => List.mem_cons_of_mem _ (List.mem_append_right _ (h)), Nat.le_of_ble_eq_true rfl, List.mem_cons_of_mem _ (List.mem_append_left _ (List.mem_append_left _ (List.mem_of_getElem? (i := 0) rfl)))⟩
theorem flX7_leads_180 : gFL wsX7_leads RX7 180 7 16 RX7 TX7 28 := ⟨rfl, fun w h => List.mem_cons_of_mem _ (List.mem_append_right _ (h)), Nat.le_of_ble_eq_true rfl, List.mem_cons_of_mem _ (List.mem_append_left _ (List.mem_append_left _ (List.mem_of_getElem? (i := 1) rfl)))⟩
def F_X7_leads (n0 : Nat) (v_gone : Int32) (v_mostLed : Int32) (f_d : Nat → Int32) (f_e : Nat → Int32) (f_found : Nat → Int32) (f_hears : Nat → Int32) (f_near : Nat → Int32) : Option (Int32 × Int32 × (Nat → Int32) × (Nat → Int32) × (Nat → Int32) × (Nat → Int32) × (Nat → Int32)) := rd f_d 40 0 (fun x1 => (if x1 = 10 then bd2 (F_X7_finds n0 f_found 4) (fun x8 g9 => some (x8, v_mostLed, f_d, f_e, g9, f_hears, f_near)) else bd6 (F_X7_findPlace n0 v_gone v_mostLed f_d f_e f_hears f_near) (fun x2 x3 g4 g5 g6 g7 => some (x3, x3, g4, g5, f_found, g6, g7))))
set_option maxRecDepth 100000 in
set_option maxHeartbeats 4000000 in
theorem k_X7_leads (l : Launch) (dC : Nat → ClassId) (dI : Nat → Nat → Nat) (cI cB cO : ClassId) (n0 sz : Nat) (a_t : Nat) (a_d : Nat) (a_e : Nat) (a_kept : Nat) (a_found : Nat) (a_tape : Nat) (a_hears : Nat) (a_near : Nat) (a_firstDay : Nat) (a_daily : Nat) (a_heardNow : Nat) (a_bitsOf : Nat) (a_sizeOf : Nat) (a_number : Nat) (a_passing : Nat)   (v_isKept : Int32) (v_taped : Int32) (v_gone : Int32) (v_begin : Int32) (v_round : Int32) (v_leastFar : Int32) (v_leastWhere : Int32) (v_mostLed : Int32) (v_firstMove : Int32) (v_at : Int32) (v_sort : Int32) (v_from : Int32) (v_value : Int64) (v_fault : Int32) (f_d : Nat → Int32) (f_e : Nat → Int32) (f_found : Nat → Int32) (f_hears : Nat → Int32) (f_near : Nat → Int32)   {ro : Int32} {o0 : Int32} {o1 : Nat → Int32} {o2 : Nat → Int32} {o3 : Nat → Int32} {o4 : Nat → Int32} {o5 : Nat → Int32} (hF : F_X7_leads n0 v_gone v_mostLed f_d f_e f_found f_hears f_near = some (ro, o0, o1, o2, o3, o4, o5)) : Met l yX7_leads wsX7_leads rmX7_leads (va_Pc [.ref a_t] (gPre (dC, dI) (gT cI cB cO) sz [oX7 a_t a_d a_e a_kept v_isKept a_found a_tape v_taped v_gone a_hears a_near a_firstDay a_daily v_begin v_round v_leastFar v_leastWhere v_mostLed a_heardNow v_firstMove v_at v_sort v_from v_value v_fault a_bitsOf a_sizeOf a_number a_passing, aA cI a_d 40 f_d, aA cI a_e 40 f_e, aA cI a_found 7 f_found, aA cI a_hears 10 f_hears, aA cI a_near 10 f_near])) (gQi (dC, dI) (gT cI cB cO) sz [oX7 a_t a_d a_e a_kept v_isKept a_found a_tape v_taped v_gone a_hears a_near a_firstDay a_daily v_begin v_round v_leastFar v_leastWhere v_mostLed a_heardNow v_firstMove v_at v_sort v_from v_value v_fault a_bitsOf a_sizeOf a_number a_passing, aA cI a_d 40 f_d, aA cI a_e 40 f_e, aA cI a_found 7 f_found, aA cI a_hears 10 f_hears, aA cI a_near 10 f_near] ro [oX7 a_t a_d a_e a_kept v_isKept a_found a_tape v_taped v_gone a_hears a_near a_firstDay a_daily v_begin v_round v_leastFar v_leastWhere o0 a_heardNow v_firstMove v_at v_sort v_from v_value v_fault a_bitsOf a_sizeOf a_number a_passing, aA cI a_d 40 o1, aA cI a_e 40 o2, aA cI a_found 7 o3, aA cI a_hears 10 o4, aA cI a_near 10 o5]) 0 0 (va_A [oX7 a_t a_d a_e a_kept v_isKept a_found a_tape v_taped v_gone a_hears a_near a_firstDay a_daily v_begin v_round v_leastFar v_leastWhere v_mostLed a_heardNow v_firstMove v_at v_sort v_from v_value v_fault a_bitsOf a_sizeOf a_number a_passing, aA cI a_d 40 f_d, aA cI a_e 40 f_e, aA cI a_found 7 f_found, aA cI a_hears 10 f_hears, aA cI a_near 10 f_near] sz) := by
  refine g_metI (Out := Int32 × Int32 × (Nat → Int32) × (Nat → Int32) × (Nat → Int32) × (Nat → Int32) × (Nat → Int32)) (fun oo => oo.1) (fun oo => [oX7 a_t a_d a_e a_kept v_isKept a_found a_tape v_taped v_gone a_hears a_near a_firstDay a_daily v_begin v_round v_leastFar v_leastWhere oo.2.1 a_heardNow v_firstMove v_at v_sort v_from v_value v_fault a_bitsOf a_sizeOf a_number a_passing, aA cI a_d 40 oo.2.2.1, aA cI a_e 40 oo.2.2.2.1, aA cI a_found 7 oo.2.2.2.2.1, aA cI a_hears 10 oo.2.2.2.2.2.1, aA cI a_near 10 oo.2.2.2.2.2.2]) (ro, o0, o1, o2, o3, o4, o5) (own := RX7) (lv := [(0, .ref a_t)]) (by decide) rfl rfl (Nat.le_of_ble_eq_true rfl) rfl ?_
  intro p e s m args below meth c Q ls C hret hV hl
  obtain ⟨out, hout⟩ : ∃ z : Int32 × Int32 × (Nat → Int32) × (Nat → Int32) × (Nat → Int32) × (Nat → Int32) × (Nat → Int32), z = (ro, o0, o1, o2, o3, o4, o5) := ⟨_, rfl⟩
  rw [← hout] at hF hret
  obtain ⟨H0, hH0⟩ : ∃ z : Heap, z = s.heap := ⟨_, rfl⟩
  obtain ⟨A0, hA0⟩ : ∃ z : Nat → Prop, z = va_A [oX7 a_t a_d a_e a_kept v_isKept a_found a_tape v_taped v_gone a_hears a_near a_firstDay a_daily v_begin v_round v_leastFar v_leastWhere v_mostLed a_heardNow v_firstMove v_at v_sort v_from v_value v_fault a_bitsOf a_sizeOf a_number a_passing, aA cI a_d 40 f_d, aA cI a_e 40 f_e, aA cI a_found 7 f_found, aA cI a_hears 10 f_hears, aA cI a_near 10 f_near] s.heap.size := ⟨_, rfl⟩
  rw [← hA0] at hret hV
  rw [← hH0] at hret hV
  rw [← hH0]
  obtain ⟨H, locs, hH⟩ : ∃ (z : Heap) (y : List Loc), z = H0 ∧ y = [] := ⟨_, _, rfl, rfl⟩
  rw [← hH.1, ← hH.2]
  have hV : gV (dC, dI) (gT cI cB cO) A0 H0 s [oX7 a_t a_d a_e a_kept v_isKept a_found a_tape v_taped v_gone a_hears a_near a_firstDay a_daily v_begin v_round v_leastFar v_leastWhere v_mostLed a_heardNow v_firstMove v_at v_sort v_from v_value v_fault a_bitsOf a_sizeOf a_number a_passing, aA cI a_d 40 f_d, aA cI a_e 40 f_e, aA cI a_found 7 f_found, aA cI a_hears 10 f_hears, aA cI a_near 10 f_near] H locs := by rw [hH.1, hH.2]; exact hV
  unfold F_X7_leads at hF
  refine lv_aload_n C.1 C.2.1 dX7_leads_0 rfl (lv_at hl 0 rfl) ?_
  refine g_get C hV flX7_leads_7 0 rfl rfl dX7_leads_1 ?_
  refine lv_iconst (v := 0) C.1 C.2.1 dX7_leads_4 rfl ?_
  refine g_iald C hV 1 rfl hF dX7_leads_5 (fun x1 hF => ?_)
  refine lv_bipush (v := 10) C.1 C.2.1 dX7_leads_6 rfl ?_
  refine g_icmp_ne (tgt := 17) C hF dX7_leads_8 rfl (fun hF => ?_) (fun hF => ?_)
  · refine lv_aload_n C.1 C.2.1 dX7_leads_17 rfl (lv_at hl 0 rfl) ?_
    obtain ⟨x2, x3, g4, g5, g6, g7, hc, hF⟩ := bd6_s hF
    refine g_cVi (ws' := [oX7 a_t a_d a_e a_kept v_isKept a_found a_tape v_taped v_gone a_hears a_near a_firstDay a_daily v_begin v_round v_leastFar v_leastWhere x3 a_heardNow v_firstMove v_at v_sort v_from v_value v_fault a_bitsOf a_sizeOf a_number a_passing, aA cI a_d 40 g4, aA cI a_e 40 g5, aA cI a_found 7 f_found, aA cI a_hears 10 g6, aA cI a_near 10 g7]) (wr := [aA cI a_found 7 f_found]) C hV (k_X7_findPlace l dC dI cI cB cO n0 H.size a_t a_d a_e a_kept a_found a_tape a_hears a_near a_firstDay a_daily a_heardNow a_bitsOf a_sizeOf a_number a_passing v_isKept v_taped v_gone v_begin v_round v_leastFar v_leastWhere v_mostLed v_firstMove v_at v_sort v_from v_value v_fault f_d f_e f_hears f_near hc) mdX7_findPlace gX7_leads_X7_findPlace rfl rfl ⟨Nat.le_of_ble_eq_true rfl, Nat.le_of_ble_eq_true rfl⟩ [0, 1, 2, 4, 5] [3] [1, 2, 3, 0, 4, 5] rfl rfl rfl rfl rfl rfl rfl rfl rfl rfl hl.1 (Nat.le_of_ble_eq_true rfl) rfl dX7_leads_18 (fun H locs hV => ?_)
    refine lv_istore_n (lv' := [(1, .int x2), (0, .ref a_t)]) C.1 C.2.1 dX7_leads_21 rfl hl (by decide) rfl (fun ls hl => ?_)
    refine lv_aload_n C.1 C.2.1 dX7_leads_22 rfl (lv_at hl 1 rfl) ?_
    refine g_get C hV flX7_leads_180 0 rfl rfl dX7_leads_23 ?_
    exact hret (x3, x3, g4, g5, f_found, g6, g7) _ _ _ _ dX7_leads_26 hF hV
  refine lv_aload_n C.1 C.2.1 dX7_leads_11 rfl (lv_at hl 0 rfl) ?_
  refine lv_iconst (v := 4) C.1 C.2.1 dX7_leads_12 rfl ?_
  obtain ⟨x8, g9, hc, hF⟩ := bd2_s hF
  refine g_cVi (ws' := [oX7 a_t a_d a_e a_kept v_isKept a_found a_tape v_taped v_gone a_hears a_near a_firstDay a_daily v_begin v_round v_leastFar v_leastWhere v_mostLed a_heardNow v_firstMove v_at v_sort v_from v_value v_fault a_bitsOf a_sizeOf a_number a_passing, aA cI a_d 40 f_d, aA cI a_e 40 f_e, aA cI a_found 7 g9, aA cI a_hears 10 f_hears, aA cI a_near 10 f_near]) (wr := [aA cI a_d 40 f_d, aA cI a_e 40 f_e, aA cI a_hears 10 f_hears, aA cI a_near 10 f_near]) C hV (k_X7_finds l dC dI cI cB cO n0 H.size a_t a_d a_e a_kept a_found a_tape a_hears a_near a_firstDay a_daily a_heardNow a_bitsOf a_sizeOf a_number a_passing v_isKept v_taped v_gone v_begin v_round v_leastFar v_leastWhere v_mostLed v_firstMove v_at v_sort v_from v_value v_fault f_found 4 hc) mdX7_finds gX7_leads_X7_finds rfl rfl ⟨Nat.le_of_ble_eq_true rfl, Nat.le_of_ble_eq_true rfl⟩ [0, 3] [1, 2, 4, 5] [4, 0, 1, 5, 2, 3] rfl rfl rfl rfl rfl rfl rfl rfl rfl rfl hl.1 (Nat.le_of_ble_eq_true rfl) rfl dX7_leads_13 (fun H locs hV => ?_)
  exact hret (x8, v_mostLed, f_d, f_e, g9, f_hears, f_near) _ _ _ _ dX7_leads_16 hF hV
