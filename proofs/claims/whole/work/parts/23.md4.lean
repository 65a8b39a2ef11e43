abbrev rmX7_wrongHere : Room := { frames := 0, cells := 0, slots := 0, locals := 0 }
theorem mdX7_wrongHere : gMd yX7_wrongHere wsX7_wrongHere cX7_wrongHere 1 none 0 := ⟨⟨_, rfl⟩, by decide +kernel⟩
theorem flX7_wrongHere_251 : gFL wsX7_wrongHere RX7 251 7 23 RX7 TX7 28 := ⟨rfl, fun w h => List.mem_cons_of_mem _ (List.mem_append_right _ (h)), Nat.le_of_ble_eq_true rfl, List.mem_cons_of_mem _ (List.mem_append_left _ (List.mem_of_getElem? (i := 0) rfl))⟩
theorem fpX7_wrongHere_251 : gFP wsX7_wrongHere RX7 251 7 23 RX7 TX7 28 .int := ⟨flX7_wrongHere_251, ⟨tyX7, tyX7_ok⟩, nmX7, rfl, by decide +kernel⟩
theorem flX7_wrongHere_225 : gFL wsX7_wrongHere RX7 225 7 21 RX7 TX7 28 := ⟨rfl, fun w h => List.mem_cons_of_mem _ (List.mem_append_right _ (h)), Nat.le_of_ble_eq_true rfl, List.mem_cons_of_mem _ (List.mem_append_left _ (List.mem_of_getElem? (i := 1) rfl))⟩
def F_X7_wrongHere (n0 : Nat) (v_from : Int32) (v_fault : Int32) : Option (Int32) := (if 0 ≤ v_fault then some v_fault else some v_from)
set_option maxRecDepth 100000 in
set_option maxHeartbeats 4000000 in
theorem k_X7_wrongHere (l : Launch) (dC : Nat → ClassId) (dI : Nat → Nat → Nat) (cI cB cO : ClassId) (n0 sz : Nat) (a_t : Nat) (a_d : Nat) (a_e : Nat) (a_kept : Nat) (a_found : Nat) (a_tape : Nat) (a_hears : Nat) (a_near : Nat) (a_firstDay : Nat) (a_daily : Nat) (a_heardNow : Nat) (a_bitsOf : Nat) (a_sizeOf : Nat) (a_number : Nat) (a_passing : Nat)   (v_isKept : Int32) (v_taped : Int32) (v_gone : Int32) (v_begin : Int32) (v_round : Int32) (v_leastFar : Int32) (v_leastWhere : Int32) (v_mostLed : Int32) (v_firstMove : Int32) (v_at : Int32) (v_sort : Int32) (v_from : Int32) (v_value : Int64) (v_fault : Int32)   {o0 : Int32} (hF : F_X7_wrongHere n0 v_from v_fault = some o0) : Met l yX7_wrongHere wsX7_wrongHere rmX7_wrongHere (va_Pc [.ref a_t] (gPre (dC, dI) (gT cI cB cO) sz [oX7 a_t a_d a_e a_kept v_isKept a_found a_tape v_taped v_gone a_hears a_near a_firstDay a_daily v_begin v_round v_leastFar v_leastWhere v_mostLed a_heardNow v_firstMove v_at v_sort v_from v_value v_fault a_bitsOf a_sizeOf a_number a_passing])) (gQv (dC, dI) (gT cI cB cO) sz [oX7 a_t a_d a_e a_kept v_isKept a_found a_tape v_taped v_gone a_hears a_near a_firstDay a_daily v_begin v_round v_leastFar v_leastWhere v_mostLed a_heardNow v_firstMove v_at v_sort v_from v_value v_fault a_bitsOf a_sizeOf a_number a_passing] [oX7 a_t a_d a_e a_kept v_isKept a_found a_tape v_taped v_gone a_hears a_near a_firstDay a_daily v_begin v_round v_leastFar v_leastWhere v_mostLed a_heardNow v_firstMove v_at v_sort v_from v_value o0 a_bitsOf a_sizeOf a_number a_passing]) 0 0 (va_A [oX7 a_t a_d a_e a_kept v_isKept a_found a_tape v_taped v_gone a_hears a_near a_firstDay a_daily v_begin v_round v_leastFar v_leastWhere v_mostLed a_heardNow v_firstMove v_at v_sort v_from v_value v_fault a_bitsOf a_sizeOf a_number a_passing] sz) := by
  refine g_metV (Out := Int32) (fun oo => [oX7 a_t a_d a_e a_kept v_isKept a_found a_tape v_taped v_gone a_hears a_near a_firstDay a_daily v_begin v_round v_leastFar v_leastWhere v_mostLed a_heardNow v_firstMove v_at v_sort v_from v_value oo a_bitsOf a_sizeOf a_number a_passing]) o0 (own := RX7) (lv := [(0, .ref a_t)]) (by decide) rfl rfl (Nat.le_of_ble_eq_true rfl) rfl ?_
  intro p e s m args below meth c Q ls C hret hV hl
  obtain ⟨out, hout⟩ : ∃ z : Int32, z = o0 := ⟨_, rfl⟩
  rw [← hout] at hF hret
  obtain ⟨H0, hH0⟩ : ∃ z : Heap, z = s.heap := ⟨_, rfl⟩
  obtain ⟨A0, hA0⟩ : ∃ z : Nat → Prop, z = va_A [oX7 a_t a_d a_e a_kept v_isKept a_found a_tape v_taped v_gone a_hears a_near a_firstDay a_daily v_begin v_round v_leastFar v_leastWhere v_mostLed a_heardNow v_firstMove v_at v_sort v_from v_value v_fault a_bitsOf a_sizeOf a_number a_passing] s.heap.size := ⟨_, rfl⟩
  rw [← hA0] at hret hV
  rw [← hH0] at hret hV
  rw [← hH0]
  obtain ⟨H, locs, hH⟩ : ∃ (z : Heap) (y : List Loc), z = H0 ∧ y = [] := ⟨_, _, rfl, rfl⟩
  rw [← hH.1, ← hH.2]
  have hV : gV (dC, dI) (gT cI cB cO) A0 H0 s [oX7 a_t a_d a_e a_kept v_isKept a_found a_tape v_taped v_gone a_hears a_near a_firstDay a_daily v_begin v_round v_leastFar v_leastWhere v_mostLed a_heardNow v_firstMove v_at v_sort v_from v_value v_fault a_bitsOf a_sizeOf a_number a_passing] H locs := by rw [hH.1, hH.2]; exact hV
  unfold F_X7_wrongHere at hF
  refine lv_aload_n C.1 C.2.1 dX7_wrongHere_0 rfl (lv_at hl 0 rfl) ?_
  refine lv_aload_n C.1 C.2.1 dX7_wrongHere_1 rfl (lv_at hl 0 rfl) ?_
  refine g_get C hV flX7_wrongHere_251 0 rfl rfl dX7_wrongHere_2 ?_
  refine g_if_ge (tgt := 15) C hF dX7_wrongHere_5 rfl (fun hF => ?_) (fun hF => ?_)
  · refine lv_aload_n C.1 C.2.1 dX7_wrongHere_15 rfl (lv_at hl 0 rfl) ?_
    refine g_get C hV flX7_wrongHere_251 0 rfl rfl dX7_wrongHere_16 ?_
    refine g_put (ws' := [oX7 a_t a_d a_e a_kept v_isKept a_found a_tape v_taped v_gone a_hears a_near a_firstDay a_daily v_begin v_round v_leastFar v_leastWhere v_mostLed a_heardNow v_firstMove v_at v_sort v_from v_value v_fault a_bitsOf a_sizeOf a_number a_passing]) C hV fpX7_wrongHere_251 0 rfl rfl rfl (Nat.le_of_ble_eq_true rfl) rfl dX7_wrongHere_19 (fun H locs hV => ?_)
    exact hret v_fault _ _ _ _ dX7_wrongHere_22 hF hV
  refine lv_aload_n C.1 C.2.1 dX7_wrongHere_8 rfl (lv_at hl 0 rfl) ?_
  refine g_get C hV flX7_wrongHere_225 0 rfl rfl dX7_wrongHere_9 ?_
  refine lv_goto (tgt := 19) C.1 C.2.1 dX7_wrongHere_12 rfl ?_
  refine g_put (ws' := [oX7 a_t a_d a_e a_kept v_isKept a_found a_tape v_taped v_gone a_hears a_near a_firstDay a_daily v_begin v_round v_leastFar v_leastWhere v_mostLed a_heardNow v_firstMove v_at v_sort v_from v_value v_from a_bitsOf a_sizeOf a_number a_passing]) C hV fpX7_wrongHere_251 0 rfl rfl rfl (Nat.le_of_ble_eq_true rfl) rfl dX7_wrongHere_19 (fun H locs hV => ?_)
  exact hret v_from _ _ _ _ dX7_wrongHere_22 hF hV
abbrev rmX7_isWord : Room := { frames := 0, cells := 0, slots := 0, locals := 0 }
theorem mdX7_isWord : gMd yX7_isWord wsX7_isWord cX7_isWord 3 (some .boolean) 1 := ⟨⟨_, rfl⟩, by decide +kernel⟩
theorem flX7_isWord_232 : gFL wsX7_isWord RX7 232 7 20 RX7 TX7 28 := ⟨rfl, fun w h => List.mem_cons_of_mem _ (List.mem_append_right _ (h)), Nat.le_of_ble_eq_true rfl, List.mem_cons_of_mem _ (List.mem_append_left _ (List.mem_of_getElem? (i := 0) rfl))⟩
theorem flX7_isWord_228 : gFL wsX7_isWord RX7 228 7 22 RX7 TX7 28 := ⟨rfl, fun w h => List.mem_cons_of_mem _ (List.mem_append_right _ (h)), Nat.le_of_ble_eq_true rfl, List.mem_cons_of_mem _ (List.mem_append_left _ (List.mem_of_getElem? (i := 1) rfl))⟩
def F_X7_isWord (n0 : Nat) (v_sort : Int32) (v_value : Int64) (p1 : Int64) : Option (Int32) := (if v_sort = 1 then nm (lg_cmp v_value p1) (fun x1 => (if x1 = 0 then some (1 : Int32) else some (0 : Int32))) else some (0 : Int32))
set_option maxRecDepth 100000 in
set_option maxHeartbeats 4000000 in
theorem k_X7_isWord (l : Launch) (dC : Nat → ClassId) (dI : Nat → Nat → Nat) (cI cB cO : ClassId) (n0 sz : Nat) (a_t : Nat) (a_d : Nat) (a_e : Nat) (a_kept : Nat) (a_found : Nat) (a_tape : Nat) (a_hears : Nat) (a_near : Nat) (a_firstDay : Nat) (a_daily : Nat) (a_heardNow : Nat) (a_bitsOf : Nat) (a_sizeOf : Nat) (a_number : Nat) (a_passing : Nat)   (v_isKept : Int32) (v_taped : Int32) (v_gone : Int32) (v_begin : Int32) (v_round : Int32) (v_leastFar : Int32) (v_leastWhere : Int32) (v_mostLed : Int32) (v_firstMove : Int32) (v_at : Int32) (v_sort : Int32) (v_from : Int32) (v_value : Int64) (v_fault : Int32) (p1 : Int64)  {ro : Int32} (hF : F_X7_isWord n0 v_sort v_value p1 = some ro) : Met l yX7_isWord wsX7_isWord rmX7_isWord (va_Pc [.ref a_t, .long p1] (gPre (dC, dI) (gT cI cB cO) sz [oX7 a_t a_d a_e a_kept v_isKept a_found a_tape v_taped v_gone a_hears a_near a_firstDay a_daily v_begin v_round v_leastFar v_leastWhere v_mostLed a_heardNow v_firstMove v_at v_sort v_from v_value v_fault a_bitsOf a_sizeOf a_number a_passing])) (gQi (dC, dI) (gT cI cB cO) sz [oX7 a_t a_d a_e a_kept v_isKept a_found a_tape v_taped v_gone a_hears a_near a_firstDay a_daily v_begin v_round v_leastFar v_leastWhere v_mostLed a_heardNow v_firstMove v_at v_sort v_from v_value v_fault a_bitsOf a_sizeOf a_number a_passing] ro [oX7 a_t a_d a_e a_kept v_isKept a_found a_tape v_taped v_gone a_hears a_near a_firstDay a_daily v_begin v_round v_leastFar v_leastWhere v_mostLed a_heardNow v_firstMove v_at v_sort v_from v_value v_fault a_bitsOf a_sizeOf a_number a_passing]) 0 0 (va_A [oX7 a_t a_d a_e a_kept v_isKept a_found a_tape v_taped v_gone a_hears a_near a_firstDay a_daily v_begin v_round v_leastFar v_leastWhere v_mostLed a_heardNow v_firstMove v_at v_sort v_from v_value v_fault a_bitsOf a_sizeOf a_number a_passing] sz) := by
  refine g_metZ (Out := Int32) (fun oo => oo) (fun oo => [oX7 a_t a_d a_e a_kept v_isKept a_found a_tape v_taped v_gone a_hears a_near a_firstDay a_daily v_begin v_round v_leastFar v_leastWhere v_mostLed a_heardNow v_firstMove v_at v_sort v_from v_value v_fault a_bitsOf a_sizeOf a_number a_passing]) ro (own := RX7) (lv := [(0, .ref a_t), (1, .long p1)]) (by decide) rfl rfl (Nat.le_of_ble_eq_true rfl) rfl ?_
  intro p e s m args below meth c Q ls C hret hV hl
  obtain ⟨out, hout⟩ : ∃ z : Int32, z = ro := ⟨_, rfl⟩
  rw [← hout] at hF hret
  obtain ⟨H0, hH0⟩ : ∃ z : Heap, z = s.heap := ⟨_, rfl⟩
  obtain ⟨A0, hA0⟩ : ∃ z : Nat → Prop, z = va_A [oX7 a_t a_d a_e a_kept v_isKept a_found a_tape v_taped v_gone a_hears a_near a_firstDay a_daily v_begin v_round v_leastFar v_leastWhere v_mostLed a_heardNow v_firstMove v_at v_sort v_from v_value v_fault a_bitsOf a_sizeOf a_number a_passing] s.heap.size := ⟨_, rfl⟩
  rw [← hA0] at hret hV
  rw [← hH0] at hret hV
  rw [← hH0]
  obtain ⟨H, locs, hH⟩ : ∃ (z : Heap) (y : List Loc), z = H0 ∧ y = [] := ⟨_, _, rfl, rfl⟩
  rw [← hH.1, ← hH.2]
  have hV : gV (dC, dI) (gT cI cB cO) A0 H0 s [oX7 a_t a_d a_e a_kept v_isKept a_found a_tape v_taped v_gone a_hears a_near a_firstDay a_daily v_begin v_round v_leastFar v_leastWhere v_mostLed a_heardNow v_firstMove v_at v_sort v_from v_value v_fault a_bitsOf a_sizeOf a_number a_passing] H locs := by rw [hH.1, hH.2]; exact hV
  unfold F_X7_isWord at hF
  refine lv_aload_n C.1 C.2.1 dX7_isWord_0 rfl (lv_at hl 0 rfl) ?_
  refine g_get C hV flX7_isWord_232 0 rfl rfl dX7_isWord_1 ?_
  refine lv_iconst (v := 1) C.1 C.2.1 dX7_isWord_4 rfl ?_
  refine g_icmp_ne (tgt := 21) C hF dX7_isWord_5 rfl (fun hF => ?_) (fun hF => ?_)
  · refine lv_iconst (v := 0) C.1 C.2.1 dX7_isWord_21 rfl ?_
    exact hret (0 : Int32) _ _ _ _ dX7_isWord_22 hF (Or.inl rfl) hV
  refine lv_aload_n C.1 C.2.1 dX7_isWord_8 rfl (lv_at hl 0 rfl) ?_
  refine g_get C hV flX7_isWord_228 0 rfl rfl dX7_isWord_9 ?_
  refine lv_lload_n C.1 C.2.1 dX7_isWord_12 rfl (lv_at hl 1 rfl) ?_
  refine g_lcmp C hF dX7_isWord_13 (fun x1 hF => ?_)
  refine g_if_ne (tgt := 21) C hF dX7_isWord_14 rfl (fun hF => ?_) (fun hF => ?_)
  · refine lv_iconst (v := 0) C.1 C.2.1 dX7_isWord_21 rfl ?_
    exact hret (0 : Int32) _ _ _ _ dX7_isWord_22 hF (Or.inl rfl) hV
  refine lv_iconst (v := 1) C.1 C.2.1 dX7_isWord_17 rfl ?_
  refine lv_goto (tgt := 22) C.1 C.2.1 dX7_isWord_18 rfl ?_
  exact hret (1 : Int32) _ _ _ _ dX7_isWord_22 hF (Or.inr rfl) hV
abbrev rmX7_kindHere : Room := { frames := 1, cells := 0, slots := 0, locals := 22 }
theorem mdX7_kindHere : gMd yX7_kindHere wsX7_kindHere cX7_kindHere 1 (some .int) 0 := ⟨⟨_, rfl⟩, by decide +kernel⟩
theorem ctX7_kindHere_254 : Cond.constantLong RX7 254 397703 ∈ wsX7_kindHere := List.mem_cons_of_mem _ (List.mem_append_left _ (List.mem_of_getElem? (i := 0) rfl))
theorem ctX7_kindHere_260 : Cond.constantLong RX7 260 2111526979 ∈ wsX7_kindHere := List.mem_cons_of_mem _ (List.mem_append_left _ (List.mem_of_getElem? (i := 1) rfl))
theorem ctX7_kindHere_262 : Cond.constantLong RX7 262 6465300680 ∈ wsX7_kindHere := List.mem_cons_of_mem _ (List.mem_append_left _ (List.mem_of_getElem? (i := 2) rfl))
theorem ctX7_kindHere_264 : Cond.constantLong RX7 264 271733 ∈ wsX7_kindHere := List.mem_cons_of_mem _ (List.mem_append_left _ (List.mem_of_getElem? (i := 3) rfl))
theorem ctX7_kindHere_266 : Cond.constantLong RX7 266 47955510682 ∈ wsX7_kindHere := List.mem_cons_of_mem _ (List.mem_append_left _ (List.mem_of_getElem? (i := 4) rfl))
theorem ctX7_kindHere_268 : Cond.constantLong RX7 268 37404235996 ∈ wsX7_kindHere := List.mem_cons_of_mem _ (List.mem_append_left _ (List.mem_of_getElem? (i := 5) rfl))
theorem ctX7_kindHere_270 : Cond.constantLong RX7 270 46231794825781 ∈ wsX7_kindHere := List.mem_cons_of_mem _ (List.mem_append_left _ (List.mem_of_getElem? (i := 6) rfl))
def F_X7_kindHere (n0 : Nat) (v_sort : Int32) (v_value : Int64) : Option (Int32) := bd1 (F_X7_isWord n0 v_sort v_value 397703) (fun x1 => (if x1 = 0 then bd1 (F_X7_isWord n0 v_sort v_value 2111526979) (fun x2 => (if x2 = 0 then bd1 (F_X7_isWord n0 v_sort v_value 6465300680) (fun x3 => (if x3 = 0 then bd1 (F_X7_isWord n0 v_sort v_value 271733) (fun x4 => (if x4 = 0 then bd1 (F_X7_isWord n0 v_sort v_value 47955510682) (fun x5 => (if x5 = 0 then bd1 (F_X7_isWord n0 v_sort v_value 37404235996) (fun x6 => (if x6 = 0 then bd1 (F_X7_isWord n0 v_sort v_value 46231794825781) (fun x7 => (if x7 = 0 then some ((-1)) else some (6 : Int32))) else some (5 : Int32))) else some (4 : Int32))) else some (3 : Int32))) else some (2 : Int32))) else some (1 : Int32))) else some (0 : Int32)))
set_option maxRecDepth 100000 in
set_option maxHeartbeats 4000000 in
theorem k_X7_kindHere (l : Launch) (dC : Nat → ClassId) (dI : Nat → Nat → Nat) (cI cB cO : ClassId) (n0 sz : Nat) (a_t : Nat) (a_d : Nat) (a_e : Nat) (a_kept : Nat) (a_found : Nat) (a_tape : Nat) (a_hears : Nat) (a_near : Nat) (a_firstDay : Nat) (a_daily : Nat) (a_heardNow : Nat) (a_bitsOf : Nat) (a_sizeOf : Nat) (a_number : Nat) (a_passing : Nat)   (v_isKept : Int32) (v_taped : Int32) (v_gone : Int32) (v_begin : Int32) (v_round : Int32) (v_leastFar : Int32) (v_leastWhere : Int32) (v_mostLed : Int32) (v_firstMove : Int32) (v_at : Int32) (v_sort : Int32) (v_from : Int32) (v_value : Int64) (v_fault : Int32)   {ro : Int32} (hF : F_X7_kindHere n0 v_sort v_value = some ro) : Met l yX7_kindHere wsX7_kindHere rmX7_kindHere (va_Pc [.ref a_t] (gPre (dC, dI) (gT cI cB cO) sz [oX7 a_t a_d a_e a_kept v_isKept a_found a_tape v_taped v_gone a_hears a_near a_firstDay a_daily v_begin v_round v_leastFar v_leastWhere v_mostLed a_heardNow v_firstMove v_at v_sort v_from v_value v_fault a_bitsOf a_sizeOf a_number a_passing])) (gQi (dC, dI) (gT cI cB cO) sz [oX7 a_t a_d a_e a_kept v_isKept a_found a_tape v_taped v_gone a_hears a_near a_firstDay a_daily v_begin v_round v_leastFar v_leastWhere v_mostLed a_heardNow v_firstMove v_at v_sort v_from v_value v_fault a_bitsOf a_sizeOf a_number a_passing] ro [oX7 a_t a_d a_e a_kept v_isKept a_found a_tape v_taped v_gone a_hears a_near a_firstDay a_daily v_begin v_round v_leastFar v_leastWhere v_mostLed a_heardNow v_firstMove v_at v_sort v_from v_value v_fault a_bitsOf a_sizeOf a_number a_passing]) 0 0 (va_A [oX7 a_t a_d a_e a_kept v_isKept a_found a_tape v_taped v_gone a_hears a_near a_firstDay a_daily v_begin v_round v_leastFar v_leastWhere v_mostLed a_heardNow v_firstMove v_at v_sort v_from v_value v_fault a_bitsOf a_sizeOf a_number a_passing] sz) := by
  refine g_metI (Out := Int32) (fun oo => oo) (fun oo => [oX7 a_t a_d a_e a_kept v_isKept a_found a_tape v_taped v_gone a_hears a_near a_firstDay a_daily v_begin v_round v_leastFar v_leastWhere v_mostLed a_heardNow v_firstMove v_at v_sort v_from v_value v_fault a_bitsOf a_sizeOf a_number a_passing]) ro (own := RX7) (lv := [(0, .ref a_t)]) (by decide) rfl rfl (Nat.le_of_ble_eq_true rfl) rfl ?_
  intro p e s m args below meth c Q ls C hret hV hl
  obtain ⟨out, hout⟩ : ∃ z : Int32, z = ro := ⟨_, rfl⟩
  rw [← hout] at hF hret
  obtain ⟨H0, hH0⟩ : ∃ z : Heap, z = s.heap := ⟨_, rfl⟩
  obtain ⟨A0, hA0⟩ : ∃ z : Nat → Prop, z = va_A [oX7 a_t a_d a_e a_kept v_isKept a_found a_tape v_taped v_gone a_hears a_near a_firstDay a_daily v_begin v_round v_leastFar v_leastWhere v_mostLed a_heardNow v_firstMove v_at v_sort v_from v_value v_fault a_bitsOf a_sizeOf a_number a_passing] s.heap.size := ⟨_, rfl⟩
  rw [← hA0] at hret hV
  rw [← hH0] at hret hV
  rw [← hH0]
  obtain ⟨H, locs, hH⟩ : ∃ (z : Heap) (y : List Loc), z = H0 ∧ y = [] := ⟨_, _, rfl, rfl⟩
  rw [← hH.1, ← hH.2]
  have hV : gV (dC, dI) (gT cI cB cO) A0 H0 s [oX7 a_t a_d a_e a_kept v_isKept a_found a_tape v_taped v_gone a_hears a_near a_firstDay a_daily v_begin v_round v_leastFar v_leastWhere v_mostLed a_heardNow v_firstMove v_at v_sort v_from v_value v_fault a_bitsOf a_sizeOf a_number a_passing] H locs := by rw [hH.1, hH.2]; exact hV
  unfold F_X7_kindHere at hF
  refine lv_aload_n C.1 C.2.1 dX7_kindHere_0 rfl (lv_at hl 0 rfl) ?_
  refine lv_ldc2 (v := 397703) C.1 C.2.1 C.2.2.2.1 (C.2.2.2.2 _ ctX7_kindHere_254) dX7_kindHere_1 ?_
  obtain ⟨x1, hc, hF⟩ := bd1_s hF
  refine g_cVi (ws' := [oX7 a_t a_d a_e a_kept v_isKept a_found a_tape v_taped v_gone a_hears a_near a_firstDay a_daily v_begin v_round v_leastFar v_leastWhere v_mostLed a_heardNow v_firstMove v_at v_sort v_from v_value v_fault a_bitsOf a_sizeOf a_number a_passing]) (wr := []) C hV (k_X7_isWord l dC dI cI cB cO n0 H.size a_t a_d a_e a_kept a_found a_tape a_hears a_near a_firstDay a_daily a_heardNow a_bitsOf a_sizeOf a_number a_passing v_isKept v_taped v_gone v_begin v_round v_leastFar v_leastWhere v_mostLed v_firstMove v_at v_sort v_from v_value v_fault 397703 hc) mdX7_isWord gX7_kindHere_X7_isWord rfl rfl ⟨Nat.le_of_ble_eq_true rfl, Nat.le_of_ble_eq_true rfl⟩ [0] [] [0] rfl rfl rfl rfl rfl rfl rfl rfl rfl rfl hl.1 (Nat.le_of_ble_eq_true rfl) rfl dX7_kindHere_4 (fun H locs hV => ?_)
  refine g_if_eq (tgt := 14) C hF dX7_kindHere_7 rfl (fun hF => ?_) (fun hF => ?_)
  · refine lv_aload_n C.1 C.2.1 dX7_kindHere_14 rfl (lv_at hl 0 rfl) ?_
    refine lv_ldc2 (v := 2111526979) C.1 C.2.1 C.2.2.2.1 (C.2.2.2.2 _ ctX7_kindHere_260) dX7_kindHere_15 ?_
    obtain ⟨x2, hc, hF⟩ := bd1_s hF
    refine g_cVi (ws' := [oX7 a_t a_d a_e a_kept v_isKept a_found a_tape v_taped v_gone a_hears a_near a_firstDay a_daily v_begin v_round v_leastFar v_leastWhere v_mostLed a_heardNow v_firstMove v_at v_sort v_from v_value v_fault a_bitsOf a_sizeOf a_number a_passing]) (wr := []) C hV (k_X7_isWord l dC dI cI cB cO n0 H.size a_t a_d a_e a_kept a_found a_tape a_hears a_near a_firstDay a_daily a_heardNow a_bitsOf a_sizeOf a_number a_passing v_isKept v_taped v_gone v_begin v_round v_leastFar v_leastWhere v_mostLed v_firstMove v_at v_sort v_from v_value v_fault 2111526979 hc) mdX7_isWord gX7_kindHere_X7_isWord rfl rfl ⟨Nat.le_of_ble_eq_true rfl, Nat.le_of_ble_eq_true rfl⟩ [0] [] [0] rfl rfl rfl rfl rfl rfl rfl rfl rfl rfl hl.1 (Nat.le_of_ble_eq_true rfl) rfl dX7_kindHere_18 (fun H locs hV => ?_)
    refine g_if_eq (tgt := 28) C hF dX7_kindHere_21 rfl (fun hF => ?_) (fun hF => ?_)
    · refine lv_aload_n C.1 C.2.1 dX7_kindHere_28 rfl (lv_at hl 0 rfl) ?_
      refine lv_ldc2 (v := 6465300680) C.1 C.2.1 C.2.2.2.1 (C.2.2.2.2 _ ctX7_kindHere_262) dX7_kindHere_29 ?_
      obtain ⟨x3, hc, hF⟩ := bd1_s hF
      refine g_cVi (ws' := [oX7 a_t a_d a_e a_kept v_isKept a_found a_tape v_taped v_gone a_hears a_near a_firstDay a_daily v_begin v_round v_leastFar v_leastWhere v_mostLed a_heardNow v_firstMove v_at v_sort v_from v_value v_fault a_bitsOf a_sizeOf a_number a_passing]) (wr := []) C hV (k_X7_isWord l dC dI cI cB cO n0 H.size a_t a_d a_e a_kept a_found a_tape a_hears a_near a_firstDay a_daily a_heardNow a_bitsOf a_sizeOf a_number a_passing v_isKept v_taped v_gone v_begin v_round v_leastFar v_leastWhere v_mostLed v_firstMove v_at v_sort v_from v_value v_fault 6465300680 hc) mdX7_isWord gX7_kindHere_X7_isWord rfl rfl ⟨Nat.le_of_ble_eq_true rfl, Nat.le_of_ble_eq_true rfl⟩ [0] [] [0] rfl rfl rfl rfl rfl rfl rfl rfl rfl rfl hl.1 (Nat.le_of_ble_eq_true rfl) rfl dX7_kindHere_32 (fun H locs hV => ?_)
      refine g_if_eq (tgt := 42) C hF dX7_kindHere_35 rfl (fun hF => ?_) (fun hF => ?_)
      · refine lv_aload_n C.1 C.2.1 dX7_kindHere_42 rfl (lv_at hl 0 rfl) ?_
        refine lv_ldc2 (v := 271733) C.1 C.2.1 C.2.2.2.1 (C.2.2.2.2 _ ctX7_kindHere_264) dX7_kindHere_43 ?_
        obtain ⟨x4, hc, hF⟩ := bd1_s hF
        refine g_cVi (ws' := [oX7 a_t a_d a_e a_kept v_isKept a_found a_tape v_taped v_gone a_hears a_near a_firstDay a_daily v_begin v_round v_leastFar v_leastWhere v_mostLed a_heardNow v_firstMove v_at v_sort v_from v_value v_fault a_bitsOf a_sizeOf a_number a_passing]) (wr := []) C hV (k_X7_isWord l dC dI cI cB cO n0 H.size a_t a_d a_e a_kept a_found a_tape a_hears a_near a_firstDay a_daily a_heardNow a_bitsOf a_sizeOf a_number a_passing v_isKept v_taped v_gone v_begin v_round v_leastFar v_leastWhere v_mostLed v_firstMove v_at v_sort v_from v_value v_fault 271733 hc) mdX7_isWord gX7_kindHere_X7_isWord rfl rfl ⟨Nat.le_of_ble_eq_true rfl, Nat.le_of_ble_eq_true rfl⟩ [0] [] [0] rfl rfl rfl rfl rfl rfl rfl rfl rfl rfl hl.1 (Nat.le_of_ble_eq_true rfl) rfl dX7_kindHere_46 (fun H locs hV => ?_)
        refine g_if_eq (tgt := 56) C hF dX7_kindHere_49 rfl (fun hF => ?_) (fun hF => ?_)
        · refine lv_aload_n C.1 C.2.1 dX7_kindHere_56 rfl (lv_at hl 0 rfl) ?_
          refine lv_ldc2 (v := 47955510682) C.1 C.2.1 C.2.2.2.1 (C.2.2.2.2 _ ctX7_kindHere_266) dX7_kindHere_57 ?_
          obtain ⟨x5, hc, hF⟩ := bd1_s hF
          refine g_cVi (ws' := [oX7 a_t a_d a_e a_kept v_isKept a_found a_tape v_taped v_gone a_hears a_near a_firstDay a_daily v_begin v_round v_leastFar v_leastWhere v_mostLed a_heardNow v_firstMove v_at v_sort v_from v_value v_fault a_bitsOf a_sizeOf a_number a_passing]) (wr := []) C hV (k_X7_isWord l dC dI cI cB cO n0 H.size a_t a_d a_e a_kept a_found a_tape a_hears a_near a_firstDay a_daily a_heardNow a_bitsOf a_sizeOf a_number a_passing v_isKept v_taped v_gone v_begin v_round v_leastFar v_leastWhere v_mostLed v_firstMove v_at v_sort v_from v_value v_fault 47955510682 hc) mdX7_isWord gX7_kindHere_X7_isWord rfl rfl ⟨Nat.le_of_ble_eq_true rfl, Nat.le_of_ble_eq_true rfl⟩ [0] [] [0] rfl rfl rfl rfl rfl rfl rfl rfl rfl rfl hl.1 (Nat.le_of_ble_eq_true rfl) rfl dX7_kindHere_60 (fun H locs hV => ?_)
          refine g_if_eq (tgt := 70) C hF dX7_kindHere_63 rfl (fun hF => ?_) (fun hF => ?_)
          · refine lv_aload_n C.1 C.2.1 dX7_kindHere_70 rfl (lv_at hl 0 rfl) ?_
            refine lv_ldc2 (v := 37404235996) C.1 C.2.1 C.2.2.2.1 (C.2.2.2.2 _ ctX7_kindHere_268) dX7_kindHere_71 ?_
            obtain ⟨x6, hc, hF⟩ := bd1_s hF
            refine g_cVi (ws' := [oX7 a_t a_d a_e a_kept v_isKept a_found a_tape v_taped v_gone a_hears a_near a_firstDay a_daily v_begin v_round v_leastFar v_leastWhere v_mostLed a_heardNow v_firstMove v_at v_sort v_from v_value v_fault a_bitsOf a_sizeOf a_number a_passing]) (wr := []) C hV (k_X7_isWord l dC dI cI cB cO n0 H.size a_t a_d a_e a_kept a_found a_tape a_hears a_near a_firstDay a_daily a_heardNow a_bitsOf a_sizeOf a_number a_passing v_isKept v_taped v_gone v_begin v_round v_leastFar v_leastWhere v_mostLed v_firstMove v_at v_sort v_from v_value v_fault 37404235996 hc) mdX7_isWord gX7_kindHere_X7_isWord rfl rfl ⟨Nat.le_of_ble_eq_true rfl, Nat.le_of_ble_eq_true rfl⟩ [0] [] [0] rfl rfl rfl rfl rfl rfl rfl rfl rfl rfl hl.1 (Nat.le_of_ble_eq_true rfl) rfl dX7_kindHere_74 (fun H locs hV => ?_)
            refine g_if_eq (tgt := 84) C hF dX7_kindHere_77 rfl (fun hF => ?_) (fun hF => ?_)
            · refine lv_aload_n C.1 C.2.1 dX7_kindHere_84 rfl (lv_at hl 0 rfl) ?_
              refine lv_ldc2 (v := 46231794825781) C.1 C.2.1 C.2.2.2.1 (C.2.2.2.2 _ ctX7_kindHere_270) dX7_kindHere_85 ?_
              obtain ⟨x7, hc, hF⟩ := bd1_s hF
              refine g_cVi (ws' := [oX7 a_t a_d a_e a_kept v_isKept a_found a_tape v_taped v_gone a_hears a_near a_firstDay a_daily v_begin v_round v_leastFar v_leastWhere v_mostLed a_heardNow v_firstMove v_at v_sort v_from v_value v_fault a_bitsOf a_sizeOf a_number a_passing]) (wr := []) C hV (k_X7_isWord l dC dI cI cB cO n0 H.size a_t a_d a_e a_kept a_found a_tape a_hears a_near a_firstDay a_daily a_heardNow a_bitsOf a_sizeOf a_number a_passing v_isKept v_taped v_gone v_begin v_round v_leastFar v_leastWhere v_mostLed v_firstMove v_at v_sort v_from v_value v_fault 46231794825781 hc) mdX7_isWord gX7_kindHere_X7_isWord rfl rfl ⟨Nat.le_of_ble_eq_true rfl, Nat.le_of_ble_eq_true rfl⟩ [0] [] [0] rfl rfl rfl rfl rfl rfl rfl rfl rfl rfl hl.1 (Nat.le_of_ble_eq_true rfl) rfl dX7_kindHere_88 (fun H locs hV => ?_)
              refine g_if_eq (tgt := 99) C hF dX7_kindHere_91 rfl (fun hF => ?_) (fun hF => ?_)
              · refine lv_iconst (v := (-1)) C.1 C.2.1 dX7_kindHere_99 rfl ?_
                exact hret ((-1)) _ _ _ _ dX7_kindHere_100 hF hV
              refine lv_bipush (v := 6) C.1 C.2.1 dX7_kindHere_94 rfl ?_
              refine lv_goto (tgt := 100) C.1 C.2.1 dX7_kindHere_96 rfl ?_
              exact hret (6 : Int32) _ _ _ _ dX7_kindHere_100 hF hV
            refine lv_iconst (v := 5) C.1 C.2.1 dX7_kindHere_80 rfl ?_
            refine lv_goto (tgt := 100) C.1 C.2.1 dX7_kindHere_81 rfl ?_
            exact hret (5 : Int32) _ _ _ _ dX7_kindHere_100 hF hV
          refine lv_iconst (v := 4) C.1 C.2.1 dX7_kindHere_66 rfl ?_
          refine lv_goto (tgt := 100) C.1 C.2.1 dX7_kindHere_67 rfl ?_
          exact hret (4 : Int32) _ _ _ _ dX7_kindHere_100 hF hV
        refine lv_iconst (v := 3) C.1 C.2.1 dX7_kindHere_52 rfl ?_
        refine lv_goto (tgt := 100) C.1 C.2.1 dX7_kindHere_53 rfl ?_
        exact hret (3 : Int32) _ _ _ _ dX7_kindHere_100 hF hV
      refine lv_iconst (v := 2) C.1 C.2.1 dX7_kindHere_38 rfl ?_
      refine lv_goto (tgt := 100) C.1 C.2.1 dX7_kindHere_39 rfl ?_
      exact hret (2 : Int32) _ _ _ _ dX7_kindHere_100 hF hV
    refine lv_iconst (v := 1) C.1 C.2.1 dX7_kindHere_24 rfl ?_
    refine lv_goto (tgt := 100) C.1 C.2.1 dX7_kindHere_25 rfl ?_
    exact hret (1 : Int32) _ _ _ _ dX7_kindHere_100 hF hV
  refine lv_iconst (v := 0) C.1 C.2.1 dX7_kindHere_10 rfl ?_
  refine lv_goto (tgt := 100) C.1 C.2.1 dX7_kindHere_11 rfl ?_
  exact hret (0 : Int32) _ _ _ _ dX7_kindHere_100 hF hV
abbrev rmX7_numberHere : Room := { frames := 2, cells := 0, slots := 0, locals := 42 }
theorem mdX7_numberHere : gMd yX7_numberHere wsX7_numberHere cX7_numberHere 3 (some .int) 1 := ⟨⟨_, rfl⟩, by decide +kernel⟩
theorem flX7_numberHere_228 : gFL wsX7_numberHere RX7 228 7 22 RX7 TX7 28 := ⟨rfl, fun w h => List.mem_cons_of_mem _ (List.mem_append_right _ (h)), Nat.le_of_ble_eq_true rfl, List.mem_cons_of_mem _ (List.mem_append_left _ (List.mem_append_left _ (List.mem_of_getElem? (i := 0) rfl)))⟩
theorem flX7_numberHere_232 : gFL wsX7_numberHere RX7 232 7 20 RX7 TX7 28 := ⟨rfl, fun w h => List.mem_cons_of_mem _ (List.mem_append_right _ (h)), Nat.le_of_ble_eq_true rfl, List.mem_cons_of_mem _ (List.mem_append_left _ (List.mem_append_left _ (List.mem_of_getElem? (i := 1) rfl)))⟩
def F_X7_numberHere (n0 : Nat) (v_taped : Int32) (v_at : Int32) (v_sort : Int32) (v_from : Int32) (v_value : Int64) (v_fault : Int32) (f_tape : Nat → Int32) (p1 : Int32) : Option (Int32 × Int32 × Int32 × Int32 × Int64 × Int32) := nm (v_value.toInt32) (fun x1 => (if v_sort = 2 then nm (p1.toInt64) (fun x3 => nm (lg_cmp v_value x3) (fun x4 => (if x4 ≤ 0 then bd4 (F_X7_next n0 v_taped v_at v_sort v_from v_value f_tape) (fun x5 x6 x7 x8 => some (x1, x5, x6, x7, x8, v_fault)) else bd1 (F_X7_wrongHere n0 v_from v_fault) (fun x9 => some ((0, v_at, v_sort, v_from, v_value, x9) : Int32 × Int32 × Int32 × Int32 × Int64 × Int32))))) else bd1 (F_X7_wrongHere n0 v_from v_fault) (fun x2 => some ((0, v_at, v_sort, v_from, v_value, x2) : Int32 × Int32 × Int32 × Int32 × Int64 × Int32))))
set_option maxRecDepth 100000 in
set_option maxHeartbeats 4000000 in
theorem k_X7_numberHere (l : Launch) (dC : Nat → ClassId) (dI : Nat → Nat → Nat) (cI cB cO : ClassId) (n0 sz : Nat) (a_t : Nat) (a_d : Nat) (a_e : Nat) (a_kept : Nat) (a_found : Nat) (a_tape : Nat) (a_hears : Nat) (a_near : Nat) (a_firstDay : Nat) (a_daily : Nat) (a_heardNow : Nat) (a_bitsOf : Nat) (a_sizeOf : Nat) (a_number : Nat) (a_passing : Nat)   (v_isKept : Int32) (v_taped : Int32) (v_gone : Int32) (v_begin : Int32) (v_round : Int32) (v_leastFar : Int32) (v_leastWhere : Int32) (v_mostLed : Int32) (v_firstMove : Int32) (v_at : Int32) (v_sort : Int32) (v_from : Int32) (v_value : Int64) (v_fault : Int32) (f_tape : Nat → Int32) (p1 : Int32)  {ro : Int32} {o0 : Int32} {o1 : Int32} {o2 : Int32} {o3 : Int64} {o4 : Int32} (hF : F_X7_numberHere n0 v_taped v_at v_sort v_from v_value v_fault f_tape p1 = some (ro, o0, o1, o2, o3, o4)) : Met l yX7_numberHere wsX7_numberHere rmX7_numberHere (va_Pc [.ref a_t, .int p1] (gPre (dC, dI) (gT cI cB cO) sz [oX7 a_t a_d a_e a_kept v_isKept a_found a_tape v_taped v_gone a_hears a_near a_firstDay a_daily v_begin v_round v_leastFar v_leastWhere v_mostLed a_heardNow v_firstMove v_at v_sort v_from v_value v_fault a_bitsOf a_sizeOf a_number a_passing, aA cB a_tape 120 f_tape])) (gQi (dC, dI) (gT cI cB cO) sz [oX7 a_t a_d a_e a_kept v_isKept a_found a_tape v_taped v_gone a_hears a_near a_firstDay a_daily v_begin v_round v_leastFar v_leastWhere v_mostLed a_heardNow v_firstMove v_at v_sort v_from v_value v_fault a_bitsOf a_sizeOf a_number a_passing, aA cB a_tape 120 f_tape] ro [oX7 a_t a_d a_e a_kept v_isKept a_found a_tape v_taped v_gone a_hears a_near a_firstDay a_daily v_begin v_round v_leastFar v_leastWhere v_mostLed a_heardNow v_firstMove o0 o1 o2 o3 o4 a_bitsOf a_sizeOf a_number a_passing, aA cB a_tape 120 f_tape]) 0 0 (va_A [oX7 a_t a_d a_e a_kept v_isKept a_found a_tape v_taped v_gone a_hears a_near a_firstDay a_daily v_begin v_round v_leastFar v_leastWhere v_mostLed a_heardNow v_firstMove v_at v_sort v_from v_value v_fault a_bitsOf a_sizeOf a_number a_passing, aA cB a_tape 120 f_tape] sz) := by
  refine g_metI (Out := Int32 × Int32 × Int32 × Int32 × Int64 × Int32) (fun oo => oo.1) (fun oo => [oX7 a_t a_d a_e a_kept v_isKept a_found a_tape v_taped v_gone a_hears a_near a_firstDay a_daily v_begin v_round v_leastFar v_leastWhere v_mostLed a_heardNow v_firstMove oo.2.1 oo.2.2.1 oo.2.2.2.1 oo.2.2.2.2.1 oo.2.2.2.2.2 a_bitsOf a_sizeOf a_number a_passing, aA cB a_tape 120 f_tape]) (ro, o0, o1, o2, o3, o4) (own := RX7) (lv := [(0, .ref a_t), (1, .int p1)]) (by decide) rfl rfl (Nat.le_of_ble_eq_true rfl) rfl ?_
  intro p e s m args below meth c Q ls C hret hV hl
  obtain ⟨out, hout⟩ : ∃ z : Int32 × Int32 × Int32 × Int32 × Int64 × Int32, z = (ro, o0, o1, o2, o3, o4) := ⟨_, rfl⟩
  rw [← hout] at hF hret
  obtain ⟨H0, hH0⟩ : ∃ z : Heap, z = s.heap := ⟨_, rfl⟩
  obtain ⟨A0, hA0⟩ : ∃ z : Nat → Prop, z = va_A [oX7 a_t a_d a_e a_kept v_isKept a_found a_tape v_taped v_gone a_hears a_near a_firstDay a_daily v_begin v_round v_leastFar v_leastWhere v_mostLed a_heardNow v_firstMove v_at v_sort v_from v_value v_fault a_bitsOf a_sizeOf a_number a_passing, aA cB a_tape 120 f_tape] s.heap.size := ⟨_, rfl⟩
  rw [← hA0] at hret hV
  rw [← hH0] at hret hV
  rw [← hH0]
  obtain ⟨H, locs, hH⟩ : ∃ (z : Heap) (y : List Loc), z = H0 ∧ y = [] := ⟨_, _, rfl, rfl⟩
  rw [← hH.1, ← hH.2]
  have hV : gV (dC, dI) (gT cI cB cO) A0 H0 s [oX7 a_t a_d a_e a_kept v_isKept a_found a_tape v_taped v_gone a_hears a_near a_firstDay a_daily v_begin v_round v_leastFar v_leastWhere v_mostLed a_heardNow v_firstMove v_at v_sort v_from v_value v_fault a_bitsOf a_sizeOf a_number a_passing, aA cB a_tape 120 f_tape] H locs := by rw [hH.1, hH.2]; exact hV
  unfold F_X7_numberHere at hF
  refine lv_aload_n C.1 C.2.1 dX7_numberHere_0 rfl (lv_at hl 0 rfl) ?_
  refine g_get C hV flX7_numberHere_228 0 rfl rfl dX7_numberHere_1 ?_
  refine g_l2i C hF dX7_numberHere_4 (fun x1 hF => ?_)
  refine lv_istore_n (lv' := [(2, .int x1), (0, .ref a_t), (1, .int p1)]) C.1 C.2.1 dX7_numberHere_5 rfl hl (by decide) rfl (fun ls hl => ?_)
  refine lv_aload_n C.1 C.2.1 dX7_numberHere_6 rfl (lv_at hl 1 rfl) ?_
  refine g_get C hV flX7_numberHere_232 0 rfl rfl dX7_numberHere_7 ?_
  refine lv_iconst (v := 2) C.1 C.2.1 dX7_numberHere_10 rfl ?_
  refine g_icmp_ne (tgt := 24) C hF dX7_numberHere_11 rfl (fun hF => ?_) (fun hF => ?_)
  · refine lv_aload_n C.1 C.2.1 dX7_numberHere_24 rfl (lv_at hl 1 rfl) ?_
    obtain ⟨x2, hc, hF⟩ := bd1_s hF
    refine g_cVv (ws' := [oX7 a_t a_d a_e a_kept v_isKept a_found a_tape v_taped v_gone a_hears a_near a_firstDay a_daily v_begin v_round v_leastFar v_leastWhere v_mostLed a_heardNow v_firstMove v_at v_sort v_from v_value x2 a_bitsOf a_sizeOf a_number a_passing, aA cB a_tape 120 f_tape]) (wr := [aA cB a_tape 120 f_tape]) C hV (k_X7_wrongHere l dC dI cI cB cO n0 H.size a_t a_d a_e a_kept a_found a_tape a_hears a_near a_firstDay a_daily a_heardNow a_bitsOf a_sizeOf a_number a_passing v_isKept v_taped v_gone v_begin v_round v_leastFar v_leastWhere v_mostLed v_firstMove v_at v_sort v_from v_value v_fault hc) mdX7_wrongHere gX7_numberHere_X7_wrongHere rfl rfl ⟨Nat.le_of_ble_eq_true rfl, Nat.le_of_ble_eq_true rfl⟩ [0] [1] [1, 0] rfl rfl rfl rfl rfl rfl rfl rfl rfl rfl hl.1 (Nat.le_of_ble_eq_true rfl) rfl dX7_numberHere_25 (fun H locs hV => ?_)
    refine lv_iconst (v := 0) C.1 C.2.1 dX7_numberHere_28 rfl ?_
    exact hret ((0, v_at, v_sort, v_from, v_value, x2) : Int32 × Int32 × Int32 × Int32 × Int64 × Int32) _ _ _ _ dX7_numberHere_29 hF hV
  refine lv_aload_n C.1 C.2.1 dX7_numberHere_14 rfl (lv_at hl 1 rfl) ?_
  refine g_get C hV flX7_numberHere_228 0 rfl rfl dX7_numberHere_15 ?_
  refine lv_iload_n C.1 C.2.1 dX7_numberHere_18 rfl (lv_at hl 2 rfl) ?_
  refine g_i2l C hF dX7_numberHere_19 (fun x3 hF => ?_)
  refine g_lcmp C hF dX7_numberHere_20 (fun x4 hF => ?_)
  refine g_if_le (tgt := 30) C hF dX7_numberHere_21 rfl (fun hF => ?_) (fun hF => ?_)
  · refine lv_aload_n C.1 C.2.1 dX7_numberHere_30 rfl (lv_at hl 1 rfl) ?_
    obtain ⟨x5, x6, x7, x8, hc, hF⟩ := bd4_s hF
    refine g_cVv (ws' := [oX7 a_t a_d a_e a_kept v_isKept a_found a_tape v_taped v_gone a_hears a_near a_firstDay a_daily v_begin v_round v_leastFar v_leastWhere v_mostLed a_heardNow v_firstMove x5 x6 x7 x8 v_fault a_bitsOf a_sizeOf a_number a_passing, aA cB a_tape 120 f_tape]) (wr := []) C hV (k_X7_next l dC dI cI cB cO n0 H.size a_t a_d a_e a_kept a_found a_tape a_hears a_near a_firstDay a_daily a_heardNow a_bitsOf a_sizeOf a_number a_passing v_isKept v_taped v_gone v_begin v_round v_leastFar v_leastWhere v_mostLed v_firstMove v_at v_sort v_from v_value v_fault f_tape hc) mdX7_next gX7_numberHere_X7_next rfl rfl ⟨Nat.le_of_ble_eq_true rfl, Nat.le_of_ble_eq_true rfl⟩ [0, 1] [] [0, 1] rfl rfl rfl rfl rfl rfl rfl rfl rfl rfl hl.1 (Nat.le_of_ble_eq_true rfl) rfl dX7_numberHere_31 (fun H locs hV => ?_)
    refine lv_iload_n C.1 C.2.1 dX7_numberHere_34 rfl (lv_at hl 0 rfl) ?_
    exact hret (x1, x5, x6, x7, x8, v_fault) _ _ _ _ dX7_numberHere_35 hF hV
  refine lv_aload_n C.1 C.2.1 dX7_numberHere_24 rfl (lv_at hl 1 rfl) ?_
  obtain ⟨x9, hc, hF⟩ := bd1_s hF
  refine g_cVv (ws' := [oX7 a_t a_d a_e a_kept v_isKept a_found a_tape v_taped v_gone a_hears a_near a_firstDay a_daily v_begin v_round v_leastFar v_leastWhere v_mostLed a_heardNow v_firstMove v_at v_sort v_from v_value x9 a_bitsOf a_sizeOf a_number a_passing, aA cB a_tape 120 f_tape]) (wr := [aA cB a_tape 120 f_tape]) C hV (k_X7_wrongHere l dC dI cI cB cO n0 H.size a_t a_d a_e a_kept a_found a_tape a_hears a_near a_firstDay a_daily a_heardNow a_bitsOf a_sizeOf a_number a_passing v_isKept v_taped v_gone v_begin v_round v_leastFar v_leastWhere v_mostLed v_firstMove v_at v_sort v_from v_value v_fault hc) mdX7_wrongHere gX7_numberHere_X7_wrongHere rfl rfl ⟨Nat.le_of_ble_eq_true rfl, Nat.le_of_ble_eq_true rfl⟩ [0] [1] [1, 0] rfl rfl rfl rfl rfl rfl rfl rfl rfl rfl hl.1 (Nat.le_of_ble_eq_true rfl) rfl dX7_numberHere_25 (fun H locs hV => ?_)
  refine lv_iconst (v := 0) C.1 C.2.1 dX7_numberHere_28 rfl ?_
  exact hret ((0, v_at, v_sort, v_from, v_value, x9) : Int32 × Int32 × Int32 × Int32 × Int64 × Int32) _ _ _ _ dX7_numberHere_29 hF hV
abbrev rmX7_tentHere : Room := { frames := 3, cells := 0, slots := 0, locals := 64 }
theorem mdX7_tentHere : gMd yX7_tentHere wsX7_tentHere cX7_tentHere 6 none 1 := ⟨⟨_, rfl⟩, by decide +kernel⟩
theorem flX7_tentHere_7 : gFL wsX7_tentHere RX7 7 7 0 RX7 TX7 28 := ⟨rfl, fun w h => List.mem_cons_of_mem _ (List.mem_append_right _ (h)), Nat.le_of_ble_eq_true rfl, List.mem_cons_of_mem _ (List.mem_append_left _ (List.mem_append_left _ (List.mem_of_getElem? (i := 0) rfl)))⟩
theorem ctX7_tentHere_278 : Cond.constantLong RX7 278 47 ∈ wsX7_tentHere := List.mem_cons_of_mem _ (List.mem_append_left _ (List.mem_append_left _ (List.mem_of_getElem? (i := 1) rfl)))
theorem flX7_tentHere_251 : gFL wsX7_tentHere RX7 251 7 23 RX7 TX7 28 := ⟨rfl, fun w h => List.mem_cons_of_mem _ (List.mem_append_right _ (h)), Nat.le_of_ble_eq_true rfl, List.mem_cons_of_mem _ (List.mem_append_left _ (List.mem_append_left _ (List.mem_of_getElem? (i := 2) rfl)))⟩
theorem flX7_tentHere_232 : gFL wsX7_tentHere RX7 232 7 20 RX7 TX7 28 := ⟨rfl, fun w h => List.mem_cons_of_mem _ (List.mem_append_right _ (h)), Nat.le_of_ble_eq_true rfl, List.mem_cons_of_mem _ (List.mem_append_left _ (List.mem_append_left _ (List.mem_of_getElem? (i := 3) rfl)))⟩
theorem ctX7_tentHere_283 : Cond.constantLong RX7 283 419 ∈ wsX7_tentHere := List.mem_cons_of_mem _ (List.mem_append_left _ (List.mem_append_left _ (List.mem_of_getElem? (i := 6) rfl)))
theorem flX7_tentHere_228 : gFL wsX7_tentHere RX7 228 7 22 RX7 TX7 28 := ⟨rfl, fun w h => List.mem_cons_of_mem _ (List.mem_append_right _ (h)), Nat.le_of_ble_eq_true rfl, List.mem_cons_of_mem _ (List.mem_append_left _ (List.mem_append_left _ (List.mem_of_getElem? (i := 4) rfl)))⟩
theorem ctX7_tentHere_62 : Cond.constantLong RX7 62 11 ∈ wsX7_tentHere := List.mem_cons_of_mem _ (List.mem_append_left _ (List.mem_append_left _ (List.mem_of_getElem? (i := 5) rfl)))
def J_X7_tentHere_96 (k17 : Int32) (n0 : Nat) (x14 : Int32) (x16 : Int32) (x12 : Int32) (x13 : Int32) (x15 : Int64) (f_d : Nat → Int32) (v_taped : Int32) (f_tape : Nat → Int32) (x11 : Int32) (p1 : Int32) : Option (Int32 × Int32 × Int32 × Int64 × Int32 × (Nat → Int32)) := (if k17 = 0 then bd1 (F_X7_wrongHere n0 x14 x16) (fun x34 => some (x12, x13, x14, x15, x34, f_d)) else bd6 (F_X7_numberHere n0 v_taped x12 x13 x14 x15 x16 f_tape 11) (fun x18 x19 x20 x21 x22 x23 => (if x23 < 0 then nm (12 * x18) (fun x24 => nm (x24 + x11) (fun x25 => bd2 (F_X7_comes n0 f_d p1 x25) (fun x26 g27 => bd1 (F_X7_isWord n0 x20 x22 419) (fun x28 => (if x28 = 0 then some (x19, x20, x21, x22, x23, g27) else bd1 (F_X7_sayOf n0 g27 x26 1) (fun g29 => bd4 (F_X7_next n0 v_taped x19 x20 x21 x22 f_tape) (fun x30 x31 x32 x33 => some (x30, x31, x32, x33, x23, g29)))))))) else some (x19, x20, x21, x22, x23, f_d))))
def J_X7_tentHere_91 (n0 : Nat) (x14 : Int32) (x16 : Int32) (x12 : Int32) (x13 : Int32) (x15 : Int64) (f_d : Nat → Int32) (v_taped : Int32) (f_tape : Nat → Int32) (x11 : Int32) (p1 : Int32) : Option (Int32 × Int32 × Int32 × Int64 × Int32 × (Nat → Int32)) := J_X7_tentHere_96 1 n0 x14 x16 x12 x13 x15 f_d v_taped f_tape x11 p1
def F_X7_tentHere (n0 : Nat) (v_taped : Int32) (v_at : Int32) (v_sort : Int32) (v_from : Int32) (v_value : Int64) (v_fault : Int32) (f_d : Nat → Int32) (f_tape : Nat → Int32) (p1 : Int32) : Option (Int32 × Int32 × Int32 × Int64 × Int32 × (Nat → Int32)) := rd f_d 40 0 (fun x1 => (if x1 = 10 then bd1 (F_X7_wrongHere n0 v_from v_fault) (fun x41 => some (v_at, v_sort, v_from, v_value, x41, f_d)) else bd4 (F_X7_next n0 v_taped v_at v_sort v_from v_value f_tape) (fun x2 x3 x4 x5 => bd1 (F_X7_isWord n0 x3 x5 47) (fun x6 => (if x6 = 0 then bd1 (F_X7_wrongHere n0 x4 v_fault) (fun x40 => some (x2, x3, x4, x5, x40, f_d)) else bd4 (F_X7_next n0 v_taped x2 x3 x4 x5 f_tape) (fun x7 x8 x9 x10 => bd6 (F_X7_numberHere n0 v_taped x7 x8 x9 x10 v_fault f_tape 11) (fun x11 x12 x13 x14 x15 x16 => (if x16 < 0 then (if x13 = 2 then nm (lg_cmp x15 11) (fun x35 => (if 0 < x35 then J_X7_tentHere_91 n0 x14 x16 x12 x13 x15 f_d v_taped f_tape x11 p1 else nm (x15.toInt32) (fun x36 => nm (12 * x36) (fun x37 => nm (x37 + x11) (fun x38 => bd1 (F_X7_whoIs n0 f_d x38) (fun x39 => (if x39 = ((-1)) then J_X7_tentHere_91 n0 x14 x16 x12 x13 x15 f_d v_taped f_tape x11 p1 else J_X7_tentHere_96 0 n0 x14 x16 x12 x13 x15 f_d v_taped f_tape x11 p1))))))) else J_X7_tentHere_91 n0 x14 x16 x12 x13 x15 f_d v_taped f_tape x11 p1) else some (x12, x13, x14, x15, x16, f_d)))))))))
set_option maxRecDepth 100000 in
set_option maxHeartbeats 4000000 in
theorem k_X7_tentHere (l : Launch) (dC : Nat → ClassId) (dI : Nat → Nat → Nat) (cI cB cO : ClassId) (n0 sz : Nat) (a_t : Nat) (a_d : Nat) (a_e : Nat) (a_kept : Nat) (a_found : Nat) (a_tape : Nat) (a_hears : Nat) (a_near : Nat) (a_firstDay : Nat) (a_daily : Nat) (a_heardNow : Nat) (a_bitsOf : Nat) (a_sizeOf : Nat) (a_number : Nat) (a_passing : Nat)   (v_isKept : Int32) (v_taped : Int32) (v_gone : Int32) (v_begin : Int32) (v_round : Int32) (v_leastFar : Int32) (v_leastWhere : Int32) (v_mostLed : Int32) (v_firstMove : Int32) (v_at : Int32) (v_sort : Int32) (v_from : Int32) (v_value : Int64) (v_fault : Int32) (f_d : Nat → Int32) (f_tape : Nat → Int32) (p1 : Int32)  {o0 : Int32} {o1 : Int32} {o2 : Int32} {o3 : Int64} {o4 : Int32} {o5 : Nat → Int32} (hF : F_X7_tentHere n0 v_taped v_at v_sort v_from v_value v_fault f_d f_tape p1 = some (o0, o1, o2, o3, o4, o5)) : Met l yX7_tentHere wsX7_tentHere rmX7_tentHere (va_Pc [.ref a_t, .int p1] (gPre (dC, dI) (gT cI cB cO) sz [oX7 a_t a_d a_e a_kept v_isKept a_found a_tape v_taped v_gone a_hears a_near a_firstDay a_daily v_begin v_round v_leastFar v_leastWhere v_mostLed a_heardNow v_firstMove v_at v_sort v_from v_value v_fault a_bitsOf a_sizeOf a_number a_passing, aA cI a_d 40 f_d, aA cB a_tape 120 f_tape])) (gQv (dC, dI) (gT cI cB cO) sz [oX7 a_t a_d a_e a_kept v_isKept a_found a_tape v_taped v_gone a_hears a_near a_firstDay a_daily v_begin v_round v_leastFar v_leastWhere v_mostLed a_heardNow v_firstMove v_at v_sort v_from v_value v_fault a_bitsOf a_sizeOf a_number a_passing, aA cI a_d 40 f_d, aA cB a_tape 120 f_tape] [oX7 a_t a_d a_e a_kept v_isKept a_found a_tape v_taped v_gone a_hears a_near a_firstDay a_daily v_begin v_round v_leastFar v_leastWhere v_mostLed a_heardNow v_firstMove o0 o1 o2 o3 o4 a_bitsOf a_sizeOf a_number a_passing, aA cI a_d 40 o5, aA cB a_tape 120 f_tape]) 0 0 (va_A [oX7 a_t a_d a_e a_kept v_isKept a_found a_tape v_taped v_gone a_hears a_near a_firstDay a_daily v_begin v_round v_leastFar v_leastWhere v_mostLed a_heardNow v_firstMove v_at v_sort v_from v_value v_fault a_bitsOf a_sizeOf a_number a_passing, aA cI a_d 40 f_d, aA cB a_tape 120 f_tape] sz) := by
  refine g_metV (Out := Int32 × Int32 × Int32 × Int64 × Int32 × (Nat → Int32)) (fun oo => [oX7 a_t a_d a_e a_kept v_isKept a_found a_tape v_taped v_gone a_hears a_near a_firstDay a_daily v_begin v_round v_leastFar v_leastWhere v_mostLed a_heardNow v_firstMove oo.1 oo.2.1 oo.2.2.1 oo.2.2.2.1 oo.2.2.2.2.1 a_bitsOf a_sizeOf a_number a_passing, aA cI a_d 40 oo.2.2.2.2.2, aA cB a_tape 120 f_tape]) (o0, o1, o2, o3, o4, o5) (own := RX7) (lv := [(0, .ref a_t), (1, .int p1)]) (by decide) rfl rfl (Nat.le_of_ble_eq_true rfl) rfl ?_
  intro p e s m args below meth c Q ls C hret hV hl
  obtain ⟨out, hout⟩ : ∃ z : Int32 × Int32 × Int32 × Int64 × Int32 × (Nat → Int32), z = (o0, o1, o2, o3, o4, o5) := ⟨_, rfl⟩
  rw [← hout] at hF hret
  obtain ⟨H0, hH0⟩ : ∃ z : Heap, z = s.heap := ⟨_, rfl⟩
  obtain ⟨A0, hA0⟩ : ∃ z : Nat → Prop, z = va_A [oX7 a_t a_d a_e a_kept v_isKept a_found a_tape v_taped v_gone a_hears a_near a_firstDay a_daily v_begin v_round v_leastFar v_leastWhere v_mostLed a_heardNow v_firstMove v_at v_sort v_from v_value v_fault a_bitsOf a_sizeOf a_number a_passing, aA cI a_d 40 f_d, aA cB a_tape 120 f_tape] s.heap.size := ⟨_, rfl⟩
  rw [← hA0] at hret hV
  rw [← hH0] at hret hV
  rw [← hH0]
  obtain ⟨H, locs, hH⟩ : ∃ (z : Heap) (y : List Loc), z = H0 ∧ y = [] := ⟨_, _, rfl, rfl⟩
  rw [← hH.1, ← hH.2]
  have hV : gV (dC, dI) (gT cI cB cO) A0 H0 s [oX7 a_t a_d a_e a_kept v_isKept a_found a_tape v_taped v_gone a_hears a_near a_firstDay a_daily v_begin v_round v_leastFar v_leastWhere v_mostLed a_heardNow v_firstMove v_at v_sort v_from v_value v_fault a_bitsOf a_sizeOf a_number a_passing, aA cI a_d 40 f_d, aA cB a_tape 120 f_tape] H locs := by rw [hH.1, hH.2]; exact hV
  unfold F_X7_tentHere at hF
  refine lv_aload_n C.1 C.2.1 dX7_tentHere_0 rfl (lv_at hl 0 rfl) ?_
  refine g_get C hV flX7_tentHere_7 0 rfl rfl dX7_tentHere_1 ?_
  refine lv_iconst (v := 0) C.1 C.2.1 dX7_tentHere_4 rfl ?_
  refine g_iald C hV 1 rfl hF dX7_tentHere_5 (fun x1 hF => ?_)
  refine lv_bipush (v := 10) C.1 C.2.1 dX7_tentHere_6 rfl ?_
  refine g_icmp_ne (tgt := 16) C hF dX7_tentHere_8 rfl (fun hF => ?_) (fun hF => ?_)
  · refine lv_aload_n C.1 C.2.1 dX7_tentHere_16 rfl (lv_at hl 0 rfl) ?_
    obtain ⟨x2, x3, x4, x5, hc, hF⟩ := bd4_s hF
    refine g_cVv (ws' := [oX7 a_t a_d a_e a_kept v_isKept a_found a_tape v_taped v_gone a_hears a_near a_firstDay a_daily v_begin v_round v_leastFar v_leastWhere v_mostLed a_heardNow v_firstMove x2 x3 x4 x5 v_fault a_bitsOf a_sizeOf a_number a_passing, aA cI a_d 40 f_d, aA cB a_tape 120 f_tape]) (wr := [aA cI a_d 40 f_d]) C hV (k_X7_next l dC dI cI cB cO n0 H.size a_t a_d a_e a_kept a_found a_tape a_hears a_near a_firstDay a_daily a_heardNow a_bitsOf a_sizeOf a_number a_passing v_isKept v_taped v_gone v_begin v_round v_leastFar v_leastWhere v_mostLed v_firstMove v_at v_sort v_from v_value v_fault f_tape hc) mdX7_next gX7_tentHere_X7_next rfl rfl ⟨Nat.le_of_ble_eq_true rfl, Nat.le_of_ble_eq_true rfl⟩ [0, 2] [1] [1, 0, 2] rfl rfl rfl rfl rfl rfl rfl rfl rfl rfl hl.1 (Nat.le_of_ble_eq_true rfl) rfl dX7_tentHere_17 (fun H locs hV => ?_)
    refine lv_aload_n C.1 C.2.1 dX7_tentHere_20 rfl (lv_at hl 0 rfl) ?_
    refine lv_ldc2 (v := 47) C.1 C.2.1 C.2.2.2.1 (C.2.2.2.2 _ ctX7_tentHere_278) dX7_tentHere_21 ?_
    obtain ⟨x6, hc, hF⟩ := bd1_s hF
    refine g_cVi (ws' := [oX7 a_t a_d a_e a_kept v_isKept a_found a_tape v_taped v_gone a_hears a_near a_firstDay a_daily v_begin v_round v_leastFar v_leastWhere v_mostLed a_heardNow v_firstMove x2 x3 x4 x5 v_fault a_bitsOf a_sizeOf a_number a_passing, aA cI a_d 40 f_d, aA cB a_tape 120 f_tape]) (wr := [aA cI a_d 40 f_d, aA cB a_tape 120 f_tape]) C hV (k_X7_isWord l dC dI cI cB cO n0 H.size a_t a_d a_e a_kept a_found a_tape a_hears a_near a_firstDay a_daily a_heardNow a_bitsOf a_sizeOf a_number a_passing v_isKept v_taped v_gone v_begin v_round v_leastFar v_leastWhere v_mostLed v_firstMove x2 x3 x4 x5 v_fault 47 hc) mdX7_isWord gX7_tentHere_X7_isWord rfl rfl ⟨Nat.le_of_ble_eq_true rfl, Nat.le_of_ble_eq_true rfl⟩ [0] [1, 2] [2, 0, 1] rfl rfl rfl rfl rfl rfl rfl rfl rfl rfl hl.1 (Nat.le_of_ble_eq_true rfl) rfl dX7_tentHere_24 (fun H locs hV => ?_)
    refine g_if_ne (tgt := 35) C hF dX7_tentHere_27 rfl (fun hF => ?_) (fun hF => ?_)
    · refine lv_aload_n C.1 C.2.1 dX7_tentHere_35 rfl (lv_at hl 0 rfl) ?_
      obtain ⟨x7, x8, x9, x10, hc, hF⟩ := bd4_s hF
      refine g_cVv (ws' := [oX7 a_t a_d a_e a_kept v_isKept a_found a_tape v_taped v_gone a_hears a_near a_firstDay a_daily v_begin v_round v_leastFar v_leastWhere v_mostLed a_heardNow v_firstMove x7 x8 x9 x10 v_fault a_bitsOf a_sizeOf a_number a_passing, aA cI a_d 40 f_d, aA cB a_tape 120 f_tape]) (wr := [aA cI a_d 40 f_d]) C hV (k_X7_next l dC dI cI cB cO n0 H.size a_t a_d a_e a_kept a_found a_tape a_hears a_near a_firstDay a_daily a_heardNow a_bitsOf a_sizeOf a_number a_passing v_isKept v_taped v_gone v_begin v_round v_leastFar v_leastWhere v_mostLed v_firstMove x2 x3 x4 x5 v_fault f_tape hc) mdX7_next gX7_tentHere_X7_next rfl rfl ⟨Nat.le_of_ble_eq_true rfl, Nat.le_of_ble_eq_true rfl⟩ [0, 2] [1] [1, 0, 2] rfl rfl rfl rfl rfl rfl rfl rfl rfl rfl hl.1 (Nat.le_of_ble_eq_true rfl) rfl dX7_tentHere_36 (fun H locs hV => ?_)
      refine lv_aload_n C.1 C.2.1 dX7_tentHere_39 rfl (lv_at hl 0 rfl) ?_
      refine lv_bipush (v := 11) C.1 C.2.1 dX7_tentHere_40 rfl ?_
      obtain ⟨x11, x12, x13, x14, x15, x16, hc, hF⟩ := bd6_s hF
      refine g_cVi (ws' := [oX7 a_t a_d a_e a_kept v_isKept a_found a_tape v_taped v_gone a_hears a_near a_firstDay a_daily v_begin v_round v_leastFar v_leastWhere v_mostLed a_heardNow v_firstMove x12 x13 x14 x15 x16 a_bitsOf a_sizeOf a_number a_passing, aA cI a_d 40 f_d, aA cB a_tape 120 f_tape]) (wr := [aA cI a_d 40 f_d]) C hV (k_X7_numberHere l dC dI cI cB cO n0 H.size a_t a_d a_e a_kept a_found a_tape a_hears a_near a_firstDay a_daily a_heardNow a_bitsOf a_sizeOf a_number a_passing v_isKept v_taped v_gone v_begin v_round v_leastFar v_leastWhere v_mostLed v_firstMove x7 x8 x9 x10 v_fault f_tape 11 hc) mdX7_numberHere gX7_tentHere_X7_numberHere rfl rfl ⟨Nat.le_of_ble_eq_true rfl, Nat.le_of_ble_eq_true rfl⟩ [0, 2] [1] [1, 0, 2] rfl rfl rfl rfl rfl rfl rfl rfl rfl rfl hl.1 (Nat.le_of_ble_eq_true rfl) rfl dX7_tentHere_42 (fun H locs hV => ?_)
      refine lv_istore_n (lv' := [(2, .int x11), (0, .ref a_t), (1, .int p1)]) C.1 C.2.1 dX7_tentHere_45 rfl hl (by decide) rfl (fun ls hl => ?_)
      refine lv_aload_n C.1 C.2.1 dX7_tentHere_46 rfl (lv_at hl 1 rfl) ?_
      refine g_get C hV flX7_tentHere_251 0 rfl rfl dX7_tentHere_47 ?_
      refine g_if_lt (tgt := 54) C hF dX7_tentHere_50 rfl (fun hF => ?_) (fun hF => ?_)
      · refine lv_aload_n C.1 C.2.1 dX7_tentHere_54 rfl (lv_at hl 1 rfl) ?_
        refine g_get C hV flX7_tentHere_232 0 rfl rfl dX7_tentHere_55 ?_
        refine lv_iconst (v := 2) C.1 C.2.1 dX7_tentHere_58 rfl ?_
        have hJ96 : ∀ (k17 : Int32) (H : Heap) (locs : List Loc) (ls : Array Slot), gV (dC, dI) (gT cI cB cO) A0 H0 s [oX7 a_t a_d a_e a_kept v_isKept a_found a_tape v_taped v_gone a_hears a_near a_firstDay a_daily v_begin v_round v_leastFar v_leastWhere v_mostLed a_heardNow v_firstMove x12 x13 x14 x15 x16 a_bitsOf a_sizeOf a_number a_passing, aA cI a_d 40 f_d, aA cB a_tape 120 f_tape] H locs → lv_has ls 6 [(0, .ref a_t), (1, .int p1), (2, .int x11)] → J_X7_tentHere_96 k17 n0 x14 x16 x12 x13 x15 f_d v_taped f_tape x11 p1 = some out → W p l e rmX7_tentHere s m args below meth c H locs 0 0 Q (F0 m 96 ls [.int k17]) := by
          intro k17 H locs ls hV hl hF
          unfold J_X7_tentHere_96 at hF
          refine lv_istore_n (lv' := [(3, .int k17), (0, .ref a_t), (1, .int p1), (2, .int x11)]) C.1 C.2.1 dX7_tentHere_96 rfl hl (by decide) rfl (fun ls hl => ?_)
          refine lv_iload_n C.1 C.2.1 dX7_tentHere_97 rfl (lv_at hl 0 rfl) ?_
          refine g_if_ne (tgt := 106) C hF dX7_tentHere_98 rfl (fun hF => ?_) (fun hF => ?_)
          · refine lv_aload_n C.1 C.2.1 dX7_tentHere_106 rfl (lv_at hl 1 rfl) ?_
            refine lv_bipush (v := 11) C.1 C.2.1 dX7_tentHere_107 rfl ?_
            obtain ⟨x18, x19, x20, x21, x22, x23, hc, hF⟩ := bd6_s hF
            refine g_cVi (ws' := [oX7 a_t a_d a_e a_kept v_isKept a_found a_tape v_taped v_gone a_hears a_near a_firstDay a_daily v_begin v_round v_leastFar v_leastWhere v_mostLed a_heardNow v_firstMove x19 x20 x21 x22 x23 a_bitsOf a_sizeOf a_number a_passing, aA cI a_d 40 f_d, aA cB a_tape 120 f_tape]) (wr := [aA cI a_d 40 f_d]) C hV (k_X7_numberHere l dC dI cI cB cO n0 H.size a_t a_d a_e a_kept a_found a_tape a_hears a_near a_firstDay a_daily a_heardNow a_bitsOf a_sizeOf a_number a_passing v_isKept v_taped v_gone v_begin v_round v_leastFar v_leastWhere v_mostLed v_firstMove x12 x13 x14 x15 x16 f_tape 11 hc) mdX7_numberHere gX7_tentHere_X7_numberHere rfl rfl ⟨Nat.le_of_ble_eq_true rfl, Nat.le_of_ble_eq_true rfl⟩ [0, 2] [1] [1, 0, 2] rfl rfl rfl rfl rfl rfl rfl rfl rfl rfl hl.1 (Nat.le_of_ble_eq_true rfl) rfl dX7_tentHere_109 (fun H locs hV => ?_)
            refine lv_istore (lv' := [(4, .int x18), (3, .int k17), (0, .ref a_t), (1, .int p1), (2, .int x11)]) C.1 C.2.1 dX7_tentHere_112 hl (by decide) rfl (fun ls hl => ?_)
            refine lv_aload_n C.1 C.2.1 dX7_tentHere_114 rfl (lv_at hl 2 rfl) ?_
            refine g_get C hV flX7_tentHere_251 0 rfl rfl dX7_tentHere_115 ?_
            refine g_if_lt (tgt := 122) C hF dX7_tentHere_118 rfl (fun hF => ?_) (fun hF => ?_)
            · refine lv_aload_n C.1 C.2.1 dX7_tentHere_122 rfl (lv_at hl 2 rfl) ?_
              refine lv_iload_n C.1 C.2.1 dX7_tentHere_123 rfl (lv_at hl 3 rfl) ?_
              refine lv_bipush (v := 12) C.1 C.2.1 dX7_tentHere_124 rfl ?_
              refine lv_iload C.1 C.2.1 dX7_tentHere_126 (lv_at hl 0 rfl) ?_
              refine g_imul C hF dX7_tentHere_128 (fun x24 hF => ?_)
              refine lv_iload_n C.1 C.2.1 dX7_tentHere_129 rfl (lv_at hl 4 rfl) ?_
              refine g_iadd C hF dX7_tentHere_130 (fun x25 hF => ?_)
              obtain ⟨x26, g27, hc, hF⟩ := bd2_s hF
              refine g_cVi (ws' := [oX7 a_t a_d a_e a_kept v_isKept a_found a_tape v_taped v_gone a_hears a_near a_firstDay a_daily v_begin v_round v_leastFar v_leastWhere v_mostLed a_heardNow v_firstMove x19 x20 x21 x22 x23 a_bitsOf a_sizeOf a_number a_passing, aA cI a_d 40 g27, aA cB a_tape 120 f_tape]) (wr := [aA cB a_tape 120 f_tape]) C hV (k_X7_comes l dC dI cI cB cO n0 H.size a_t a_d a_e a_kept a_found a_tape a_hears a_near a_firstDay a_daily a_heardNow a_bitsOf a_sizeOf a_number a_passing v_isKept v_taped v_gone v_begin v_round v_leastFar v_leastWhere v_mostLed v_firstMove x19 x20 x21 x22 x23 f_d p1 x25 hc) mdX7_comes gX7_tentHere_X7_comes rfl rfl ⟨Nat.le_of_ble_eq_true rfl, Nat.le_of_ble_eq_true rfl⟩ [0, 1] [2] [1, 2, 0] rfl rfl rfl rfl rfl rfl rfl rfl rfl rfl hl.1 (Nat.le_of_ble_eq_true rfl) rfl dX7_tentHere_131 (fun H locs hV => ?_)
              refine lv_istore (lv' := [(5, .int x26), (4, .int x18), (3, .int k17), (0, .ref a_t), (1, .int p1), (2, .int x11)]) C.1 C.2.1 dX7_tentHere_134 hl (by decide) rfl (fun ls hl => ?_)
              refine lv_aload_n C.1 C.2.1 dX7_tentHere_136 rfl (lv_at hl 3 rfl) ?_
              refine lv_ldc2 (v := 419) C.1 C.2.1 C.2.2.2.1 (C.2.2.2.2 _ ctX7_tentHere_283) dX7_tentHere_137 ?_
              obtain ⟨x28, hc, hF⟩ := bd1_s hF
              refine g_cVi (ws' := [oX7 a_t a_d a_e a_kept v_isKept a_found a_tape v_taped v_gone a_hears a_near a_firstDay a_daily v_begin v_round v_leastFar v_leastWhere v_mostLed a_heardNow v_firstMove x19 x20 x21 x22 x23 a_bitsOf a_sizeOf a_number a_passing, aA cI a_d 40 g27, aA cB a_tape 120 f_tape]) (wr := [aA cI a_d 40 g27, aA cB a_tape 120 f_tape]) C hV (k_X7_isWord l dC dI cI cB cO n0 H.size a_t a_d a_e a_kept a_found a_tape a_hears a_near a_firstDay a_daily a_heardNow a_bitsOf a_sizeOf a_number a_passing v_isKept v_taped v_gone v_begin v_round v_leastFar v_leastWhere v_mostLed v_firstMove x19 x20 x21 x22 x23 419 hc) mdX7_isWord gX7_tentHere_X7_isWord rfl rfl ⟨Nat.le_of_ble_eq_true rfl, Nat.le_of_ble_eq_true rfl⟩ [0] [1, 2] [2, 0, 1] rfl rfl rfl rfl rfl rfl rfl rfl rfl rfl hl.1 (Nat.le_of_ble_eq_true rfl) rfl dX7_tentHere_140 (fun H locs hV => ?_)
              refine g_if_eq (tgt := 157) C hF dX7_tentHere_143 rfl (fun hF => ?_) (fun hF => ?_)
              · exact hret (x19, x20, x21, x22, x23, g27) _ _ _ _ dX7_tentHere_157 hF hV
              refine lv_aload_n C.1 C.2.1 dX7_tentHere_146 rfl (lv_at hl 3 rfl) ?_
              refine lv_iload C.1 C.2.1 dX7_tentHere_147 (lv_at hl 0 rfl) ?_
              refine lv_iconst (v := 1) C.1 C.2.1 dX7_tentHere_149 rfl ?_
              obtain ⟨g29, hc, hF⟩ := bd1_s hF
              refine g_cVv (ws' := [oX7 a_t a_d a_e a_kept v_isKept a_found a_tape v_taped v_gone a_hears a_near a_firstDay a_daily v_begin v_round v_leastFar v_leastWhere v_mostLed a_heardNow v_firstMove x19 x20 x21 x22 x23 a_bitsOf a_sizeOf a_number a_passing, aA cI a_d 40 g29, aA cB a_tape 120 f_tape]) (wr := [aA cB a_tape 120 f_tape]) C hV (k_X7_sayOf l dC dI cI cB cO n0 H.size a_t a_d a_e a_kept a_found a_tape a_hears a_near a_firstDay a_daily a_heardNow a_bitsOf a_sizeOf a_number a_passing v_isKept v_taped v_gone v_begin v_round v_leastFar v_leastWhere v_mostLed v_firstMove x19 x20 x21 x22 x23 g27 x26 1 hc) mdX7_sayOf gX7_tentHere_X7_sayOf rfl rfl ⟨Nat.le_of_ble_eq_true rfl, Nat.le_of_ble_eq_true rfl⟩ [0, 1] [2] [1, 2, 0] rfl rfl rfl rfl rfl rfl rfl rfl rfl rfl hl.1 (Nat.le_of_ble_eq_true rfl) rfl dX7_tentHere_150 (fun H locs hV => ?_)
              refine lv_aload_n C.1 C.2.1 dX7_tentHere_153 rfl (lv_at hl 3 rfl) ?_
              obtain ⟨x30, x31, x32, x33, hc, hF⟩ := bd4_s hF
              refine g_cVv (ws' := [oX7 a_t a_d a_e a_kept v_isKept a_found a_tape v_taped v_gone a_hears a_near a_firstDay a_daily v_begin v_round v_leastFar v_leastWhere v_mostLed a_heardNow v_firstMove x30 x31 x32 x33 x23 a_bitsOf a_sizeOf a_number a_passing, aA cI a_d 40 g29, aA cB a_tape 120 f_tape]) (wr := [aA cI a_d 40 g29]) C hV (k_X7_next l dC dI cI cB cO n0 H.size a_t a_d a_e a_kept a_found a_tape a_hears a_near a_firstDay a_daily a_heardNow a_bitsOf a_sizeOf a_number a_passing v_isKept v_taped v_gone v_begin v_round v_leastFar v_leastWhere v_mostLed v_firstMove x19 x20 x21 x22 x23 f_tape hc) mdX7_next gX7_tentHere_X7_next rfl rfl ⟨Nat.le_of_ble_eq_true rfl, Nat.le_of_ble_eq_true rfl⟩ [0, 2] [1] [1, 0, 2] rfl rfl rfl rfl rfl rfl rfl rfl rfl rfl hl.1 (Nat.le_of_ble_eq_true rfl) rfl dX7_tentHere_154 (fun H locs hV => ?_)
              exact hret (x30, x31, x32, x33, x23, g29) _ _ _ _ dX7_tentHere_157 hF hV
            exact hret (x19, x20, x21, x22, x23, f_d) _ _ _ _ dX7_tentHere_121 hF hV
          refine lv_aload_n C.1 C.2.1 dX7_tentHere_101 rfl (lv_at hl 1 rfl) ?_
          obtain ⟨x34, hc, hF⟩ := bd1_s hF
          refine g_cVv (ws' := [oX7 a_t a_d a_e a_kept v_isKept a_found a_tape v_taped v_gone a_hears a_near a_firstDay a_daily v_begin v_round v_leastFar v_leastWhere v_mostLed a_heardNow v_firstMove x12 x13 x14 x15 x34 a_bitsOf a_sizeOf a_number a_passing, aA cI a_d 40 f_d, aA cB a_tape 120 f_tape]) (wr := [aA cI a_d 40 f_d, aA cB a_tape 120 f_tape]) C hV (k_X7_wrongHere l dC dI cI cB cO n0 H.size a_t a_d a_e a_kept a_found a_tape a_hears a_near a_firstDay a_daily a_heardNow a_bitsOf a_sizeOf a_number a_passing v_isKept v_taped v_gone v_begin v_round v_leastFar v_leastWhere v_mostLed v_firstMove x12 x13 x14 x15 x16 hc) mdX7_wrongHere gX7_tentHere_X7_wrongHere rfl rfl ⟨Nat.le_of_ble_eq_true rfl, Nat.le_of_ble_eq_true rfl⟩ [0] [1, 2] [2, 0, 1] rfl rfl rfl rfl rfl rfl rfl rfl rfl rfl hl.1 (Nat.le_of_ble_eq_true rfl) rfl dX7_tentHere_102 (fun H locs hV => ?_)
          exact hret (x12, x13, x14, x15, x34, f_d) _ _ _ _ dX7_tentHere_105 hF hV
        have hJ91 : ∀  (H : Heap) (locs : List Loc) (ls : Array Slot), gV (dC, dI) (gT cI cB cO) A0 H0 s [oX7 a_t a_d a_e a_kept v_isKept a_found a_tape v_taped v_gone a_hears a_near a_firstDay a_daily v_begin v_round v_leastFar v_leastWhere v_mostLed a_heardNow v_firstMove x12 x13 x14 x15 x16 a_bitsOf a_sizeOf a_number a_passing, aA cI a_d 40 f_d, aA cB a_tape 120 f_tape] H locs → lv_has ls 6 [(0, .ref a_t), (1, .int p1), (2, .int x11)] → J_X7_tentHere_91 n0 x14 x16 x12 x13 x15 f_d v_taped f_tape x11 p1 = some out → W p l e rmX7_tentHere s m args below meth c H locs 0 0 Q (F0 m 91 ls []) := by
          intro  H locs ls hV hl hF
          unfold J_X7_tentHere_91 at hF
          refine lv_iconst (v := 1) C.1 C.2.1 dX7_tentHere_91 rfl ?_
          refine lv_goto (tgt := 96) C.1 C.2.1 dX7_tentHere_92 rfl ?_
          exact hJ96 1 H locs ls hV (lv_sub hl [0, 1, 2] rfl) hF
        refine g_icmp_ne (tgt := 91) C hF dX7_tentHere_59 rfl (fun hF => ?_) (fun hF => ?_)
        · exact hJ91  H locs ls hV (lv_sub hl [1, 2, 0] rfl) hF
        refine lv_aload_n C.1 C.2.1 dX7_tentHere_62 rfl (lv_at hl 1 rfl) ?_
        refine g_get C hV flX7_tentHere_228 0 rfl rfl dX7_tentHere_63 ?_
        refine lv_ldc2 (v := 11) C.1 C.2.1 C.2.2.2.1 (C.2.2.2.2 _ ctX7_tentHere_62) dX7_tentHere_66 ?_
        refine g_lcmp C hF dX7_tentHere_69 (fun x35 hF => ?_)
        refine g_if_gt (tgt := 91) C hF dX7_tentHere_70 rfl (fun hF => ?_) (fun hF => ?_)
        · exact hJ91  H locs ls hV (lv_sub hl [1, 2, 0] rfl) hF
        refine lv_aload_n C.1 C.2.1 dX7_tentHere_73 rfl (lv_at hl 1 rfl) ?_
        refine lv_bipush (v := 12) C.1 C.2.1 dX7_tentHere_74 rfl ?_
        refine lv_aload_n C.1 C.2.1 dX7_tentHere_76 rfl (lv_at hl 1 rfl) ?_
        refine g_get C hV flX7_tentHere_228 0 rfl rfl dX7_tentHere_77 ?_
        refine g_l2i C hF dX7_tentHere_80 (fun x36 hF => ?_)
        refine g_imul C hF dX7_tentHere_81 (fun x37 hF => ?_)
        refine lv_iload_n C.1 C.2.1 dX7_tentHere_82 rfl (lv_at hl 0 rfl) ?_
        refine g_iadd C hF dX7_tentHere_83 (fun x38 hF => ?_)
        obtain ⟨x39, hc, hF⟩ := bd1_s hF
        refine g_cVi (ws' := [oX7 a_t a_d a_e a_kept v_isKept a_found a_tape v_taped v_gone a_hears a_near a_firstDay a_daily v_begin v_round v_leastFar v_leastWhere v_mostLed a_heardNow v_firstMove x12 x13 x14 x15 x16 a_bitsOf a_sizeOf a_number a_passing, aA cI a_d 40 f_d, aA cB a_tape 120 f_tape]) (wr := [aA cB a_tape 120 f_tape]) C hV (k_X7_whoIs l dC dI cI cB cO n0 H.size a_t a_d a_e a_kept a_found a_tape a_hears a_near a_firstDay a_daily a_heardNow a_bitsOf a_sizeOf a_number a_passing v_isKept v_taped v_gone v_begin v_round v_leastFar v_leastWhere v_mostLed v_firstMove x12 x13 x14 x15 x16 f_d x38 hc) mdX7_whoIs gX7_tentHere_X7_whoIs rfl rfl ⟨Nat.le_of_ble_eq_true rfl, Nat.le_of_ble_eq_true rfl⟩ [0, 1] [2] [1, 2, 0] rfl rfl rfl rfl rfl rfl rfl rfl rfl rfl hl.1 (Nat.le_of_ble_eq_true rfl) rfl dX7_tentHere_84 (fun H locs hV => ?_)
        refine lv_iconst (v := (-1)) C.1 C.2.1 dX7_tentHere_87 rfl ?_
        refine g_icmp_ne (tgt := 95) C hF dX7_tentHere_88 rfl (fun hF => ?_) (fun hF => ?_)
        · refine lv_iconst (v := 0) C.1 C.2.1 dX7_tentHere_95 rfl ?_
          exact hJ96 0 H locs ls hV (lv_sub hl [1, 2, 0] rfl) hF
        exact hJ91  H locs ls hV (lv_sub hl [1, 2, 0] rfl) hF
      exact hret (x12, x13, x14, x15, x16, f_d) _ _ _ _ dX7_tentHere_53 hF hV
    refine lv_aload_n C.1 C.2.1 dX7_tentHere_30 rfl (lv_at hl 0 rfl) ?_
    obtain ⟨x40, hc, hF⟩ := bd1_s hF
    refine g_cVv (ws' := [oX7 a_t a_d a_e a_kept v_isKept a_found a_tape v_taped v_gone a_hears a_near a_firstDay a_daily v_begin v_round v_leastFar v_leastWhere v_mostLed a_heardNow v_firstMove x2 x3 x4 x5 x40 a_bitsOf a_sizeOf a_number a_passing, aA cI a_d 40 f_d, aA cB a_tape 120 f_tape]) (wr := [aA cI a_d 40 f_d, aA cB a_tape 120 f_tape]) C hV (k_X7_wrongHere l dC dI cI cB cO n0 H.size a_t a_d a_e a_kept a_found a_tape a_hears a_near a_firstDay a_daily a_heardNow a_bitsOf a_sizeOf a_number a_passing v_isKept v_taped v_gone v_begin v_round v_leastFar v_leastWhere v_mostLed v_firstMove x2 x3 x4 x5 v_fault hc) mdX7_wrongHere gX7_tentHere_X7_wrongHere rfl rfl ⟨Nat.le_of_ble_eq_true rfl, Nat.le_of_ble_eq_true rfl⟩ [0] [1, 2] [2, 0, 1] rfl rfl rfl rfl rfl rfl rfl rfl rfl rfl hl.1 (Nat.le_of_ble_eq_true rfl) rfl dX7_tentHere_31 (fun H locs hV => ?_)
    exact hret (x2, x3, x4, x5, x40, f_d) _ _ _ _ dX7_tentHere_34 hF hV
  refine lv_aload_n C.1 C.2.1 dX7_tentHere_11 rfl (lv_at hl 0 rfl) ?_
  obtain ⟨x41, hc, hF⟩ := bd1_s hF
  refine g_cVv (ws' := [oX7 a_t a_d a_e a_kept v_isKept a_found a_tape v_taped v_gone a_hears a_near a_firstDay a_daily v_begin v_round v_leastFar v_leastWhere v_mostLed a_heardNow v_firstMove v_at v_sort v_from v_value x41 a_bitsOf a_sizeOf a_number a_passing, aA cI a_d 40 f_d, aA cB a_tape 120 f_tape]) (wr := [aA cI a_d 40 f_d, aA cB a_tape 120 f_tape]) C hV (k_X7_wrongHere l dC dI cI cB cO n0 H.size a_t a_d a_e a_kept a_found a_tape a_hears a_near a_firstDay a_daily a_heardNow a_bitsOf a_sizeOf a_number a_passing v_isKept v_taped v_gone v_begin v_round v_leastFar v_leastWhere v_mostLed v_firstMove v_at v_sort v_from v_value v_fault hc) mdX7_wrongHere gX7_tentHere_X7_wrongHere rfl rfl ⟨Nat.le_of_ble_eq_true rfl, Nat.le_of_ble_eq_true rfl⟩ [0] [1, 2] [2, 0, 1] rfl rfl rfl rfl rfl rfl rfl rfl rfl rfl hl.1 (Nat.le_of_ble_eq_true rfl) rfl dX7_tentHere_12 (fun H locs hV => ?_)
  exact hret (v_at, v_sort, v_from, v_value, x41, f_d) _ _ _ _ dX7_tentHere_15 hF hV
abbrev rmX7_wallHere : Room := { frames := 3, cells := 0, slots := 0, locals := 64 }
theorem mdX7_wallHere : gMd yX7_wallHere wsX7_wallHere cX7_wallHere 3 none 0 := ⟨⟨_, rfl⟩, by decide +kernel⟩
theorem flX7_wallHere_251 : gFL wsX7_wallHere RX7 251 7 23 RX7 TX7 28 := ⟨rfl, fun w h => List.mem_cons_of_mem _ (List.mem_append_right _ (h)), Nat.le_of_ble_eq_true rfl, List.mem_cons_of_mem _ (List.mem_append_left _ (List.mem_append_left _ (List.mem_of_getElem? (i := 0) rfl)))⟩
theorem flX7_wallHere_7 : gFL wsX7_wallHere RX7 7 7 0 RX7 TX7 28 := ⟨rfl, fun w h => List.mem_cons_of_mem _ (List.mem_append_right _ (h)), Nat.le_of_ble_eq_true rfl, List.mem_cons_of_mem _ (List.mem_append_left _ (List.mem_append_left _ (List.mem_of_getElem? (i := 1) rfl)))⟩
theorem ctX7_wallHere_285 : Cond.constantLong RX7 285 38444009 ∈ wsX7_wallHere := List.mem_cons_of_mem _ (List.mem_append_left _ (List.mem_append_left _ (List.mem_of_getElem? (i := 2) rfl)))
def F_X7_wallHere (n0 : Nat) (v_taped : Int32) (v_at : Int32) (v_sort : Int32) (v_from : Int32) (v_value : Int64) (v_fault : Int32) (f_d : Nat → Int32) (f_tape : Nat → Int32) : Option (Int32 × Int32 × Int32 × Int64 × Int32 × (Nat → Int32)) := bd4 (F_X7_next n0 v_taped v_at v_sort v_from v_value f_tape) (fun x1 x2 x3 x4 => bd6 (F_X7_numberHere n0 v_taped x1 x2 x3 x4 v_fault f_tape 11) (fun x5 x6 x7 x8 x9 x10 => (if x10 < 0 then wrt f_d 40 3 x5 (fun g11 => bd1 (F_X7_isWord n0 x7 x9 38444009) (fun x12 => (if x12 = 0 then some (x6, x7, x8, x9, x10, g11) else bd4 (F_X7_next n0 v_taped x6 x7 x8 x9 f_tape) (fun x13 x14 x15 x16 => bd6 (F_X7_numberHere n0 v_taped x13 x14 x15 x16 x10 f_tape 11) (fun x17 x18 x19 x20 x21 x22 => (if 0 ≤ x22 then rd g11 40 4 (fun x23 => wrt g11 40 4 x23 (fun g24 => some (x18, x19, x20, x21, x22, g24))) else wrt g11 40 4 x17 (fun g25 => some (x18, x19, x20, x21, x22, g25)))))))) else some (x6, x7, x8, x9, x10, f_d))))
set_option maxRecDepth 100000 in
set_option maxHeartbeats 4000000 in
theorem k_X7_wallHere (l : Launch) (dC : Nat → ClassId) (dI : Nat → Nat → Nat) (cI cB cO : ClassId) (n0 sz : Nat) (a_t : Nat) (a_d : Nat) (a_e : Nat) (a_kept : Nat) (a_found : Nat) (a_tape : Nat) (a_hears : Nat) (a_near : Nat) (a_firstDay : Nat) (a_daily : Nat) (a_heardNow : Nat) (a_bitsOf : Nat) (a_sizeOf : Nat) (a_number : Nat) (a_passing : Nat)   (v_isKept : Int32) (v_taped : Int32) (v_gone : Int32) (v_begin : Int32) (v_round : Int32) (v_leastFar : Int32) (v_leastWhere : Int32) (v_mostLed : Int32) (v_firstMove : Int32) (v_at : Int32) (v_sort : Int32) (v_from : Int32) (v_value : Int64) (v_fault : Int32) (f_d : Nat → Int32) (f_tape : Nat → Int32)   {o0 : Int32} {o1 : Int32} {o2 : Int32} {o3 : Int64} {o4 : Int32} {o5 : Nat → Int32} (hF : F_X7_wallHere n0 v_taped v_at v_sort v_from v_value v_fault f_d f_tape = some (o0, o1, o2, o3, o4, o5)) : Met l yX7_wallHere wsX7_wallHere rmX7_wallHere (va_Pc [.ref a_t] (gPre (dC, dI) (gT cI cB cO) sz [oX7 a_t a_d a_e a_kept v_isKept a_found a_tape v_taped v_gone a_hears a_near a_firstDay a_daily v_begin v_round v_leastFar v_leastWhere v_mostLed a_heardNow v_firstMove v_at v_sort v_from v_value v_fault a_bitsOf a_sizeOf a_number a_passing, aA cI a_d 40 f_d, aA cB a_tape 120 f_tape])) (gQv (dC, dI) (gT cI cB cO) sz [oX7 a_t a_d a_e a_kept v_isKept a_found a_tape v_taped v_gone a_hears a_near a_firstDay a_daily v_begin v_round v_leastFar v_leastWhere v_mostLed a_heardNow v_firstMove v_at v_sort v_from v_value v_fault a_bitsOf a_sizeOf a_number a_passing, aA cI a_d 40 f_d, aA cB a_tape 120 f_tape] [oX7 a_t a_d a_e a_kept v_isKept a_found a_tape v_taped v_gone a_hears a_near a_firstDay a_daily v_begin v_round v_leastFar v_leastWhere v_mostLed a_heardNow v_firstMove o0 o1 o2 o3 o4 a_bitsOf a_sizeOf a_number a_passing, aA cI a_d 40 o5, aA cB a_tape 120 f_tape]) 0 0 (va_A [oX7 a_t a_d a_e a_kept v_isKept a_found a_tape v_taped v_gone a_hears a_near a_firstDay a_daily v_begin v_round v_leastFar v_leastWhere v_mostLed a_heardNow v_firstMove v_at v_sort v_from v_value v_fault a_bitsOf a_sizeOf a_number a_passing, aA cI a_d 40 f_d, aA cB a_tape 120 f_tape] sz) := by
  refine g_metV (Out := Int32 × Int32 × Int32 × Int64 × Int32 × (Nat → Int32)) (fun oo => [oX7 a_t a_d a_e a_kept v_isKept a_found a_tape v_taped v_gone a_hears a_near a_firstDay a_daily v_begin v_round v_leastFar v_leastWhere v_mostLed a_heardNow v_firstMove oo.1 oo.2.1 oo.2.2.1 oo.2.2.2.1 oo.2.2.2.2.1 a_bitsOf a_sizeOf a_number a_passing, aA cI a_d 40 oo.2.2.2.2.2, aA cB a_tape 120 f_tape]) (o0, o1, o2, o3, o4, o5) (own := RX7) (lv := [(0, .ref a_t)]) (by decide) rfl rfl (Nat.le_of_ble_eq_true rfl) rfl ?_
  intro p e s m args below meth c Q ls C hret hV hl
  obtain ⟨out, hout⟩ : ∃ z : Int32 × Int32 × Int32 × Int64 × Int32 × (Nat → Int32), z = (o0, o1, o2, o3, o4, o5) := ⟨_, rfl⟩
  rw [← hout] at hF hret
  obtain ⟨H0, hH0⟩ : ∃ z : Heap, z = s.heap := ⟨_, rfl⟩
  obtain ⟨A0, hA0⟩ : ∃ z : Nat → Prop, z = va_A [oX7 a_t a_d a_e a_kept v_isKept a_found a_tape v_taped v_gone a_hears a_near a_firstDay a_daily v_begin v_round v_leastFar v_leastWhere v_mostLed a_heardNow v_firstMove v_at v_sort v_from v_value v_fault a_bitsOf a_sizeOf a_number a_passing, aA cI a_d 40 f_d, aA cB a_tape 120 f_tape] s.heap.size := ⟨_, rfl⟩
  rw [← hA0] at hret hV
  rw [← hH0] at hret hV
  rw [← hH0]
  obtain ⟨H, locs, hH⟩ : ∃ (z : Heap) (y : List Loc), z = H0 ∧ y = [] := ⟨_, _, rfl, rfl⟩
  rw [← hH.1, ← hH.2]
  have hV : gV (dC, dI) (gT cI cB cO) A0 H0 s [oX7 a_t a_d a_e a_kept v_isKept a_found a_tape v_taped v_gone a_hears a_near a_firstDay a_daily v_begin v_round v_leastFar v_leastWhere v_mostLed a_heardNow v_firstMove v_at v_sort v_from v_value v_fault a_bitsOf a_sizeOf a_number a_passing, aA cI a_d 40 f_d, aA cB a_tape 120 f_tape] H locs := by rw [hH.1, hH.2]; exact hV
  unfold F_X7_wallHere at hF
  refine lv_aload_n C.1 C.2.1 dX7_wallHere_0 rfl (lv_at hl 0 rfl) ?_
  obtain ⟨x1, x2, x3, x4, hc, hF⟩ := bd4_s hF
  refine g_cVv (ws' := [oX7 a_t a_d a_e a_kept v_isKept a_found a_tape v_taped v_gone a_hears a_near a_firstDay a_daily v_begin v_round v_leastFar v_leastWhere v_mostLed a_heardNow v_firstMove x1 x2 x3 x4 v_fault a_bitsOf a_sizeOf a_number a_passing, aA cI a_d 40 f_d, aA cB a_tape 120 f_tape]) (wr := [aA cI a_d 40 f_d]) C hV (k_X7_next l dC dI cI cB cO n0 H.size a_t a_d a_e a_kept a_found a_tape a_hears a_near a_firstDay a_daily a_heardNow a_bitsOf a_sizeOf a_number a_passing v_isKept v_taped v_gone v_begin v_round v_leastFar v_leastWhere v_mostLed v_firstMove v_at v_sort v_from v_value v_fault f_tape hc) mdX7_next gX7_wallHere_X7_next rfl rfl ⟨Nat.le_of_ble_eq_true rfl, Nat.le_of_ble_eq_true rfl⟩ [0, 2] [1] [1, 0, 2] rfl rfl rfl rfl rfl rfl rfl rfl rfl rfl hl.1 (Nat.le_of_ble_eq_true rfl) rfl dX7_wallHere_1 (fun H locs hV => ?_)
  refine lv_aload_n C.1 C.2.1 dX7_wallHere_4 rfl (lv_at hl 0 rfl) ?_
  refine lv_bipush (v := 11) C.1 C.2.1 dX7_wallHere_5 rfl ?_
  obtain ⟨x5, x6, x7, x8, x9, x10, hc, hF⟩ := bd6_s hF
  refine g_cVi (ws' := [oX7 a_t a_d a_e a_kept v_isKept a_found a_tape v_taped v_gone a_hears a_near a_firstDay a_daily v_begin v_round v_leastFar v_leastWhere v_mostLed a_heardNow v_firstMove x6 x7 x8 x9 x10 a_bitsOf a_sizeOf a_number a_passing, aA cI a_d 40 f_d, aA cB a_tape 120 f_tape]) (wr := [aA cI a_d 40 f_d]) C hV (k_X7_numberHere l dC dI cI cB cO n0 H.size a_t a_d a_e a_kept a_found a_tape a_hears a_near a_firstDay a_daily a_heardNow a_bitsOf a_sizeOf a_number a_passing v_isKept v_taped v_gone v_begin v_round v_leastFar v_leastWhere v_mostLed v_firstMove x1 x2 x3 x4 v_fault f_tape 11 hc) mdX7_numberHere gX7_wallHere_X7_numberHere rfl rfl ⟨Nat.le_of_ble_eq_true rfl, Nat.le_of_ble_eq_true rfl⟩ [0, 2] [1] [1, 0, 2] rfl rfl rfl rfl rfl rfl rfl rfl rfl rfl hl.1 (Nat.le_of_ble_eq_true rfl) rfl dX7_wallHere_7 (fun H locs hV => ?_)
  refine lv_istore_n (lv' := [(1, .int x5), (0, .ref a_t)]) C.1 C.2.1 dX7_wallHere_10 rfl hl (by decide) rfl (fun ls hl => ?_)
  refine lv_aload_n C.1 C.2.1 dX7_wallHere_11 rfl (lv_at hl 1 rfl) ?_
  refine g_get C hV flX7_wallHere_251 0 rfl rfl dX7_wallHere_12 ?_
  refine g_if_lt (tgt := 19) C hF dX7_wallHere_15 rfl (fun hF => ?_) (fun hF => ?_)
  · refine lv_aload_n C.1 C.2.1 dX7_wallHere_19 rfl (lv_at hl 1 rfl) ?_
    refine g_get C hV flX7_wallHere_7 0 rfl rfl dX7_wallHere_20 ?_
    refine lv_iconst (v := 3) C.1 C.2.1 dX7_wallHere_23 rfl ?_
    refine lv_iload_n C.1 C.2.1 dX7_wallHere_24 rfl (lv_at hl 0 rfl) ?_
    refine g_iast C hV 1 rfl hF (fun gq => [oX7 a_t a_d a_e a_kept v_isKept a_found a_tape v_taped v_gone a_hears a_near a_firstDay a_daily v_begin v_round v_leastFar v_leastWhere v_mostLed a_heardNow v_firstMove x6 x7 x8 x9 x10 a_bitsOf a_sizeOf a_number a_passing, aA cI a_d 40 gq, aA cB a_tape 120 f_tape]) (fun _ => rfl) dX7_wallHere_25 (fun g11 H locs hF hV => ?_)
    refine lv_aload_n C.1 C.2.1 dX7_wallHere_26 rfl (lv_at hl 1 rfl) ?_
    refine lv_ldc2 (v := 38444009) C.1 C.2.1 C.2.2.2.1 (C.2.2.2.2 _ ctX7_wallHere_285) dX7_wallHere_27 ?_
    obtain ⟨x12, hc, hF⟩ := bd1_s hF
    refine g_cVi (ws' := [oX7 a_t a_d a_e a_kept v_isKept a_found a_tape v_taped v_gone a_hears a_near a_firstDay a_daily v_begin v_round v_leastFar v_leastWhere v_mostLed a_heardNow v_firstMove x6 x7 x8 x9 x10 a_bitsOf a_sizeOf a_number a_passing, aA cI a_d 40 g11, aA cB a_tape 120 f_tape]) (wr := [aA cI a_d 40 g11, aA cB a_tape 120 f_tape]) C hV (k_X7_isWord l dC dI cI cB cO n0 H.size a_t a_d a_e a_kept a_found a_tape a_hears a_near a_firstDay a_daily a_heardNow a_bitsOf a_sizeOf a_number a_passing v_isKept v_taped v_gone v_begin v_round v_leastFar v_leastWhere v_mostLed v_firstMove x6 x7 x8 x9 x10 38444009 hc) mdX7_isWord gX7_wallHere_X7_isWord rfl rfl ⟨Nat.le_of_ble_eq_true rfl, Nat.le_of_ble_eq_true rfl⟩ [0] [1, 2] [2, 0, 1] rfl rfl rfl rfl rfl rfl rfl rfl rfl rfl hl.1 (Nat.le_of_ble_eq_true rfl) rfl dX7_wallHere_30 (fun H locs hV => ?_)
    refine g_if_eq (tgt := 70) C hF dX7_wallHere_33 rfl (fun hF => ?_) (fun hF => ?_)
    · exact hret (x6, x7, x8, x9, x10, g11) _ _ _ _ dX7_wallHere_70 hF hV
    refine lv_aload_n C.1 C.2.1 dX7_wallHere_36 rfl (lv_at hl 1 rfl) ?_
    obtain ⟨x13, x14, x15, x16, hc, hF⟩ := bd4_s hF
    refine g_cVv (ws' := [oX7 a_t a_d a_e a_kept v_isKept a_found a_tape v_taped v_gone a_hears a_near a_firstDay a_daily v_begin v_round v_leastFar v_leastWhere v_mostLed a_heardNow v_firstMove x13 x14 x15 x16 x10 a_bitsOf a_sizeOf a_number a_passing, aA cI a_d 40 g11, aA cB a_tape 120 f_tape]) (wr := [aA cI a_d 40 g11]) C hV (k_X7_next l dC dI cI cB cO n0 H.size a_t a_d a_e a_kept a_found a_tape a_hears a_near a_firstDay a_daily a_heardNow a_bitsOf a_sizeOf a_number a_passing v_isKept v_taped v_gone v_begin v_round v_leastFar v_leastWhere v_mostLed v_firstMove x6 x7 x8 x9 x10 f_tape hc) mdX7_next gX7_wallHere_X7_next rfl rfl ⟨Nat.le_of_ble_eq_true rfl, Nat.le_of_ble_eq_true rfl⟩ [0, 2] [1] [1, 0, 2] rfl rfl rfl rfl rfl rfl rfl rfl rfl rfl hl.1 (Nat.le_of_ble_eq_true rfl) rfl dX7_wallHere_37 (fun H locs hV => ?_)
    refine lv_aload_n C.1 C.2.1 dX7_wallHere_40 rfl (lv_at hl 1 rfl) ?_
    refine lv_bipush (v := 11) C.1 C.2.1 dX7_wallHere_41 rfl ?_
    obtain ⟨x17, x18, x19, x20, x21, x22, hc, hF⟩ := bd6_s hF
    refine g_cVi (ws' := [oX7 a_t a_d a_e a_kept v_isKept a_found a_tape v_taped v_gone a_hears a_near a_firstDay a_daily v_begin v_round v_leastFar v_leastWhere v_mostLed a_heardNow v_firstMove x18 x19 x20 x21 x22 a_bitsOf a_sizeOf a_number a_passing, aA cI a_d 40 g11, aA cB a_tape 120 f_tape]) (wr := [aA cI a_d 40 g11]) C hV (k_X7_numberHere l dC dI cI cB cO n0 H.size a_t a_d a_e a_kept a_found a_tape a_hears a_near a_firstDay a_daily a_heardNow a_bitsOf a_sizeOf a_number a_passing v_isKept v_taped v_gone v_begin v_round v_leastFar v_leastWhere v_mostLed v_firstMove x13 x14 x15 x16 x10 f_tape 11 hc) mdX7_numberHere gX7_wallHere_X7_numberHere rfl rfl ⟨Nat.le_of_ble_eq_true rfl, Nat.le_of_ble_eq_true rfl⟩ [0, 2] [1] [1, 0, 2] rfl rfl rfl rfl rfl rfl rfl rfl rfl rfl hl.1 (Nat.le_of_ble_eq_true rfl) rfl dX7_wallHere_43 (fun H locs hV => ?_)
    refine lv_istore_n (lv' := [(2, .int x17), (1, .int x5), (0, .ref a_t)]) C.1 C.2.1 dX7_wallHere_46 rfl hl (by decide) rfl (fun ls hl => ?_)
    refine lv_aload_n C.1 C.2.1 dX7_wallHere_47 rfl (lv_at hl 2 rfl) ?_
    refine g_get C hV flX7_wallHere_7 0 rfl rfl dX7_wallHere_48 ?_
    refine lv_iconst (v := 4) C.1 C.2.1 dX7_wallHere_51 rfl ?_
    refine lv_aload_n C.1 C.2.1 dX7_wallHere_52 rfl (lv_at hl 2 rfl) ?_
    refine g_get C hV flX7_wallHere_251 0 rfl rfl dX7_wallHere_53 ?_
    refine g_if_ge (tgt := 63) C hF dX7_wallHere_56 rfl (fun hF => ?_) (fun hF => ?_)
    · refine lv_aload_n C.1 C.2.1 dX7_wallHere_63 rfl (lv_at hl 2 rfl) ?_
      refine g_get C hV flX7_wallHere_7 0 rfl rfl dX7_wallHere_64 ?_
      refine lv_iconst (v := 4) C.1 C.2.1 dX7_wallHere_67 rfl ?_
      refine g_iald C hV 1 rfl hF dX7_wallHere_68 (fun x23 hF => ?_)
      refine g_iast C hV 1 rfl hF (fun gq => [oX7 a_t a_d a_e a_kept v_isKept a_found a_tape v_taped v_gone a_hears a_near a_firstDay a_daily v_begin v_round v_leastFar v_leastWhere v_mostLed a_heardNow v_firstMove x18 x19 x20 x21 x22 a_bitsOf a_sizeOf a_number a_passing, aA cI a_d 40 gq, aA cB a_tape 120 f_tape]) (fun _ => rfl) dX7_wallHere_69 (fun g24 H locs hF hV => ?_)
      exact hret (x18, x19, x20, x21, x22, g24) _ _ _ _ dX7_wallHere_70 hF hV
    refine lv_iload_n C.1 C.2.1 dX7_wallHere_59 rfl (lv_at hl 0 rfl) ?_
    refine lv_goto (tgt := 69) C.1 C.2.1 dX7_wallHere_60 rfl ?_
    refine g_iast C hV 1 rfl hF (fun gq => [oX7 a_t a_d a_e a_kept v_isKept a_found a_tape v_taped v_gone a_hears a_near a_firstDay a_daily v_begin v_round v_leastFar v_leastWhere v_mostLed a_heardNow v_firstMove x18 x19 x20 x21 x22 a_bitsOf a_sizeOf a_number a_passing, aA cI a_d 40 gq, aA cB a_tape 120 f_tape]) (fun _ => rfl) dX7_wallHere_69 (fun g25 H locs hF hV => ?_)
    exact hret (x18, x19, x20, x21, x22, g25) _ _ _ _ dX7_wallHere_70 hF hV
  exact hret (x6, x7, x8, x9, x10, f_d) _ _ _ _ dX7_wallHere_18 hF hV
abbrev rmX7_item : Room := { frames := 4, cells := 0, slots := 0, locals := 89 }
theorem mdX7_item : gMd yX7_item wsX7_item cX7_item 2 none 0 := ⟨⟨_, rfl⟩, by decide +kernel⟩
theorem ctX7_item_293 : Cond.constantLong RX7 293 453774 ∈ wsX7_item := List.mem_cons_of_mem _ (List.mem_append_left _ (List.mem_append_left _ (List.mem_of_getElem? (i := 0) rfl)))
theorem ctX7_item_298 : Cond.constantLong RX7 298 1388945614 ∈ wsX7_item := List.mem_cons_of_mem _ (List.mem_append_left _ (List.mem_append_left _ (List.mem_of_getElem? (i := 1) rfl)))
theorem flX7_item_7 : gFL wsX7_item RX7 7 7 0 RX7 TX7 28 := ⟨rfl, fun w h => List.mem_cons_of_mem _ (List.mem_append_right _ (h)), Nat.le_of_ble_eq_true rfl, List.mem_cons_of_mem _ (List.mem_append_left _ (List.mem_append_left _ (List.mem_of_getElem? (i := 3) rfl)))⟩
theorem ctX7_item_300 : Cond.constantLong RX7 300 131360 ∈ wsX7_item := List.mem_cons_of_mem _ (List.mem_append_left _ (List.mem_append_left _ (List.mem_of_getElem? (i := 2) rfl)))
def J_X7_item_54 (n0 : Nat) (v_sort : Int32) (v_value : Int64) (f_d : Nat → Int32) (v_taped : Int32) (v_at : Int32) (v_from : Int32) (f_tape : Nat → Int32) (v_fault : Int32) : Option (Int32 × Int32 × Int32 × Int64 × Int32 × (Nat → Int32)) := bd1 (F_X7_isWord n0 v_sort v_value 1388945614) (fun x4 => (if x4 = 0 then wrt f_d 40 5 0 (fun g5 => bd4 (F_X7_next n0 v_taped v_at v_sort v_from v_value f_tape) (fun x6 x7 x8 x9 => some (x6, x7, x8, x9, v_fault, g5))) else wrt f_d 40 5 1 (fun g10 => bd4 (F_X7_next n0 v_taped v_at v_sort v_from v_value f_tape) (fun x11 x12 x13 x14 => some (x11, x12, x13, x14, v_fault, g10)))))
def F_X7_item (n0 : Nat) (v_taped : Int32) (v_at : Int32) (v_sort : Int32) (v_from : Int32) (v_value : Int64) (v_fault : Int32) (f_d : Nat → Int32) (f_tape : Nat → Int32) : Option (Int32 × Int32 × Int32 × Int64 × Int32 × (Nat → Int32)) := bd1 (F_X7_kindHere n0 v_sort v_value) (fun x1 => (if x1 < 0 then bd1 (F_X7_isWord n0 v_sort v_value 453774) (fun x2 => (if x2 = 0 then bd1 (F_X7_isWord n0 v_sort v_value 1388945614) (fun x3 => (if x3 = 0 then bd1 (F_X7_isWord n0 v_sort v_value 131360) (fun x15 => (if x15 = 0 then bd1 (F_X7_wrongHere n0 v_from v_fault) (fun x16 => some (v_at, v_sort, v_from, v_value, x16, f_d)) else J_X7_item_54 n0 v_sort v_value f_d v_taped v_at v_from f_tape v_fault)) else J_X7_item_54 n0 v_sort v_value f_d v_taped v_at v_from f_tape v_fault)) else bd6 (F_X7_wallHere n0 v_taped v_at v_sort v_from v_value v_fault f_d f_tape) (fun x17 x18 x19 x20 x21 g22 => some (x17, x18, x19, x20, x21, g22)))) else bd6 (F_X7_tentHere n0 v_taped v_at v_sort v_from v_value v_fault f_d f_tape x1) (fun x23 x24 x25 x26 x27 g28 => some (x23, x24, x25, x26, x27, g28))))
set_option maxRecDepth 100000 in
set_option maxHeartbeats 4000000 in
theorem k_X7_item (l : Launch) (dC : Nat → ClassId) (dI : Nat → Nat → Nat) (cI cB cO : ClassId) (n0 sz : Nat) (a_t : Nat) (a_d : Nat) (a_e : Nat) (a_kept : Nat) (a_found : Nat) (a_tape : Nat) (a_hears : Nat) (a_near : Nat) (a_firstDay : Nat) (a_daily : Nat) (a_heardNow : Nat) (a_bitsOf : Nat) (a_sizeOf : Nat) (a_number : Nat) (a_passing : Nat)   (v_isKept : Int32) (v_taped : Int32) (v_gone : Int32) (v_begin : Int32) (v_round : Int32) (v_leastFar : Int32) (v_leastWhere : Int32) (v_mostLed : Int32) (v_firstMove : Int32) (v_at : Int32) (v_sort : Int32) (v_from : Int32) (v_value : Int64) (v_fault : Int32) (f_d : Nat → Int32) (f_tape : Nat → Int32)   {o0 : Int32} {o1 : Int32} {o2 : Int32} {o3 : Int64} {o4 : Int32} {o5 : Nat → Int32} (hF : F_X7_item n0 v_taped v_at v_sort v_from v_value v_fault f_d f_tape = some (o0, o1, o2, o3, o4, o5)) : Met l yX7_item wsX7_item rmX7_item (va_Pc [.ref a_t] (gPre (dC, dI) (gT cI cB cO) sz [oX7 a_t a_d a_e a_kept v_isKept a_found a_tape v_taped v_gone a_hears a_near a_firstDay a_daily v_begin v_round v_leastFar v_leastWhere v_mostLed a_heardNow v_firstMove v_at v_sort v_from v_value v_fault a_bitsOf a_sizeOf a_number a_passing, aA cI a_d 40 f_d, aA cB a_tape 120 f_tape])) (gQv (dC, dI) (gT cI cB cO) sz [oX7 a_t a_d a_e a_kept v_isKept a_found a_tape v_taped v_gone a_hears a_near a_firstDay a_daily v_begin v_round v_leastFar v_leastWhere v_mostLed a_heardNow v_firstMove v_at v_sort v_from v_value v_fault a_bitsOf a_sizeOf a_number a_passing, aA cI a_d 40 f_d, aA cB a_tape 120 f_tape] [oX7 a_t a_d a_e a_kept v_isKept a_found a_tape v_taped v_gone a_hears a_near a_firstDay a_daily v_begin v_round v_leastFar v_leastWhere v_mostLed a_heardNow v_firstMove o0 o1 o2 o3 o4 a_bitsOf a_sizeOf a_number a_passing, aA cI a_d 40 o5, aA cB a_tape 120 f_tape]) 0 0 (va_A [oX7 a_t a_d a_e a_kept v_isKept a_found a_tape v_taped v_gone a_hears a_near a_firstDay a_daily v_begin v_round v_leastFar v_leastWhere v_mostLed a_heardNow v_firstMove v_at v_sort v_from v_value v_fault a_bitsOf a_sizeOf a_number a_passing, aA cI a_d 40 f_d, aA cB a_tape 120 f_tape] sz) := by
  refine g_metV (Out := Int32 × Int32 × Int32 × Int64 × Int32 × (Nat → Int32)) (fun oo => [oX7 a_t a_d a_e a_kept v_isKept a_found a_tape v_taped v_gone a_hears a_near a_firstDay a_daily v_begin v_round v_leastFar v_leastWhere v_mostLed a_heardNow v_firstMove oo.1 oo.2.1 oo.2.2.1 oo.2.2.2.1 oo.2.2.2.2.1 a_bitsOf a_sizeOf a_number a_passing, aA cI a_d 40 oo.2.2.2.2.2, aA cB a_tape 120 f_tape]) (o0, o1, o2, o3, o4, o5) (own := RX7) (lv := [(0, .ref a_t)]) (by decide) rfl rfl (Nat.le_of_ble_eq_true rfl) rfl ?_
  intro p e s m args below meth c Q ls C hret hV hl
  obtain ⟨out, hout⟩ : ∃ z : Int32 × Int32 × Int32 × Int64 × Int32 × (Nat → Int32), z = (o0, o1, o2, o3, o4, o5) := ⟨_, rfl⟩
  rw [← hout] at hF hret
  obtain ⟨H0, hH0⟩ : ∃ z : Heap, z = s.heap := ⟨_, rfl⟩
  obtain ⟨A0, hA0⟩ : ∃ z : Nat → Prop, z = va_A [oX7 a_t a_d a_e a_kept v_isKept a_found a_tape v_taped v_gone a_hears a_near a_firstDay a_daily v_begin v_round v_leastFar v_leastWhere v_mostLed a_heardNow v_firstMove v_at v_sort v_from v_value v_fault a_bitsOf a_sizeOf a_number a_passing, aA cI a_d 40 f_d, aA cB a_tape 120 f_tape] s.heap.size := ⟨_, rfl⟩
  rw [← hA0] at hret hV
  rw [← hH0] at hret hV
  rw [← hH0]
  obtain ⟨H, locs, hH⟩ : ∃ (z : Heap) (y : List Loc), z = H0 ∧ y = [] := ⟨_, _, rfl, rfl⟩
  rw [← hH.1, ← hH.2]
  have hV : gV (dC, dI) (gT cI cB cO) A0 H0 s [oX7 a_t a_d a_e a_kept v_isKept a_found a_tape v_taped v_gone a_hears a_near a_firstDay a_daily v_begin v_round v_leastFar v_leastWhere v_mostLed a_heardNow v_firstMove v_at v_sort v_from v_value v_fault a_bitsOf a_sizeOf a_number a_passing, aA cI a_d 40 f_d, aA cB a_tape 120 f_tape] H locs := by rw [hH.1, hH.2]; exact hV
  unfold F_X7_item at hF
  refine lv_aload_n C.1 C.2.1 dX7_item_0 rfl (lv_at hl 0 rfl) ?_
  obtain ⟨x1, hc, hF⟩ := bd1_s hF
  refine g_cVi (ws' := [oX7 a_t a_d a_e a_kept v_isKept a_found a_tape v_taped v_gone a_hears a_near a_firstDay a_daily v_begin v_round v_leastFar v_leastWhere v_mostLed a_heardNow v_firstMove v_at v_sort v_from v_value v_fault a_bitsOf a_sizeOf a_number a_passing, aA cI a_d 40 f_d, aA cB a_tape 120 f_tape]) (wr := [aA cI a_d 40 f_d, aA cB a_tape 120 f_tape]) C hV (k_X7_kindHere l dC dI cI cB cO n0 H.size a_t a_d a_e a_kept a_found a_tape a_hears a_near a_firstDay a_daily a_heardNow a_bitsOf a_sizeOf a_number a_passing v_isKept v_taped v_gone v_begin v_round v_leastFar v_leastWhere v_mostLed v_firstMove v_at v_sort v_from v_value v_fault hc) mdX7_kindHere gX7_item_X7_kindHere rfl rfl ⟨Nat.le_of_ble_eq_true rfl, Nat.le_of_ble_eq_true rfl⟩ [0] [1, 2] [2, 0, 1] rfl rfl rfl rfl rfl rfl rfl rfl rfl rfl hl.1 (Nat.le_of_ble_eq_true rfl) rfl dX7_item_1 (fun H locs hV => ?_)
  refine lv_istore_n (lv' := [(1, .int x1), (0, .ref a_t)]) C.1 C.2.1 dX7_item_4 rfl hl (by decide) rfl (fun ls hl => ?_)
  refine lv_iload_n C.1 C.2.1 dX7_item_5 rfl (lv_at hl 0 rfl) ?_
  refine g_if_lt (tgt := 17) C hF dX7_item_6 rfl (fun hF => ?_) (fun hF => ?_)
  · refine lv_aload_n C.1 C.2.1 dX7_item_17 rfl (lv_at hl 1 rfl) ?_
    refine lv_ldc2 (v := 453774) C.1 C.2.1 C.2.2.2.1 (C.2.2.2.2 _ ctX7_item_293) dX7_item_18 ?_
    obtain ⟨x2, hc, hF⟩ := bd1_s hF
    refine g_cVi (ws' := [oX7 a_t a_d a_e a_kept v_isKept a_found a_tape v_taped v_gone a_hears a_near a_firstDay a_daily v_begin v_round v_leastFar v_leastWhere v_mostLed a_heardNow v_firstMove v_at v_sort v_from v_value v_fault a_bitsOf a_sizeOf a_number a_passing, aA cI a_d 40 f_d, aA cB a_tape 120 f_tape]) (wr := [aA cI a_d 40 f_d, aA cB a_tape 120 f_tape]) C hV (k_X7_isWord l dC dI cI cB cO n0 H.size a_t a_d a_e a_kept a_found a_tape a_hears a_near a_firstDay a_daily a_heardNow a_bitsOf a_sizeOf a_number a_passing v_isKept v_taped v_gone v_begin v_round v_leastFar v_leastWhere v_mostLed v_firstMove v_at v_sort v_from v_value v_fault 453774 hc) mdX7_isWord gX7_item_X7_isWord rfl rfl ⟨Nat.le_of_ble_eq_true rfl, Nat.le_of_ble_eq_true rfl⟩ [0] [1, 2] [2, 0, 1] rfl rfl rfl rfl rfl rfl rfl rfl rfl rfl hl.1 (Nat.le_of_ble_eq_true rfl) rfl dX7_item_21 (fun H locs hV => ?_)
    refine g_if_eq (tgt := 34) C hF dX7_item_24 rfl (fun hF => ?_) (fun hF => ?_)
    · refine lv_aload_n C.1 C.2.1 dX7_item_34 rfl (lv_at hl 1 rfl) ?_
      refine lv_ldc2 (v := 1388945614) C.1 C.2.1 C.2.2.2.1 (C.2.2.2.2 _ ctX7_item_298) dX7_item_35 ?_
      obtain ⟨x3, hc, hF⟩ := bd1_s hF
      refine g_cVi (ws' := [oX7 a_t a_d a_e a_kept v_isKept a_found a_tape v_taped v_gone a_hears a_near a_firstDay a_daily v_begin v_round v_leastFar v_leastWhere v_mostLed a_heardNow v_firstMove v_at v_sort v_from v_value v_fault a_bitsOf a_sizeOf a_number a_passing, aA cI a_d 40 f_d, aA cB a_tape 120 f_tape]) (wr := [aA cI a_d 40 f_d, aA cB a_tape 120 f_tape]) C hV (k_X7_isWord l dC dI cI cB cO n0 H.size a_t a_d a_e a_kept a_found a_tape a_hears a_near a_firstDay a_daily a_heardNow a_bitsOf a_sizeOf a_number a_passing v_isKept v_taped v_gone v_begin v_round v_leastFar v_leastWhere v_mostLed v_firstMove v_at v_sort v_from v_value v_fault 1388945614 hc) mdX7_isWord gX7_item_X7_isWord rfl rfl ⟨Nat.le_of_ble_eq_true rfl, Nat.le_of_ble_eq_true rfl⟩ [0] [1, 2] [2, 0, 1] rfl rfl rfl rfl rfl rfl rfl rfl rfl rfl hl.1 (Nat.le_of_ble_eq_true rfl) rfl dX7_item_38 (fun H locs hV => ?_)
      have hJ54 : ∀  (H : Heap) (locs : List Loc) (ls : Array Slot), gV (dC, dI) (gT cI cB cO) A0 H0 s [oX7 a_t a_d a_e a_kept v_isKept a_found a_tape v_taped v_gone a_hears a_near a_firstDay a_daily v_begin v_round v_leastFar v_leastWhere v_mostLed a_heardNow v_firstMove v_at v_sort v_from v_value v_fault a_bitsOf a_sizeOf a_number a_passing, aA cI a_d 40 f_d, aA cB a_tape 120 f_tape] H locs → lv_has ls 2 [(0, .ref a_t)] → J_X7_item_54 n0 v_sort v_value f_d v_taped v_at v_from f_tape v_fault = some out → W p l e rmX7_item s m args below meth c H locs 0 0 Q (F0 m 54 ls []) := by
        intro  H locs ls hV hl hF
        unfold J_X7_item_54 at hF
        refine lv_aload_n C.1 C.2.1 dX7_item_54 rfl (lv_at hl 0 rfl) ?_
        refine g_get C hV flX7_item_7 0 rfl rfl dX7_item_55 ?_
        refine lv_iconst (v := 5) C.1 C.2.1 dX7_item_58 rfl ?_
        refine lv_aload_n C.1 C.2.1 dX7_item_59 rfl (lv_at hl 0 rfl) ?_
        refine lv_ldc2 (v := 1388945614) C.1 C.2.1 C.2.2.2.1 (C.2.2.2.2 _ ctX7_item_298) dX7_item_60 ?_
        obtain ⟨x4, hc, hF⟩ := bd1_s hF
        refine g_cVi (ws' := [oX7 a_t a_d a_e a_kept v_isKept a_found a_tape v_taped v_gone a_hears a_near a_firstDay a_daily v_begin v_round v_leastFar v_leastWhere v_mostLed a_heardNow v_firstMove v_at v_sort v_from v_value v_fault a_bitsOf a_sizeOf a_number a_passing, aA cI a_d 40 f_d, aA cB a_tape 120 f_tape]) (wr := [aA cI a_d 40 f_d, aA cB a_tape 120 f_tape]) C hV (k_X7_isWord l dC dI cI cB cO n0 H.size a_t a_d a_e a_kept a_found a_tape a_hears a_near a_firstDay a_daily a_heardNow a_bitsOf a_sizeOf a_number a_passing v_isKept v_taped v_gone v_begin v_round v_leastFar v_leastWhere v_mostLed v_firstMove v_at v_sort v_from v_value v_fault 1388945614 hc) mdX7_isWord gX7_item_X7_isWord rfl rfl ⟨Nat.le_of_ble_eq_true rfl, Nat.le_of_ble_eq_true rfl⟩ [0] [1, 2] [2, 0, 1] rfl rfl rfl rfl rfl rfl rfl rfl rfl rfl hl.1 (Nat.le_of_ble_eq_true rfl) rfl dX7_item_63 (fun H locs hV => ?_)
        refine g_if_eq (tgt := 73) C hF dX7_item_66 rfl (fun hF => ?_) (fun hF => ?_)
        · refine lv_iconst (v := 0) C.1 C.2.1 dX7_item_73 rfl ?_
          refine g_iast C hV 1 rfl hF (fun gq => [oX7 a_t a_d a_e a_kept v_isKept a_found a_tape v_taped v_gone a_hears a_near a_firstDay a_daily v_begin v_round v_leastFar v_leastWhere v_mostLed a_heardNow v_firstMove v_at v_sort v_from v_value v_fault a_bitsOf a_sizeOf a_number a_passing, aA cI a_d 40 gq, aA cB a_tape 120 f_tape]) (fun _ => rfl) dX7_item_74 (fun g5 H locs hF hV => ?_)
          refine lv_aload_n C.1 C.2.1 dX7_item_75 rfl (lv_at hl 0 rfl) ?_
          obtain ⟨x6, x7, x8, x9, hc, hF⟩ := bd4_s hF
          refine g_cVv (ws' := [oX7 a_t a_d a_e a_kept v_isKept a_found a_tape v_taped v_gone a_hears a_near a_firstDay a_daily v_begin v_round v_leastFar v_leastWhere v_mostLed a_heardNow v_firstMove x6 x7 x8 x9 v_fault a_bitsOf a_sizeOf a_number a_passing, aA cI a_d 40 g5, aA cB a_tape 120 f_tape]) (wr := [aA cI a_d 40 g5]) C hV (k_X7_next l dC dI cI cB cO n0 H.size a_t a_d a_e a_kept a_found a_tape a_hears a_near a_firstDay a_daily a_heardNow a_bitsOf a_sizeOf a_number a_passing v_isKept v_taped v_gone v_begin v_round v_leastFar v_leastWhere v_mostLed v_firstMove v_at v_sort v_from v_value v_fault f_tape hc) mdX7_next gX7_item_X7_next rfl rfl ⟨Nat.le_of_ble_eq_true rfl, Nat.le_of_ble_eq_true rfl⟩ [0, 2] [1] [1, 0, 2] rfl rfl rfl rfl rfl rfl rfl rfl rfl rfl hl.1 (Nat.le_of_ble_eq_true rfl) rfl dX7_item_76 (fun H locs hV => ?_)
          refine lv_goto (tgt := 86) C.1 C.2.1 dX7_item_79 rfl ?_
          exact hret (x6, x7, x8, x9, v_fault, g5) _ _ _ _ dX7_item_86 hF hV
        refine lv_iconst (v := 1) C.1 C.2.1 dX7_item_69 rfl ?_
        refine lv_goto (tgt := 74) C.1 C.2.1 dX7_item_70 rfl ?_
        refine g_iast C hV 1 rfl hF (fun gq => [oX7 a_t a_d a_e a_kept v_isKept a_found a_tape v_taped v_gone a_hears a_near a_firstDay a_daily v_begin v_round v_leastFar v_leastWhere v_mostLed a_heardNow v_firstMove v_at v_sort v_from v_value v_fault a_bitsOf a_sizeOf a_number a_passing, aA cI a_d 40 gq, aA cB a_tape 120 f_tape]) (fun _ => rfl) dX7_item_74 (fun g10 H locs hF hV => ?_)
        refine lv_aload_n C.1 C.2.1 dX7_item_75 rfl (lv_at hl 0 rfl) ?_
        obtain ⟨x11, x12, x13, x14, hc, hF⟩ := bd4_s hF
        refine g_cVv (ws' := [oX7 a_t a_d a_e a_kept v_isKept a_found a_tape v_taped v_gone a_hears a_near a_firstDay a_daily v_begin v_round v_leastFar v_leastWhere v_mostLed a_heardNow v_firstMove x11 x12 x13 x14 v_fault a_bitsOf a_sizeOf a_number a_passing, aA cI a_d 40 g10, aA cB a_tape 120 f_tape]) (wr := [aA cI a_d 40 g10]) C hV (k_X7_next l dC dI cI cB cO n0 H.size a_t a_d a_e a_kept a_found a_tape a_hears a_near a_firstDay a_daily a_heardNow a_bitsOf a_sizeOf a_number a_passing v_isKept v_taped v_gone v_begin v_round v_leastFar v_leastWhere v_mostLed v_firstMove v_at v_sort v_from v_value v_fault f_tape hc) mdX7_next gX7_item_X7_next rfl rfl ⟨Nat.le_of_ble_eq_true rfl, Nat.le_of_ble_eq_true rfl⟩ [0, 2] [1] [1, 0, 2] rfl rfl rfl rfl rfl rfl rfl rfl rfl rfl hl.1 (Nat.le_of_ble_eq_true rfl) rfl dX7_item_76 (fun H locs hV => ?_)
        refine lv_goto (tgt := 86) C.1 C.2.1 dX7_item_79 rfl ?_
        exact hret (x11, x12, x13, x14, v_fault, g10) _ _ _ _ dX7_item_86 hF hV
      refine g_if_ne (tgt := 54) C hF dX7_item_41 rfl (fun hF => ?_) (fun hF => ?_)
      · exact hJ54  H locs ls hV (lv_sub hl [1] rfl) hF
      refine lv_aload_n C.1 C.2.1 dX7_item_44 rfl (lv_at hl 1 rfl) ?_
      refine lv_ldc2 (v := 131360) C.1 C.2.1 C.2.2.2.1 (C.2.2.2.2 _ ctX7_item_300) dX7_item_45 ?_
      obtain ⟨x15, hc, hF⟩ := bd1_s hF
      refine g_cVi (ws' := [oX7 a_t a_d a_e a_kept v_isKept a_found a_tape v_taped v_gone a_hears a_near a_firstDay a_daily v_begin v_round v_leastFar v_leastWhere v_mostLed a_heardNow v_firstMove v_at v_sort v_from v_value v_fault a_bitsOf a_sizeOf a_number a_passing, aA cI a_d 40 f_d, aA cB a_tape 120 f_tape]) (wr := [aA cI a_d 40 f_d, aA cB a_tape 120 f_tape]) C hV (k_X7_isWord l dC dI cI cB cO n0 H.size a_t a_d a_e a_kept a_found a_tape a_hears a_near a_firstDay a_daily a_heardNow a_bitsOf a_sizeOf a_number a_passing v_isKept v_taped v_gone v_begin v_round v_leastFar v_leastWhere v_mostLed v_firstMove v_at v_sort v_from v_value v_fault 131360 hc) mdX7_isWord gX7_item_X7_isWord rfl rfl ⟨Nat.le_of_ble_eq_true rfl, Nat.le_of_ble_eq_true rfl⟩ [0] [1, 2] [2, 0, 1] rfl rfl rfl rfl rfl rfl rfl rfl rfl rfl hl.1 (Nat.le_of_ble_eq_true rfl) rfl dX7_item_48 (fun H locs hV => ?_)
      refine g_if_eq (tgt := 82) C hF dX7_item_51 rfl (fun hF => ?_) (fun hF => ?_)
      · refine lv_aload_n C.1 C.2.1 dX7_item_82 rfl (lv_at hl 1 rfl) ?_
        obtain ⟨x16, hc, hF⟩ := bd1_s hF
        refine g_cVv (ws' := [oX7 a_t a_d a_e a_kept v_isKept a_found a_tape v_taped v_gone a_hears a_near a_firstDay a_daily v_begin v_round v_leastFar v_leastWhere v_mostLed a_heardNow v_firstMove v_at v_sort v_from v_value x16 a_bitsOf a_sizeOf a_number a_passing, aA cI a_d 40 f_d, aA cB a_tape 120 f_tape]) (wr := [aA cI a_d 40 f_d, aA cB a_tape 120 f_tape]) C hV (k_X7_wrongHere l dC dI cI cB cO n0 H.size a_t a_d a_e a_kept a_found a_tape a_hears a_near a_firstDay a_daily a_heardNow a_bitsOf a_sizeOf a_number a_passing v_isKept v_taped v_gone v_begin v_round v_leastFar v_leastWhere v_mostLed v_firstMove v_at v_sort v_from v_value v_fault hc) mdX7_wrongHere gX7_item_X7_wrongHere rfl rfl ⟨Nat.le_of_ble_eq_true rfl, Nat.le_of_ble_eq_true rfl⟩ [0] [1, 2] [2, 0, 1] rfl rfl rfl rfl rfl rfl rfl rfl rfl rfl hl.1 (Nat.le_of_ble_eq_true rfl) rfl dX7_item_83 (fun H locs hV => ?_)
        exact hret (v_at, v_sort, v_from, v_value, x16, f_d) _ _ _ _ dX7_item_86 hF hV
      exact hJ54  H locs ls hV (lv_sub hl [1] rfl) hF
    refine lv_aload_n C.1 C.2.1 dX7_item_27 rfl (lv_at hl 1 rfl) ?_
    obtain ⟨x17, x18, x19, x20, x21, g22, hc, hF⟩ := bd6_s hF
    refine g_cVv (ws' := [oX7 a_t a_d a_e a_kept v_isKept a_found a_tape v_taped v_gone a_hears a_near a_firstDay a_daily v_begin v_round v_leastFar v_leastWhere v_mostLed a_heardNow v_firstMove x17 x18 x19 x20 x21 a_bitsOf a_sizeOf a_number a_passing, aA cI a_d 40 g22, aA cB a_tape 120 f_tape]) (wr := []) C hV (k_X7_wallHere l dC dI cI cB cO n0 H.size a_t a_d a_e a_kept a_found a_tape a_hears a_near a_firstDay a_daily a_heardNow a_bitsOf a_sizeOf a_number a_passing v_isKept v_taped v_gone v_begin v_round v_leastFar v_leastWhere v_mostLed v_firstMove v_at v_sort v_from v_value v_fault f_d f_tape hc) mdX7_wallHere gX7_item_X7_wallHere rfl rfl ⟨Nat.le_of_ble_eq_true rfl, Nat.le_of_ble_eq_true rfl⟩ [0, 1, 2] [] [0, 1, 2] rfl rfl rfl rfl rfl rfl rfl rfl rfl rfl hl.1 (Nat.le_of_ble_eq_true rfl) rfl dX7_item_28 (fun H locs hV => ?_)
    refine lv_goto (tgt := 86) C.1 C.2.1 dX7_item_31 rfl ?_
    exact hret (x17, x18, x19, x20, x21, g22) _ _ _ _ dX7_item_86 hF hV
  refine lv_aload_n C.1 C.2.1 dX7_item_9 rfl (lv_at hl 1 rfl) ?_
  refine lv_iload_n C.1 C.2.1 dX7_item_10 rfl (lv_at hl 0 rfl) ?_
  obtain ⟨x23, x24, x25, x26, x27, g28, hc, hF⟩ := bd6_s hF
  refine g_cVv (ws' := [oX7 a_t a_d a_e a_kept v_isKept a_found a_tape v_taped v_gone a_hears a_near a_firstDay a_daily v_begin v_round v_leastFar v_leastWhere v_mostLed a_heardNow v_firstMove x23 x24 x25 x26 x27 a_bitsOf a_sizeOf a_number a_passing, aA cI a_d 40 g28, aA cB a_tape 120 f_tape]) (wr := []) C hV (k_X7_tentHere l dC dI cI cB cO n0 H.size a_t a_d a_e a_kept a_found a_tape a_hears a_near a_firstDay a_daily a_heardNow a_bitsOf a_sizeOf a_number a_passing v_isKept v_taped v_gone v_begin v_round v_leastFar v_leastWhere v_mostLed v_firstMove v_at v_sort v_from v_value v_fault f_d f_tape x1 hc) mdX7_tentHere gX7_item_X7_tentHere rfl rfl ⟨Nat.le_of_ble_eq_true rfl, Nat.le_of_ble_eq_true rfl⟩ [0, 1, 2] [] [0, 1, 2] rfl rfl rfl rfl rfl rfl rfl rfl rfl rfl hl.1 (Nat.le_of_ble_eq_true rfl) rfl dX7_item_11 (fun H locs hV => ?_)
  refine lv_goto (tgt := 86) C.1 C.2.1 dX7_item_14 rfl ?_
  exact hret (x23, x24, x25, x26, x27, g28) _ _ _ _ dX7_item_86 hF hV
abbrev rmX7_items : Room := { frames := 5, cells := 0, slots := 0, locals := 110 }
theorem mdX7_items : gMd yX7_items wsX7_items cX7_items 2 (some .int) 0 := ⟨⟨_, rfl⟩, by decide +kernel⟩
theorem flX7_items_219 : gFL wsX7_items RX7 219 7 19 RX7 TX7 28 := ⟨rfl, fun w h => List.mem_cons_of_mem _ (List.mem_append_right _ (h)), Nat.le_of_ble_eq_true rfl, List.mem_cons_of_mem _ (List.mem_append_left _ (List.mem_append_left _ (List.mem_of_getElem? (i := 0) rfl)))⟩
theorem fpX7_items_219 : gFP wsX7_items RX7 219 7 19 RX7 TX7 28 .int := ⟨flX7_items_219, ⟨tyX7, tyX7_ok⟩, nmX7, rfl, by decide +kernel⟩
theorem flX7_items_251 : gFL wsX7_items RX7 251 7 23 RX7 TX7 28 := ⟨rfl, fun w h => List.mem_cons_of_mem _ (List.mem_append_right _ (h)), Nat.le_of_ble_eq_true rfl, List.mem_cons_of_mem _ (List.mem_append_left _ (List.mem_append_left _ (List.mem_of_getElem? (i := 1) rfl)))⟩
theorem fpX7_items_251 : gFP wsX7_items RX7 251 7 23 RX7 TX7 28 .int := ⟨flX7_items_251, ⟨tyX7, tyX7_ok⟩, nmX7, rfl, by decide +kernel⟩
theorem flX7_items_232 : gFL wsX7_items RX7 232 7 20 RX7 TX7 28 := ⟨rfl, fun w h => List.mem_cons_of_mem _ (List.mem_append_right _ (h)), Nat.le_of_ble_eq_true rfl, List.mem_cons_of_mem _ (List.mem_append_left _ (List.mem_append_left _ (List.mem_of_getElem? (i := 2) rfl)))⟩
def J_X7_items_49 (u14 : Int32) (s11 : Int32) (u13 : Int32) (u16 : Int32) (u15 : Int32) (u17 : Int64) (t12 : Nat → Int32) (n0 : Nat) : Option (Int32 × Int32 × Int32 × Int32 × Int64 × Int32 × (Nat → Int32)) := (if 0 ≤ u14 then some (s11, u13, u16, u15, u17, u14, t12) else (if u16 = 0 then some (s11, u13, u16, u15, u17, u14, t12) else bd1 (F_X7_wrongHere n0 u15 u14) (fun x18 => some (s11, u13, u16, u15, u17, x18, t12))))
def L_X7_items_20 (n0 : Nat) (v_taped : Int32) (f_tape : Nat → Int32) : Nat → Int32 → (Nat → Int32) → Int32 → Int32 → Int32 → Int32 → Int64 → Option (Int32 × Int32 × Int32 × Int32 × Int64 × Int32 × (Nat → Int32)) := lpp7 (fun s11 t12 u13 u14 u15 u16 u17 kk20 => (if 0 ≤ u14 then J_X7_items_49 u14 s11 u13 u16 u15 u17 t12 n0 else (if u16 = 3 then bd4 (F_X7_next n0 v_taped u13 u16 u15 u17 f_tape) (fun x19 x20 x21 x22 => bd6 (F_X7_item n0 v_taped x19 x20 x21 x22 u14 t12 f_tape) (fun x23 x24 x25 x26 x27 g28 => nm (s11 + 1) (fun x29 => kk20 x29 g28 x23 x27 x25 x24 x26))) else J_X7_items_49 u14 s11 u13 u16 u15 u17 t12 n0)))
def F_X7_items (n0 : Nat) (v_taped : Int32) (v_at : Int32) (v_sort : Int32) (v_from : Int32) (v_value : Int64) (v_fault : Int32) (f_d : Nat → Int32) (f_tape : Nat → Int32) : Option (Int32 × Int32 × Int32 × Int32 × Int64 × Int32 × (Nat → Int32)) := bd4 (F_X7_next n0 v_taped 0 v_sort v_from v_value f_tape) (fun x1 x2 x3 x4 => bd6 (F_X7_item n0 v_taped x1 x2 x3 x4 ((-1)) f_d f_tape) (fun x5 x6 x7 x8 x9 g10 => L_X7_items_20 n0 v_taped f_tape n0 1 g10 x5 x9 x7 x6 x8))
set_option maxRecDepth 100000 in
set_option maxHeartbeats 4000000 in
theorem k_X7_items (l : Launch) (dC : Nat → ClassId) (dI : Nat → Nat → Nat) (cI cB cO : ClassId) (n0 sz : Nat) (a_t : Nat) (a_d : Nat) (a_e : Nat) (a_kept : Nat) (a_found : Nat) (a_tape : Nat) (a_hears : Nat) (a_near : Nat) (a_firstDay : Nat) (a_daily : Nat) (a_heardNow : Nat) (a_bitsOf : Nat) (a_sizeOf : Nat) (a_number : Nat) (a_passing : Nat)   (v_isKept : Int32) (v_taped : Int32) (v_gone : Int32) (v_begin : Int32) (v_round : Int32) (v_leastFar : Int32) (v_leastWhere : Int32) (v_mostLed : Int32) (v_firstMove : Int32) (v_at : Int32) (v_sort : Int32) (v_from : Int32) (v_value : Int64) (v_fault : Int32) (f_d : Nat → Int32) (f_tape : Nat → Int32)   {ro : Int32} {o0 : Int32} {o1 : Int32} {o2 : Int32} {o3 : Int64} {o4 : Int32} {o5 : Nat → Int32} (hF : F_X7_items n0 v_taped v_at v_sort v_from v_value v_fault f_d f_tape = some (ro, o0, o1, o2, o3, o4, o5)) : Met l yX7_items wsX7_items rmX7_items (va_Pc [.ref a_t] (gPre (dC, dI) (gT cI cB cO) sz [oX7 a_t a_d a_e a_kept v_isKept a_found a_tape v_taped v_gone a_hears a_near a_firstDay a_daily v_begin v_round v_leastFar v_leastWhere v_mostLed a_heardNow v_firstMove v_at v_sort v_from v_value v_fault a_bitsOf a_sizeOf a_number a_passing, aA cI a_d 40 f_d, aA cB a_tape 120 f_tape])) (gQi (dC, dI) (gT cI cB cO) sz [oX7 a_t a_d a_e a_kept v_isKept a_found a_tape v_taped v_gone a_hears a_near a_firstDay a_daily v_begin v_round v_leastFar v_leastWhere v_mostLed a_heardNow v_firstMove v_at v_sort v_from v_value v_fault a_bitsOf a_sizeOf a_number a_passing, aA cI a_d 40 f_d, aA cB a_tape 120 f_tape] ro [oX7 a_t a_d a_e a_kept v_isKept a_found a_tape v_taped v_gone a_hears a_near a_firstDay a_daily v_begin v_round v_leastFar v_leastWhere v_mostLed a_heardNow v_firstMove o0 o1 o2 o3 o4 a_bitsOf a_sizeOf a_number a_passing, aA cI a_d 40 o5, aA cB a_tape 120 f_tape]) 0 0 (va_A [oX7 a_t a_d a_e a_kept v_isKept a_found a_tape v_taped v_gone a_hears a_near a_firstDay a_daily v_begin v_round v_leastFar v_leastWhere v_mostLed a_heardNow v_firstMove v_at v_sort v_from v_value v_fault a_bitsOf a_sizeOf a_number a_passing, aA cI a_d 40 f_d, aA cB a_tape 120 f_tape] sz) := by
  refine g_metI (Out := Int32 × Int32 × Int32 × Int32 × Int64 × Int32 × (Nat → Int32)) (fun oo => oo.1) (fun oo => [oX7 a_t a_d a_e a_kept v_isKept a_found a_tape v_taped v_gone a_hears a_near a_firstDay a_daily v_begin v_round v_leastFar v_leastWhere v_mostLed a_heardNow v_firstMove oo.2.1 oo.2.2.1 oo.2.2.2.1 oo.2.2.2.2.1 oo.2.2.2.2.2.1 a_bitsOf a_sizeOf a_number a_passing, aA cI a_d 40 oo.2.2.2.2.2.2, aA cB a_tape 120 f_tape]) (ro, o0, o1, o2, o3, o4, o5) (own := RX7) (lv := [(0, .ref a_t)]) (by decide) rfl rfl (Nat.le_of_ble_eq_true rfl) rfl ?_
  intro p e s m args below meth c Q ls C hret hV hl
  obtain ⟨out, hout⟩ : ∃ z : Int32 × Int32 × Int32 × Int32 × Int64 × Int32 × (Nat → Int32), z = (ro, o0, o1, o2, o3, o4, o5) := ⟨_, rfl⟩
  rw [← hout] at hF hret
  obtain ⟨H0, hH0⟩ : ∃ z : Heap, z = s.heap := ⟨_, rfl⟩
  obtain ⟨A0, hA0⟩ : ∃ z : Nat → Prop, z = va_A [oX7 a_t a_d a_e a_kept v_isKept a_found a_tape v_taped v_gone a_hears a_near a_firstDay a_daily v_begin v_round v_leastFar v_leastWhere v_mostLed a_heardNow v_firstMove v_at v_sort v_from v_value v_fault a_bitsOf a_sizeOf a_number a_passing, aA cI a_d 40 f_d, aA cB a_tape 120 f_tape] s.heap.size := ⟨_, rfl⟩
  rw [← hA0] at hret hV
  rw [← hH0] at hret hV
  rw [← hH0]
  obtain ⟨H, locs, hH⟩ : ∃ (z : Heap) (y : List Loc), z = H0 ∧ y = [] := ⟨_, _, rfl, rfl⟩
  rw [← hH.1, ← hH.2]
  have hV : gV (dC, dI) (gT cI cB cO) A0 H0 s [oX7 a_t a_d a_e a_kept v_isKept a_found a_tape v_taped v_gone a_hears a_near a_firstDay a_daily v_begin v_round v_leastFar v_leastWhere v_mostLed a_heardNow v_firstMove v_at v_sort v_from v_value v_fault a_bitsOf a_sizeOf a_number a_passing, aA cI a_d 40 f_d, aA cB a_tape 120 f_tape] H locs := by rw [hH.1, hH.2]; exact hV
  unfold F_X7_items at hF
  refine lv_aload_n C.1 C.2.1 dX7_items_0 rfl (lv_at hl 0 rfl) ?_
  refine lv_iconst (v := 0) C.1 C.2.1 dX7_items_1 rfl ?_
  refine g_put (ws' := [oX7 a_t a_d a_e a_kept v_isKept a_found a_tape v_taped v_gone a_hears a_near a_firstDay a_daily v_begin v_round v_leastFar v_leastWhere v_mostLed a_heardNow v_firstMove 0 v_sort v_from v_value v_fault a_bitsOf a_sizeOf a_number a_passing, aA cI a_d 40 f_d, aA cB a_tape 120 f_tape]) C hV fpX7_items_219 0 rfl rfl rfl (Nat.le_of_ble_eq_true rfl) rfl dX7_items_2 (fun H locs hV => ?_)
  refine lv_aload_n C.1 C.2.1 dX7_items_5 rfl (lv_at hl 0 rfl) ?_
  refine lv_iconst (v := (-1)) C.1 C.2.1 dX7_items_6 rfl ?_
  refine g_put (ws' := [oX7 a_t a_d a_e a_kept v_isKept a_found a_tape v_taped v_gone a_hears a_near a_firstDay a_daily v_begin v_round v_leastFar v_leastWhere v_mostLed a_heardNow v_firstMove 0 v_sort v_from v_value ((-1)) a_bitsOf a_sizeOf a_number a_passing, aA cI a_d 40 f_d, aA cB a_tape 120 f_tape]) C hV fpX7_items_251 0 rfl rfl rfl (Nat.le_of_ble_eq_true rfl) rfl dX7_items_7 (fun H locs hV => ?_)
  refine lv_aload_n C.1 C.2.1 dX7_items_10 rfl (lv_at hl 0 rfl) ?_
  obtain ⟨x1, x2, x3, x4, hc, hF⟩ := bd4_s hF
  refine g_cVv (ws' := [oX7 a_t a_d a_e a_kept v_isKept a_found a_tape v_taped v_gone a_hears a_near a_firstDay a_daily v_begin v_round v_leastFar v_leastWhere v_mostLed a_heardNow v_firstMove x1 x2 x3 x4 ((-1)) a_bitsOf a_sizeOf a_number a_passing, aA cI a_d 40 f_d, aA cB a_tape 120 f_tape]) (wr := [aA cI a_d 40 f_d]) C hV (k_X7_next l dC dI cI cB cO n0 H.size a_t a_d a_e a_kept a_found a_tape a_hears a_near a_firstDay a_daily a_heardNow a_bitsOf a_sizeOf a_number a_passing v_isKept v_taped v_gone v_begin v_round v_leastFar v_leastWhere v_mostLed v_firstMove 0 v_sort v_from v_value ((-1)) f_tape hc) mdX7_next gX7_items_X7_next rfl rfl ⟨Nat.le_of_ble_eq_true rfl, Nat.le_of_ble_eq_true rfl⟩ [0, 2] [1] [1, 0, 2] rfl rfl rfl rfl rfl rfl rfl rfl rfl rfl hl.1 (Nat.le_of_ble_eq_true rfl) rfl dX7_items_11 (fun H locs hV => ?_)
  refine lv_aload_n C.1 C.2.1 dX7_items_14 rfl (lv_at hl 0 rfl) ?_
  obtain ⟨x5, x6, x7, x8, x9, g10, hc, hF⟩ := bd6_s hF
  refine g_cVv (ws' := [oX7 a_t a_d a_e a_kept v_isKept a_found a_tape v_taped v_gone a_hears a_near a_firstDay a_daily v_begin v_round v_leastFar v_leastWhere v_mostLed a_heardNow v_firstMove x5 x6 x7 x8 x9 a_bitsOf a_sizeOf a_number a_passing, aA cI a_d 40 g10, aA cB a_tape 120 f_tape]) (wr := []) C hV (k_X7_item l dC dI cI cB cO n0 H.size a_t a_d a_e a_kept a_found a_tape a_hears a_near a_firstDay a_daily a_heardNow a_bitsOf a_sizeOf a_number a_passing v_isKept v_taped v_gone v_begin v_round v_leastFar v_leastWhere v_mostLed v_firstMove x1 x2 x3 x4 ((-1)) f_d f_tape hc) mdX7_item gX7_items_X7_item rfl rfl ⟨Nat.le_of_ble_eq_true rfl, Nat.le_of_ble_eq_true rfl⟩ [0, 1, 2] [] [0, 1, 2] rfl rfl rfl rfl rfl rfl rfl rfl rfl rfl hl.1 (Nat.le_of_ble_eq_true rfl) rfl dX7_items_15 (fun H locs hV => ?_)
  refine lv_iconst (v := 1) C.1 C.2.1 dX7_items_18 rfl ?_
  refine lv_istore_n (lv' := [(1, .int 1), (0, .ref a_t)]) C.1 C.2.1 dX7_items_19 rfl hl (by decide) rfl (fun ls hl => ?_)
  have hL20 : ∀ (n : Nat) (s11 : Int32) (t12 : Nat → Int32) (u13 : Int32) (u14 : Int32) (u15 : Int32) (u16 : Int32) (u17 : Int64) (H : Heap) (locs : List Loc) (ls : Array Slot), gV (dC, dI) (gT cI cB cO) A0 H0 s [oX7 a_t a_d a_e a_kept v_isKept a_found a_tape v_taped v_gone a_hears a_near a_firstDay a_daily v_begin v_round v_leastFar v_leastWhere v_mostLed a_heardNow v_firstMove u13 u16 u15 u17 u14 a_bitsOf a_sizeOf a_number a_passing, aA cI a_d 40 t12, aA cB a_tape 120 f_tape] H locs → lv_has ls 2 [(0, .ref a_t), (1, .int s11)] → L_X7_items_20 n0 v_taped f_tape n s11 t12 u13 u14 u15 u16 u17 = some out → W p l e rmX7_items s m args below meth c H locs 0 0 Q (F0 m 20 ls []) := by
    intro n
    induction n with
    | zero => intro s11 t12 u13 u14 u15 u16 u17 H locs ls hV hl hF; exact lpp7_z hF
    | succ n ih20 =>
      intro s11 t12 u13 u14 u15 u16 u17 H locs ls hV hl hF
      obtain ⟨kk20, hk20, hF⟩ := lpp7_g hF
      have hq20 : ∀ (s11 : Int32) (t12 : Nat → Int32) (u13 : Int32) (u14 : Int32) (u15 : Int32) (u16 : Int32) (u17 : Int64), kk20 s11 t12 u13 u14 u15 u16 u17 = some out → L_X7_items_20 n0 v_taped f_tape n s11 t12 u13 u14 u15 u16 u17 = some out := fun _ _ _ _ _ _ _ h => by rw [hk20] at h; exact h
      refine lv_aload_n C.1 C.2.1 dX7_items_20 rfl (lv_at hl 0 rfl) ?_
      refine g_get C hV flX7_items_251 0 rfl rfl dX7_items_21 ?_
      have hJ49 : ∀  (H : Heap) (locs : List Loc) (ls : Array Slot), gV (dC, dI) (gT cI cB cO) A0 H0 s [oX7 a_t a_d a_e a_kept v_isKept a_found a_tape v_taped v_gone a_hears a_near a_firstDay a_daily v_begin v_round v_leastFar v_leastWhere v_mostLed a_heardNow v_firstMove u13 u16 u15 u17 u14 a_bitsOf a_sizeOf a_number a_passing, aA cI a_d 40 t12, aA cB a_tape 120 f_tape] H locs → lv_has ls 2 [(0, .ref a_t), (1, .int s11)] → J_X7_items_49 u14 s11 u13 u16 u15 u17 t12 n0 = some out → W p l e rmX7_items s m args below meth c H locs 0 0 Q (F0 m 49 ls []) := by
        intro  H locs ls hV hl hF
        unfold J_X7_items_49 at hF
        refine lv_aload_n C.1 C.2.1 dX7_items_49 rfl (lv_at hl 0 rfl) ?_
        refine g_get C hV flX7_items_251 0 rfl rfl dX7_items_50 ?_
        refine g_if_ge (tgt := 67) C hF dX7_items_53 rfl (fun hF => ?_) (fun hF => ?_)
        · refine lv_iload_n C.1 C.2.1 dX7_items_67 rfl (lv_at hl 1 rfl) ?_
          exact hret (s11, u13, u16, u15, u17, u14, t12) _ _ _ _ dX7_items_68 hF hV
        refine lv_aload_n C.1 C.2.1 dX7_items_56 rfl (lv_at hl 0 rfl) ?_
        refine g_get C hV flX7_items_232 0 rfl rfl dX7_items_57 ?_
        refine g_if_eq (tgt := 67) C hF dX7_items_60 rfl (fun hF => ?_) (fun hF => ?_)
        · refine lv_iload_n C.1 C.2.1 dX7_items_67 rfl (lv_at hl 1 rfl) ?_
          exact hret (s11, u13, u16, u15, u17, u14, t12) _ _ _ _ dX7_items_68 hF hV
        refine lv_aload_n C.1 C.2.1 dX7_items_63 rfl (lv_at hl 0 rfl) ?_
        obtain ⟨x18, hc, hF⟩ := bd1_s hF
        refine g_cVv (ws' := [oX7 a_t a_d a_e a_kept v_isKept a_found a_tape v_taped v_gone a_hears a_near a_firstDay a_daily v_begin v_round v_leastFar v_leastWhere v_mostLed a_heardNow v_firstMove u13 u16 u15 u17 x18 a_bitsOf a_sizeOf a_number a_passing, aA cI a_d 40 t12, aA cB a_tape 120 f_tape]) (wr := [aA cI a_d 40 t12, aA cB a_tape 120 f_tape]) C hV (k_X7_wrongHere l dC dI cI cB cO n0 H.size a_t a_d a_e a_kept a_found a_tape a_hears a_near a_firstDay a_daily a_heardNow a_bitsOf a_sizeOf a_number a_passing v_isKept v_taped v_gone v_begin v_round v_leastFar v_leastWhere v_mostLed v_firstMove u13 u16 u15 u17 u14 hc) mdX7_wrongHere gX7_items_X7_wrongHere rfl rfl ⟨Nat.le_of_ble_eq_true rfl, Nat.le_of_ble_eq_true rfl⟩ [0] [1, 2] [2, 0, 1] rfl rfl rfl rfl rfl rfl rfl rfl rfl rfl hl.1 (Nat.le_of_ble_eq_true rfl) rfl dX7_items_64 (fun H locs hV => ?_)
        refine lv_iload_n C.1 C.2.1 dX7_items_67 rfl (lv_at hl 1 rfl) ?_
        exact hret (s11, u13, u16, u15, u17, x18, t12) _ _ _ _ dX7_items_68 hF hV
      refine g_if_ge (tgt := 49) C hF dX7_items_24 rfl (fun hF => ?_) (fun hF => ?_)
      · exact hJ49  H locs ls hV (lv_sub hl [0, 1] rfl) hF
      refine lv_aload_n C.1 C.2.1 dX7_items_27 rfl (lv_at hl 0 rfl) ?_
      refine g_get C hV flX7_items_232 0 rfl rfl dX7_items_28 ?_
      refine lv_iconst (v := 3) C.1 C.2.1 dX7_items_31 rfl ?_
      refine g_icmp_ne (tgt := 49) C hF dX7_items_32 rfl (fun hF => ?_) (fun hF => ?_)
      · exact hJ49  H locs ls hV (lv_sub hl [0, 1] rfl) hF
      refine lv_aload_n C.1 C.2.1 dX7_items_35 rfl (lv_at hl 0 rfl) ?_
      obtain ⟨x19, x20, x21, x22, hc, hF⟩ := bd4_s hF
      refine g_cVv (ws' := [oX7 a_t a_d a_e a_kept v_isKept a_found a_tape v_taped v_gone a_hears a_near a_firstDay a_daily v_begin v_round v_leastFar v_leastWhere v_mostLed a_heardNow v_firstMove x19 x20 x21 x22 u14 a_bitsOf a_sizeOf a_number a_passing, aA cI a_d 40 t12, aA cB a_tape 120 f_tape]) (wr := [aA cI a_d 40 t12]) C hV (k_X7_next l dC dI cI cB cO n0 H.size a_t a_d a_e a_kept a_found a_tape a_hears a_near a_firstDay a_daily a_heardNow a_bitsOf a_sizeOf a_number a_passing v_isKept v_taped v_gone v_begin v_round v_leastFar v_leastWhere v_mostLed v_firstMove u13 u16 u15 u17 u14 f_tape hc) mdX7_next gX7_items_X7_next rfl rfl ⟨Nat.le_of_ble_eq_true rfl, Nat.le_of_ble_eq_true rfl⟩ [0, 2] [1] [1, 0, 2] rfl rfl rfl rfl rfl rfl rfl rfl rfl rfl hl.1 (Nat.le_of_ble_eq_true rfl) rfl dX7_items_36 (fun H locs hV => ?_)
      refine lv_aload_n C.1 C.2.1 dX7_items_39 rfl (lv_at hl 0 rfl) ?_
      obtain ⟨x23, x24, x25, x26, x27, g28, hc, hF⟩ := bd6_s hF
      refine g_cVv (ws' := [oX7 a_t a_d a_e a_kept v_isKept a_found a_tape v_taped v_gone a_hears a_near a_firstDay a_daily v_begin v_round v_leastFar v_leastWhere v_mostLed a_heardNow v_firstMove x23 x24 x25 x26 x27 a_bitsOf a_sizeOf a_number a_passing, aA cI a_d 40 g28, aA cB a_tape 120 f_tape]) (wr := []) C hV (k_X7_item l dC dI cI cB cO n0 H.size a_t a_d a_e a_kept a_found a_tape a_hears a_near a_firstDay a_daily a_heardNow a_bitsOf a_sizeOf a_number a_passing v_isKept v_taped v_gone v_begin v_round v_leastFar v_leastWhere v_mostLed v_firstMove x19 x20 x21 x22 u14 t12 f_tape hc) mdX7_item gX7_items_X7_item rfl rfl ⟨Nat.le_of_ble_eq_true rfl, Nat.le_of_ble_eq_true rfl⟩ [0, 1, 2] [] [0, 1, 2] rfl rfl rfl rfl rfl rfl rfl rfl rfl rfl hl.1 (Nat.le_of_ble_eq_true rfl) rfl dX7_items_40 (fun H locs hV => ?_)
      refine g_iinc C hF dX7_items_43 (d := 1) rfl hl (j := 1) rfl (by decide) (fun y => [(1, .int y), (0, .ref a_t)]) (fun _ => rfl) (fun x29 ls hF hl => ?_)
      refine lv_goto (tgt := 20) C.1 C.2.1 dX7_items_46 rfl ?_
      exact ih20 x29 g28 x23 x27 x25 x24 x26 H locs ls hV (lv_sub hl [1, 0] rfl) (hq20 x29 g28 x23 x27 x25 x24 x26 hF)
  exact hL20 n0 1 g10 x5 x9 x7 x6 x8 H locs ls hV (lv_sub hl [1, 0] rfl) hF
abbrev rmX7_text : Room := { frames := 6, cells := 0, slots := 0, locals := 131 }
theorem mdX7_text : gMd yX7_text wsX7_text cX7_text 2 (some .int) 0 := ⟨⟨_, rfl⟩, by decide +kernel⟩
theorem flX7_text_7 : gFL wsX7_text RX7 7 7 0 RX7 TX7 28 := ⟨rfl, fun w h => List.mem_cons_of_mem _ (List.mem_append_right _ (h)), Nat.le_of_ble_eq_true rfl, List.mem_cons_of_mem _ (List.mem_append_left _ (List.mem_append_left _ (List.mem_of_getElem? (i := 0) rfl)))⟩
theorem flX7_text_13 : gFL wsX7_text RX7 13 7 1 RX7 TX7 28 := ⟨rfl, fun w h => List.mem_cons_of_mem _ (List.mem_append_right _ (h)), Nat.le_of_ble_eq_true rfl, List.mem_cons_of_mem _ (List.mem_append_left _ (List.mem_append_left _ (List.mem_of_getElem? (i := 1) rfl)))⟩
theorem flX7_text_216 : gFL wsX7_text RX7 216 7 6 RX7 TX7 28 := ⟨rfl, fun w h => List.mem_cons_of_mem _ (List.mem_append_right _ (h)), Nat.le_of_ble_eq_true rfl, List.mem_cons_of_mem _ (List.mem_append_left _ (List.mem_append_left _ (List.mem_of_getElem? (i := 2) rfl)))⟩
theorem fpX7_text_216 : gFP wsX7_text RX7 216 7 6 RX7 TX7 28 .int := ⟨flX7_text_216, ⟨tyX7, tyX7_ok⟩, nmX7, rfl, by decide +kernel⟩
theorem flX7_text_251 : gFL wsX7_text RX7 251 7 23 RX7 TX7 28 := ⟨rfl, fun w h => List.mem_cons_of_mem _ (List.mem_append_right _ (h)), Nat.le_of_ble_eq_true rfl, List.mem_cons_of_mem _ (List.mem_append_left _ (List.mem_append_left _ (List.mem_of_getElem? (i := 3) rfl)))⟩
def F_X7_text (n0 : Nat) (v_taped : Int32) (v_at : Int32) (v_sort : Int32) (v_from : Int32) (v_value : Int64) (v_fault : Int32) (f_d : Nat → Int32) (f_e : Nat → Int32) (f_tape : Nat → Int32) : Option (Int32 × Int32 × Int32 × Int32 × Int32 × Int64 × Int32 × (Nat → Int32) × (Nat → Int32)) := bd1 (F_X7_copies n0 40 40 f_d f_e) (fun g1 => bd7 (F_X7_items n0 v_taped v_at v_sort v_from v_value v_fault f_d f_tape) (fun x2 x3 x4 x5 x6 x7 g8 => (if x7 < 0 then some (x2, 0, x3, x4, x5, x6, x7, g8, g1) else bd1 (F_X7_copies n0 40 40 g1 g8) (fun g9 => nm (((-1)) - x7) (fun x10 => some (x10, 0, x3, x4, x5, x6, x7, g9, g1))))))
set_option maxRecDepth 100000 in
set_option maxHeartbeats 4000000 in
theorem k_X7_text (l : Launch) (dC : Nat → ClassId) (dI : Nat → Nat → Nat) (cI cB cO : ClassId) (n0 sz : Nat) (a_t : Nat) (a_d : Nat) (a_e : Nat) (a_kept : Nat) (a_found : Nat) (a_tape : Nat) (a_hears : Nat) (a_near : Nat) (a_firstDay : Nat) (a_daily : Nat) (a_heardNow : Nat) (a_bitsOf : Nat) (a_sizeOf : Nat) (a_number : Nat) (a_passing : Nat)   (v_isKept : Int32) (v_taped : Int32) (v_gone : Int32) (v_begin : Int32) (v_round : Int32) (v_leastFar : Int32) (v_leastWhere : Int32) (v_mostLed : Int32) (v_firstMove : Int32) (v_at : Int32) (v_sort : Int32) (v_from : Int32) (v_value : Int64) (v_fault : Int32) (f_d : Nat → Int32) (f_e : Nat → Int32) (f_tape : Nat → Int32)   {ro : Int32} {o0 : Int32} {o1 : Int32} {o2 : Int32} {o3 : Int32} {o4 : Int64} {o5 : Int32} {o6 : Nat → Int32} {o7 : Nat → Int32} (hF : F_X7_text n0 v_taped v_at v_sort v_from v_value v_fault f_d f_e f_tape = some (ro, o0, o1, o2, o3, o4, o5, o6, o7)) : Met l yX7_text wsX7_text rmX7_text (va_Pc [.ref a_t] (gPre (dC, dI) (gT cI cB cO) sz [oX7 a_t a_d a_e a_kept v_isKept a_found a_tape v_taped v_gone a_hears a_near a_firstDay a_daily v_begin v_round v_leastFar v_leastWhere v_mostLed a_heardNow v_firstMove v_at v_sort v_from v_value v_fault a_bitsOf a_sizeOf a_number a_passing, aA cI a_d 40 f_d, aA cI a_e 40 f_e, aA cB a_tape 120 f_tape])) (gQi (dC, dI) (gT cI cB cO) sz [oX7 a_t a_d a_e a_kept v_isKept a_found a_tape v_taped v_gone a_hears a_near a_firstDay a_daily v_begin v_round v_leastFar v_leastWhere v_mostLed a_heardNow v_firstMove v_at v_sort v_from v_value v_fault a_bitsOf a_sizeOf a_number a_passing, aA cI a_d 40 f_d, aA cI a_e 40 f_e, aA cB a_tape 120 f_tape] ro [oX7 a_t a_d a_e a_kept v_isKept a_found a_tape o0 v_gone a_hears a_near a_firstDay a_daily v_begin v_round v_leastFar v_leastWhere v_mostLed a_heardNow v_firstMove o1 o2 o3 o4 o5 a_bitsOf a_sizeOf a_number a_passing, aA cI a_d 40 o6, aA cI a_e 40 o7, aA cB a_tape 120 f_tape]) 0 0 (va_A [oX7 a_t a_d a_e a_kept v_isKept a_found a_tape v_taped v_gone a_hears a_near a_firstDay a_daily v_begin v_round v_leastFar v_leastWhere v_mostLed a_heardNow v_firstMove v_at v_sort v_from v_value v_fault a_bitsOf a_sizeOf a_number a_passing, aA cI a_d 40 f_d, aA cI a_e 40 f_e, aA cB a_tape 120 f_tape] sz) := by
  refine g_metI (Out := Int32 × Int32 × Int32 × Int32 × Int32 × Int64 × Int32 × (Nat → Int32) × (Nat → Int32)) (fun oo => oo.1) (fun oo => [oX7 a_t a_d a_e a_kept v_isKept a_found a_tape oo.2.1 v_gone a_hears a_near a_firstDay a_daily v_begin v_round v_leastFar v_leastWhere v_mostLed a_heardNow v_firstMove oo.2.2.1 oo.2.2.2.1 oo.2.2.2.2.1 oo.2.2.2.2.2.1 oo.2.2.2.2.2.2.1 a_bitsOf a_sizeOf a_number a_passing, aA cI a_d 40 oo.2.2.2.2.2.2.2.1, aA cI a_e 40 oo.2.2.2.2.2.2.2.2, aA cB a_tape 120 f_tape]) (ro, o0, o1, o2, o3, o4, o5, o6, o7) (own := RX7) (lv := [(0, .ref a_t)]) (by decide) rfl rfl (Nat.le_of_ble_eq_true rfl) rfl ?_
  intro p e s m args below meth c Q ls C hret hV hl
  obtain ⟨out, hout⟩ : ∃ z : Int32 × Int32 × Int32 × Int32 × Int32 × Int64 × Int32 × (Nat → Int32) × (Nat → Int32), z = (ro, o0, o1, o2, o3, o4, o5, o6, o7) := ⟨_, rfl⟩
  rw [← hout] at hF hret
  obtain ⟨H0, hH0⟩ : ∃ z : Heap, z = s.heap := ⟨_, rfl⟩
  obtain ⟨A0, hA0⟩ : ∃ z : Nat → Prop, z = va_A [oX7 a_t a_d a_e a_kept v_isKept a_found a_tape v_taped v_gone a_hears a_near a_firstDay a_daily v_begin v_round v_leastFar v_leastWhere v_mostLed a_heardNow v_firstMove v_at v_sort v_from v_value v_fault a_bitsOf a_sizeOf a_number a_passing, aA cI a_d 40 f_d, aA cI a_e 40 f_e, aA cB a_tape 120 f_tape] s.heap.size := ⟨_, rfl⟩
  rw [← hA0] at hret hV
  rw [← hH0] at hret hV
  rw [← hH0]
  obtain ⟨H, locs, hH⟩ : ∃ (z : Heap) (y : List Loc), z = H0 ∧ y = [] := ⟨_, _, rfl, rfl⟩
  rw [← hH.1, ← hH.2]
  have hV : gV (dC, dI) (gT cI cB cO) A0 H0 s [oX7 a_t a_d a_e a_kept v_isKept a_found a_tape v_taped v_gone a_hears a_near a_firstDay a_daily v_begin v_round v_leastFar v_leastWhere v_mostLed a_heardNow v_firstMove v_at v_sort v_from v_value v_fault a_bitsOf a_sizeOf a_number a_passing, aA cI a_d 40 f_d, aA cI a_e 40 f_e, aA cB a_tape 120 f_tape] H locs := by rw [hH.1, hH.2]; exact hV
  unfold F_X7_text at hF
  refine lv_aload_n C.1 C.2.1 dX7_text_0 rfl (lv_at hl 0 rfl) ?_
  refine g_get C hV flX7_text_7 0 rfl rfl dX7_text_1 ?_
  refine lv_aload_n C.1 C.2.1 dX7_text_4 rfl (lv_at hl 0 rfl) ?_
  refine g_get C hV flX7_text_13 0 rfl rfl dX7_text_5 ?_
  obtain ⟨g1, hc, hF⟩ := bd1_s hF
  refine g_cSv (ws' := [oX7 a_t a_d a_e a_kept v_isKept a_found a_tape v_taped v_gone a_hears a_near a_firstDay a_daily v_begin v_round v_leastFar v_leastWhere v_mostLed a_heardNow v_firstMove v_at v_sort v_from v_value v_fault a_bitsOf a_sizeOf a_number a_passing, aA cI a_d 40 f_d, aA cI a_e 40 g1, aA cB a_tape 120 f_tape]) (wr := [oX7 a_t a_d a_e a_kept v_isKept a_found a_tape v_taped v_gone a_hears a_near a_firstDay a_daily v_begin v_round v_leastFar v_leastWhere v_mostLed a_heardNow v_firstMove v_at v_sort v_from v_value v_fault a_bitsOf a_sizeOf a_number a_passing, aA cB a_tape 120 f_tape]) C hV (k_X7_copies l dC dI cI cB cO n0 H.size a_d a_e 40 40 f_d f_e hc) mdX7_copies gX7_text_X7_copies rfl rfl ⟨Nat.le_of_ble_eq_true rfl, Nat.le_of_ble_eq_true rfl⟩ [1, 2] [0, 3] [0, 2, 3, 1] rfl rfl rfl rfl rfl rfl rfl rfl hl.1 (Nat.le_of_ble_eq_true rfl) rfl dX7_text_8 (fun H locs hV => ?_)
  refine lv_aload_n C.1 C.2.1 dX7_text_11 rfl (lv_at hl 0 rfl) ?_
  obtain ⟨x2, x3, x4, x5, x6, x7, g8, hc, hF⟩ := bd7_s hF
  refine g_cVi (ws' := [oX7 a_t a_d a_e a_kept v_isKept a_found a_tape v_taped v_gone a_hears a_near a_firstDay a_daily v_begin v_round v_leastFar v_leastWhere v_mostLed a_heardNow v_firstMove x3 x4 x5 x6 x7 a_bitsOf a_sizeOf a_number a_passing, aA cI a_d 40 g8, aA cI a_e 40 g1, aA cB a_tape 120 f_tape]) (wr := [aA cI a_e 40 g1]) C hV (k_X7_items l dC dI cI cB cO n0 H.size a_t a_d a_e a_kept a_found a_tape a_hears a_near a_firstDay a_daily a_heardNow a_bitsOf a_sizeOf a_number a_passing v_isKept v_taped v_gone v_begin v_round v_leastFar v_leastWhere v_mostLed v_firstMove v_at v_sort v_from v_value v_fault f_d f_tape hc) mdX7_items gX7_text_X7_items rfl rfl ⟨Nat.le_of_ble_eq_true rfl, Nat.le_of_ble_eq_true rfl⟩ [0, 1, 3] [2] [1, 2, 0, 3] rfl rfl rfl rfl rfl rfl rfl rfl rfl rfl hl.1 (Nat.le_of_ble_eq_true rfl) rfl dX7_text_12 (fun H locs hV => ?_)
  refine lv_istore_n (lv' := [(1, .int x2), (0, .ref a_t)]) C.1 C.2.1 dX7_text_15 rfl hl (by decide) rfl (fun ls hl => ?_)
  refine lv_aload_n C.1 C.2.1 dX7_text_16 rfl (lv_at hl 1 rfl) ?_
  refine lv_iconst (v := 0) C.1 C.2.1 dX7_text_17 rfl ?_
  refine g_put (ws' := [oX7 a_t a_d a_e a_kept v_isKept a_found a_tape 0 v_gone a_hears a_near a_firstDay a_daily v_begin v_round v_leastFar v_leastWhere v_mostLed a_heardNow v_firstMove x3 x4 x5 x6 x7 a_bitsOf a_sizeOf a_number a_passing, aA cI a_d 40 g8, aA cI a_e 40 g1, aA cB a_tape 120 f_tape]) C hV fpX7_text_216 0 rfl rfl rfl (Nat.le_of_ble_eq_true rfl) rfl dX7_text_18 (fun H locs hV => ?_)
  refine lv_aload_n C.1 C.2.1 dX7_text_21 rfl (lv_at hl 1 rfl) ?_
  refine g_get C hV flX7_text_251 0 rfl rfl dX7_text_22 ?_
  refine g_if_lt (tgt := 46) C hF dX7_text_25 rfl (fun hF => ?_) (fun hF => ?_)
  · refine lv_iload_n C.1 C.2.1 dX7_text_46 rfl (lv_at hl 0 rfl) ?_
    exact hret (x2, 0, x3, x4, x5, x6, x7, g8, g1) _ _ _ _ dX7_text_47 hF hV
  refine lv_aload_n C.1 C.2.1 dX7_text_28 rfl (lv_at hl 1 rfl) ?_
  refine g_get C hV flX7_text_13 0 rfl rfl dX7_text_29 ?_
  refine lv_aload_n C.1 C.2.1 dX7_text_32 rfl (lv_at hl 1 rfl) ?_
  refine g_get C hV flX7_text_7 0 rfl rfl dX7_text_33 ?_
  obtain ⟨g9, hc, hF⟩ := bd1_s hF
  refine g_cSv (ws' := [oX7 a_t a_d a_e a_kept v_isKept a_found a_tape 0 v_gone a_hears a_near a_firstDay a_daily v_begin v_round v_leastFar v_leastWhere v_mostLed a_heardNow v_firstMove x3 x4 x5 x6 x7 a_bitsOf a_sizeOf a_number a_passing, aA cI a_d 40 g9, aA cI a_e 40 g1, aA cB a_tape 120 f_tape]) (wr := [oX7 a_t a_d a_e a_kept v_isKept a_found a_tape 0 v_gone a_hears a_near a_firstDay a_daily v_begin v_round v_leastFar v_leastWhere v_mostLed a_heardNow v_firstMove x3 x4 x5 x6 x7 a_bitsOf a_sizeOf a_number a_passing, aA cB a_tape 120 f_tape]) C hV (k_X7_copies l dC dI cI cB cO n0 H.size a_e a_d 40 40 g1 g8 hc) mdX7_copies gX7_text_X7_copies rfl rfl ⟨Nat.le_of_ble_eq_true rfl, Nat.le_of_ble_eq_true rfl⟩ [2, 1] [0, 3] [0, 3, 2, 1] rfl rfl rfl rfl rfl rfl rfl rfl hl.1 (Nat.le_of_ble_eq_true rfl) rfl dX7_text_36 (fun H locs hV => ?_)
  refine lv_iconst (v := (-1)) C.1 C.2.1 dX7_text_39 rfl ?_
  refine lv_aload_n C.1 C.2.1 dX7_text_40 rfl (lv_at hl 1 rfl) ?_
  refine g_get C hV flX7_text_251 0 rfl rfl dX7_text_41 ?_
  refine g_isub C hF dX7_text_44 (fun x10 hF => ?_)
  exact hret (x10, 0, x3, x4, x5, x6, x7, g9, g1) _ _ _ _ dX7_text_45 hF hV
abbrev rmX7_hold : Room := { frames := 1, cells := 0, slots := 0, locals := 25 }
theorem mdX7_hold : gMd yX7_hold wsX7_hold cX7_hold 3 (some .int) 2 := ⟨⟨_, rfl⟩, by decide +kernel⟩
theorem ctX7_hold_308 : Cond.constantLong RX7 308 9 ∈ wsX7_hold := List.mem_cons_of_mem _ (List.mem_append_left _ (List.mem_of_getElem? (i := 0) rfl))
theorem ctX7_hold_310 : Cond.constantLong RX7 310 (-1) ∈ wsX7_hold := List.mem_cons_of_mem _ (List.mem_append_left _ (List.mem_of_getElem? (i := 1) rfl))
theorem flX7_hold_7 : gFL wsX7_hold RX7 7 7 0 RX7 TX7 28 := ⟨rfl, fun w h => List.mem_cons_of_mem _ (List.mem_append_right _ (h)), Nat.le_of_ble_eq_true rfl, List.mem_cons_of_mem _ (List.mem_append_left _ (List.mem_of_getElem? (i := 2) rfl))⟩
def F_X7_hold (n0 : Nat) (f_d : Nat → Int32) (f_found : Nat → Int32) (p1 : Int32) (p2 : Int32) : Option (Int32 × (Nat → Int32) × (Nat → Int32)) := nm (p1.toInt64) (fun x1 => bd1 (F_X7_in n0 x1 0 9) (fun x2 => (if x2 = 0 then bd2 (F_X7_finds n0 f_found 0) (fun x3 g4 => some (x3, f_d, g4)) else nm (p2.toInt64) (fun x5 => rd f_d 40 0 (fun x6 => nm (x6 - 1) (fun x7 => nm (x7.toInt64) (fun x8 => bd1 (F_X7_in n0 x5 ((-1)) x8) (fun x9 => (if x9 = 0 then bd2 (F_X7_finds n0 f_found 0) (fun x13 g14 => some (x13, f_d, g14)) else nm (30 + p1) (fun x10 => nm (p2 + 1) (fun x11 => wrt f_d 40 x10 x11 (fun g12 => some ((1, g12, f_found) : Int32 × (Nat → Int32) × (Nat → Int32))))))))))))))
set_option maxRecDepth 100000 in
set_option maxHeartbeats 4000000 in
theorem k_X7_hold (l : Launch) (dC : Nat → ClassId) (dI : Nat → Nat → Nat) (cI cB cO : ClassId) (n0 sz : Nat) (a_t : Nat) (a_d : Nat) (a_e : Nat) (a_kept : Nat) (a_found : Nat) (a_tape : Nat) (a_hears : Nat) (a_near : Nat) (a_firstDay : Nat) (a_daily : Nat) (a_heardNow : Nat) (a_bitsOf : Nat) (a_sizeOf : Nat) (a_number : Nat) (a_passing : Nat)   (v_isKept : Int32) (v_taped : Int32) (v_gone : Int32) (v_begin : Int32) (v_round : Int32) (v_leastFar : Int32) (v_leastWhere : Int32) (v_mostLed : Int32) (v_firstMove : Int32) (v_at : Int32) (v_sort : Int32) (v_from : Int32) (v_value : Int64) (v_fault : Int32) (f_d : Nat → Int32) (f_found : Nat → Int32) (p1 : Int32) (p2 : Int32)  {ro : Int32} {o0 : Nat → Int32} {o1 : Nat → Int32} (hF : F_X7_hold n0 f_d f_found p1 p2 = some (ro, o0, o1)) : Met l yX7_hold wsX7_hold rmX7_hold (va_Pc [.ref a_t, .int p1, .int p2] (gPre (dC, dI) (gT cI cB cO) sz [oX7 a_t a_d a_e a_kept v_isKept a_found a_tape v_taped v_gone a_hears a_near a_firstDay a_daily v_begin v_round v_leastFar v_leastWhere v_mostLed a_heardNow v_firstMove v_at v_sort v_from v_value v_fault a_bitsOf a_sizeOf a_number a_passing, aA cI a_d 40 f_d, aA cI a_found 7 f_found])) (gQi (dC, dI) (gT cI cB cO) sz [oX7 a_t a_d a_e a_kept v_isKept a_found a_tape v_taped v_gone a_hears a_near a_firstDay a_daily v_begin v_round v_leastFar v_leastWhere v_mostLed a_heardNow v_firstMove v_at v_sort v_from v_value v_fault a_bitsOf a_sizeOf a_number a_passing, aA cI a_d 40 f_d, aA cI a_found 7 f_found] ro [oX7 a_t a_d a_e a_kept v_isKept a_found a_tape v_taped v_gone a_hears a_near a_firstDay a_daily v_begin v_round v_leastFar v_leastWhere v_mostLed a_heardNow v_firstMove v_at v_sort v_from v_value v_fault a_bitsOf a_sizeOf a_number a_passing, aA cI a_d 40 o0, aA cI a_found 7 o1]) 0 0 (va_A [oX7 a_t a_d a_e a_kept v_isKept a_found a_tape v_taped v_gone a_hears a_near a_firstDay a_daily v_begin v_round v_leastFar v_leastWhere v_mostLed a_heardNow v_firstMove v_at v_sort v_from v_value v_fault a_bitsOf a_sizeOf a_number a_passing, aA cI a_d 40 f_d, aA cI a_found 7 f_found] sz) := by
  refine g_metI (Out := Int32 × (Nat → Int32) × (Nat → Int32)) (fun oo => oo.1) (fun oo => [oX7 a_t a_d a_e a_kept v_isKept a_found a_tape v_taped v_gone a_hears a_near a_firstDay a_daily v_begin v_round v_leastFar v_leastWhere v_mostLed a_heardNow v_firstMove v_at v_sort v_from v_value v_fault a_bitsOf a_sizeOf a_number a_passing, aA cI a_d 40 oo.2.1, aA cI a_found 7 oo.2.2]) (ro, o0, o1) (own := RX7) (lv := [(0, .ref a_t), (1, .int p1), (2, .int p2)]) (by decide) rfl rfl (Nat.le_of_ble_eq_true rfl) rfl ?_
  intro p e s m args below meth c Q ls C hret hV hl
  obtain ⟨out, hout⟩ : ∃ z : Int32 × (Nat → Int32) × (Nat → Int32), z = (ro, o0, o1) := ⟨_, rfl⟩
  rw [← hout] at hF hret
  obtain ⟨H0, hH0⟩ : ∃ z : Heap, z = s.heap := ⟨_, rfl⟩
  obtain ⟨A0, hA0⟩ : ∃ z : Nat → Prop, z = va_A [oX7 a_t a_d a_e a_kept v_isKept a_found a_tape v_taped v_gone a_hears a_near a_firstDay a_daily v_begin v_round v_leastFar v_leastWhere v_mostLed a_heardNow v_firstMove v_at v_sort v_from v_value v_fault a_bitsOf a_sizeOf a_number a_passing, aA cI a_d 40 f_d, aA cI a_found 7 f_found] s.heap.size := ⟨_, rfl⟩
  rw [← hA0] at hret hV
  rw [← hH0] at hret hV
  rw [← hH0]
  obtain ⟨H, locs, hH⟩ : ∃ (z : Heap) (y : List Loc), z = H0 ∧ y = [] := ⟨_, _, rfl, rfl⟩
  rw [← hH.1, ← hH.2]
  have hV : gV (dC, dI) (gT cI cB cO) A0 H0 s [oX7 a_t a_d a_e a_kept v_isKept a_found a_tape v_taped v_gone a_hears a_near a_firstDay a_daily v_begin v_round v_leastFar v_leastWhere v_mostLed a_heardNow v_firstMove v_at v_sort v_from v_value v_fault a_bitsOf a_sizeOf a_number a_passing, aA cI a_d 40 f_d, aA cI a_found 7 f_found] H locs := by rw [hH.1, hH.2]; exact hV
  unfold F_X7_hold at hF
  refine lv_iload_n C.1 C.2.1 dX7_hold_0 rfl (lv_at hl 1 rfl) ?_
  refine g_i2l C hF dX7_hold_1 (fun x1 hF => ?_)
  refine lv_lconst (v := 0) C.1 C.2.1 dX7_hold_2 rfl ?_
  refine lv_ldc2 (v := 9) C.1 C.2.1 C.2.2.2.1 (C.2.2.2.2 _ ctX7_hold_308) dX7_hold_3 ?_
  obtain ⟨x2, hc, hF⟩ := bd1_s hF
  refine g_cSi (ws' := [oX7 a_t a_d a_e a_kept v_isKept a_found a_tape v_taped v_gone a_hears a_near a_firstDay a_daily v_begin v_round v_leastFar v_leastWhere v_mostLed a_heardNow v_firstMove v_at v_sort v_from v_value v_fault a_bitsOf a_sizeOf a_number a_passing, aA cI a_d 40 f_d, aA cI a_found 7 f_found]) (wr := [oX7 a_t a_d a_e a_kept v_isKept a_found a_tape v_taped v_gone a_hears a_near a_firstDay a_daily v_begin v_round v_leastFar v_leastWhere v_mostLed a_heardNow v_firstMove v_at v_sort v_from v_value v_fault a_bitsOf a_sizeOf a_number a_passing, aA cI a_d 40 f_d, aA cI a_found 7 f_found]) C hV (k_X7_in l dC dI cI cB cO n0 H.size x1 0 9 hc) mdX7_in gX7_hold_X7_in rfl rfl ⟨Nat.le_of_ble_eq_true rfl, Nat.le_of_ble_eq_true rfl⟩ [] [0, 1, 2] [0, 1, 2] rfl rfl rfl rfl rfl rfl rfl rfl hl.1 (Nat.le_of_ble_eq_true rfl) rfl dX7_hold_6 (fun H locs hV => ?_)
  refine g_if_eq (tgt := 32) C hF dX7_hold_9 rfl (fun hF => ?_) (fun hF => ?_)
  · refine lv_aload_n C.1 C.2.1 dX7_hold_32 rfl (lv_at hl 0 rfl) ?_
    refine lv_iconst (v := 0) C.1 C.2.1 dX7_hold_33 rfl ?_
    obtain ⟨x3, g4, hc, hF⟩ := bd2_s hF
    refine g_cVi (ws' := [oX7 a_t a_d a_e a_kept v_isKept a_found a_tape v_taped v_gone a_hears a_near a_firstDay a_daily v_begin v_round v_leastFar v_leastWhere v_mostLed a_heardNow v_firstMove v_at v_sort v_from v_value v_fault a_bitsOf a_sizeOf a_number a_passing, aA cI a_d 40 f_d, aA cI a_found 7 g4]) (wr := [aA cI a_d 40 f_d]) C hV (k_X7_finds l dC dI cI cB cO n0 H.size a_t a_d a_e a_kept a_found a_tape a_hears a_near a_firstDay a_daily a_heardNow a_bitsOf a_sizeOf a_number a_passing v_isKept v_taped v_gone v_begin v_round v_leastFar v_leastWhere v_mostLed v_firstMove v_at v_sort v_from v_value v_fault f_found 0 hc) mdX7_finds gX7_hold_X7_finds rfl rfl ⟨Nat.le_of_ble_eq_true rfl, Nat.le_of_ble_eq_true rfl⟩ [0, 2] [1] [1, 0, 2] rfl rfl rfl rfl rfl rfl rfl rfl rfl rfl hl.1 (Nat.le_of_ble_eq_true rfl) rfl dX7_hold_34 (fun H locs hV => ?_)
    exact hret (x3, f_d, g4) _ _ _ _ dX7_hold_37 hF hV
  refine lv_iload_n C.1 C.2.1 dX7_hold_12 rfl (lv_at hl 2 rfl) ?_
  refine g_i2l C hF dX7_hold_13 (fun x5 hF => ?_)
  refine lv_ldc2 (v := (-1)) C.1 C.2.1 C.2.2.2.1 (C.2.2.2.2 _ ctX7_hold_310) dX7_hold_14 ?_
  refine lv_aload_n C.1 C.2.1 dX7_hold_17 rfl (lv_at hl 0 rfl) ?_
  refine g_get C hV flX7_hold_7 0 rfl rfl dX7_hold_18 ?_
  refine lv_iconst (v := 0) C.1 C.2.1 dX7_hold_21 rfl ?_
  refine g_iald C hV 1 rfl hF dX7_hold_22 (fun x6 hF => ?_)
  refine lv_iconst (v := 1) C.1 C.2.1 dX7_hold_23 rfl ?_
  refine g_isub C hF dX7_hold_24 (fun x7 hF => ?_)
  refine g_i2l C hF dX7_hold_25 (fun x8 hF => ?_)
  obtain ⟨x9, hc, hF⟩ := bd1_s hF
  refine g_cSi (ws' := [oX7 a_t a_d a_e a_kept v_isKept a_found a_tape v_taped v_gone a_hears a_near a_firstDay a_daily v_begin v_round v_leastFar v_leastWhere v_mostLed a_heardNow v_firstMove v_at v_sort v_from v_value v_fault a_bitsOf a_sizeOf a_number a_passing, aA cI a_d 40 f_d, aA cI a_found 7 f_found]) (wr := [oX7 a_t a_d a_e a_kept v_isKept a_found a_tape v_taped v_gone a_hears a_near a_firstDay a_daily v_begin v_round v_leastFar v_leastWhere v_mostLed a_heardNow v_firstMove v_at v_sort v_from v_value v_fault a_bitsOf a_sizeOf a_number a_passing, aA cI a_d 40 f_d, aA cI a_found 7 f_found]) C hV (k_X7_in l dC dI cI cB cO n0 H.size x5 ((-1)) x8 hc) mdX7_in gX7_hold_X7_in rfl rfl ⟨Nat.le_of_ble_eq_true rfl, Nat.le_of_ble_eq_true rfl⟩ [] [0, 1, 2] [0, 1, 2] rfl rfl rfl rfl rfl rfl rfl rfl hl.1 (Nat.le_of_ble_eq_true rfl) rfl dX7_hold_26 (fun H locs hV => ?_)
  refine g_if_ne (tgt := 38) C hF dX7_hold_29 rfl (fun hF => ?_) (fun hF => ?_)
  · refine lv_aload_n C.1 C.2.1 dX7_hold_38 rfl (lv_at hl 0 rfl) ?_
    refine g_get C hV flX7_hold_7 0 rfl rfl dX7_hold_39 ?_
    refine lv_bipush (v := 30) C.1 C.2.1 dX7_hold_42 rfl ?_
    refine lv_iload_n C.1 C.2.1 dX7_hold_44 rfl (lv_at hl 1 rfl) ?_
    refine g_iadd C hF dX7_hold_45 (fun x10 hF => ?_)
    refine lv_iload_n C.1 C.2.1 dX7_hold_46 rfl (lv_at hl 2 rfl) ?_
    refine lv_iconst (v := 1) C.1 C.2.1 dX7_hold_47 rfl ?_
    refine g_iadd C hF dX7_hold_48 (fun x11 hF => ?_)
    refine g_iast C hV 1 rfl hF (fun gq => [oX7 a_t a_d a_e a_kept v_isKept a_found a_tape v_taped v_gone a_hears a_near a_firstDay a_daily v_begin v_round v_leastFar v_leastWhere v_mostLed a_heardNow v_firstMove v_at v_sort v_from v_value v_fault a_bitsOf a_sizeOf a_number a_passing, aA cI a_d 40 gq, aA cI a_found 7 f_found]) (fun _ => rfl) dX7_hold_49 (fun g12 H locs hF hV => ?_)
    refine lv_iconst (v := 1) C.1 C.2.1 dX7_hold_50 rfl ?_
    exact hret ((1, g12, f_found) : Int32 × (Nat → Int32) × (Nat → Int32)) _ _ _ _ dX7_hold_51 hF hV
  refine lv_aload_n C.1 C.2.1 dX7_hold_32 rfl (lv_at hl 0 rfl) ?_
  refine lv_iconst (v := 0) C.1 C.2.1 dX7_hold_33 rfl ?_
  obtain ⟨x13, g14, hc, hF⟩ := bd2_s hF
  refine g_cVi (ws' := [oX7 a_t a_d a_e a_kept v_isKept a_found a_tape v_taped v_gone a_hears a_near a_firstDay a_daily v_begin v_round v_leastFar v_leastWhere v_mostLed a_heardNow v_firstMove v_at v_sort v_from v_value v_fault a_bitsOf a_sizeOf a_number a_passing, aA cI a_d 40 f_d, aA cI a_found 7 g14]) (wr := [aA cI a_d 40 f_d]) C hV (k_X7_finds l dC dI cI cB cO n0 H.size a_t a_d a_e a_kept a_found a_tape a_hears a_near a_firstDay a_daily a_heardNow a_bitsOf a_sizeOf a_number a_passing v_isKept v_taped v_gone v_begin v_round v_leastFar v_leastWhere v_mostLed v_firstMove v_at v_sort v_from v_value v_fault f_found 0 hc) mdX7_finds gX7_hold_X7_finds rfl rfl ⟨Nat.le_of_ble_eq_true rfl, Nat.le_of_ble_eq_true rfl⟩ [0, 2] [1] [1, 0, 2] rfl rfl rfl rfl rfl rfl rfl rfl rfl rfl hl.1 (Nat.le_of_ble_eq_true rfl) rfl dX7_hold_34 (fun H locs hV => ?_)
  exact hret (x13, f_d, g14) _ _ _ _ dX7_hold_37 hF hV
abbrev rmX7_above : Room := { frames := 0, cells := 0, slots := 0, locals := 0 }
theorem mdX7_above : gMd yX7_above wsX7_above cX7_above 1 (some .int) 1 := ⟨⟨_, rfl⟩, by decide +kernel⟩
def F_X7_above (n0 : Nat) (p1 : Int32) : Option (Int32) := (if p1 = 3 then some (2 : Int32) else (if p1 = 4 then some (1 : Int32) else (if p1 = 6 then some (5 : Int32) else some (0 : Int32))))
set_option maxRecDepth 100000 in
set_option maxHeartbeats 4000000 in
theorem k_X7_above (l : Launch) (dC : Nat → ClassId) (dI : Nat → Nat → Nat) (cI cB cO : ClassId) (n0 sz : Nat)     (p1 : Int32)  {ro : Int32} (hF : F_X7_above n0 p1 = some ro) : Met l yX7_above wsX7_above rmX7_above (va_Pc [.int p1] (gPre (dC, dI) (gT cI cB cO) sz [])) (gQi (dC, dI) (gT cI cB cO) sz [] ro []) 0 0 (va_A [] sz) := by
  refine g_metI (Out := Int32) (fun oo => oo) (fun oo => []) ro (own := RX7) (lv := [(0, .int p1)]) (by decide) rfl rfl (Nat.le_of_ble_eq_true rfl) rfl ?_
  intro p e s m args below meth c Q ls C hret hV hl
  obtain ⟨out, hout⟩ : ∃ z : Int32, z = ro := ⟨_, rfl⟩
  rw [← hout] at hF hret
  obtain ⟨H0, hH0⟩ : ∃ z : Heap, z = s.heap := ⟨_, rfl⟩
  obtain ⟨A0, hA0⟩ : ∃ z : Nat → Prop, z = va_A [] s.heap.size := ⟨_, rfl⟩
  rw [← hA0] at hret hV
  rw [← hH0] at hret hV
  rw [← hH0]
  obtain ⟨H, locs, hH⟩ : ∃ (z : Heap) (y : List Loc), z = H0 ∧ y = [] := ⟨_, _, rfl, rfl⟩
  rw [← hH.1, ← hH.2]
  have hV : gV (dC, dI) (gT cI cB cO) A0 H0 s [] H locs := by rw [hH.1, hH.2]; exact hV
  unfold F_X7_above at hF
  refine lv_iload_n C.1 C.2.1 dX7_above_0 rfl (lv_at hl 0 rfl) ?_
  refine lv_iconst (v := 3) C.1 C.2.1 dX7_above_1 rfl ?_
  refine g_icmp_ne (tgt := 9) C hF dX7_above_2 rfl (fun hF => ?_) (fun hF => ?_)
  · refine lv_iload_n C.1 C.2.1 dX7_above_9 rfl (lv_at hl 0 rfl) ?_
    refine lv_iconst (v := 4) C.1 C.2.1 dX7_above_10 rfl ?_
    refine g_icmp_ne (tgt := 18) C hF dX7_above_11 rfl (fun hF => ?_) (fun hF => ?_)
    · refine lv_iload_n C.1 C.2.1 dX7_above_18 rfl (lv_at hl 0 rfl) ?_
      refine lv_bipush (v := 6) C.1 C.2.1 dX7_above_19 rfl ?_
      refine g_icmp_ne (tgt := 28) C hF dX7_above_21 rfl (fun hF => ?_) (fun hF => ?_)
      · refine lv_iconst (v := 0) C.1 C.2.1 dX7_above_28 rfl ?_
        exact hret (0 : Int32) _ _ _ _ dX7_above_29 hF hV
      refine lv_iconst (v := 5) C.1 C.2.1 dX7_above_24 rfl ?_
      refine lv_goto (tgt := 29) C.1 C.2.1 dX7_above_25 rfl ?_
      exact hret (5 : Int32) _ _ _ _ dX7_above_29 hF hV
    refine lv_iconst (v := 1) C.1 C.2.1 dX7_above_14 rfl ?_
    refine lv_goto (tgt := 29) C.1 C.2.1 dX7_above_15 rfl ?_
    exact hret (1 : Int32) _ _ _ _ dX7_above_29 hF hV
  refine lv_iconst (v := 2) C.1 C.2.1 dX7_above_5 rfl ?_
  refine lv_goto (tgt := 29) C.1 C.2.1 dX7_above_6 rfl ?_
  exact hret (2 : Int32) _ _ _ _ dX7_above_29 hF hV
abbrev rmX7_as : Room := { frames := 1, cells := 0, slots := 0, locals := 25 }
theorem mdX7_as : gMd yX7_as wsX7_as cX7_as 4 (some .int) 2 := ⟨⟨_, rfl⟩, by decide +kernel⟩
theorem ctX7_as_308 : Cond.constantLong RX7 308 9 ∈ wsX7_as := List.mem_cons_of_mem _ (List.mem_append_left _ (List.mem_of_getElem? (i := 0) rfl))
theorem ctX7_as_100 : Cond.constantLong RX7 100 6 ∈ wsX7_as := List.mem_cons_of_mem _ (List.mem_append_left _ (List.mem_of_getElem? (i := 1) rfl))
theorem flX7_as_7 : gFL wsX7_as RX7 7 7 0 RX7 TX7 28 := ⟨rfl, fun w h => List.mem_cons_of_mem _ (List.mem_append_right _ (h)), Nat.le_of_ble_eq_true rfl, List.mem_cons_of_mem _ (List.mem_append_left _ (List.mem_of_getElem? (i := 2) rfl))⟩
def F_X7_as (n0 : Nat) (f_d : Nat → Int32) (f_found : Nat → Int32) (p1 : Int32) (p2 : Int32) : Option (Int32 × (Nat → Int32)) := nm (p1.toInt64) (fun x1 => bd1 (F_X7_in n0 x1 0 9) (fun x2 => (if x2 = 0 then bd2 (F_X7_finds n0 f_found 0) (fun x3 g4 => some (x3, g4)) else nm (p2.toInt64) (fun x5 => bd1 (F_X7_in n0 x5 0 6) (fun x6 => (if x6 = 0 then bd2 (F_X7_finds n0 f_found 0) (fun x19 g20 => some (x19, g20)) else nm (30 + p1) (fun x7 => rd f_d 40 x7 (fun x8 => (if x8 = 0 then bd2 (F_X7_finds n0 f_found 5) (fun x17 g18 => some (x17, g18)) else nm (30 + p1) (fun x9 => rd f_d 40 x9 (fun x10 => nm (x10 - 1) (fun x11 => (if p2 = 0 then some (x11, f_found) else bd1 (F_X7_kind n0 f_d x11) (fun x12 => (if p2 = x12 then some (x11, f_found) else bd1 (F_X7_kind n0 f_d x11) (fun x13 => bd1 (F_X7_above n0 x13) (fun x14 => (if p2 = x14 then some (x11, f_found) else bd2 (F_X7_finds n0 f_found 2) (fun x15 g16 => some (x15, g16))))))))))))))))))))
set_option maxRecDepth 100000 in
set_option maxHeartbeats 4000000 in
theorem k_X7_as (l : Launch) (dC : Nat → ClassId) (dI : Nat → Nat → Nat) (cI cB cO : ClassId) (n0 sz : Nat) (a_t : Nat) (a_d : Nat) (a_e : Nat) (a_kept : Nat) (a_found : Nat) (a_tape : Nat) (a_hears : Nat) (a_near : Nat) (a_firstDay : Nat) (a_daily : Nat) (a_heardNow : Nat) (a_bitsOf : Nat) (a_sizeOf : Nat) (a_number : Nat) (a_passing : Nat)   (v_isKept : Int32) (v_taped : Int32) (v_gone : Int32) (v_begin : Int32) (v_round : Int32) (v_leastFar : Int32) (v_leastWhere : Int32) (v_mostLed : Int32) (v_firstMove : Int32) (v_at : Int32) (v_sort : Int32) (v_from : Int32) (v_value : Int64) (v_fault : Int32) (f_d : Nat → Int32) (f_found : Nat → Int32) (p1 : Int32) (p2 : Int32)  {ro : Int32} {o0 : Nat → Int32} (hF : F_X7_as n0 f_d f_found p1 p2 = some (ro, o0)) : Met l yX7_as wsX7_as rmX7_as (va_Pc [.ref a_t, .int p1, .int p2] (gPre (dC, dI) (gT cI cB cO) sz [oX7 a_t a_d a_e a_kept v_isKept a_found a_tape v_taped v_gone a_hears a_near a_firstDay a_daily v_begin v_round v_leastFar v_leastWhere v_mostLed a_heardNow v_firstMove v_at v_sort v_from v_value v_fault a_bitsOf a_sizeOf a_number a_passing, aA cI a_d 40 f_d, aA cI a_found 7 f_found])) (gQi (dC, dI) (gT cI cB cO) sz [oX7 a_t a_d a_e a_kept v_isKept a_found a_tape v_taped v_gone a_hears a_near a_firstDay a_daily v_begin v_round v_leastFar v_leastWhere v_mostLed a_heardNow v_firstMove v_at v_sort v_from v_value v_fault a_bitsOf a_sizeOf a_number a_passing, aA cI a_d 40 f_d, aA cI a_found 7 f_found] ro [oX7 a_t a_d a_e a_kept v_isKept a_found a_tape v_taped v_gone a_hears a_near a_firstDay a_daily v_begin v_round v_leastFar v_leastWhere v_mostLed a_heardNow v_firstMove v_at v_sort v_from v_value v_fault a_bitsOf a_sizeOf a_number a_passing, aA cI a_d 40 f_d, aA cI a_found 7 o0]) 0 0 (va_A [oX7 a_t a_d a_e a_kept v_isKept a_found a_tape v_taped v_gone a_hears a_near a_firstDay a_daily v_begin v_round v_leastFar v_leastWhere v_mostLed a_heardNow v_firstMove v_at v_sort v_from v_value v_fault a_bitsOf a_sizeOf a_number a_passing, aA cI a_d 40 f_d, aA cI a_found 7 f_found] sz) := by
  refine g_metI (Out := Int32 × (Nat → Int32)) (fun oo => oo.1) (fun oo => [oX7 a_t a_d a_e a_kept v_isKept a_found a_tape v_taped v_gone a_hears a_near a_firstDay a_daily v_begin v_round v_leastFar v_leastWhere v_mostLed a_heardNow v_firstMove v_at v_sort v_from v_value v_fault a_bitsOf a_sizeOf a_number a_passing, aA cI a_d 40 f_d, aA cI a_found 7 oo.2]) (ro, o0) (own := RX7) (lv := [(0, .ref a_t), (1, .int p1), (2, .int p2)]) (by decide) rfl rfl (Nat.le_of_ble_eq_true rfl) rfl ?_
  intro p e s m args below meth c Q ls C hret hV hl
  obtain ⟨out, hout⟩ : ∃ z : Int32 × (Nat → Int32), z = (ro, o0) := ⟨_, rfl⟩
  rw [← hout] at hF hret
  obtain ⟨H0, hH0⟩ : ∃ z : Heap, z = s.heap := ⟨_, rfl⟩
  obtain ⟨A0, hA0⟩ : ∃ z : Nat → Prop, z = va_A [oX7 a_t a_d a_e a_kept v_isKept a_found a_tape v_taped v_gone a_hears a_near a_firstDay a_daily v_begin v_round v_leastFar v_leastWhere v_mostLed a_heardNow v_firstMove v_at v_sort v_from v_value v_fault a_bitsOf a_sizeOf a_number a_passing, aA cI a_d 40 f_d, aA cI a_found 7 f_found] s.heap.size := ⟨_, rfl⟩
  rw [← hA0] at hret hV
  rw [← hH0] at hret hV
  rw [← hH0]
  obtain ⟨H, locs, hH⟩ : ∃ (z : Heap) (y : List Loc), z = H0 ∧ y = [] := ⟨_, _, rfl, rfl⟩
  rw [← hH.1, ← hH.2]
  have hV : gV (dC, dI) (gT cI cB cO) A0 H0 s [oX7 a_t a_d a_e a_kept v_isKept a_found a_tape v_taped v_gone a_hears a_near a_firstDay a_daily v_begin v_round v_leastFar v_leastWhere v_mostLed a_heardNow v_firstMove v_at v_sort v_from v_value v_fault a_bitsOf a_sizeOf a_number a_passing, aA cI a_d 40 f_d, aA cI a_found 7 f_found] H locs := by rw [hH.1, hH.2]; exact hV
  unfold F_X7_as at hF
  refine lv_iload_n C.1 C.2.1 dX7_as_0 rfl (lv_at hl 1 rfl) ?_
  refine g_i2l C hF dX7_as_1 (fun x1 hF => ?_)
  refine lv_lconst (v := 0) C.1 C.2.1 dX7_as_2 rfl ?_
  refine lv_ldc2 (v := 9) C.1 C.2.1 C.2.2.2.1 (C.2.2.2.2 _ ctX7_as_308) dX7_as_3 ?_
  obtain ⟨x2, hc, hF⟩ := bd1_s hF
  refine g_cSi (ws' := [oX7 a_t a_d a_e a_kept v_isKept a_found a_tape v_taped v_gone a_hears a_near a_firstDay a_daily v_begin v_round v_leastFar v_leastWhere v_mostLed a_heardNow v_firstMove v_at v_sort v_from v_value v_fault a_bitsOf a_sizeOf a_number a_passing, aA cI a_d 40 f_d, aA cI a_found 7 f_found]) (wr := [oX7 a_t a_d a_e a_kept v_isKept a_found a_tape v_taped v_gone a_hears a_near a_firstDay a_daily v_begin v_round v_leastFar v_leastWhere v_mostLed a_heardNow v_firstMove v_at v_sort v_from v_value v_fault a_bitsOf a_sizeOf a_number a_passing, aA cI a_d 40 f_d, aA cI a_found 7 f_found]) C hV (k_X7_in l dC dI cI cB cO n0 H.size x1 0 9 hc) mdX7_in gX7_as_X7_in rfl rfl ⟨Nat.le_of_ble_eq_true rfl, Nat.le_of_ble_eq_true rfl⟩ [] [0, 1, 2] [0, 1, 2] rfl rfl rfl rfl rfl rfl rfl rfl hl.1 (Nat.le_of_ble_eq_true rfl) rfl dX7_as_6 (fun H locs hV => ?_)
  refine g_if_eq (tgt := 24) C hF dX7_as_9 rfl (fun hF => ?_) (fun hF => ?_)
  · refine lv_aload_n C.1 C.2.1 dX7_as_24 rfl (lv_at hl 0 rfl) ?_
    refine lv_iconst (v := 0) C.1 C.2.1 dX7_as_25 rfl ?_
    obtain ⟨x3, g4, hc, hF⟩ := bd2_s hF
    refine g_cVi (ws' := [oX7 a_t a_d a_e a_kept v_isKept a_found a_tape v_taped v_gone a_hears a_near a_firstDay a_daily v_begin v_round v_leastFar v_leastWhere v_mostLed a_heardNow v_firstMove v_at v_sort v_from v_value v_fault a_bitsOf a_sizeOf a_number a_passing, aA cI a_d 40 f_d, aA cI a_found 7 g4]) (wr := [aA cI a_d 40 f_d]) C hV (k_X7_finds l dC dI cI cB cO n0 H.size a_t a_d a_e a_kept a_found a_tape a_hears a_near a_firstDay a_daily a_heardNow a_bitsOf a_sizeOf a_number a_passing v_isKept v_taped v_gone v_begin v_round v_leastFar v_leastWhere v_mostLed v_firstMove v_at v_sort v_from v_value v_fault f_found 0 hc) mdX7_finds gX7_as_X7_finds rfl rfl ⟨Nat.le_of_ble_eq_true rfl, Nat.le_of_ble_eq_true rfl⟩ [0, 2] [1] [1, 0, 2] rfl rfl rfl rfl rfl rfl rfl rfl rfl rfl hl.1 (Nat.le_of_ble_eq_true rfl) rfl dX7_as_26 (fun H locs hV => ?_)
    exact hret (x3, g4) _ _ _ _ dX7_as_29 hF hV
  refine lv_iload_n C.1 C.2.1 dX7_as_12 rfl (lv_at hl 2 rfl) ?_
  refine g_i2l C hF dX7_as_13 (fun x5 hF => ?_)
  refine lv_lconst (v := 0) C.1 C.2.1 dX7_as_14 rfl ?_
  refine lv_ldc2 (v := 6) C.1 C.2.1 C.2.2.2.1 (C.2.2.2.2 _ ctX7_as_100) dX7_as_15 ?_
  obtain ⟨x6, hc, hF⟩ := bd1_s hF
  refine g_cSi (ws' := [oX7 a_t a_d a_e a_kept v_isKept a_found a_tape v_taped v_gone a_hears a_near a_firstDay a_daily v_begin v_round v_leastFar v_leastWhere v_mostLed a_heardNow v_firstMove v_at v_sort v_from v_value v_fault a_bitsOf a_sizeOf a_number a_passing, aA cI a_d 40 f_d, aA cI a_found 7 f_found]) (wr := [oX7 a_t a_d a_e a_kept v_isKept a_found a_tape v_taped v_gone a_hears a_near a_firstDay a_daily v_begin v_round v_leastFar v_leastWhere v_mostLed a_heardNow v_firstMove v_at v_sort v_from v_value v_fault a_bitsOf a_sizeOf a_number a_passing, aA cI a_d 40 f_d, aA cI a_found 7 f_found]) C hV (k_X7_in l dC dI cI cB cO n0 H.size x5 0 6 hc) mdX7_in gX7_as_X7_in rfl rfl ⟨Nat.le_of_ble_eq_true rfl, Nat.le_of_ble_eq_true rfl⟩ [] [0, 1, 2] [0, 1, 2] rfl rfl rfl rfl rfl rfl rfl rfl hl.1 (Nat.le_of_ble_eq_true rfl) rfl dX7_as_18 (fun H locs hV => ?_)
  refine g_if_ne (tgt := 30) C hF dX7_as_21 rfl (fun hF => ?_) (fun hF => ?_)
  · refine lv_aload_n C.1 C.2.1 dX7_as_30 rfl (lv_at hl 0 rfl) ?_
    refine g_get C hV flX7_as_7 0 rfl rfl dX7_as_31 ?_
    refine lv_bipush (v := 30) C.1 C.2.1 dX7_as_34 rfl ?_
    refine lv_iload_n C.1 C.2.1 dX7_as_36 rfl (lv_at hl 1 rfl) ?_
    refine g_iadd C hF dX7_as_37 (fun x7 hF => ?_)
    refine g_iald C hV 1 rfl hF dX7_as_38 (fun x8 hF => ?_)
    refine g_if_ne (tgt := 48) C hF dX7_as_39 rfl (fun hF => ?_) (fun hF => ?_)
    · refine lv_aload_n C.1 C.2.1 dX7_as_48 rfl (lv_at hl 0 rfl) ?_
      refine g_get C hV flX7_as_7 0 rfl rfl dX7_as_49 ?_
      refine lv_bipush (v := 30) C.1 C.2.1 dX7_as_52 rfl ?_
      refine lv_iload_n C.1 C.2.1 dX7_as_54 rfl (lv_at hl 1 rfl) ?_
      refine g_iadd C hF dX7_as_55 (fun x9 hF => ?_)
      refine g_iald C hV 1 rfl hF dX7_as_56 (fun x10 hF => ?_)
      refine lv_iconst (v := 1) C.1 C.2.1 dX7_as_57 rfl ?_
      refine g_isub C hF dX7_as_58 (fun x11 hF => ?_)
      refine lv_istore_n (lv' := [(3, .int x11), (0, .ref a_t), (1, .int p1), (2, .int p2)]) C.1 C.2.1 dX7_as_59 rfl hl (by decide) rfl (fun ls hl => ?_)
      refine lv_iload_n C.1 C.2.1 dX7_as_60 rfl (lv_at hl 3 rfl) ?_
      refine g_if_eq (tgt := 85) C hF dX7_as_61 rfl (fun hF => ?_) (fun hF => ?_)
      · refine lv_iload_n C.1 C.2.1 dX7_as_85 rfl (lv_at hl 0 rfl) ?_
        refine lv_goto (tgt := 94) C.1 C.2.1 dX7_as_86 rfl ?_
        exact hret (x11, f_found) _ _ _ _ dX7_as_94 hF hV
      refine lv_iload_n C.1 C.2.1 dX7_as_64 rfl (lv_at hl 3 rfl) ?_
      refine lv_aload_n C.1 C.2.1 dX7_as_65 rfl (lv_at hl 1 rfl) ?_
      refine lv_iload_n C.1 C.2.1 dX7_as_66 rfl (lv_at hl 0 rfl) ?_
      obtain ⟨x12, hc, hF⟩ := bd1_s hF
      refine g_cVi (ws' := [oX7 a_t a_d a_e a_kept v_isKept a_found a_tape v_taped v_gone a_hears a_near a_firstDay a_daily v_begin v_round v_leastFar v_leastWhere v_mostLed a_heardNow v_firstMove v_at v_sort v_from v_value v_fault a_bitsOf a_sizeOf a_number a_passing, aA cI a_d 40 f_d, aA cI a_found 7 f_found]) (wr := [aA cI a_found 7 f_found]) C hV (k_X7_kind l dC dI cI cB cO n0 H.size a_t a_d a_e a_kept a_found a_tape a_hears a_near a_firstDay a_daily a_heardNow a_bitsOf a_sizeOf a_number a_passing v_isKept v_taped v_gone v_begin v_round v_leastFar v_leastWhere v_mostLed v_firstMove v_at v_sort v_from v_value v_fault f_d x11 hc) mdX7_kind gX7_as_X7_kind rfl rfl ⟨Nat.le_of_ble_eq_true rfl, Nat.le_of_ble_eq_true rfl⟩ [0, 1] [2] [1, 2, 0] rfl rfl rfl rfl rfl rfl rfl rfl rfl rfl hl.1 (Nat.le_of_ble_eq_true rfl) rfl dX7_as_67 (fun H locs hV => ?_)
      refine g_icmp_eq (tgt := 85) C hF dX7_as_70 rfl (fun hF => ?_) (fun hF => ?_)
      · refine lv_iload_n C.1 C.2.1 dX7_as_85 rfl (lv_at hl 0 rfl) ?_
        refine lv_goto (tgt := 94) C.1 C.2.1 dX7_as_86 rfl ?_
        exact hret (x11, f_found) _ _ _ _ dX7_as_94 hF hV
      refine lv_iload_n C.1 C.2.1 dX7_as_73 rfl (lv_at hl 3 rfl) ?_
      refine lv_aload_n C.1 C.2.1 dX7_as_74 rfl (lv_at hl 1 rfl) ?_
      refine lv_iload_n C.1 C.2.1 dX7_as_75 rfl (lv_at hl 0 rfl) ?_
      obtain ⟨x13, hc, hF⟩ := bd1_s hF
      refine g_cVi (ws' := [oX7 a_t a_d a_e a_kept v_isKept a_found a_tape v_taped v_gone a_hears a_near a_firstDay a_daily v_begin v_round v_leastFar v_leastWhere v_mostLed a_heardNow v_firstMove v_at v_sort v_from v_value v_fault a_bitsOf a_sizeOf a_number a_passing, aA cI a_d 40 f_d, aA cI a_found 7 f_found]) (wr := [aA cI a_found 7 f_found]) C hV (k_X7_kind l dC dI cI cB cO n0 H.size a_t a_d a_e a_kept a_found a_tape a_hears a_near a_firstDay a_daily a_heardNow a_bitsOf a_sizeOf a_number a_passing v_isKept v_taped v_gone v_begin v_round v_leastFar v_leastWhere v_mostLed v_firstMove v_at v_sort v_from v_value v_fault f_d x11 hc) mdX7_kind gX7_as_X7_kind rfl rfl ⟨Nat.le_of_ble_eq_true rfl, Nat.le_of_ble_eq_true rfl⟩ [0, 1] [2] [1, 2, 0] rfl rfl rfl rfl rfl rfl rfl rfl rfl rfl hl.1 (Nat.le_of_ble_eq_true rfl) rfl dX7_as_76 (fun H locs hV => ?_)
      obtain ⟨x14, hc, hF⟩ := bd1_s hF
      refine g_cSi (ws' := [oX7 a_t a_d a_e a_kept v_isKept a_found a_tape v_taped v_gone a_hears a_near a_firstDay a_daily v_begin v_round v_leastFar v_leastWhere v_mostLed a_heardNow v_firstMove v_at v_sort v_from v_value v_fault a_bitsOf a_sizeOf a_number a_passing, aA cI a_d 40 f_d, aA cI a_found 7 f_found]) (wr := [oX7 a_t a_d a_e a_kept v_isKept a_found a_tape v_taped v_gone a_hears a_near a_firstDay a_daily v_begin v_round v_leastFar v_leastWhere v_mostLed a_heardNow v_firstMove v_at v_sort v_from v_value v_fault a_bitsOf a_sizeOf a_number a_passing, aA cI a_d 40 f_d, aA cI a_found 7 f_found]) C hV (k_X7_above l dC dI cI cB cO n0 H.size x13 hc) mdX7_above gX7_as_X7_above rfl rfl ⟨Nat.le_of_ble_eq_true rfl, Nat.le_of_ble_eq_true rfl⟩ [] [0, 1, 2] [0, 1, 2] rfl rfl rfl rfl rfl rfl rfl rfl hl.1 (Nat.le_of_ble_eq_true rfl) rfl dX7_as_79 (fun H locs hV => ?_)
      refine g_icmp_ne (tgt := 89) C hF dX7_as_82 rfl (fun hF => ?_) (fun hF => ?_)
      · refine lv_aload_n C.1 C.2.1 dX7_as_89 rfl (lv_at hl 1 rfl) ?_
        refine lv_iconst (v := 2) C.1 C.2.1 dX7_as_90 rfl ?_
        obtain ⟨x15, g16, hc, hF⟩ := bd2_s hF
        refine g_cVi (ws' := [oX7 a_t a_d a_e a_kept v_isKept a_found a_tape v_taped v_gone a_hears a_near a_firstDay a_daily v_begin v_round v_leastFar v_leastWhere v_mostLed a_heardNow v_firstMove v_at v_sort v_from v_value v_fault a_bitsOf a_sizeOf a_number a_passing, aA cI a_d 40 f_d, aA cI a_found 7 g16]) (wr := [aA cI a_d 40 f_d]) C hV (k_X7_finds l dC dI cI cB cO n0 H.size a_t a_d a_e a_kept a_found a_tape a_hears a_near a_firstDay a_daily a_heardNow a_bitsOf a_sizeOf a_number a_passing v_isKept v_taped v_gone v_begin v_round v_leastFar v_leastWhere v_mostLed v_firstMove v_at v_sort v_from v_value v_fault f_found 2 hc) mdX7_finds gX7_as_X7_finds rfl rfl ⟨Nat.le_of_ble_eq_true rfl, Nat.le_of_ble_eq_true rfl⟩ [0, 2] [1] [1, 0, 2] rfl rfl rfl rfl rfl rfl rfl rfl rfl rfl hl.1 (Nat.le_of_ble_eq_true rfl) rfl dX7_as_91 (fun H locs hV => ?_)
        exact hret (x15, g16) _ _ _ _ dX7_as_94 hF hV
      refine lv_iload_n C.1 C.2.1 dX7_as_85 rfl (lv_at hl 0 rfl) ?_
      refine lv_goto (tgt := 94) C.1 C.2.1 dX7_as_86 rfl ?_
      exact hret (x11, f_found) _ _ _ _ dX7_as_94 hF hV
    refine lv_aload_n C.1 C.2.1 dX7_as_42 rfl (lv_at hl 0 rfl) ?_
    refine lv_iconst (v := 5) C.1 C.2.1 dX7_as_43 rfl ?_
    obtain ⟨x17, g18, hc, hF⟩ := bd2_s hF
    refine g_cVi (ws' := [oX7 a_t a_d a_e a_kept v_isKept a_found a_tape v_taped v_gone a_hears a_near a_firstDay a_daily v_begin v_round v_leastFar v_leastWhere v_mostLed a_heardNow v_firstMove v_at v_sort v_from v_value v_fault a_bitsOf a_sizeOf a_number a_passing, aA cI a_d 40 f_d, aA cI a_found 7 g18]) (wr := [aA cI a_d 40 f_d]) C hV (k_X7_finds l dC dI cI cB cO n0 H.size a_t a_d a_e a_kept a_found a_tape a_hears a_near a_firstDay a_daily a_heardNow a_bitsOf a_sizeOf a_number a_passing v_isKept v_taped v_gone v_begin v_round v_leastFar v_leastWhere v_mostLed v_firstMove v_at v_sort v_from v_value v_fault f_found 5 hc) mdX7_finds gX7_as_X7_finds rfl rfl ⟨Nat.le_of_ble_eq_true rfl, Nat.le_of_ble_eq_true rfl⟩ [0, 2] [1] [1, 0, 2] rfl rfl rfl rfl rfl rfl rfl rfl rfl rfl hl.1 (Nat.le_of_ble_eq_true rfl) rfl dX7_as_44 (fun H locs hV => ?_)
    exact hret (x17, g18) _ _ _ _ dX7_as_47 hF hV
  refine lv_aload_n C.1 C.2.1 dX7_as_24 rfl (lv_at hl 0 rfl) ?_
  refine lv_iconst (v := 0) C.1 C.2.1 dX7_as_25 rfl ?_
  obtain ⟨x19, g20, hc, hF⟩ := bd2_s hF
  refine g_cVi (ws' := [oX7 a_t a_d a_e a_kept v_isKept a_found a_tape v_taped v_gone a_hears a_near a_firstDay a_daily v_begin v_round v_leastFar v_leastWhere v_mostLed a_heardNow v_firstMove v_at v_sort v_from v_value v_fault a_bitsOf a_sizeOf a_number a_passing, aA cI a_d 40 f_d, aA cI a_found 7 g20]) (wr := [aA cI a_d 40 f_d]) C hV (k_X7_finds l dC dI cI cB cO n0 H.size a_t a_d a_e a_kept a_found a_tape a_hears a_near a_firstDay a_daily a_heardNow a_bitsOf a_sizeOf a_number a_passing v_isKept v_taped v_gone v_begin v_round v_leastFar v_leastWhere v_mostLed v_firstMove v_at v_sort v_from v_value v_fault f_found 0 hc) mdX7_finds gX7_as_X7_finds rfl rfl ⟨Nat.le_of_ble_eq_true rfl, Nat.le_of_ble_eq_true rfl⟩ [0, 2] [1] [1, 0, 2] rfl rfl rfl rfl rfl rfl rfl rfl rfl rfl hl.1 (Nat.le_of_ble_eq_true rfl) rfl dX7_as_26 (fun H locs hV => ?_)
  exact hret (x19, g20) _ _ _ _ dX7_as_29 hF hV
abbrev rmX7_isSheet : Room := { frames := 1, cells := 0, slots := 0, locals := 25 }
theorem mdX7_isSheet : gMd yX7_isSheet wsX7_isSheet cX7_isSheet 1 (some .boolean) 1 := ⟨⟨_, rfl⟩, by decide +kernel⟩
theorem ctX7_isSheet_315 : Cond.constantLong RX7 315 3 ∈ wsX7_isSheet := List.mem_cons_of_mem _ (List.mem_of_getElem? (i := 0) rfl)
def F_X7_isSheet (n0 : Nat) (p1 : Int32) : Option (Int32) := nm (p1.toInt64) (fun x1 => bd1 (F_X7_in n0 x1 0 3) (fun x2 => bz x2 (some x2)))
set_option maxRecDepth 100000 in
set_option maxHeartbeats 4000000 in
theorem k_X7_isSheet (l : Launch) (dC : Nat → ClassId) (dI : Nat → Nat → Nat) (cI cB cO : ClassId) (n0 sz : Nat)     (p1 : Int32)  {ro : Int32} (hF : F_X7_isSheet n0 p1 = some ro) : Met l yX7_isSheet wsX7_isSheet rmX7_isSheet (va_Pc [.int p1] (gPre (dC, dI) (gT cI cB cO) sz [])) (gQi (dC, dI) (gT cI cB cO) sz [] ro []) 0 0 (va_A [] sz) := by
  refine g_metZ (Out := Int32) (fun oo => oo) (fun oo => []) ro (own := RX7) (lv := [(0, .int p1)]) (by decide) rfl rfl (Nat.le_of_ble_eq_true rfl) rfl ?_
  intro p e s m args below meth c Q ls C hret hV hl
  obtain ⟨out, hout⟩ : ∃ z : Int32, z = ro := ⟨_, rfl⟩
  rw [← hout] at hF hret
  obtain ⟨H0, hH0⟩ : ∃ z : Heap, z = s.heap := ⟨_, rfl⟩
  obtain ⟨A0, hA0⟩ : ∃ z : Nat → Prop, z = va_A [] s.heap.size := ⟨_, rfl⟩
  rw [← hA0] at hret hV
  rw [← hH0] at hret hV
  rw [← hH0]
  obtain ⟨H, locs, hH⟩ : ∃ (z : Heap) (y : List Loc), z = H0 ∧ y = [] := ⟨_, _, rfl, rfl⟩
  rw [← hH.1, ← hH.2]
  have hV : gV (dC, dI) (gT cI cB cO) A0 H0 s [] H locs := by rw [hH.1, hH.2]; exact hV
  unfold F_X7_isSheet at hF
  refine lv_iload_n C.1 C.2.1 dX7_isSheet_0 rfl (lv_at hl 0 rfl) ?_
  refine g_i2l C hF dX7_isSheet_1 (fun x1 hF => ?_)
  refine lv_lconst (v := 0) C.1 C.2.1 dX7_isSheet_2 rfl ?_
  refine lv_ldc2 (v := 3) C.1 C.2.1 C.2.2.2.1 (C.2.2.2.2 _ ctX7_isSheet_315) dX7_isSheet_3 ?_
  obtain ⟨x2, hc, hF⟩ := bd1_s hF
  refine g_cSi (ws' := []) (wr := []) C hV (k_X7_in l dC dI cI cB cO n0 H.size x1 0 3 hc) mdX7_in gX7_isSheet_X7_in rfl rfl ⟨Nat.le_of_ble_eq_true rfl, Nat.le_of_ble_eq_true rfl⟩ [] [] [] rfl rfl rfl rfl rfl rfl rfl rfl hl.1 (Nat.le_of_ble_eq_true rfl) rfl dX7_isSheet_6 (fun H locs hV => ?_)
  obtain ⟨hz, hF⟩ := bz_s hF
  exact hret x2 _ _ _ _ dX7_isSheet_9 hF hz hV
abbrev rmX7_sheet : Room := { frames := 2, cells := 0, slots := 0, locals := 45 }
theorem mdX7_sheet : gMd yX7_sheet wsX7_sheet cX7_sheet 5 (some .int) 3 := ⟨⟨_, rfl⟩, by decide +kernel⟩
theorem flX7_sheet_45 : gFL wsX7_sheet RX7 45 7 24 RX7 TX7 28 := ⟨rfl, fun w h => List.mem_cons_of_mem _ (List.mem_append_right _ (h)), Nat.le_of_ble_eq_true rfl, List.mem_cons_of_mem _ (List.mem_append_left _ (List.mem_of_getElem? (i := 0) rfl))⟩
theorem flX7_sheet_48 : gFL wsX7_sheet RX7 48 7 25 RX7 TX7 28 := ⟨rfl, fun w h => List.mem_cons_of_mem _ (List.mem_append_right _ (h)), Nat.le_of_ble_eq_true rfl, List.mem_cons_of_mem _ (List.mem_append_left _ (List.mem_of_getElem? (i := 1) rfl))⟩
theorem flX7_sheet_51 : gFL wsX7_sheet RX7 51 7 26 RX7 TX7 28 := ⟨rfl, fun w h => List.mem_cons_of_mem _ (List.mem_append_right _ (h)), Nat.le_of_ble_eq_true rfl, List.mem_cons_of_mem _ (List.mem_append_left _ (List.mem_of_getElem? (i := 2) rfl))⟩
def L_X7_sheet_83 (g5 : Nat → Int32) (p1 : Int32) (g4 : Nat → Int32) (f_found : Nat → Int32) : Nat → Int32 → (Nat → Int32) → Option (Int32 × (Nat → Int32) × (Nat → Int32) × (Nat → Int32) × (Nat → Int32)) := lpp2 (fun s6 t7 kk83 => (if 40 ≤ s6 then rd g5 4 p1 (fun x8 => some (x8, g4, f_found, t7, g5)) else nm (40 * p1) (fun x9 => nm (x9 + s6) (fun x10 => wrt t7 160 x10 0 (fun g11 => nm (s6 + 1) (fun x12 => kk83 x12 g11))))))
def L_X7_sheet_83' (g13 : Nat → Int32) (p1 : Int32) (g4 : Nat → Int32) (f_found : Nat → Int32) : Nat → Int32 → (Nat → Int32) → Option (Int32 × (Nat → Int32) × (Nat → Int32) × (Nat → Int32) × (Nat → Int32)) := lpp2 (fun s14 t15 kk83 => (if 40 ≤ s14 then rd g13 4 p1 (fun x16 => some (x16, g4, f_found, t15, g13)) else nm (40 * p1) (fun x17 => nm (x17 + s14) (fun x18 => wrt t15 160 x18 0 (fun g19 => nm (s14 + 1) (fun x20 => kk83 x20 g19))))))
def J_X7_sheet_35 (p3 : Int32) (f_bitsOf : Nat → Int32) (p1 : Int32) (p2 : Int32) (f_sizeOf : Nat → Int32) (f_found : Nat → Int32) (n0 : Nat) (f_number : Nat → Int32) : Option (Int32 × (Nat → Int32) × (Nat → Int32) × (Nat → Int32) × (Nat → Int32)) := (if 0 ≤ p3 then (if p3 ≤ 40 then wrt f_bitsOf 4 p1 p2 (fun g4 => (if p2 = 0 then wrt f_sizeOf 4 p1 0 (fun g13 => L_X7_sheet_83' g13 p1 g4 f_found n0 0 f_number) else wrt f_sizeOf 4 p1 p3 (fun g5 => L_X7_sheet_83 g5 p1 g4 f_found n0 0 f_number))) else bd2 (F_X7_finds n0 f_found 0) (fun x21 g22 => some (x21, f_bitsOf, g22, f_number, f_sizeOf))) else bd2 (F_X7_finds n0 f_found 6) (fun x23 g24 => some (x23, f_bitsOf, g24, f_number, f_sizeOf)))
def F_X7_sheet (n0 : Nat) (f_bitsOf : Nat → Int32) (f_found : Nat → Int32) (f_number : Nat → Int32) (f_sizeOf : Nat → Int32) (p1 : Int32) (p2 : Int32) (p3 : Int32) : Option (Int32 × (Nat → Int32) × (Nat → Int32) × (Nat → Int32) × (Nat → Int32)) := bd1 (F_X7_isSheet n0 p1) (fun x1 => (if x1 = 0 then bd2 (F_X7_finds n0 f_found 0) (fun x2 g3 => some (x2, f_bitsOf, g3, f_number, f_sizeOf)) else (if p2 = 0 then J_X7_sheet_35 p3 f_bitsOf p1 p2 f_sizeOf f_found n0 f_number else (if p2 = 8 then J_X7_sheet_35 p3 f_bitsOf p1 p2 f_sizeOf f_found n0 f_number else (if p2 = 16 then J_X7_sheet_35 p3 f_bitsOf p1 p2 f_sizeOf f_found n0 f_number else (if p2 = 32 then J_X7_sheet_35 p3 f_bitsOf p1 p2 f_sizeOf f_found n0 f_number else bd2 (F_X7_finds n0 f_found 0) (fun x25 g26 => some (x25, f_bitsOf, g26, f_number, f_sizeOf))))))))
set_option maxRecDepth 100000 in
set_option maxHeartbeats 4000000 in
theorem k_X7_sheet (l : Launch) (dC : Nat → ClassId) (dI : Nat → Nat → Nat) (cI cB cO : ClassId) (n0 sz : Nat) (a_t : Nat) (a_d : Nat) (a_e : Nat) (a_kept : Nat) (a_found : Nat) (a_tape : Nat) (a_hears : Nat) (a_near : Nat) (a_firstDay : Nat) (a_daily : Nat) (a_heardNow : Nat) (a_bitsOf : Nat) (a_sizeOf : Nat) (a_number : Nat) (a_passing : Nat)   (v_isKept : Int32) (v_taped : Int32) (v_gone : Int32) (v_begin : Int32) (v_round : Int32) (v_leastFar : Int32) (v_leastWhere : Int32) (v_mostLed : Int32) (v_firstMove : Int32) (v_at : Int32) (v_sort : Int32) (v_from : Int32) (v_value : Int64) (v_fault : Int32) (f_bitsOf : Nat → Int32) (f_found : Nat → Int32) (f_number : Nat → Int32) (f_sizeOf : Nat → Int32) (p1 : Int32) (p2 : Int32) (p3 : Int32)  {ro : Int32} {o0 : Nat → Int32} {o1 : Nat → Int32} {o2 : Nat → Int32} {o3 : Nat → Int32} (hF : F_X7_sheet n0 f_bitsOf f_found f_number f_sizeOf p1 p2 p3 = some (ro, o0, o1, o2, o3)) : Met l yX7_sheet wsX7_sheet rmX7_sheet (va_Pc [.ref a_t, .int p1, .int p2, .int p3] (gPre (dC, dI) (gT cI cB cO) sz [oX7 a_t a_d a_e a_kept v_isKept a_found a_tape v_taped v_gone a_hears a_near a_firstDay a_daily v_begin v_round v_leastFar v_leastWhere v_mostLed a_heardNow v_firstMove v_at v_sort v_from v_value v_fault a_bitsOf a_sizeOf a_number a_passing, aA cI a_bitsOf 4 f_bitsOf, aA cI a_found 7 f_found, aA cI a_number 160 f_number, aA cI a_sizeOf 4 f_sizeOf])) (gQi (dC, dI) (gT cI cB cO) sz [oX7 a_t a_d a_e a_kept v_isKept a_found a_tape v_taped v_gone a_hears a_near a_firstDay a_daily v_begin v_round v_leastFar v_leastWhere v_mostLed a_heardNow v_firstMove v_at v_sort v_from v_value v_fault a_bitsOf a_sizeOf a_number a_passing, aA cI a_bitsOf 4 f_bitsOf, aA cI a_found 7 f_found, aA cI a_number 160 f_number, aA cI a_sizeOf 4 f_sizeOf] ro [oX7 a_t a_d a_e a_kept v_isKept a_found a_tape v_taped v_gone a_hears a_near a_firstDay a_daily v_begin v_round v_leastFar v_leastWhere v_mostLed a_heardNow v_firstMove v_at v_sort v_from v_value v_fault a_bitsOf a_sizeOf a_number a_passing, aA cI a_bitsOf 4 o0, aA cI a_found 7 o1, aA cI a_number 160 o2, aA cI a_sizeOf 4 o3]) 0 0 (va_A [oX7 a_t a_d a_e a_kept v_isKept a_found a_tape v_taped v_gone a_hears a_near a_firstDay a_daily v_begin v_round v_leastFar v_leastWhere v_mostLed a_heardNow v_firstMove v_at v_sort v_from v_value v_fault a_bitsOf a_sizeOf a_number a_passing, aA cI a_bitsOf 4 f_bitsOf, aA cI a_found 7 f_found, aA cI a_number 160 f_number, aA cI a_sizeOf 4 f_sizeOf] sz) := by
  refine g_metI (Out := Int32 × (Nat → Int32) × (Nat → Int32) × (Nat → Int32) × (Nat → Int32)) (fun oo => oo.1) (fun oo => [oX7 a_t a_d a_e a_kept v_isKept a_found a_tape v_taped v_gone a_hears a_near a_firstDay a_daily v_begin v_round v_leastFar v_leastWhere v_mostLed a_heardNow v_firstMove v_at v_sort v_from v_value v_fault a_bitsOf a_sizeOf a_number a_passing, aA cI a_bitsOf 4 oo.2.1, aA cI a_found 7 oo.2.2.1, aA cI a_number 160 oo.2.2.2.1, aA cI a_sizeOf 4 oo.2.2.2.2]) (ro, o0, o1, o2, o3) (own := RX7) (lv := [(0, .ref a_t), (1, .int p1), (2, .int p2), (3, .int p3)]) (by decide) rfl rfl (Nat.le_of_ble_eq_true rfl) rfl ?_
  intro p e s m args below meth c Q ls C hret hV hl
  obtain ⟨out, hout⟩ : ∃ z : Int32 × (Nat → Int32) × (Nat → Int32) × (Nat → Int32) × (Nat → Int32), z = (ro, o0, o1, o2, o3) := ⟨_, rfl⟩
  rw [← hout] at hF hret
  obtain ⟨H0, hH0⟩ : ∃ z : Heap, z = s.heap := ⟨_, rfl⟩
  obtain ⟨A0, hA0⟩ : ∃ z : Nat → Prop, z = va_A [oX7 a_t a_d a_e a_kept v_isKept a_found a_tape v_taped v_gone a_hears a_near a_firstDay a_daily v_begin v_round v_leastFar v_leastWhere v_mostLed a_heardNow v_firstMove v_at v_sort v_from v_value v_fault a_bitsOf a_sizeOf a_number a_passing, aA cI a_bitsOf 4 f_bitsOf, aA cI a_found 7 f_found, aA cI a_number 160 f_number, aA cI a_sizeOf 4 f_sizeOf] s.heap.size := ⟨_, rfl⟩
  rw [← hA0] at hret hV
  rw [← hH0] at hret hV
  rw [← hH0]
  obtain ⟨H, locs, hH⟩ : ∃ (z : Heap) (y : List Loc), z = H0 ∧ y = [] := ⟨_, _, rfl, rfl⟩
  rw [← hH.1, ← hH.2]
  have hV : gV (dC, dI) (gT cI cB cO) A0 H0 s [oX7 a_t a_d a_e a_kept v_isKept a_found a_tape v_taped v_gone a_hears a_near a_firstDay a_daily v_begin v_round v_leastFar v_leastWhere v_mostLed a_heardNow v_firstMove v_at v_sort v_from v_value v_fault a_bitsOf a_sizeOf a_number a_passing, aA cI a_bitsOf 4 f_bitsOf, aA cI a_found 7 f_found, aA cI a_number 160 f_number, aA cI a_sizeOf 4 f_sizeOf] H locs := by rw [hH.1, hH.2]; exact hV
  unfold F_X7_sheet at hF
  refine lv_iload_n C.1 C.2.1 dX7_sheet_0 rfl (lv_at hl 1 rfl) ?_
  obtain ⟨x1, hc, hF⟩ := bd1_s hF
  refine g_cSi (ws' := [oX7 a_t a_d a_e a_kept v_isKept a_found a_tape v_taped v_gone a_hears a_near a_firstDay a_daily v_begin v_round v_leastFar v_leastWhere v_mostLed a_heardNow v_firstMove v_at v_sort v_from v_value v_fault a_bitsOf a_sizeOf a_number a_passing, aA cI a_bitsOf 4 f_bitsOf, aA cI a_found 7 f_found, aA cI a_number 160 f_number, aA cI a_sizeOf 4 f_sizeOf]) (wr := [oX7 a_t a_d a_e a_kept v_isKept a_found a_tape v_taped v_gone a_hears a_near a_firstDay a_daily v_begin v_round v_leastFar v_leastWhere v_mostLed a_heardNow v_firstMove v_at v_sort v_from v_value v_fault a_bitsOf a_sizeOf a_number a_passing, aA cI a_bitsOf 4 f_bitsOf, aA cI a_found 7 f_found, aA cI a_number 160 f_number, aA cI a_sizeOf 4 f_sizeOf]) C hV (k_X7_isSheet l dC dI cI cB cO n0 H.size p1 hc) mdX7_isSheet gX7_sheet_X7_isSheet rfl rfl ⟨Nat.le_of_ble_eq_true rfl, Nat.le_of_ble_eq_true rfl⟩ [] [0, 1, 2, 3, 4] [0, 1, 2, 3, 4] rfl rfl rfl rfl rfl rfl rfl rfl hl.1 (Nat.le_of_ble_eq_true rfl) rfl dX7_sheet_1 (fun H locs hV => ?_)
  refine g_if_eq (tgt := 29) C hF dX7_sheet_4 rfl (fun hF => ?_) (fun hF => ?_)
  · refine lv_aload_n C.1 C.2.1 dX7_sheet_29 rfl (lv_at hl 0 rfl) ?_
    refine lv_iconst (v := 0) C.1 C.2.1 dX7_sheet_30 rfl ?_
    obtain ⟨x2, g3, hc, hF⟩ := bd2_s hF
    refine g_cVi (ws' := [oX7 a_t a_d a_e a_kept v_isKept a_found a_tape v_taped v_gone a_hears a_near a_firstDay a_daily v_begin v_round v_leastFar v_leastWhere v_mostLed a_heardNow v_firstMove v_at v_sort v_from v_value v_fault a_bitsOf a_sizeOf a_number a_passing, aA cI a_bitsOf 4 f_bitsOf, aA cI a_found 7 g3, aA cI a_number 160 f_number, aA cI a_sizeOf 4 f_sizeOf]) (wr := [aA cI a_bitsOf 4 f_bitsOf, aA cI a_number 160 f_number, aA cI a_sizeOf 4 f_sizeOf]) C hV (k_X7_finds l dC dI cI cB cO n0 H.size a_t a_d a_e a_kept a_found a_tape a_hears a_near a_firstDay a_daily a_heardNow a_bitsOf a_sizeOf a_number a_passing v_isKept v_taped v_gone v_begin v_round v_leastFar v_leastWhere v_mostLed v_firstMove v_at v_sort v_from v_value v_fault f_found 0 hc) mdX7_finds gX7_sheet_X7_finds rfl rfl ⟨Nat.le_of_ble_eq_true rfl, Nat.le_of_ble_eq_true rfl⟩ [0, 2] [1, 3, 4] [3, 0, 4, 1, 2] rfl rfl rfl rfl rfl rfl rfl rfl rfl rfl hl.1 (Nat.le_of_ble_eq_true rfl) rfl dX7_sheet_31 (fun H locs hV => ?_)
    exact hret (x2, f_bitsOf, g3, f_number, f_sizeOf) _ _ _ _ dX7_sheet_34 hF hV
  refine lv_iload_n C.1 C.2.1 dX7_sheet_7 rfl (lv_at hl 2 rfl) ?_
  have hJ35 : ∀  (H : Heap) (locs : List Loc) (ls : Array Slot), gV (dC, dI) (gT cI cB cO) A0 H0 s [oX7 a_t a_d a_e a_kept v_isKept a_found a_tape v_taped v_gone a_hears a_near a_firstDay a_daily v_begin v_round v_leastFar v_leastWhere v_mostLed a_heardNow v_firstMove v_at v_sort v_from v_value v_fault a_bitsOf a_sizeOf a_number a_passing, aA cI a_bitsOf 4 f_bitsOf, aA cI a_found 7 f_found, aA cI a_number 160 f_number, aA cI a_sizeOf 4 f_sizeOf] H locs → lv_has ls 5 [(0, .ref a_t), (1, .int p1), (2, .int p2), (3, .int p3)] → J_X7_sheet_35 p3 f_bitsOf p1 p2 f_sizeOf f_found n0 f_number = some out → W p l e rmX7_sheet s m args below meth c H locs 0 0 Q (F0 m 35 ls []) := by
    intro  H locs ls hV hl hF
    unfold J_X7_sheet_35 at hF
    refine lv_iload_n C.1 C.2.1 dX7_sheet_35 rfl (lv_at hl 3 rfl) ?_
    refine g_if_ge (tgt := 46) C hF dX7_sheet_36 rfl (fun hF => ?_) (fun hF => ?_)
    · refine lv_iload_n C.1 C.2.1 dX7_sheet_46 rfl (lv_at hl 3 rfl) ?_
      refine lv_bipush (v := 40) C.1 C.2.1 dX7_sheet_47 rfl ?_
      refine g_icmp_le (tgt := 58) C hF dX7_sheet_49 rfl (fun hF => ?_) (fun hF => ?_)
      · refine lv_aload_n C.1 C.2.1 dX7_sheet_58 rfl (lv_at hl 0 rfl) ?_
        refine g_get C hV flX7_sheet_45 0 rfl rfl dX7_sheet_59 ?_
        refine lv_iload_n C.1 C.2.1 dX7_sheet_62 rfl (lv_at hl 1 rfl) ?_
        refine lv_iload_n C.1 C.2.1 dX7_sheet_63 rfl (lv_at hl 2 rfl) ?_
        refine g_iast C hV 1 rfl hF (fun gq => [oX7 a_t a_d a_e a_kept v_isKept a_found a_tape v_taped v_gone a_hears a_near a_firstDay a_daily v_begin v_round v_leastFar v_leastWhere v_mostLed a_heardNow v_firstMove v_at v_sort v_from v_value v_fault a_bitsOf a_sizeOf a_number a_passing, aA cI a_bitsOf 4 gq, aA cI a_found 7 f_found, aA cI a_number 160 f_number, aA cI a_sizeOf 4 f_sizeOf]) (fun _ => rfl) dX7_sheet_64 (fun g4 H locs hF hV => ?_)
        refine lv_aload_n C.1 C.2.1 dX7_sheet_65 rfl (lv_at hl 0 rfl) ?_
        refine g_get C hV flX7_sheet_48 0 rfl rfl dX7_sheet_66 ?_
        refine lv_iload_n C.1 C.2.1 dX7_sheet_69 rfl (lv_at hl 1 rfl) ?_
        refine lv_iload_n C.1 C.2.1 dX7_sheet_70 rfl (lv_at hl 2 rfl) ?_
        refine g_if_ne (tgt := 78) C hF dX7_sheet_71 rfl (fun hF => ?_) (fun hF => ?_)
        · refine lv_iload_n C.1 C.2.1 dX7_sheet_78 rfl (lv_at hl 3 rfl) ?_
          refine g_iast C hV 4 rfl hF (fun gq => [oX7 a_t a_d a_e a_kept v_isKept a_found a_tape v_taped v_gone a_hears a_near a_firstDay a_daily v_begin v_round v_leastFar v_leastWhere v_mostLed a_heardNow v_firstMove v_at v_sort v_from v_value v_fault a_bitsOf a_sizeOf a_number a_passing, aA cI a_bitsOf 4 g4, aA cI a_found 7 f_found, aA cI a_number 160 f_number, aA cI a_sizeOf 4 gq]) (fun _ => rfl) dX7_sheet_79 (fun g5 H locs hF hV => ?_)
          refine lv_iconst (v := 0) C.1 C.2.1 dX7_sheet_80 rfl ?_
          refine lv_istore (lv' := [(4, .int 0), (0, .ref a_t), (1, .int p1), (2, .int p2), (3, .int p3)]) C.1 C.2.1 dX7_sheet_81 hl (by decide) rfl (fun ls hl => ?_)
          have hL83 : ∀ (n : Nat) (s6 : Int32) (t7 : Nat → Int32) (H : Heap) (locs : List Loc) (ls : Array Slot), gV (dC, dI) (gT cI cB cO) A0 H0 s [oX7 a_t a_d a_e a_kept v_isKept a_found a_tape v_taped v_gone a_hears a_near a_firstDay a_daily v_begin v_round v_leastFar v_leastWhere v_mostLed a_heardNow v_firstMove v_at v_sort v_from v_value v_fault a_bitsOf a_sizeOf a_number a_passing, aA cI a_bitsOf 4 g4, aA cI a_found 7 f_found, aA cI a_number 160 t7, aA cI a_sizeOf 4 g5] H locs → lv_has ls 5 [(0, .ref a_t), (1, .int p1), (4, .int s6)] → L_X7_sheet_83 g5 p1 g4 f_found n s6 t7 = some out → W p l e rmX7_sheet s m args below meth c H locs 0 0 Q (F0 m 83 ls []) := by
            intro n
            induction n with
            | zero => intro s6 t7 H locs ls hV hl hF; exact lpp2_z hF
            | succ n ih83 =>
              intro s6 t7 H locs ls hV hl hF
              obtain ⟨kk83, hk83, hF⟩ := lpp2_g hF
              have hq83 : ∀ (s6 : Int32) (t7 : Nat → Int32), kk83 s6 t7 = some out → L_X7_sheet_83 g5 p1 g4 f_found n s6 t7 = some out := fun _ _ h => by rw [hk83] at h; exact h
              refine lv_iload C.1 C.2.1 dX7_sheet_83 (lv_at hl 2 rfl) ?_
              refine lv_bipush (v := 40) C.1 C.2.1 dX7_sheet_85 rfl ?_
              refine g_icmp_ge (tgt := 109) C hF dX7_sheet_87 rfl (fun hF => ?_) (fun hF => ?_)
              · refine lv_aload_n C.1 C.2.1 dX7_sheet_109 rfl (lv_at hl 0 rfl) ?_
                refine g_get C hV flX7_sheet_48 0 rfl rfl dX7_sheet_110 ?_
                refine lv_iload_n C.1 C.2.1 dX7_sheet_113 rfl (lv_at hl 1 rfl) ?_
                refine g_iald C hV 4 rfl hF dX7_sheet_114 (fun x8 hF => ?_)
                exact hret (x8, g4, f_found, t7, g5) _ _ _ _ dX7_sheet_115 hF hV
              refine lv_aload_n C.1 C.2.1 dX7_sheet_90 rfl (lv_at hl 0 rfl) ?_
              refine g_get C hV flX7_sheet_51 0 rfl rfl dX7_sheet_91 ?_
              refine lv_bipush (v := 40) C.1 C.2.1 dX7_sheet_94 rfl ?_
              refine lv_iload_n C.1 C.2.1 dX7_sheet_96 rfl (lv_at hl 1 rfl) ?_
              refine g_imul C hF dX7_sheet_97 (fun x9 hF => ?_)
              refine lv_iload C.1 C.2.1 dX7_sheet_98 (lv_at hl 2 rfl) ?_
              refine g_iadd C hF dX7_sheet_100 (fun x10 hF => ?_)
              refine lv_iconst (v := 0) C.1 C.2.1 dX7_sheet_101 rfl ?_
              refine g_iast C hV 3 rfl hF (fun gq => [oX7 a_t a_d a_e a_kept v_isKept a_found a_tape v_taped v_gone a_hears a_near a_firstDay a_daily v_begin v_round v_leastFar v_leastWhere v_mostLed a_heardNow v_firstMove v_at v_sort v_from v_value v_fault a_bitsOf a_sizeOf a_number a_passing, aA cI a_bitsOf 4 g4, aA cI a_found 7 f_found, aA cI a_number 160 gq, aA cI a_sizeOf 4 g5]) (fun _ => rfl) dX7_sheet_102 (fun g11 H locs hF hV => ?_)
              refine g_iinc C hF dX7_sheet_103 (d := 1) rfl hl (j := 2) rfl (by decide) (fun y => [(4, .int y), (0, .ref a_t), (1, .int p1)]) (fun _ => rfl) (fun x12 ls hF hl => ?_)
              refine lv_goto (tgt := 83) C.1 C.2.1 dX7_sheet_106 rfl ?_
              exact ih83 x12 g11 H locs ls hV (lv_sub hl [1, 2, 0] rfl) (hq83 x12 g11 hF)
          exact hL83 n0 0 f_number H locs ls hV (lv_sub hl [1, 2, 0] rfl) hF
        refine lv_iconst (v := 0) C.1 C.2.1 dX7_sheet_74 rfl ?_
        refine lv_goto (tgt := 79) C.1 C.2.1 dX7_sheet_75 rfl ?_
        refine g_iast C hV 4 rfl hF (fun gq => [oX7 a_t a_d a_e a_kept v_isKept a_found a_tape v_taped v_gone a_hears a_near a_firstDay a_daily v_begin v_round v_leastFar v_leastWhere v_mostLed a_heardNow v_firstMove v_at v_sort v_from v_value v_fault a_bitsOf a_sizeOf a_number a_passing, aA cI a_bitsOf 4 g4, aA cI a_found 7 f_found, aA cI a_number 160 f_number, aA cI a_sizeOf 4 gq]) (fun _ => rfl) dX7_sheet_79 (fun g13 H locs hF hV => ?_)
        refine lv_iconst (v := 0) C.1 C.2.1 dX7_sheet_80 rfl ?_
        refine lv_istore (lv' := [(4, .int 0), (0, .ref a_t), (1, .int p1), (2, .int p2), (3, .int p3)]) C.1 C.2.1 dX7_sheet_81 hl (by decide) rfl (fun ls hl => ?_)
        have hL83 : ∀ (n : Nat) (s14 : Int32) (t15 : Nat → Int32) (H : Heap) (locs : List Loc) (ls : Array Slot), gV (dC, dI) (gT cI cB cO) A0 H0 s [oX7 a_t a_d a_e a_kept v_isKept a_found a_tape v_taped v_gone a_hears a_near a_firstDay a_daily v_begin v_round v_leastFar v_leastWhere v_mostLed a_heardNow v_firstMove v_at v_sort v_from v_value v_fault a_bitsOf a_sizeOf a_number a_passing, aA cI a_bitsOf 4 g4, aA cI a_found 7 f_found, aA cI a_number 160 t15, aA cI a_sizeOf 4 g13] H locs → lv_has ls 5 [(0, .ref a_t), (1, .int p1), (4, .int s14)] → L_X7_sheet_83' g13 p1 g4 f_found n s14 t15 = some out → W p l e rmX7_sheet s m args below meth c H locs 0 0 Q (F0 m 83 ls []) := by
          intro n
          induction n with
          | zero => intro s14 t15 H locs ls hV hl hF; exact lpp2_z hF
          | succ n ih83 =>
            intro s14 t15 H locs ls hV hl hF
            obtain ⟨kk83, hk83, hF⟩ := lpp2_g hF
            have hq83 : ∀ (s14 : Int32) (t15 : Nat → Int32), kk83 s14 t15 = some out → L_X7_sheet_83' g13 p1 g4 f_found n s14 t15 = some out := fun _ _ h => by rw [hk83] at h; exact h
            refine lv_iload C.1 C.2.1 dX7_sheet_83 (lv_at hl 2 rfl) ?_
            refine lv_bipush (v := 40) C.1 C.2.1 dX7_sheet_85 rfl ?_
            refine g_icmp_ge (tgt := 109) C hF dX7_sheet_87 rfl (fun hF => ?_) (fun hF => ?_)
            · refine lv_aload_n C.1 C.2.1 dX7_sheet_109 rfl (lv_at hl 0 rfl) ?_
              refine g_get C hV flX7_sheet_48 0 rfl rfl dX7_sheet_110 ?_
              refine lv_iload_n C.1 C.2.1 dX7_sheet_113 rfl (lv_at hl 1 rfl) ?_
              refine g_iald C hV 4 rfl hF dX7_sheet_114 (fun x16 hF => ?_)
              exact hret (x16, g4, f_found, t15, g13) _ _ _ _ dX7_sheet_115 hF hV
            refine lv_aload_n C.1 C.2.1 dX7_sheet_90 rfl (lv_at hl 0 rfl) ?_
            refine g_get C hV flX7_sheet_51 0 rfl rfl dX7_sheet_91 ?_
            refine lv_bipush (v := 40) C.1 C.2.1 dX7_sheet_94 rfl ?_
            refine lv_iload_n C.1 C.2.1 dX7_sheet_96 rfl (lv_at hl 1 rfl) ?_
            refine g_imul C hF dX7_sheet_97 (fun x17 hF => ?_)
            refine lv_iload C.1 C.2.1 dX7_sheet_98 (lv_at hl 2 rfl) ?_
            refine g_iadd C hF dX7_sheet_100 (fun x18 hF => ?_)
            refine lv_iconst (v := 0) C.1 C.2.1 dX7_sheet_101 rfl ?_
            refine g_iast C hV 3 rfl hF (fun gq => [oX7 a_t a_d a_e a_kept v_isKept a_found a_tape v_taped v_gone a_hears a_near a_firstDay a_daily v_begin v_round v_leastFar v_leastWhere v_mostLed a_heardNow v_firstMove v_at v_sort v_from v_value v_fault a_bitsOf a_sizeOf a_number a_passing, aA cI a_bitsOf 4 g4, aA cI a_found 7 f_found, aA cI a_number 160 gq, aA cI a_sizeOf 4 g13]) (fun _ => rfl) dX7_sheet_102 (fun g19 H locs hF hV => ?_)
            refine g_iinc C hF dX7_sheet_103 (d := 1) rfl hl (j := 2) rfl (by decide) (fun y => [(4, .int y), (0, .ref a_t), (1, .int p1)]) (fun _ => rfl) (fun x20 ls hF hl => ?_)
            refine lv_goto (tgt := 83) C.1 C.2.1 dX7_sheet_106 rfl ?_
            exact ih83 x20 g19 H locs ls hV (lv_sub hl [1, 2, 0] rfl) (hq83 x20 g19 hF)
        exact hL83 n0 0 f_number H locs ls hV (lv_sub hl [1, 2, 0] rfl) hF
      refine lv_aload_n C.1 C.2.1 dX7_sheet_52 rfl (lv_at hl 0 rfl) ?_
      refine lv_iconst (v := 0) C.1 C.2.1 dX7_sheet_53 rfl ?_
      obtain ⟨x21, g22, hc, hF⟩ := bd2_s hF
      refine g_cVi (ws' := [oX7 a_t a_d a_e a_kept v_isKept a_found a_tape v_taped v_gone a_hears a_near a_firstDay a_daily v_begin v_round v_leastFar v_leastWhere v_mostLed a_heardNow v_firstMove v_at v_sort v_from v_value v_fault a_bitsOf a_sizeOf a_number a_passing, aA cI a_bitsOf 4 f_bitsOf, aA cI a_found 7 g22, aA cI a_number 160 f_number, aA cI a_sizeOf 4 f_sizeOf]) (wr := [aA cI a_bitsOf 4 f_bitsOf, aA cI a_number 160 f_number, aA cI a_sizeOf 4 f_sizeOf]) C hV (k_X7_finds l dC dI cI cB cO n0 H.size a_t a_d a_e a_kept a_found a_tape a_hears a_near a_firstDay a_daily a_heardNow a_bitsOf a_sizeOf a_number a_passing v_isKept v_taped v_gone v_begin v_round v_leastFar v_leastWhere v_mostLed v_firstMove v_at v_sort v_from v_value v_fault f_found 0 hc) mdX7_finds gX7_sheet_X7_finds rfl rfl ⟨Nat.le_of_ble_eq_true rfl, Nat.le_of_ble_eq_true rfl⟩ [0, 2] [1, 3, 4] [3, 0, 4, 1, 2] rfl rfl rfl rfl rfl rfl rfl rfl rfl rfl hl.1 (Nat.le_of_ble_eq_true rfl) rfl dX7_sheet_54 (fun H locs hV => ?_)
      exact hret (x21, f_bitsOf, g22, f_number, f_sizeOf) _ _ _ _ dX7_sheet_57 hF hV
    refine lv_aload_n C.1 C.2.1 dX7_sheet_39 rfl (lv_at hl 0 rfl) ?_
    refine lv_bipush (v := 6) C.1 C.2.1 dX7_sheet_40 rfl ?_
    obtain ⟨x23, g24, hc, hF⟩ := bd2_s hF
    refine g_cVi (ws' := [oX7 a_t a_d a_e a_kept v_isKept a_found a_tape v_taped v_gone a_hears a_near a_firstDay a_daily v_begin v_round v_leastFar v_leastWhere v_mostLed a_heardNow v_firstMove v_at v_sort v_from v_value v_fault a_bitsOf a_sizeOf a_number a_passing, aA cI a_bitsOf 4 f_bitsOf, aA cI a_found 7 g24, aA cI a_number 160 f_number, aA cI a_sizeOf 4 f_sizeOf]) (wr := [aA cI a_bitsOf 4 f_bitsOf, aA cI a_number 160 f_number, aA cI a_sizeOf 4 f_sizeOf]) C hV (k_X7_finds l dC dI cI cB cO n0 H.size a_t a_d a_e a_kept a_found a_tape a_hears a_near a_firstDay a_daily a_heardNow a_bitsOf a_sizeOf a_number a_passing v_isKept v_taped v_gone v_begin v_round v_leastFar v_leastWhere v_mostLed v_firstMove v_at v_sort v_from v_value v_fault f_found 6 hc) mdX7_finds gX7_sheet_X7_finds rfl rfl ⟨Nat.le_of_ble_eq_true rfl, Nat.le_of_ble_eq_true rfl⟩ [0, 2] [1, 3, 4] [3, 0, 4, 1, 2] rfl rfl rfl rfl rfl rfl rfl rfl rfl rfl hl.1 (Nat.le_of_ble_eq_true rfl) rfl dX7_sheet_42 (fun H locs hV => ?_)
    exact hret (x23, f_bitsOf, g24, f_number, f_sizeOf) _ _ _ _ dX7_sheet_45 hF hV
  refine g_if_eq (tgt := 35) C hF dX7_sheet_8 rfl (fun hF => ?_) (fun hF => ?_)
  · exact hJ35  H locs ls hV (lv_sub hl [0, 1, 2, 3] rfl) hF
  refine lv_iload_n C.1 C.2.1 dX7_sheet_11 rfl (lv_at hl 2 rfl) ?_
  refine lv_bipush (v := 8) C.1 C.2.1 dX7_sheet_12 rfl ?_
  refine g_icmp_eq (tgt := 35) C hF dX7_sheet_14 rfl (fun hF => ?_) (fun hF => ?_)
  · exact hJ35  H locs ls hV (lv_sub hl [0, 1, 2, 3] rfl) hF
  refine lv_iload_n C.1 C.2.1 dX7_sheet_17 rfl (lv_at hl 2 rfl) ?_
  refine lv_bipush (v := 16) C.1 C.2.1 dX7_sheet_18 rfl ?_
  refine g_icmp_eq (tgt := 35) C hF dX7_sheet_20 rfl (fun hF => ?_) (fun hF => ?_)
  · exact hJ35  H locs ls hV (lv_sub hl [0, 1, 2, 3] rfl) hF
  refine lv_iload_n C.1 C.2.1 dX7_sheet_23 rfl (lv_at hl 2 rfl) ?_
  refine lv_bipush (v := 32) C.1 C.2.1 dX7_sheet_24 rfl ?_
  refine g_icmp_eq (tgt := 35) C hF dX7_sheet_26 rfl (fun hF => ?_) (fun hF => ?_)
  · exact hJ35  H locs ls hV (lv_sub hl [0, 1, 2, 3] rfl) hF
  refine lv_aload_n C.1 C.2.1 dX7_sheet_29 rfl (lv_at hl 0 rfl) ?_
  refine lv_iconst (v := 0) C.1 C.2.1 dX7_sheet_30 rfl ?_
  obtain ⟨x25, g26, hc, hF⟩ := bd2_s hF
  refine g_cVi (ws' := [oX7 a_t a_d a_e a_kept v_isKept a_found a_tape v_taped v_gone a_hears a_near a_firstDay a_daily v_begin v_round v_leastFar v_leastWhere v_mostLed a_heardNow v_firstMove v_at v_sort v_from v_value v_fault a_bitsOf a_sizeOf a_number a_passing, aA cI a_bitsOf 4 f_bitsOf, aA cI a_found 7 g26, aA cI a_number 160 f_number, aA cI a_sizeOf 4 f_sizeOf]) (wr := [aA cI a_bitsOf 4 f_bitsOf, aA cI a_number 160 f_number, aA cI a_sizeOf 4 f_sizeOf]) C hV (k_X7_finds l dC dI cI cB cO n0 H.size a_t a_d a_e a_kept a_found a_tape a_hears a_near a_firstDay a_daily a_heardNow a_bitsOf a_sizeOf a_number a_passing v_isKept v_taped v_gone v_begin v_round v_leastFar v_leastWhere v_mostLed v_firstMove v_at v_sort v_from v_value v_fault f_found 0 hc) mdX7_finds gX7_sheet_X7_finds rfl rfl ⟨Nat.le_of_ble_eq_true rfl, Nat.le_of_ble_eq_true rfl⟩ [0, 2] [1, 3, 4] [3, 0, 4, 1, 2] rfl rfl rfl rfl rfl rfl rfl rfl rfl rfl hl.1 (Nat.le_of_ble_eq_true rfl) rfl dX7_sheet_31 (fun H locs hV => ?_)
  exact hret (x25, f_bitsOf, g26, f_number, f_sizeOf) _ _ _ _ dX7_sheet_34 hF hV
abbrev rmX7_whyNone : Room := { frames := 2, cells := 0, slots := 0, locals := 45 }
theorem mdX7_whyNone : gMd yX7_whyNone wsX7_whyNone cX7_whyNone 2 (some .int) 1 := ⟨⟨_, rfl⟩, by decide +kernel⟩
theorem flX7_whyNone_45 : gFL wsX7_whyNone RX7 45 7 24 RX7 TX7 28 := ⟨rfl, fun w h => List.mem_cons_of_mem _ (List.mem_append_right _ (h)), Nat.le_of_ble_eq_true rfl, List.mem_cons_of_mem _ (List.mem_append_left _ (List.mem_of_getElem? (i := 0) rfl))⟩
def F_X7_whyNone (n0 : Nat) (f_bitsOf : Nat → Int32) (p1 : Int32) : Option (Int32) := bd1 (F_X7_isSheet n0 p1) (fun x1 => (if x1 = 0 then some (0 : Int32) else rd f_bitsOf 4 p1 (fun x2 => (if x2 = 0 then some (5 : Int32) else some ((-1))))))
set_option maxRecDepth 100000 in
set_option maxHeartbeats 4000000 in
theorem k_X7_whyNone (l : Launch) (dC : Nat → ClassId) (dI : Nat → Nat → Nat) (cI cB cO : ClassId) (n0 sz : Nat) (a_t : Nat) (a_d : Nat) (a_e : Nat) (a_kept : Nat) (a_found : Nat) (a_tape : Nat) (a_hears : Nat) (a_near : Nat) (a_firstDay : Nat) (a_daily : Nat) (a_heardNow : Nat) (a_bitsOf : Nat) (a_sizeOf : Nat) (a_number : Nat) (a_passing : Nat)   (v_isKept : Int32) (v_taped : Int32) (v_gone : Int32) (v_begin : Int32) (v_round : Int32) (v_leastFar : Int32) (v_leastWhere : Int32) (v_mostLed : Int32) (v_firstMove : Int32) (v_at : Int32) (v_sort : Int32) (v_from : Int32) (v_value : Int64) (v_fault : Int32) (f_bitsOf : Nat → Int32) (p1 : Int32)  {ro : Int32} (hF : F_X7_whyNone n0 f_bitsOf p1 = some ro) : Met l yX7_whyNone wsX7_whyNone rmX7_whyNone (va_Pc [.ref a_t, .int p1] (gPre (dC, dI) (gT cI cB cO) sz [oX7 a_t a_d a_e a_kept v_isKept a_found a_tape v_taped v_gone a_hears a_near a_firstDay a_daily v_begin v_round v_leastFar v_leastWhere v_mostLed a_heardNow v_firstMove v_at v_sort v_from v_value v_fault a_bitsOf a_sizeOf a_number a_passing, aA cI a_bitsOf 4 f_bitsOf])) (gQi (dC, dI) (gT cI cB cO) sz [oX7 a_t a_d a_e a_kept v_isKept a_found a_tape v_taped v_gone a_hears a_near a_firstDay a_daily v_begin v_round v_leastFar v_leastWhere v_mostLed a_heardNow v_firstMove v_at v_sort v_from v_value v_fault a_bitsOf a_sizeOf a_number a_passing, aA cI a_bitsOf 4 f_bitsOf] ro [oX7 a_t a_d a_e a_kept v_isKept a_found a_tape v_taped v_gone a_hears a_near a_firstDay a_daily v_begin v_round v_leastFar v_leastWhere v_mostLed a_heardNow v_firstMove v_at v_sort v_from v_value v_fault a_bitsOf a_sizeOf a_number a_passing, aA cI a_bitsOf 4 f_bitsOf]) 0 0 (va_A [oX7 a_t a_d a_e a_kept v_isKept a_found a_tape v_taped v_gone a_hears a_near a_firstDay a_daily v_begin v_round v_leastFar v_leastWhere v_mostLed a_heardNow v_firstMove v_at v_sort v_from v_value v_fault a_bitsOf a_sizeOf a_number a_passing, aA cI a_bitsOf 4 f_bitsOf] sz) := by
  refine g_metI (Out := Int32) (fun oo => oo) (fun oo => [oX7 a_t a_d a_e a_kept v_isKept a_found a_tape v_taped v_gone a_hears a_near a_firstDay a_daily v_begin v_round v_leastFar v_leastWhere v_mostLed a_heardNow v_firstMove v_at v_sort v_from v_value v_fault a_bitsOf a_sizeOf a_number a_passing, aA cI a_bitsOf 4 f_bitsOf]) ro (own := RX7) (lv := [(0, .ref a_t), (1, .int p1)]) (by decide) rfl rfl (Nat.le_of_ble_eq_true rfl) rfl ?_
  intro p e s m args below meth c Q ls C hret hV hl
  obtain ⟨out, hout⟩ : ∃ z : Int32, z = ro := ⟨_, rfl⟩
  rw [← hout] at hF hret
  obtain ⟨H0, hH0⟩ : ∃ z : Heap, z = s.heap := ⟨_, rfl⟩
  obtain ⟨A0, hA0⟩ : ∃ z : Nat → Prop, z = va_A [oX7 a_t a_d a_e a_kept v_isKept a_found a_tape v_taped v_gone a_hears a_near a_firstDay a_daily v_begin v_round v_leastFar v_leastWhere v_mostLed a_heardNow v_firstMove v_at v_sort v_from v_value v_fault a_bitsOf a_sizeOf a_number a_passing, aA cI a_bitsOf 4 f_bitsOf] s.heap.size := ⟨_, rfl⟩
  rw [← hA0] at hret hV
  rw [← hH0] at hret hV
  rw [← hH0]
  obtain ⟨H, locs, hH⟩ : ∃ (z : Heap) (y : List Loc), z = H0 ∧ y = [] := ⟨_, _, rfl, rfl⟩
  rw [← hH.1, ← hH.2]
  have hV : gV (dC, dI) (gT cI cB cO) A0 H0 s [oX7 a_t a_d a_e a_kept v_isKept a_found a_tape v_taped v_gone a_hears a_near a_firstDay a_daily v_begin v_round v_leastFar v_leastWhere v_mostLed a_heardNow v_firstMove v_at v_sort v_from v_value v_fault a_bitsOf a_sizeOf a_number a_passing, aA cI a_bitsOf 4 f_bitsOf] H locs := by rw [hH.1, hH.2]; exact hV
  unfold F_X7_whyNone at hF
  refine lv_iload_n C.1 C.2.1 dX7_whyNone_0 rfl (lv_at hl 1 rfl) ?_
  obtain ⟨x1, hc, hF⟩ := bd1_s hF
  refine g_cSi (ws' := [oX7 a_t a_d a_e a_kept v_isKept a_found a_tape v_taped v_gone a_hears a_near a_firstDay a_daily v_begin v_round v_leastFar v_leastWhere v_mostLed a_heardNow v_firstMove v_at v_sort v_from v_value v_fault a_bitsOf a_sizeOf a_number a_passing, aA cI a_bitsOf 4 f_bitsOf]) (wr := [oX7 a_t a_d a_e a_kept v_isKept a_found a_tape v_taped v_gone a_hears a_near a_firstDay a_daily v_begin v_round v_leastFar v_leastWhere v_mostLed a_heardNow v_firstMove v_at v_sort v_from v_value v_fault a_bitsOf a_sizeOf a_number a_passing, aA cI a_bitsOf 4 f_bitsOf]) C hV (k_X7_isSheet l dC dI cI cB cO n0 H.size p1 hc) mdX7_isSheet gX7_whyNone_X7_isSheet rfl rfl ⟨Nat.le_of_ble_eq_true rfl, Nat.le_of_ble_eq_true rfl⟩ [] [0, 1] [0, 1] rfl rfl rfl rfl rfl rfl rfl rfl hl.1 (Nat.le_of_ble_eq_true rfl) rfl dX7_whyNone_1 (fun H locs hV => ?_)
  refine g_if_ne (tgt := 11) C hF dX7_whyNone_4 rfl (fun hF => ?_) (fun hF => ?_)
  · refine lv_aload_n C.1 C.2.1 dX7_whyNone_11 rfl (lv_at hl 0 rfl) ?_
    refine g_get C hV flX7_whyNone_45 0 rfl rfl dX7_whyNone_12 ?_
    refine lv_iload_n C.1 C.2.1 dX7_whyNone_15 rfl (lv_at hl 1 rfl) ?_
    refine g_iald C hV 1 rfl hF dX7_whyNone_16 (fun x2 hF => ?_)
    refine g_if_ne (tgt := 24) C hF dX7_whyNone_17 rfl (fun hF => ?_) (fun hF => ?_)
    · refine lv_iconst (v := (-1)) C.1 C.2.1 dX7_whyNone_24 rfl ?_
      exact hret ((-1)) _ _ _ _ dX7_whyNone_25 hF hV
    refine lv_iconst (v := 5) C.1 C.2.1 dX7_whyNone_20 rfl ?_
    refine lv_goto (tgt := 25) C.1 C.2.1 dX7_whyNone_21 rfl ?_
    exact hret (5 : Int32) _ _ _ _ dX7_whyNone_25 hF hV
  refine lv_iconst (v := 0) C.1 C.2.1 dX7_whyNone_7 rfl ?_
  refine lv_goto (tgt := 25) C.1 C.2.1 dX7_whyNone_8 rfl ?_
  exact hret (0 : Int32) _ _ _ _ dX7_whyNone_25 hF hV
abbrev rmX7_write : Room := { frames := 3, cells := 0, slots := 0, locals := 66 }
theorem mdX7_write : gMd yX7_write wsX7_write cX7_write 5 (some .int) 3 := ⟨⟨_, rfl⟩, by decide +kernel⟩
theorem flX7_write_51 : gFL wsX7_write RX7 51 7 26 RX7 TX7 28 := ⟨rfl, fun w h => List.mem_cons_of_mem _ (List.mem_append_right _ (h)), Nat.le_of_ble_eq_true rfl, List.mem_cons_of_mem _ (List.mem_append_left _ (List.mem_of_getElem? (i := 1) rfl))⟩
theorem flX7_write_45 : gFL wsX7_write RX7 45 7 24 RX7 TX7 28 := ⟨rfl, fun w h => List.mem_cons_of_mem _ (List.mem_append_right _ (h)), Nat.le_of_ble_eq_true rfl, List.mem_cons_of_mem _ (List.mem_append_left _ (List.mem_of_getElem? (i := 2) rfl))⟩
theorem flX7_write_48 : gFL wsX7_write RX7 48 7 25 RX7 TX7 28 := ⟨rfl, fun w h => List.mem_cons_of_mem _ (List.mem_append_right _ (h)), Nat.le_of_ble_eq_true rfl, List.mem_cons_of_mem _ (List.mem_append_left _ (List.mem_of_getElem? (i := 0) rfl))⟩
def J_X7_write_36 (k2 : Int32) (p1 : Int32) (p2 : Int32) (f_bitsOf : Nat → Int32) (p3 : Int32) (f_number : Nat → Int32) (f_found : Nat → Int32) (n0 : Nat) : Option (Int32 × (Nat → Int32) × (Nat → Int32)) := (if k2 < 0 then nm (40 * p1) (fun x3 => nm (x3 + p2) (fun x4 => rd f_bitsOf 4 p1 (fun x5 => (if x5 = 8 then nm (p3.toInt8.toInt32) (fun x10 => wrt f_number 160 x4 x10 (fun g11 => some ((1, f_found, g11) : Int32 × (Nat → Int32) × (Nat → Int32)))) else rd f_bitsOf 4 p1 (fun x6 => (if x6 = 16 then nm (p3.toInt16.toInt32) (fun x8 => wrt f_number 160 x4 x8 (fun g9 => some ((1, f_found, g9) : Int32 × (Nat → Int32) × (Nat → Int32)))) else wrt f_number 160 x4 p3 (fun g7 => some ((1, f_found, g7) : Int32 × (Nat → Int32) × (Nat → Int32))))))))) else bd2 (F_X7_finds n0 f_found k2) (fun x12 g13 => some (x12, g13, f_number)))
def J_X7_write_34 (x1 : Int32) (p1 : Int32) (p2 : Int32) (f_bitsOf : Nat → Int32) (p3 : Int32) (f_number : Nat → Int32) (f_found : Nat → Int32) (n0 : Nat) : Option (Int32 × (Nat → Int32) × (Nat → Int32)) := J_X7_write_36 x1 p1 p2 f_bitsOf p3 f_number f_found n0
def F_X7_write (n0 : Nat) (f_bitsOf : Nat → Int32) (f_found : Nat → Int32) (f_number : Nat → Int32) (f_sizeOf : Nat → Int32) (p1 : Int32) (p2 : Int32) (p3 : Int32) : Option (Int32 × (Nat → Int32) × (Nat → Int32)) := bd1 (F_X7_whyNone n0 f_bitsOf p1) (fun x1 => (if 0 ≤ x1 then J_X7_write_34 x1 p1 p2 f_bitsOf p3 f_number f_found n0 else nm (p2.toInt64) (fun x14 => rd f_sizeOf 4 p1 (fun x15 => nm (x15 - 1) (fun x16 => nm (x16.toInt64) (fun x17 => bd1 (F_X7_in n0 x14 0 x17) (fun x18 => (if x18 = 0 then J_X7_write_36 0 p1 p2 f_bitsOf p3 f_number f_found n0 else J_X7_write_34 x1 p1 p2 f_bitsOf p3 f_number f_found n0))))))))
set_option maxRecDepth 100000 in
set_option maxHeartbeats 4000000 in
theorem k_X7_write (l : Launch) (dC : Nat → ClassId) (dI : Nat → Nat → Nat) (cI cB cO : ClassId) (n0 sz : Nat) (a_t : Nat) (a_d : Nat) (a_e : Nat) (a_kept : Nat) (a_found : Nat) (a_tape : Nat) (a_hears : Nat) (a_near : Nat) (a_firstDay : Nat) (a_daily : Nat) (a_heardNow : Nat) (a_bitsOf : Nat) (a_sizeOf : Nat) (a_number : Nat) (a_passing : Nat)   (v_isKept : Int32) (v_taped : Int32) (v_gone : Int32) (v_begin : Int32) (v_round : Int32) (v_leastFar : Int32) (v_leastWhere : Int32) (v_mostLed : Int32) (v_firstMove : Int32) (v_at : Int32) (v_sort : Int32) (v_from : Int32) (v_value : Int64) (v_fault : Int32) (f_bitsOf : Nat → Int32) (f_found : Nat → Int32) (f_number : Nat → Int32) (f_sizeOf : Nat → Int32) (p1 : Int32) (p2 : Int32) (p3 : Int32)  {ro : Int32} {o0 : Nat → Int32} {o1 : Nat → Int32} (hF : F_X7_write n0 f_bitsOf f_found f_number f_sizeOf p1 p2 p3 = some (ro, o0, o1)) : Met l yX7_write wsX7_write rmX7_write (va_Pc [.ref a_t, .int p1, .int p2, .int p3] (gPre (dC, dI) (gT cI cB cO) sz [oX7 a_t a_d a_e a_kept v_isKept a_found a_tape v_taped v_gone a_hears a_near a_firstDay a_daily v_begin v_round v_leastFar v_leastWhere v_mostLed a_heardNow v_firstMove v_at v_sort v_from v_value v_fault a_bitsOf a_sizeOf a_number a_passing, aA cI a_bitsOf 4 f_bitsOf, aA cI a_found 7 f_found, aA cI a_number 160 f_number, aA cI a_sizeOf 4 f_sizeOf])) (gQi (dC, dI) (gT cI cB cO) sz [oX7 a_t a_d a_e a_kept v_isKept a_found a_tape v_taped v_gone a_hears a_near a_firstDay a_daily v_begin v_round v_leastFar v_leastWhere v_mostLed a_heardNow v_firstMove v_at v_sort v_from v_value v_fault a_bitsOf a_sizeOf a_number a_passing, aA cI a_bitsOf 4 f_bitsOf, aA cI a_found 7 f_found, aA cI a_number 160 f_number, aA cI a_sizeOf 4 f_sizeOf] ro [oX7 a_t a_d a_e a_kept v_isKept a_found a_tape v_taped v_gone a_hears a_near a_firstDay a_daily v_begin v_round v_leastFar v_leastWhere v_mostLed a_heardNow v_firstMove v_at v_sort v_from v_value v_fault a_bitsOf a_sizeOf a_number a_passing, aA cI a_bitsOf 4 f_bitsOf, aA cI a_found 7 o0, aA cI a_number 160 o1, aA cI a_sizeOf 4 f_sizeOf]) 0 0 (va_A [oX7 a_t a_d a_e a_kept v_isKept a_found a_tape v_taped v_gone a_hears a_near a_firstDay a_daily v_begin v_round v_leastFar v_leastWhere v_mostLed a_heardNow v_firstMove v_at v_sort v_from v_value v_fault a_bitsOf a_sizeOf a_number a_passing, aA cI a_bitsOf 4 f_bitsOf, aA cI a_found 7 f_found, aA cI a_number 160 f_number, aA cI a_sizeOf 4 f_sizeOf] sz) := by
  refine g_metI (Out := Int32 × (Nat → Int32) × (Nat → Int32)) (fun oo => oo.1) (fun oo => [oX7 a_t a_d a_e a_kept v_isKept a_found a_tape v_taped v_gone a_hears a_near a_firstDay a_daily v_begin v_round v_leastFar v_leastWhere v_mostLed a_heardNow v_firstMove v_at v_sort v_from v_value v_fault a_bitsOf a_sizeOf a_number a_passing, aA cI a_bitsOf 4 f_bitsOf, aA cI a_found 7 oo.2.1, aA cI a_number 160 oo.2.2, aA cI a_sizeOf 4 f_sizeOf]) (ro, o0, o1) (own := RX7) (lv := [(0, .ref a_t), (1, .int p1), (2, .int p2), (3, .int p3)]) (by decide) rfl rfl (Nat.le_of_ble_eq_true rfl) rfl ?_
  intro p e s m args below meth c Q ls C hret hV hl
  obtain ⟨out, hout⟩ : ∃ z : Int32 × (Nat → Int32) × (Nat → Int32), z = (ro, o0, o1) := ⟨_, rfl⟩
  rw [← hout] at hF hret
  obtain ⟨H0, hH0⟩ : ∃ z : Heap, z = s.heap := ⟨_, rfl⟩
  obtain ⟨A0, hA0⟩ : ∃ z : Nat → Prop, z = va_A [oX7 a_t a_d a_e a_kept v_isKept a_found a_tape v_taped v_gone a_hears a_near a_firstDay a_daily v_begin v_round v_leastFar v_leastWhere v_mostLed a_heardNow v_firstMove v_at v_sort v_from v_value v_fault a_bitsOf a_sizeOf a_number a_passing, aA cI a_bitsOf 4 f_bitsOf, aA cI a_found 7 f_found, aA cI a_number 160 f_number, aA cI a_sizeOf 4 f_sizeOf] s.heap.size := ⟨_, rfl⟩
  rw [← hA0] at hret hV
  rw [← hH0] at hret hV
  rw [← hH0]
  obtain ⟨H, locs, hH⟩ : ∃ (z : Heap) (y : List Loc), z = H0 ∧ y = [] := ⟨_, _, rfl, rfl⟩
  rw [← hH.1, ← hH.2]
  have hV : gV (dC, dI) (gT cI cB cO) A0 H0 s [oX7 a_t a_d a_e a_kept v_isKept a_found a_tape v_taped v_gone a_hears a_near a_firstDay a_daily v_begin v_round v_leastFar v_leastWhere v_mostLed a_heardNow v_firstMove v_at v_sort v_from v_value v_fault a_bitsOf a_sizeOf a_number a_passing, aA cI a_bitsOf 4 f_bitsOf, aA cI a_found 7 f_found, aA cI a_number 160 f_number, aA cI a_sizeOf 4 f_sizeOf] H locs := by rw [hH.1, hH.2]; exact hV
  unfold F_X7_write at hF
  refine lv_aload_n C.1 C.2.1 dX7_write_0 rfl (lv_at hl 0 rfl) ?_
  refine lv_iload_n C.1 C.2.1 dX7_write_1 rfl (lv_at hl 1 rfl) ?_
  obtain ⟨x1, hc, hF⟩ := bd1_s hF
  refine g_cVi (ws' := [oX7 a_t a_d a_e a_kept v_isKept a_found a_tape v_taped v_gone a_hears a_near a_firstDay a_daily v_begin v_round v_leastFar v_leastWhere v_mostLed a_heardNow v_firstMove v_at v_sort v_from v_value v_fault a_bitsOf a_sizeOf a_number a_passing, aA cI a_bitsOf 4 f_bitsOf, aA cI a_found 7 f_found, aA cI a_number 160 f_number, aA cI a_sizeOf 4 f_sizeOf]) (wr := [aA cI a_found 7 f_found, aA cI a_number 160 f_number, aA cI a_sizeOf 4 f_sizeOf]) C hV (k_X7_whyNone l dC dI cI cB cO n0 H.size a_t a_d a_e a_kept a_found a_tape a_hears a_near a_firstDay a_daily a_heardNow a_bitsOf a_sizeOf a_number a_passing v_isKept v_taped v_gone v_begin v_round v_leastFar v_leastWhere v_mostLed v_firstMove v_at v_sort v_from v_value v_fault f_bitsOf p1 hc) mdX7_whyNone gX7_write_X7_whyNone rfl rfl ⟨Nat.le_of_ble_eq_true rfl, Nat.le_of_ble_eq_true rfl⟩ [0, 1] [2, 3, 4] [3, 4, 0, 1, 2] rfl rfl rfl rfl rfl rfl rfl rfl rfl rfl hl.1 (Nat.le_of_ble_eq_true rfl) rfl dX7_write_2 (fun H locs hV => ?_)
  refine lv_istore (lv' := [(4, .int x1), (0, .ref a_t), (1, .int p1), (2, .int p2), (3, .int p3)]) C.1 C.2.1 dX7_write_5 hl (by decide) rfl (fun ls hl => ?_)
  refine lv_iload C.1 C.2.1 dX7_write_7 (lv_at hl 0 rfl) ?_
  have hJ36 : ∀ (k2 : Int32) (H : Heap) (locs : List Loc) (ls : Array Slot), gV (dC, dI) (gT cI cB cO) A0 H0 s [oX7 a_t a_d a_e a_kept v_isKept a_found a_tape v_taped v_gone a_hears a_near a_firstDay a_daily v_begin v_round v_leastFar v_leastWhere v_mostLed a_heardNow v_firstMove v_at v_sort v_from v_value v_fault a_bitsOf a_sizeOf a_number a_passing, aA cI a_bitsOf 4 f_bitsOf, aA cI a_found 7 f_found, aA cI a_number 160 f_number, aA cI a_sizeOf 4 f_sizeOf] H locs → lv_has ls 5 [(0, .ref a_t), (1, .int p1), (2, .int p2), (3, .int p3)] → J_X7_write_36 k2 p1 p2 f_bitsOf p3 f_number f_found n0 = some out → W p l e rmX7_write s m args below meth c H locs 0 0 Q (F0 m 36 ls [.int k2]) := by
    intro k2 H locs ls hV hl hF
    unfold J_X7_write_36 at hF
    refine lv_istore (lv' := [(4, .int k2), (0, .ref a_t), (1, .int p1), (2, .int p2), (3, .int p3)]) C.1 C.2.1 dX7_write_36 hl (by decide) rfl (fun ls hl => ?_)
    refine lv_iload C.1 C.2.1 dX7_write_38 (lv_at hl 0 rfl) ?_
    refine g_if_lt (tgt := 50) C hF dX7_write_40 rfl (fun hF => ?_) (fun hF => ?_)
    · refine lv_aload_n C.1 C.2.1 dX7_write_50 rfl (lv_at hl 1 rfl) ?_
      refine g_get C hV flX7_write_51 0 rfl rfl dX7_write_51 ?_
      refine lv_bipush (v := 40) C.1 C.2.1 dX7_write_54 rfl ?_
      refine lv_iload_n C.1 C.2.1 dX7_write_56 rfl (lv_at hl 2 rfl) ?_
      refine g_imul C hF dX7_write_57 (fun x3 hF => ?_)
      refine lv_iload_n C.1 C.2.1 dX7_write_58 rfl (lv_at hl 3 rfl) ?_
      refine g_iadd C hF dX7_write_59 (fun x4 hF => ?_)
      refine lv_aload_n C.1 C.2.1 dX7_write_60 rfl (lv_at hl 1 rfl) ?_
      refine g_get C hV flX7_write_45 0 rfl rfl dX7_write_61 ?_
      refine lv_iload_n C.1 C.2.1 dX7_write_64 rfl (lv_at hl 2 rfl) ?_
      refine g_iald C hV 1 rfl hF dX7_write_65 (fun x5 hF => ?_)
      refine lv_bipush (v := 8) C.1 C.2.1 dX7_write_66 rfl ?_
      refine g_icmp_ne (tgt := 76) C hF dX7_write_68 rfl (fun hF => ?_) (fun hF => ?_)
      · refine lv_aload_n C.1 C.2.1 dX7_write_76 rfl (lv_at hl 1 rfl) ?_
        refine g_get C hV flX7_write_45 0 rfl rfl dX7_write_77 ?_
        refine lv_iload_n C.1 C.2.1 dX7_write_80 rfl (lv_at hl 2 rfl) ?_
        refine g_iald C hV 1 rfl hF dX7_write_81 (fun x6 hF => ?_)
        refine lv_bipush (v := 16) C.1 C.2.1 dX7_write_82 rfl ?_
        refine g_icmp_ne (tgt := 92) C hF dX7_write_84 rfl (fun hF => ?_) (fun hF => ?_)
        · refine lv_iload_n C.1 C.2.1 dX7_write_92 rfl (lv_at hl 4 rfl) ?_
          refine g_iast C hV 3 rfl hF (fun gq => [oX7 a_t a_d a_e a_kept v_isKept a_found a_tape v_taped v_gone a_hears a_near a_firstDay a_daily v_begin v_round v_leastFar v_leastWhere v_mostLed a_heardNow v_firstMove v_at v_sort v_from v_value v_fault a_bitsOf a_sizeOf a_number a_passing, aA cI a_bitsOf 4 f_bitsOf, aA cI a_found 7 f_found, aA cI a_number 160 gq, aA cI a_sizeOf 4 f_sizeOf]) (fun _ => rfl) dX7_write_93 (fun g7 H locs hF hV => ?_)
          refine lv_iconst (v := 1) C.1 C.2.1 dX7_write_94 rfl ?_
          exact hret ((1, f_found, g7) : Int32 × (Nat → Int32) × (Nat → Int32)) _ _ _ _ dX7_write_95 hF hV
        refine lv_iload_n C.1 C.2.1 dX7_write_87 rfl (lv_at hl 4 rfl) ?_
        refine g_i2s C hF dX7_write_88 (fun x8 hF => ?_)
        refine lv_goto (tgt := 93) C.1 C.2.1 dX7_write_89 rfl ?_
        refine g_iast C hV 3 rfl hF (fun gq => [oX7 a_t a_d a_e a_kept v_isKept a_found a_tape v_taped v_gone a_hears a_near a_firstDay a_daily v_begin v_round v_leastFar v_leastWhere v_mostLed a_heardNow v_firstMove v_at v_sort v_from v_value v_fault a_bitsOf a_sizeOf a_number a_passing, aA cI a_bitsOf 4 f_bitsOf, aA cI a_found 7 f_found, aA cI a_number 160 gq, aA cI a_sizeOf 4 f_sizeOf]) (fun _ => rfl) dX7_write_93 (fun g9 H locs hF hV => ?_)
        refine lv_iconst (v := 1) C.1 C.2.1 dX7_write_94 rfl ?_
        exact hret ((1, f_found, g9) : Int32 × (Nat → Int32) × (Nat → Int32)) _ _ _ _ dX7_write_95 hF hV
      refine lv_iload_n C.1 C.2.1 dX7_write_71 rfl (lv_at hl 4 rfl) ?_
      refine g_i2b C hF dX7_write_72 (fun x10 hF => ?_)
      refine lv_goto (tgt := 93) C.1 C.2.1 dX7_write_73 rfl ?_
      refine g_iast C hV 3 rfl hF (fun gq => [oX7 a_t a_d a_e a_kept v_isKept a_found a_tape v_taped v_gone a_hears a_near a_firstDay a_daily v_begin v_round v_leastFar v_leastWhere v_mostLed a_heardNow v_firstMove v_at v_sort v_from v_value v_fault a_bitsOf a_sizeOf a_number a_passing, aA cI a_bitsOf 4 f_bitsOf, aA cI a_found 7 f_found, aA cI a_number 160 gq, aA cI a_sizeOf 4 f_sizeOf]) (fun _ => rfl) dX7_write_93 (fun g11 H locs hF hV => ?_)
      refine lv_iconst (v := 1) C.1 C.2.1 dX7_write_94 rfl ?_
      exact hret ((1, f_found, g11) : Int32 × (Nat → Int32) × (Nat → Int32)) _ _ _ _ dX7_write_95 hF hV
    refine lv_aload_n C.1 C.2.1 dX7_write_43 rfl (lv_at hl 1 rfl) ?_
    refine lv_iload C.1 C.2.1 dX7_write_44 (lv_at hl 0 rfl) ?_
    obtain ⟨x12, g13, hc, hF⟩ := bd2_s hF
    refine g_cVi (ws' := [oX7 a_t a_d a_e a_kept v_isKept a_found a_tape v_taped v_gone a_hears a_near a_firstDay a_daily v_begin v_round v_leastFar v_leastWhere v_mostLed a_heardNow v_firstMove v_at v_sort v_from v_value v_fault a_bitsOf a_sizeOf a_number a_passing, aA cI a_bitsOf 4 f_bitsOf, aA cI a_found 7 g13, aA cI a_number 160 f_number, aA cI a_sizeOf 4 f_sizeOf]) (wr := [aA cI a_bitsOf 4 f_bitsOf, aA cI a_number 160 f_number, aA cI a_sizeOf 4 f_sizeOf]) C hV (k_X7_finds l dC dI cI cB cO n0 H.size a_t a_d a_e a_kept a_found a_tape a_hears a_near a_firstDay a_daily a_heardNow a_bitsOf a_sizeOf a_number a_passing v_isKept v_taped v_gone v_begin v_round v_leastFar v_leastWhere v_mostLed v_firstMove v_at v_sort v_from v_value v_fault f_found k2 hc) mdX7_finds gX7_write_X7_finds rfl rfl ⟨Nat.le_of_ble_eq_true rfl, Nat.le_of_ble_eq_true rfl⟩ [0, 2] [1, 3, 4] [3, 0, 4, 1, 2] rfl rfl rfl rfl rfl rfl rfl rfl rfl rfl hl.1 (Nat.le_of_ble_eq_true rfl) rfl dX7_write_46 (fun H locs hV => ?_)
    exact hret (x12, g13, f_number) _ _ _ _ dX7_write_49 hF hV
  have hJ34 : ∀  (H : Heap) (locs : List Loc) (ls : Array Slot), gV (dC, dI) (gT cI cB cO) A0 H0 s [oX7 a_t a_d a_e a_kept v_isKept a_found a_tape v_taped v_gone a_hears a_near a_firstDay a_daily v_begin v_round v_leastFar v_leastWhere v_mostLed a_heardNow v_firstMove v_at v_sort v_from v_value v_fault a_bitsOf a_sizeOf a_number a_passing, aA cI a_bitsOf 4 f_bitsOf, aA cI a_found 7 f_found, aA cI a_number 160 f_number, aA cI a_sizeOf 4 f_sizeOf] H locs → lv_has ls 5 [(0, .ref a_t), (1, .int p1), (2, .int p2), (3, .int p3), (4, .int x1)] → J_X7_write_34 x1 p1 p2 f_bitsOf p3 f_number f_found n0 = some out → W p l e rmX7_write s m args below meth c H locs 0 0 Q (F0 m 34 ls []) := by
    intro  H locs ls hV hl hF
    unfold J_X7_write_34 at hF
    refine lv_iload C.1 C.2.1 dX7_write_34 (lv_at hl 4 rfl) ?_
    exact hJ36 x1 H locs ls hV (lv_sub hl [0, 1, 2, 3] rfl) hF
  refine g_if_ge (tgt := 34) C hF dX7_write_9 rfl (fun hF => ?_) (fun hF => ?_)
  · exact hJ34  H locs ls hV (lv_sub hl [1, 2, 3, 4, 0] rfl) hF
  refine lv_iload_n C.1 C.2.1 dX7_write_12 rfl (lv_at hl 3 rfl) ?_
  refine g_i2l C hF dX7_write_13 (fun x14 hF => ?_)
  refine lv_lconst (v := 0) C.1 C.2.1 dX7_write_14 rfl ?_
  refine lv_aload_n C.1 C.2.1 dX7_write_15 rfl (lv_at hl 1 rfl) ?_
  refine g_get C hV flX7_write_48 0 rfl rfl dX7_write_16 ?_
  refine lv_iload_n C.1 C.2.1 dX7_write_19 rfl (lv_at hl 2 rfl) ?_
  refine g_iald C hV 4 rfl hF dX7_write_20 (fun x15 hF => ?_)
  refine lv_iconst (v := 1) C.1 C.2.1 dX7_write_21 rfl ?_
  refine g_isub C hF dX7_write_22 (fun x16 hF => ?_)
  refine g_i2l C hF dX7_write_23 (fun x17 hF => ?_)
  obtain ⟨x18, hc, hF⟩ := bd1_s hF
  refine g_cSi (ws' := [oX7 a_t a_d a_e a_kept v_isKept a_found a_tape v_taped v_gone a_hears a_near a_firstDay a_daily v_begin v_round v_leastFar v_leastWhere v_mostLed a_heardNow v_firstMove v_at v_sort v_from v_value v_fault a_bitsOf a_sizeOf a_number a_passing, aA cI a_bitsOf 4 f_bitsOf, aA cI a_found 7 f_found, aA cI a_number 160 f_number, aA cI a_sizeOf 4 f_sizeOf]) (wr := [oX7 a_t a_d a_e a_kept v_isKept a_found a_tape v_taped v_gone a_hears a_near a_firstDay a_daily v_begin v_round v_leastFar v_leastWhere v_mostLed a_heardNow v_firstMove v_at v_sort v_from v_value v_fault a_bitsOf a_sizeOf a_number a_passing, aA cI a_bitsOf 4 f_bitsOf, aA cI a_found 7 f_found, aA cI a_number 160 f_number, aA cI a_sizeOf 4 f_sizeOf]) C hV (k_X7_in l dC dI cI cB cO n0 H.size x14 0 x17 hc) mdX7_in gX7_write_X7_in rfl rfl ⟨Nat.le_of_ble_eq_true rfl, Nat.le_of_ble_eq_true rfl⟩ [] [0, 1, 2, 3, 4] [0, 1, 2, 3, 4] rfl rfl rfl rfl rfl rfl rfl rfl hl.1 (Nat.le_of_ble_eq_true rfl) rfl dX7_write_24 (fun H locs hV => ?_)
  refine g_if_ne (tgt := 34) C hF dX7_write_27 rfl (fun hF => ?_) (fun hF => ?_)
  · exact hJ34  H locs ls hV (lv_sub hl [1, 2, 3, 4, 0] rfl) hF
  refine lv_iconst (v := 0) C.1 C.2.1 dX7_write_30 rfl ?_
  refine lv_goto (tgt := 36) C.1 C.2.1 dX7_write_31 rfl ?_
  exact hJ36 0 H locs ls hV (lv_sub hl [1, 2, 3, 4] rfl) hF
abbrev rmX7_copy : Room := { frames := 2, cells := 0, slots := 0, locals := 45 }
theorem mdX7_copy : gMd yX7_copy wsX7_copy cX7_copy 7 (some .int) 5 := ⟨⟨_, rfl⟩, by decide +kernel⟩
theorem flX7_copy_45 : gFL wsX7_copy RX7 45 7 24 RX7 TX7 28 := ⟨rfl, fun w h => List.mem_cons_of_mem _ (List.mem_append_right _ (h)), Nat.le_of_ble_eq_true rfl, List.mem_cons_of_mem _ (List.mem_append_left _ (List.mem_of_getElem? (i := 0) rfl))⟩
theorem flX7_copy_48 : gFL wsX7_copy RX7 48 7 25 RX7 TX7 28 := ⟨rfl, fun w h => List.mem_cons_of_mem _ (List.mem_append_right _ (h)), Nat.le_of_ble_eq_true rfl, List.mem_cons_of_mem _ (List.mem_append_left _ (List.mem_of_getElem? (i := 1) rfl))⟩
theorem flX7_copy_51 : gFL wsX7_copy RX7 51 7 26 RX7 TX7 28 := ⟨rfl, fun w h => List.mem_cons_of_mem _ (List.mem_append_right _ (h)), Nat.le_of_ble_eq_true rfl, List.mem_cons_of_mem _ (List.mem_append_left _ (List.mem_of_getElem? (i := 3) rfl))⟩
theorem flX7_copy_54 : gFL wsX7_copy RX7 54 7 27 RX7 TX7 28 := ⟨rfl, fun w h => List.mem_cons_of_mem _ (List.mem_append_right _ (h)), Nat.le_of_ble_eq_true rfl, List.mem_cons_of_mem _ (List.mem_append_left _ (List.mem_of_getElem? (i := 2) rfl))⟩
def L_X7_copy_160 (p5 : Int32) (f_found : Nat → Int32) (t32 : Nat → Int32) (p3 : Int32) (p4 : Int32) : Nat → Int32 → (Nat → Int32) → Option (Int32 × (Nat → Int32) × (Nat → Int32) × (Nat → Int32)) := lpp2 (fun s33 t34 kk160 => (if p5 ≤ s33 then some (p5, f_found, t34, t32) else nm (40 * p3) (fun x35 => nm (x35 + p4) (fun x36 => nm (x36 + s33) (fun x37 => rd t32 40 s33 (fun x38 => wrt t34 160 x37 x38 (fun g39 => nm (s33 + 1) (fun x40 => kk160 x40 g39))))))))
def L_X7_copy_123 (p5 : Int32) (f_found : Nat → Int32) (p3 : Int32) (p4 : Int32) (n0 : Nat) (f_number : Nat → Int32) (p1 : Int32) (p2 : Int32) : Nat → Int32 → (Nat → Int32) → Option (Int32 × (Nat → Int32) × (Nat → Int32) × (Nat → Int32)) := lpp2 (fun s31 t32 kk123 => (if p5 ≤ s31 then L_X7_copy_160 p5 f_found t32 p3 p4 n0 0 f_number else nm (40 * p1) (fun x41 => nm (x41 + p2) (fun x42 => nm (x42 + s31) (fun x43 => rd f_number 160 x43 (fun x44 => wrt t32 40 s31 x44 (fun g45 => nm (s31 + 1) (fun x46 => kk123 x46 g45))))))))
def F_X7_copy (n0 : Nat) (f_bitsOf : Nat → Int32) (f_found : Nat → Int32) (f_number : Nat → Int32) (f_passing : Nat → Int32) (f_sizeOf : Nat → Int32) (p1 : Int32) (p2 : Int32) (p3 : Int32) (p4 : Int32) (p5 : Int32) : Option (Int32 × (Nat → Int32) × (Nat → Int32) × (Nat → Int32)) := bd1 (F_X7_isSheet n0 p1) (fun x1 => (if x1 = 0 then bd2 (F_X7_finds n0 f_found 0) (fun x2 g3 => some (x2, g3, f_number, f_passing)) else bd1 (F_X7_isSheet n0 p3) (fun x4 => (if x4 = 0 then bd2 (F_X7_finds n0 f_found 0) (fun x53 g54 => some (x53, g54, f_number, f_passing)) else rd f_bitsOf 4 p1 (fun x5 => (if x5 = 0 then bd2 (F_X7_finds n0 f_found 5) (fun x6 g7 => some (x6, g7, f_number, f_passing)) else rd f_bitsOf 4 p3 (fun x8 => (if x8 = 0 then bd2 (F_X7_finds n0 f_found 5) (fun x51 g52 => some (x51, g52, f_number, f_passing)) else rd f_bitsOf 4 p1 (fun x9 => rd f_bitsOf 4 p3 (fun x10 => (if x9 = x10 then (if p2 < 0 then bd2 (F_X7_finds n0 f_found 0) (fun x11 g12 => some (x11, g12, f_number, f_passing)) else (if p4 < 0 then bd2 (F_X7_finds n0 f_found 0) (fun x13 g14 => some (x13, g14, f_number, f_passing)) else (if p5 < 0 then bd2 (F_X7_finds n0 f_found 0) (fun x15 g16 => some (x15, g16, f_number, f_passing)) else nm (p2.toInt64) (fun x17 => nm (p5.toInt64) (fun x18 => nm (x17 + x18) (fun x19 => rd f_sizeOf 4 p1 (fun x20 => nm (x20.toInt64) (fun x21 => nm (lg_cmp x19 x21) (fun x22 => (if 0 < x22 then bd2 (F_X7_finds n0 f_found 0) (fun x23 g24 => some (x23, g24, f_number, f_passing)) else nm (p4.toInt64) (fun x25 => nm (p5.toInt64) (fun x26 => nm (x25 + x26) (fun x27 => rd f_sizeOf 4 p3 (fun x28 => nm (x28.toInt64) (fun x29 => nm (lg_cmp x27 x29) (fun x30 => (if x30 ≤ 0 then L_X7_copy_123 p5 f_found p3 p4 n0 f_number p1 p2 n0 0 f_passing else bd2 (F_X7_finds n0 f_found 0) (fun x47 g48 => some (x47, g48, f_number, f_passing))))))))))))))))))) else bd2 (F_X7_finds n0 f_found 2) (fun x49 g50 => some (x49, g50, f_number, f_passing)))))))))))))
set_option maxRecDepth 100000 in
set_option maxHeartbeats 4000000 in
theorem k_X7_copy (l : Launch) (dC : Nat → ClassId) (dI : Nat → Nat → Nat) (cI cB cO : ClassId) (n0 sz : Nat) (a_t : Nat) (a_d : Nat) (a_e : Nat) (a_kept : Nat) (a_found : Nat) (a_tape : Nat) (a_hears : Nat) (a_near : Nat) (a_firstDay : Nat) (a_daily : Nat) (a_heardNow : Nat) (a_bitsOf : Nat) (a_sizeOf : Nat) (a_number : Nat) (a_passing : Nat)   (v_isKept : Int32) (v_taped : Int32) (v_gone : Int32) (v_begin : Int32) (v_round : Int32) (v_leastFar : Int32) (v_leastWhere : Int32) (v_mostLed : Int32) (v_firstMove : Int32) (v_at : Int32) (v_sort : Int32) (v_from : Int32) (v_value : Int64) (v_fault : Int32) (f_bitsOf : Nat → Int32) (f_found : Nat → Int32) (f_number : Nat → Int32) (f_passing : Nat → Int32) (f_sizeOf : Nat → Int32) (p1 : Int32) (p2 : Int32) (p3 : Int32) (p4 : Int32) (p5 : Int32)  {ro : Int32} {o0 : Nat → Int32} {o1 : Nat → Int32} {o2 : Nat → Int32} (hF : F_X7_copy n0 f_bitsOf f_found f_number f_passing f_sizeOf p1 p2 p3 p4 p5 = some (ro, o0, o1, o2)) : Met l yX7_copy wsX7_copy rmX7_copy (va_Pc [.ref a_t, .int p1, .int p2, .int p3, .int p4, .int p5] (gPre (dC, dI) (gT cI cB cO) sz [oX7 a_t a_d a_e a_kept v_isKept a_found a_tape v_taped v_gone a_hears a_near a_firstDay a_daily v_begin v_round v_leastFar v_leastWhere v_mostLed a_heardNow v_firstMove v_at v_sort v_from v_value v_fault a_bitsOf a_sizeOf a_number a_passing, aA cI a_bitsOf 4 f_bitsOf, aA cI a_found 7 f_found, aA cI a_number 160 f_number, aA cI a_passing 40 f_passing, aA cI a_sizeOf 4 f_sizeOf])) (gQi (dC, dI) (gT cI cB cO) sz [oX7 a_t a_d a_e a_kept v_isKept a_found a_tape v_taped v_gone a_hears a_near a_firstDay a_daily v_begin v_round v_leastFar v_leastWhere v_mostLed a_heardNow v_firstMove v_at v_sort v_from v_value v_fault a_bitsOf a_sizeOf a_number a_passing, aA cI a_bitsOf 4 f_bitsOf, aA cI a_found 7 f_found, aA cI a_number 160 f_number, aA cI a_passing 40 f_passing, aA cI a_sizeOf 4 f_sizeOf] ro [oX7 a_t a_d a_e a_kept v_isKept a_found a_tape v_taped v_gone a_hears a_near a_firstDay a_daily v_begin v_round v_leastFar v_leastWhere v_mostLed a_heardNow v_firstMove v_at v_sort v_from v_value v_fault a_bitsOf a_sizeOf a_number a_passing, aA cI a_bitsOf 4 f_bitsOf, aA cI a_found 7 o0, aA cI a_number 160 o1, aA cI a_passing 40 o2, aA cI a_sizeOf 4 f_sizeOf]) 0 0 (va_A [oX7 a_t a_d a_e a_kept v_isKept a_found a_tape v_taped v_gone a_hears a_near a_firstDay a_daily v_begin v_round v_leastFar v_leastWhere v_mostLed a_heardNow v_firstMove v_at v_sort v_from v_value v_fault a_bitsOf a_sizeOf a_number a_passing, aA cI a_bitsOf 4 f_bitsOf, aA cI a_found 7 f_found, aA cI a_number 160 f_number, aA cI a_passing 40 f_passing, aA cI a_sizeOf 4 f_sizeOf] sz) := by
  refine g_metI (Out := Int32 × (Nat → Int32) × (Nat → Int32) × (Nat → Int32)) (fun oo => oo.1) (fun oo => [oX7 a_t a_d a_e a_kept v_isKept a_found a_tape v_taped v_gone a_hears a_near a_firstDay a_daily v_begin v_round v_leastFar v_leastWhere v_mostLed a_heardNow v_firstMove v_at v_sort v_from v_value v_fault a_bitsOf a_sizeOf a_number a_passing, aA cI a_bitsOf 4 f_bitsOf, aA cI a_found 7 oo.2.1, aA cI a_number 160 oo.2.2.1, aA cI a_passing 40 oo.2.2.2, aA cI a_sizeOf 4 f_sizeOf]) (ro, o0, o1, o2) (own := RX7) (lv := [(0, .ref a_t), (1, .int p1), (2, .int p2), (3, .int p3), (4, .int p4), (5, .int p5)]) (by decide) rfl rfl (Nat.le_of_ble_eq_true rfl) rfl ?_
  intro p e s m args below meth c Q ls C hret hV hl
  obtain ⟨out, hout⟩ : ∃ z : Int32 × (Nat → Int32) × (Nat → Int32) × (Nat → Int32), z = (ro, o0, o1, o2) := ⟨_, rfl⟩
  rw [← hout] at hF hret
  obtain ⟨H0, hH0⟩ : ∃ z : Heap, z = s.heap := ⟨_, rfl⟩
  obtain ⟨A0, hA0⟩ : ∃ z : Nat → Prop, z = va_A [oX7 a_t a_d a_e a_kept v_isKept a_found a_tape v_taped v_gone a_hears a_near a_firstDay a_daily v_begin v_round v_leastFar v_leastWhere v_mostLed a_heardNow v_firstMove v_at v_sort v_from v_value v_fault a_bitsOf a_sizeOf a_number a_passing, aA cI a_bitsOf 4 f_bitsOf, aA cI a_found 7 f_found, aA cI a_number 160 f_number, aA cI a_passing 40 f_passing, aA cI a_sizeOf 4 f_sizeOf] s.heap.size := ⟨_, rfl⟩
  rw [← hA0] at hret hV
  rw [← hH0] at hret hV
  rw [← hH0]
  obtain ⟨H, locs, hH⟩ : ∃ (z : Heap) (y : List Loc), z = H0 ∧ y = [] := ⟨_, _, rfl, rfl⟩
  rw [← hH.1, ← hH.2]
  have hV : gV (dC, dI) (gT cI cB cO) A0 H0 s [oX7 a_t a_d a_e a_kept v_isKept a_found a_tape v_taped v_gone a_hears a_near a_firstDay a_daily v_begin v_round v_leastFar v_leastWhere v_mostLed a_heardNow v_firstMove v_at v_sort v_from v_value v_fault a_bitsOf a_sizeOf a_number a_passing, aA cI a_bitsOf 4 f_bitsOf, aA cI a_found 7 f_found, aA cI a_number 160 f_number, aA cI a_passing 40 f_passing, aA cI a_sizeOf 4 f_sizeOf] H locs := by rw [hH.1, hH.2]; exact hV
  unfold F_X7_copy at hF
  refine lv_iload_n C.1 C.2.1 dX7_copy_0 rfl (lv_at hl 1 rfl) ?_
  obtain ⟨x1, hc, hF⟩ := bd1_s hF
  refine g_cSi (ws' := [oX7 a_t a_d a_e a_kept v_isKept a_found a_tape v_taped v_gone a_hears a_near a_firstDay a_daily v_begin v_round v_leastFar v_leastWhere v_mostLed a_heardNow v_firstMove v_at v_sort v_from v_value v_fault a_bitsOf a_sizeOf a_number a_passing, aA cI a_bitsOf 4 f_bitsOf, aA cI a_found 7 f_found, aA cI a_number 160 f_number, aA cI a_passing 40 f_passing, aA cI a_sizeOf 4 f_sizeOf]) (wr := [oX7 a_t a_d a_e a_kept v_isKept a_found a_tape v_taped v_gone a_hears a_near a_firstDay a_daily v_begin v_round v_leastFar v_leastWhere v_mostLed a_heardNow v_firstMove v_at v_sort v_from v_value v_fault a_bitsOf a_sizeOf a_number a_passing, aA cI a_bitsOf 4 f_bitsOf, aA cI a_found 7 f_found, aA cI a_number 160 f_number, aA cI a_passing 40 f_passing, aA cI a_sizeOf 4 f_sizeOf]) C hV (k_X7_isSheet l dC dI cI cB cO n0 H.size p1 hc) mdX7_isSheet gX7_copy_X7_isSheet rfl rfl ⟨Nat.le_of_ble_eq_true rfl, Nat.le_of_ble_eq_true rfl⟩ [] [0, 1, 2, 3, 4, 5] [0, 1, 2, 3, 4, 5] rfl rfl rfl rfl rfl rfl rfl rfl hl.1 (Nat.le_of_ble_eq_true rfl) rfl dX7_copy_1 (fun H locs hV => ?_)
  refine g_if_eq (tgt := 14) C hF dX7_copy_4 rfl (fun hF => ?_) (fun hF => ?_)
  · refine lv_aload_n C.1 C.2.1 dX7_copy_14 rfl (lv_at hl 0 rfl) ?_
    refine lv_iconst (v := 0) C.1 C.2.1 dX7_copy_15 rfl ?_
    obtain ⟨x2, g3, hc, hF⟩ := bd2_s hF
    refine g_cVi (ws' := [oX7 a_t a_d a_e a_kept v_isKept a_found a_tape v_taped v_gone a_hears a_near a_firstDay a_daily v_begin v_round v_leastFar v_leastWhere v_mostLed a_heardNow v_firstMove v_at v_sort v_from v_value v_fault a_bitsOf a_sizeOf a_number a_passing, aA cI a_bitsOf 4 f_bitsOf, aA cI a_found 7 g3, aA cI a_number 160 f_number, aA cI a_passing 40 f_passing, aA cI a_sizeOf 4 f_sizeOf]) (wr := [aA cI a_bitsOf 4 f_bitsOf, aA cI a_number 160 f_number, aA cI a_passing 40 f_passing, aA cI a_sizeOf 4 f_sizeOf]) C hV (k_X7_finds l dC dI cI cB cO n0 H.size a_t a_d a_e a_kept a_found a_tape a_hears a_near a_firstDay a_daily a_heardNow a_bitsOf a_sizeOf a_number a_passing v_isKept v_taped v_gone v_begin v_round v_leastFar v_leastWhere v_mostLed v_firstMove v_at v_sort v_from v_value v_fault f_found 0 hc) mdX7_finds gX7_copy_X7_finds rfl rfl ⟨Nat.le_of_ble_eq_true rfl, Nat.le_of_ble_eq_true rfl⟩ [0, 2] [1, 3, 4, 5] [4, 0, 5, 1, 2, 3] rfl rfl rfl rfl rfl rfl rfl rfl rfl rfl hl.1 (Nat.le_of_ble_eq_true rfl) rfl dX7_copy_16 (fun H locs hV => ?_)
    exact hret (x2, g3, f_number, f_passing) _ _ _ _ dX7_copy_19 hF hV
  refine lv_iload_n C.1 C.2.1 dX7_copy_7 rfl (lv_at hl 3 rfl) ?_
  obtain ⟨x4, hc, hF⟩ := bd1_s hF
  refine g_cSi (ws' := [oX7 a_t a_d a_e a_kept v_isKept a_found a_tape v_taped v_gone a_hears a_near a_firstDay a_daily v_begin v_round v_leastFar v_leastWhere v_mostLed a_heardNow v_firstMove v_at v_sort v_from v_value v_fault a_bitsOf a_sizeOf a_number a_passing, aA cI a_bitsOf 4 f_bitsOf, aA cI a_found 7 f_found, aA cI a_number 160 f_number, aA cI a_passing 40 f_passing, aA cI a_sizeOf 4 f_sizeOf]) (wr := [oX7 a_t a_d a_e a_kept v_isKept a_found a_tape v_taped v_gone a_hears a_near a_firstDay a_daily v_begin v_round v_leastFar v_leastWhere v_mostLed a_heardNow v_firstMove v_at v_sort v_from v_value v_fault a_bitsOf a_sizeOf a_number a_passing, aA cI a_bitsOf 4 f_bitsOf, aA cI a_found 7 f_found, aA cI a_number 160 f_number, aA cI a_passing 40 f_passing, aA cI a_sizeOf 4 f_sizeOf]) C hV (k_X7_isSheet l dC dI cI cB cO n0 H.size p3 hc) mdX7_isSheet gX7_copy_X7_isSheet rfl rfl ⟨Nat.le_of_ble_eq_true rfl, Nat.le_of_ble_eq_true rfl⟩ [] [0, 1, 2, 3, 4, 5] [0, 1, 2, 3, 4, 5] rfl rfl rfl rfl rfl rfl rfl rfl hl.1 (Nat.le_of_ble_eq_true rfl) rfl dX7_copy_8 (fun H locs hV => ?_)
  refine g_if_ne (tgt := 20) C hF dX7_copy_11 rfl (fun hF => ?_) (fun hF => ?_)
  · refine lv_aload_n C.1 C.2.1 dX7_copy_20 rfl (lv_at hl 0 rfl) ?_
    refine g_get C hV flX7_copy_45 0 rfl rfl dX7_copy_21 ?_
    refine lv_iload_n C.1 C.2.1 dX7_copy_24 rfl (lv_at hl 1 rfl) ?_
    refine g_iald C hV 1 rfl hF dX7_copy_25 (fun x5 hF => ?_)
    refine g_if_eq (tgt := 38) C hF dX7_copy_26 rfl (fun hF => ?_) (fun hF => ?_)
    · refine lv_aload_n C.1 C.2.1 dX7_copy_38 rfl (lv_at hl 0 rfl) ?_
      refine lv_iconst (v := 5) C.1 C.2.1 dX7_copy_39 rfl ?_
      obtain ⟨x6, g7, hc, hF⟩ := bd2_s hF
      refine g_cVi (ws' := [oX7 a_t a_d a_e a_kept v_isKept a_found a_tape v_taped v_gone a_hears a_near a_firstDay a_daily v_begin v_round v_leastFar v_leastWhere v_mostLed a_heardNow v_firstMove v_at v_sort v_from v_value v_fault a_bitsOf a_sizeOf a_number a_passing, aA cI a_bitsOf 4 f_bitsOf, aA cI a_found 7 g7, aA cI a_number 160 f_number, aA cI a_passing 40 f_passing, aA cI a_sizeOf 4 f_sizeOf]) (wr := [aA cI a_bitsOf 4 f_bitsOf, aA cI a_number 160 f_number, aA cI a_passing 40 f_passing, aA cI a_sizeOf 4 f_sizeOf]) C hV (k_X7_finds l dC dI cI cB cO n0 H.size a_t a_d a_e a_kept a_found a_tape a_hears a_near a_firstDay a_daily a_heardNow a_bitsOf a_sizeOf a_number a_passing v_isKept v_taped v_gone v_begin v_round v_leastFar v_leastWhere v_mostLed v_firstMove v_at v_sort v_from v_value v_fault f_found 5 hc) mdX7_finds gX7_copy_X7_finds rfl rfl ⟨Nat.le_of_ble_eq_true rfl, Nat.le_of_ble_eq_true rfl⟩ [0, 2] [1, 3, 4, 5] [4, 0, 5, 1, 2, 3] rfl rfl rfl rfl rfl rfl rfl rfl rfl rfl hl.1 (Nat.le_of_ble_eq_true rfl) rfl dX7_copy_40 (fun H locs hV => ?_)
      exact hret (x6, g7, f_number, f_passing) _ _ _ _ dX7_copy_43 hF hV
    refine lv_aload_n C.1 C.2.1 dX7_copy_29 rfl (lv_at hl 0 rfl) ?_
    refine g_get C hV flX7_copy_45 0 rfl rfl dX7_copy_30 ?_
    refine lv_iload_n C.1 C.2.1 dX7_copy_33 rfl (lv_at hl 3 rfl) ?_
    refine g_iald C hV 1 rfl hF dX7_copy_34 (fun x8 hF => ?_)
    refine g_if_ne (tgt := 44) C hF dX7_copy_35 rfl (fun hF => ?_) (fun hF => ?_)
    · refine lv_aload_n C.1 C.2.1 dX7_copy_44 rfl (lv_at hl 0 rfl) ?_
      refine g_get C hV flX7_copy_45 0 rfl rfl dX7_copy_45 ?_
      refine lv_iload_n C.1 C.2.1 dX7_copy_48 rfl (lv_at hl 1 rfl) ?_
      refine g_iald C hV 1 rfl hF dX7_copy_49 (fun x9 hF => ?_)
      refine lv_aload_n C.1 C.2.1 dX7_copy_50 rfl (lv_at hl 0 rfl) ?_
      refine g_get C hV flX7_copy_45 0 rfl rfl dX7_copy_51 ?_
      refine lv_iload_n C.1 C.2.1 dX7_copy_54 rfl (lv_at hl 3 rfl) ?_
      refine g_iald C hV 1 rfl hF dX7_copy_55 (fun x10 hF => ?_)
      refine g_icmp_eq (tgt := 65) C hF dX7_copy_56 rfl (fun hF => ?_) (fun hF => ?_)
      · refine lv_iload_n C.1 C.2.1 dX7_copy_65 rfl (lv_at hl 2 rfl) ?_
        refine g_if_lt (tgt := 114) C hF dX7_copy_66 rfl (fun hF => ?_) (fun hF => ?_)
        · refine lv_aload_n C.1 C.2.1 dX7_copy_114 rfl (lv_at hl 0 rfl) ?_
          refine lv_iconst (v := 0) C.1 C.2.1 dX7_copy_115 rfl ?_
          obtain ⟨x11, g12, hc, hF⟩ := bd2_s hF
          refine g_cVi (ws' := [oX7 a_t a_d a_e a_kept v_isKept a_found a_tape v_taped v_gone a_hears a_near a_firstDay a_daily v_begin v_round v_leastFar v_leastWhere v_mostLed a_heardNow v_firstMove v_at v_sort v_from v_value v_fault a_bitsOf a_sizeOf a_number a_passing, aA cI a_bitsOf 4 f_bitsOf, aA cI a_found 7 g12, aA cI a_number 160 f_number, aA cI a_passing 40 f_passing, aA cI a_sizeOf 4 f_sizeOf]) (wr := [aA cI a_bitsOf 4 f_bitsOf, aA cI a_number 160 f_number, aA cI a_passing 40 f_passing, aA cI a_sizeOf 4 f_sizeOf]) C hV (k_X7_finds l dC dI cI cB cO n0 H.size a_t a_d a_e a_kept a_found a_tape a_hears a_near a_firstDay a_daily a_heardNow a_bitsOf a_sizeOf a_number a_passing v_isKept v_taped v_gone v_begin v_round v_leastFar v_leastWhere v_mostLed v_firstMove v_at v_sort v_from v_value v_fault f_found 0 hc) mdX7_finds gX7_copy_X7_finds rfl rfl ⟨Nat.le_of_ble_eq_true rfl, Nat.le_of_ble_eq_true rfl⟩ [0, 2] [1, 3, 4, 5] [4, 0, 5, 1, 2, 3] rfl rfl rfl rfl rfl rfl rfl rfl rfl rfl hl.1 (Nat.le_of_ble_eq_true rfl) rfl dX7_copy_116 (fun H locs hV => ?_)
          exact hret (x11, g12, f_number, f_passing) _ _ _ _ dX7_copy_119 hF hV
        refine lv_iload C.1 C.2.1 dX7_copy_69 (lv_at hl 4 rfl) ?_
        refine g_if_lt (tgt := 114) C hF dX7_copy_71 rfl (fun hF => ?_) (fun hF => ?_)
        · refine lv_aload_n C.1 C.2.1 dX7_copy_114 rfl (lv_at hl 0 rfl) ?_
          refine lv_iconst (v := 0) C.1 C.2.1 dX7_copy_115 rfl ?_
          obtain ⟨x13, g14, hc, hF⟩ := bd2_s hF
          refine g_cVi (ws' := [oX7 a_t a_d a_e a_kept v_isKept a_found a_tape v_taped v_gone a_hears a_near a_firstDay a_daily v_begin v_round v_leastFar v_leastWhere v_mostLed a_heardNow v_firstMove v_at v_sort v_from v_value v_fault a_bitsOf a_sizeOf a_number a_passing, aA cI a_bitsOf 4 f_bitsOf, aA cI a_found 7 g14, aA cI a_number 160 f_number, aA cI a_passing 40 f_passing, aA cI a_sizeOf 4 f_sizeOf]) (wr := [aA cI a_bitsOf 4 f_bitsOf, aA cI a_number 160 f_number, aA cI a_passing 40 f_passing, aA cI a_sizeOf 4 f_sizeOf]) C hV (k_X7_finds l dC dI cI cB cO n0 H.size a_t a_d a_e a_kept a_found a_tape a_hears a_near a_firstDay a_daily a_heardNow a_bitsOf a_sizeOf a_number a_passing v_isKept v_taped v_gone v_begin v_round v_leastFar v_leastWhere v_mostLed v_firstMove v_at v_sort v_from v_value v_fault f_found 0 hc) mdX7_finds gX7_copy_X7_finds rfl rfl ⟨Nat.le_of_ble_eq_true rfl, Nat.le_of_ble_eq_true rfl⟩ [0, 2] [1, 3, 4, 5] [4, 0, 5, 1, 2, 3] rfl rfl rfl rfl rfl rfl rfl rfl rfl rfl hl.1 (Nat.le_of_ble_eq_true rfl) rfl dX7_copy_116 (fun H locs hV => ?_)
          exact hret (x13, g14, f_number, f_passing) _ _ _ _ dX7_copy_119 hF hV
        refine lv_iload C.1 C.2.1 dX7_copy_74 (lv_at hl 5 rfl) ?_
        refine g_if_lt (tgt := 114) C hF dX7_copy_76 rfl (fun hF => ?_) (fun hF => ?_)
        · refine lv_aload_n C.1 C.2.1 dX7_copy_114 rfl (lv_at hl 0 rfl) ?_
          refine lv_iconst (v := 0) C.1 C.2.1 dX7_copy_115 rfl ?_
          obtain ⟨x15, g16, hc, hF⟩ := bd2_s hF
          refine g_cVi (ws' := [oX7 a_t a_d a_e a_kept v_isKept a_found a_tape v_taped v_gone a_hears a_near a_firstDay a_daily v_begin v_round v_leastFar v_leastWhere v_mostLed a_heardNow v_firstMove v_at v_sort v_from v_value v_fault a_bitsOf a_sizeOf a_number a_passing, aA cI a_bitsOf 4 f_bitsOf, aA cI a_found 7 g16, aA cI a_number 160 f_number, aA cI a_passing 40 f_passing, aA cI a_sizeOf 4 f_sizeOf]) (wr := [aA cI a_bitsOf 4 f_bitsOf, aA cI a_number 160 f_number, aA cI a_passing 40 f_passing, aA cI a_sizeOf 4 f_sizeOf]) C hV (k_X7_finds l dC dI cI cB cO n0 H.size a_t a_d a_e a_kept a_found a_tape a_hears a_near a_firstDay a_daily a_heardNow a_bitsOf a_sizeOf a_number a_passing v_isKept v_taped v_gone v_begin v_round v_leastFar v_leastWhere v_mostLed v_firstMove v_at v_sort v_from v_value v_fault f_found 0 hc) mdX7_finds gX7_copy_X7_finds rfl rfl ⟨Nat.le_of_ble_eq_true rfl, Nat.le_of_ble_eq_true rfl⟩ [0, 2] [1, 3, 4, 5] [4, 0, 5, 1, 2, 3] rfl rfl rfl rfl rfl rfl rfl rfl rfl rfl hl.1 (Nat.le_of_ble_eq_true rfl) rfl dX7_copy_116 (fun H locs hV => ?_)
          exact hret (x15, g16, f_number, f_passing) _ _ _ _ dX7_copy_119 hF hV
        refine lv_iload_n C.1 C.2.1 dX7_copy_79 rfl (lv_at hl 2 rfl) ?_
        refine g_i2l C hF dX7_copy_80 (fun x17 hF => ?_)
        refine lv_iload C.1 C.2.1 dX7_copy_81 (lv_at hl 5 rfl) ?_
        refine g_i2l C hF dX7_copy_83 (fun x18 hF => ?_)
        refine g_ladd C hF dX7_copy_84 (fun x19 hF => ?_)
        refine lv_aload_n C.1 C.2.1 dX7_copy_85 rfl (lv_at hl 0 rfl) ?_
        refine g_get C hV flX7_copy_48 0 rfl rfl dX7_copy_86 ?_
        refine lv_iload_n C.1 C.2.1 dX7_copy_89 rfl (lv_at hl 1 rfl) ?_
        refine g_iald C hV 5 rfl hF dX7_copy_90 (fun x20 hF => ?_)
        refine g_i2l C hF dX7_copy_91 (fun x21 hF => ?_)
        refine g_lcmp C hF dX7_copy_92 (fun x22 hF => ?_)
        refine g_if_gt (tgt := 114) C hF dX7_copy_93 rfl (fun hF => ?_) (fun hF => ?_)
        · refine lv_aload_n C.1 C.2.1 dX7_copy_114 rfl (lv_at hl 0 rfl) ?_
          refine lv_iconst (v := 0) C.1 C.2.1 dX7_copy_115 rfl ?_
          obtain ⟨x23, g24, hc, hF⟩ := bd2_s hF
          refine g_cVi (ws' := [oX7 a_t a_d a_e a_kept v_isKept a_found a_tape v_taped v_gone a_hears a_near a_firstDay a_daily v_begin v_round v_leastFar v_leastWhere v_mostLed a_heardNow v_firstMove v_at v_sort v_from v_value v_fault a_bitsOf a_sizeOf a_number a_passing, aA cI a_bitsOf 4 f_bitsOf, aA cI a_found 7 g24, aA cI a_number 160 f_number, aA cI a_passing 40 f_passing, aA cI a_sizeOf 4 f_sizeOf]) (wr := [aA cI a_bitsOf 4 f_bitsOf, aA cI a_number 160 f_number, aA cI a_passing 40 f_passing, aA cI a_sizeOf 4 f_sizeOf]) C hV (k_X7_finds l dC dI cI cB cO n0 H.size a_t a_d a_e a_kept a_found a_tape a_hears a_near a_firstDay a_daily a_heardNow a_bitsOf a_sizeOf a_number a_passing v_isKept v_taped v_gone v_begin v_round v_leastFar v_leastWhere v_mostLed v_firstMove v_at v_sort v_from v_value v_fault f_found 0 hc) mdX7_finds gX7_copy_X7_finds rfl rfl ⟨Nat.le_of_ble_eq_true rfl, Nat.le_of_ble_eq_true rfl⟩ [0, 2] [1, 3, 4, 5] [4, 0, 5, 1, 2, 3] rfl rfl rfl rfl rfl rfl rfl rfl rfl rfl hl.1 (Nat.le_of_ble_eq_true rfl) rfl dX7_copy_116 (fun H locs hV => ?_)
          exact hret (x23, g24, f_number, f_passing) _ _ _ _ dX7_copy_119 hF hV
        refine lv_iload C.1 C.2.1 dX7_copy_96 (lv_at hl 4 rfl) ?_
        refine g_i2l C hF dX7_copy_98 (fun x25 hF => ?_)
        refine lv_iload C.1 C.2.1 dX7_copy_99 (lv_at hl 5 rfl) ?_
        refine g_i2l C hF dX7_copy_101 (fun x26 hF => ?_)
        refine g_ladd C hF dX7_copy_102 (fun x27 hF => ?_)
        refine lv_aload_n C.1 C.2.1 dX7_copy_103 rfl (lv_at hl 0 rfl) ?_
        refine g_get C hV flX7_copy_48 0 rfl rfl dX7_copy_104 ?_
        refine lv_iload_n C.1 C.2.1 dX7_copy_107 rfl (lv_at hl 3 rfl) ?_
        refine g_iald C hV 5 rfl hF dX7_copy_108 (fun x28 hF => ?_)
        refine g_i2l C hF dX7_copy_109 (fun x29 hF => ?_)
        refine g_lcmp C hF dX7_copy_110 (fun x30 hF => ?_)
        refine g_if_le (tgt := 120) C hF dX7_copy_111 rfl (fun hF => ?_) (fun hF => ?_)
        · refine lv_iconst (v := 0) C.1 C.2.1 dX7_copy_120 rfl ?_
          refine lv_istore (lv' := [(6, .int 0), (0, .ref a_t), (1, .int p1), (2, .int p2), (3, .int p3), (4, .int p4), (5, .int p5)]) C.1 C.2.1 dX7_copy_121 hl (by decide) rfl (fun ls hl => ?_)
          have hL123 : ∀ (n : Nat) (s31 : Int32) (t32 : Nat → Int32) (H : Heap) (locs : List Loc) (ls : Array Slot), gV (dC, dI) (gT cI cB cO) A0 H0 s [oX7 a_t a_d a_e a_kept v_isKept a_found a_tape v_taped v_gone a_hears a_near a_firstDay a_daily v_begin v_round v_leastFar v_leastWhere v_mostLed a_heardNow v_firstMove v_at v_sort v_from v_value v_fault a_bitsOf a_sizeOf a_number a_passing, aA cI a_bitsOf 4 f_bitsOf, aA cI a_found 7 f_found, aA cI a_number 160 f_number, aA cI a_passing 40 t32, aA cI a_sizeOf 4 f_sizeOf] H locs → lv_has ls 7 [(0, .ref a_t), (1, .int p1), (2, .int p2), (3, .int p3), (4, .int p4), (5, .int p5), (6, .int s31)] → L_X7_copy_123 p5 f_found p3 p4 n0 f_number p1 p2 n s31 t32 = some out → W p l e rmX7_copy s m args below meth c H locs 0 0 Q (F0 m 123 ls []) := by
            intro n
            induction n with
            | zero => intro s31 t32 H locs ls hV hl hF; exact lpp2_z hF
            | succ n ih123 =>
              intro s31 t32 H locs ls hV hl hF
              obtain ⟨kk123, hk123, hF⟩ := lpp2_g hF
              have hq123 : ∀ (s31 : Int32) (t32 : Nat → Int32), kk123 s31 t32 = some out → L_X7_copy_123 p5 f_found p3 p4 n0 f_number p1 p2 n s31 t32 = some out := fun _ _ h => by rw [hk123] at h; exact h
              refine lv_iload C.1 C.2.1 dX7_copy_123 (lv_at hl 6 rfl) ?_
              refine lv_iload C.1 C.2.1 dX7_copy_125 (lv_at hl 5 rfl) ?_
              refine g_icmp_ge (tgt := 157) C hF dX7_copy_127 rfl (fun hF => ?_) (fun hF => ?_)
              · refine lv_iconst (v := 0) C.1 C.2.1 dX7_copy_157 rfl ?_
                refine lv_istore (lv' := [(6, .int 0), (0, .ref a_t), (1, .int p1), (2, .int p2), (3, .int p3), (4, .int p4), (5, .int p5)]) C.1 C.2.1 dX7_copy_158 hl (by decide) rfl (fun ls hl => ?_)
                have hL160 : ∀ (n : Nat) (s33 : Int32) (t34 : Nat → Int32) (H : Heap) (locs : List Loc) (ls : Array Slot), gV (dC, dI) (gT cI cB cO) A0 H0 s [oX7 a_t a_d a_e a_kept v_isKept a_found a_tape v_taped v_gone a_hears a_near a_firstDay a_daily v_begin v_round v_leastFar v_leastWhere v_mostLed a_heardNow v_firstMove v_at v_sort v_from v_value v_fault a_bitsOf a_sizeOf a_number a_passing, aA cI a_bitsOf 4 f_bitsOf, aA cI a_found 7 f_found, aA cI a_number 160 t34, aA cI a_passing 40 t32, aA cI a_sizeOf 4 f_sizeOf] H locs → lv_has ls 7 [(0, .ref a_t), (3, .int p3), (4, .int p4), (5, .int p5), (6, .int s33)] → L_X7_copy_160 p5 f_found t32 p3 p4 n s33 t34 = some out → W p l e rmX7_copy s m args below meth c H locs 0 0 Q (F0 m 160 ls []) := by
                  intro n
                  induction n with
                  | zero => intro s33 t34 H locs ls hV hl hF; exact lpp2_z hF
                  | succ n ih160 =>
                    intro s33 t34 H locs ls hV hl hF
                    obtain ⟨kk160, hk160, hF⟩ := lpp2_g hF
                    have hq160 : ∀ (s33 : Int32) (t34 : Nat → Int32), kk160 s33 t34 = some out → L_X7_copy_160 p5 f_found t32 p3 p4 n s33 t34 = some out := fun _ _ h => by rw [hk160] at h; exact h
                    refine lv_iload C.1 C.2.1 dX7_copy_160 (lv_at hl 4 rfl) ?_
                    refine lv_iload C.1 C.2.1 dX7_copy_162 (lv_at hl 3 rfl) ?_
                    refine g_icmp_ge (tgt := 195) C hF dX7_copy_164 rfl (fun hF => ?_) (fun hF => ?_)
                    · refine lv_iload C.1 C.2.1 dX7_copy_195 (lv_at hl 3 rfl) ?_
                      exact hret (p5, f_found, t34, t32) _ _ _ _ dX7_copy_197 hF hV
                    refine lv_aload_n C.1 C.2.1 dX7_copy_167 rfl (lv_at hl 0 rfl) ?_
                    refine g_get C hV flX7_copy_51 0 rfl rfl dX7_copy_168 ?_
                    refine lv_bipush (v := 40) C.1 C.2.1 dX7_copy_171 rfl ?_
                    refine lv_iload_n C.1 C.2.1 dX7_copy_173 rfl (lv_at hl 1 rfl) ?_
                    refine g_imul C hF dX7_copy_174 (fun x35 hF => ?_)
                    refine lv_iload C.1 C.2.1 dX7_copy_175 (lv_at hl 2 rfl) ?_
                    refine g_iadd C hF dX7_copy_177 (fun x36 hF => ?_)
                    refine lv_iload C.1 C.2.1 dX7_copy_178 (lv_at hl 4 rfl) ?_
                    refine g_iadd C hF dX7_copy_180 (fun x37 hF => ?_)
                    refine lv_aload_n C.1 C.2.1 dX7_copy_181 rfl (lv_at hl 0 rfl) ?_
                    refine g_get C hV flX7_copy_54 0 rfl rfl dX7_copy_182 ?_
                    refine lv_iload C.1 C.2.1 dX7_copy_185 (lv_at hl 4 rfl) ?_
                    refine g_iald C hV 4 rfl hF dX7_copy_187 (fun x38 hF => ?_)
                    refine g_iast C hV 3 rfl hF (fun gq => [oX7 a_t a_d a_e a_kept v_isKept a_found a_tape v_taped v_gone a_hears a_near a_firstDay a_daily v_begin v_round v_leastFar v_leastWhere v_mostLed a_heardNow v_firstMove v_at v_sort v_from v_value v_fault a_bitsOf a_sizeOf a_number a_passing, aA cI a_bitsOf 4 f_bitsOf, aA cI a_found 7 f_found, aA cI a_number 160 gq, aA cI a_passing 40 t32, aA cI a_sizeOf 4 f_sizeOf]) (fun _ => rfl) dX7_copy_188 (fun g39 H locs hF hV => ?_)
                    refine g_iinc C hF dX7_copy_189 (d := 1) rfl hl (j := 4) rfl (by decide) (fun y => [(6, .int y), (0, .ref a_t), (3, .int p3), (4, .int p4), (5, .int p5)]) (fun _ => rfl) (fun x40 ls hF hl => ?_)
                    refine lv_goto (tgt := 160) C.1 C.2.1 dX7_copy_192 rfl ?_
                    exact ih160 x40 g39 H locs ls hV (lv_sub hl [1, 2, 3, 4, 0] rfl) (hq160 x40 g39 hF)
                exact hL160 n0 0 f_number H locs ls hV (lv_sub hl [1, 4, 5, 6, 0] rfl) hF
              refine lv_aload_n C.1 C.2.1 dX7_copy_130 rfl (lv_at hl 0 rfl) ?_
              refine g_get C hV flX7_copy_54 0 rfl rfl dX7_copy_131 ?_
              refine lv_iload C.1 C.2.1 dX7_copy_134 (lv_at hl 6 rfl) ?_
              refine lv_aload_n C.1 C.2.1 dX7_copy_136 rfl (lv_at hl 0 rfl) ?_
              refine g_get C hV flX7_copy_51 0 rfl rfl dX7_copy_137 ?_
              refine lv_bipush (v := 40) C.1 C.2.1 dX7_copy_140 rfl ?_
              refine lv_iload_n C.1 C.2.1 dX7_copy_142 rfl (lv_at hl 1 rfl) ?_
              refine g_imul C hF dX7_copy_143 (fun x41 hF => ?_)
              refine lv_iload_n C.1 C.2.1 dX7_copy_144 rfl (lv_at hl 2 rfl) ?_
              refine g_iadd C hF dX7_copy_145 (fun x42 hF => ?_)
              refine lv_iload C.1 C.2.1 dX7_copy_146 (lv_at hl 6 rfl) ?_
              refine g_iadd C hF dX7_copy_148 (fun x43 hF => ?_)
              refine g_iald C hV 3 rfl hF dX7_copy_149 (fun x44 hF => ?_)
              refine g_iast C hV 4 rfl hF (fun gq => [oX7 a_t a_d a_e a_kept v_isKept a_found a_tape v_taped v_gone a_hears a_near a_firstDay a_daily v_begin v_round v_leastFar v_leastWhere v_mostLed a_heardNow v_firstMove v_at v_sort v_from v_value v_fault a_bitsOf a_sizeOf a_number a_passing, aA cI a_bitsOf 4 f_bitsOf, aA cI a_found 7 f_found, aA cI a_number 160 f_number, aA cI a_passing 40 gq, aA cI a_sizeOf 4 f_sizeOf]) (fun _ => rfl) dX7_copy_150 (fun g45 H locs hF hV => ?_)
              refine g_iinc C hF dX7_copy_151 (d := 1) rfl hl (j := 6) rfl (by decide) (fun y => [(6, .int y), (0, .ref a_t), (1, .int p1), (2, .int p2), (3, .int p3), (4, .int p4), (5, .int p5)]) (fun _ => rfl) (fun x46 ls hF hl => ?_)
              refine lv_goto (tgt := 123) C.1 C.2.1 dX7_copy_154 rfl ?_
              exact ih123 x46 g45 H locs ls hV (lv_sub hl [1, 2, 3, 4, 5, 6, 0] rfl) (hq123 x46 g45 hF)
          exact hL123 n0 0 f_passing H locs ls hV (lv_sub hl [1, 2, 3, 4, 5, 6, 0] rfl) hF
        refine lv_aload_n C.1 C.2.1 dX7_copy_114 rfl (lv_at hl 0 rfl) ?_
        refine lv_iconst (v := 0) C.1 C.2.1 dX7_copy_115 rfl ?_
        obtain ⟨x47, g48, hc, hF⟩ := bd2_s hF
        refine g_cVi (ws' := [oX7 a_t a_d a_e a_kept v_isKept a_found a_tape v_taped v_gone a_hears a_near a_firstDay a_daily v_begin v_round v_leastFar v_leastWhere v_mostLed a_heardNow v_firstMove v_at v_sort v_from v_value v_fault a_bitsOf a_sizeOf a_number a_passing, aA cI a_bitsOf 4 f_bitsOf, aA cI a_found 7 g48, aA cI a_number 160 f_number, aA cI a_passing 40 f_passing, aA cI a_sizeOf 4 f_sizeOf]) (wr := [aA cI a_bitsOf 4 f_bitsOf, aA cI a_number 160 f_number, aA cI a_passing 40 f_passing, aA cI a_sizeOf 4 f_sizeOf]) C hV (k_X7_finds l dC dI cI cB cO n0 H.size a_t a_d a_e a_kept a_found a_tape a_hears a_near a_firstDay a_daily a_heardNow a_bitsOf a_sizeOf a_number a_passing v_isKept v_taped v_gone v_begin v_round v_leastFar v_leastWhere v_mostLed v_firstMove v_at v_sort v_from v_value v_fault f_found 0 hc) mdX7_finds gX7_copy_X7_finds rfl rfl ⟨Nat.le_of_ble_eq_true rfl, Nat.le_of_ble_eq_true rfl⟩ [0, 2] [1, 3, 4, 5] [4, 0, 5, 1, 2, 3] rfl rfl rfl rfl rfl rfl rfl rfl rfl rfl hl.1 (Nat.le_of_ble_eq_true rfl) rfl dX7_copy_116 (fun H locs hV => ?_)
        exact hret (x47, g48, f_number, f_passing) _ _ _ _ dX7_copy_119 hF hV
      refine lv_aload_n C.1 C.2.1 dX7_copy_59 rfl (lv_at hl 0 rfl) ?_
      refine lv_iconst (v := 2) C.1 C.2.1 dX7_copy_60 rfl ?_
      obtain ⟨x49, g50, hc, hF⟩ := bd2_s hF
      refine g_cVi (ws' := [oX7 a_t a_d a_e a_kept v_isKept a_found a_tape v_taped v_gone a_hears a_near a_firstDay a_daily v_begin v_round v_leastFar v_leastWhere v_mostLed a_heardNow v_firstMove v_at v_sort v_from v_value v_fault a_bitsOf a_sizeOf a_number a_passing, aA cI a_bitsOf 4 f_bitsOf, aA cI a_found 7 g50, aA cI a_number 160 f_number, aA cI a_passing 40 f_passing, aA cI a_sizeOf 4 f_sizeOf]) (wr := [aA cI a_bitsOf 4 f_bitsOf, aA cI a_number 160 f_number, aA cI a_passing 40 f_passing, aA cI a_sizeOf 4 f_sizeOf]) C hV (k_X7_finds l dC dI cI cB cO n0 H.size a_t a_d a_e a_kept a_found a_tape a_hears a_near a_firstDay a_daily a_heardNow a_bitsOf a_sizeOf a_number a_passing v_isKept v_taped v_gone v_begin v_round v_leastFar v_leastWhere v_mostLed v_firstMove v_at v_sort v_from v_value v_fault f_found 2 hc) mdX7_finds gX7_copy_X7_finds rfl rfl ⟨Nat.le_of_ble_eq_true rfl, Nat.le_of_ble_eq_true rfl⟩ [0, 2] [1, 3, 4, 5] [4, 0, 5, 1, 2, 3] rfl rfl rfl rfl rfl rfl rfl rfl rfl rfl hl.1 (Nat.le_of_ble_eq_true rfl) rfl dX7_copy_61 (fun H locs hV => ?_)
      exact hret (x49, g50, f_number, f_passing) _ _ _ _ dX7_copy_64 hF hV
    refine lv_aload_n C.1 C.2.1 dX7_copy_38 rfl (lv_at hl 0 rfl) ?_
    refine lv_iconst (v := 5) C.1 C.2.1 dX7_copy_39 rfl ?_
    obtain ⟨x51, g52, hc, hF⟩ := bd2_s hF
    refine g_cVi (ws' := [oX7 a_t a_d a_e a_kept v_isKept a_found a_tape v_taped v_gone a_hears a_near a_firstDay a_daily v_begin v_round v_leastFar v_leastWhere v_mostLed a_heardNow v_firstMove v_at v_sort v_from v_value v_fault a_bitsOf a_sizeOf a_number a_passing, aA cI a_bitsOf 4 f_bitsOf, aA cI a_found 7 g52, aA cI a_number 160 f_number, aA cI a_passing 40 f_passing, aA cI a_sizeOf 4 f_sizeOf]) (wr := [aA cI a_bitsOf 4 f_bitsOf, aA cI a_number 160 f_number, aA cI a_passing 40 f_passing, aA cI a_sizeOf 4 f_sizeOf]) C hV (k_X7_finds l dC dI cI cB cO n0 H.size a_t a_d a_e a_kept a_found a_tape a_hears a_near a_firstDay a_daily a_heardNow a_bitsOf a_sizeOf a_number a_passing v_isKept v_taped v_gone v_begin v_round v_leastFar v_leastWhere v_mostLed v_firstMove v_at v_sort v_from v_value v_fault f_found 5 hc) mdX7_finds gX7_copy_X7_finds rfl rfl ⟨Nat.le_of_ble_eq_true rfl, Nat.le_of_ble_eq_true rfl⟩ [0, 2] [1, 3, 4, 5] [4, 0, 5, 1, 2, 3] rfl rfl rfl rfl rfl rfl rfl rfl rfl rfl hl.1 (Nat.le_of_ble_eq_true rfl) rfl dX7_copy_40 (fun H locs hV => ?_)
    exact hret (x51, g52, f_number, f_passing) _ _ _ _ dX7_copy_43 hF hV
  refine lv_aload_n C.1 C.2.1 dX7_copy_14 rfl (lv_at hl 0 rfl) ?_
  refine lv_iconst (v := 0) C.1 C.2.1 dX7_copy_15 rfl ?_
  obtain ⟨x53, g54, hc, hF⟩ := bd2_s hF
  refine g_cVi (ws' := [oX7 a_t a_d a_e a_kept v_isKept a_found a_tape v_taped v_gone a_hears a_near a_firstDay a_daily v_begin v_round v_leastFar v_leastWhere v_mostLed a_heardNow v_firstMove v_at v_sort v_from v_value v_fault a_bitsOf a_sizeOf a_number a_passing, aA cI a_bitsOf 4 f_bitsOf, aA cI a_found 7 g54, aA cI a_number 160 f_number, aA cI a_passing 40 f_passing, aA cI a_sizeOf 4 f_sizeOf]) (wr := [aA cI a_bitsOf 4 f_bitsOf, aA cI a_number 160 f_number, aA cI a_passing 40 f_passing, aA cI a_sizeOf 4 f_sizeOf]) C hV (k_X7_finds l dC dI cI cB cO n0 H.size a_t a_d a_e a_kept a_found a_tape a_hears a_near a_firstDay a_daily a_heardNow a_bitsOf a_sizeOf a_number a_passing v_isKept v_taped v_gone v_begin v_round v_leastFar v_leastWhere v_mostLed v_firstMove v_at v_sort v_from v_value v_fault f_found 0 hc) mdX7_finds gX7_copy_X7_finds rfl rfl ⟨Nat.le_of_ble_eq_true rfl, Nat.le_of_ble_eq_true rfl⟩ [0, 2] [1, 3, 4, 5] [4, 0, 5, 1, 2, 3] rfl rfl rfl rfl rfl rfl rfl rfl rfl rfl hl.1 (Nat.le_of_ble_eq_true rfl) rfl dX7_copy_16 (fun H locs hV => ?_)
  exact hret (x53, g54, f_number, f_passing) _ _ _ _ dX7_copy_19 hF hV
abbrev rmX7_load : Room := { frames := 3, cells := 0, slots := 0, locals := 66 }
theorem mdX7_load : gMd yX7_load wsX7_load cX7_load 4 (some .int) 1 := ⟨⟨_, rfl⟩, by decide +kernel⟩
theorem flX7_load_48 : gFL wsX7_load RX7 48 7 25 RX7 TX7 28 := ⟨rfl, fun w h => List.mem_cons_of_mem _ (List.mem_append_right _ (h)), Nat.le_of_ble_eq_true rfl, List.mem_cons_of_mem _ (List.mem_append_left _ (List.mem_append_left _ (List.mem_of_getElem? (i := 0) rfl)))⟩
theorem flX7_load_7 : gFL wsX7_load RX7 7 7 0 RX7 TX7 28 := ⟨rfl, fun w h => List.mem_cons_of_mem _ (List.mem_append_right _ (h)), Nat.le_of_ble_eq_true rfl, List.mem_cons_of_mem _ (List.mem_append_left _ (List.mem_append_left _ (List.mem_of_getElem? (i := 1) rfl)))⟩
theorem flX7_load_51 : gFL wsX7_load RX7 51 7 26 RX7 TX7 28 := ⟨rfl, fun w h => List.mem_cons_of_mem _ (List.mem_append_right _ (h)), Nat.le_of_ble_eq_true rfl, List.mem_cons_of_mem _ (List.mem_append_left _ (List.mem_append_left _ (List.mem_of_getElem? (i := 2) rfl)))⟩
def L_X7_load_18 (f_sizeOf : Nat → Int32) (p1 : Int32) (f_found : Nat → Int32) (f_number : Nat → Int32) (n0 : Nat) : Nat → Int32 → (Nat → Int32) → Option (Int32 × (Nat → Int32) × (Nat → Int32)) := lpp2 (fun s2 t3 kk18 => rd f_sizeOf 4 p1 (fun x4 => (if x4 ≤ s2 then some (s2, t3, f_found) else rd t3 40 0 (fun x5 => (if x5 ≤ s2 then some (s2, t3, f_found) else nm (40 * p1) (fun x6 => nm (x6 + s2) (fun x7 => rd f_number 160 x7 (fun x8 => nm (x8.toInt64) (fun x9 => bd1 (F_X7_in n0 x9 0 1) (fun x10 => (if x10 = 0 then some (s2, t3, f_found) else nm (40 * p1) (fun x11 => nm (x11 + s2) (fun x12 => rd f_number 160 x12 (fun x13 => bd1 (F_X7_sayOf n0 t3 s2 x13) (fun g14 => nm (s2 + 1) (fun x15 => kk18 x15 g14))))))))))))))))
def F_X7_load (n0 : Nat) (f_bitsOf : Nat → Int32) (f_d : Nat → Int32) (f_found : Nat → Int32) (f_number : Nat → Int32) (f_sizeOf : Nat → Int32) (p1 : Int32) : Option (Int32 × (Nat → Int32) × (Nat → Int32)) := bd1 (F_X7_whyNone n0 f_bitsOf p1) (fun x1 => (if x1 < 0 then L_X7_load_18 f_sizeOf p1 f_found f_number n0 n0 0 f_d else bd2 (F_X7_finds n0 f_found x1) (fun x16 g17 => some (x16, f_d, g17))))
set_option maxRecDepth 100000 in
set_option maxHeartbeats 4000000 in
theorem k_X7_load (l : Launch) (dC : Nat → ClassId) (dI : Nat → Nat → Nat) (cI cB cO : ClassId) (n0 sz : Nat) (a_t : Nat) (a_d : Nat) (a_e : Nat) (a_kept : Nat) (a_found : Nat) (a_tape : Nat) (a_hears : Nat) (a_near : Nat) (a_firstDay : Nat) (a_daily : Nat) (a_heardNow : Nat) (a_bitsOf : Nat) (a_sizeOf : Nat) (a_number : Nat) (a_passing : Nat)   (v_isKept : Int32) (v_taped : Int32) (v_gone : Int32) (v_begin : Int32) (v_round : Int32) (v_leastFar : Int32) (v_leastWhere : Int32) (v_mostLed : Int32) (v_firstMove : Int32) (v_at : Int32) (v_sort : Int32) (v_from : Int32) (v_value : Int64) (v_fault : Int32) (f_bitsOf : Nat → Int32) (f_d : Nat → Int32) (f_found : Nat → Int32) (f_number : Nat → Int32) (f_sizeOf : Nat → Int32) (p1 : Int32)  {ro : Int32} {o0 : Nat → Int32} {o1 : Nat → Int32} (hF : F_X7_load n0 f_bitsOf f_d f_found f_number f_sizeOf p1 = some (ro, o0, o1)) : Met l yX7_load wsX7_load rmX7_load (va_Pc [.ref a_t, .int p1] (gPre (dC, dI) (gT cI cB cO) sz [oX7 a_t a_d a_e a_kept v_isKept a_found a_tape v_taped v_gone a_hears a_near a_firstDay a_daily v_begin v_round v_leastFar v_leastWhere v_mostLed a_heardNow v_firstMove v_at v_sort v_from v_value v_fault a_bitsOf a_sizeOf a_number a_passing, aA cI a_bitsOf 4 f_bitsOf, aA cI a_d 40 f_d, aA cI a_found 7 f_found, aA cI a_number 160 f_number, aA cI a_sizeOf 4 f_sizeOf])) (gQi (dC, dI) (gT cI cB cO) sz [oX7 a_t a_d a_e a_kept v_isKept a_found a_tape v_taped v_gone a_hears a_near a_firstDay a_daily v_begin v_round v_leastFar v_leastWhere v_mostLed a_heardNow v_firstMove v_at v_sort v_from v_value v_fault a_bitsOf a_sizeOf a_number a_passing, aA cI a_bitsOf 4 f_bitsOf, aA cI a_d 40 f_d, aA cI a_found 7 f_found, aA cI a_number 160 f_number, aA cI a_sizeOf 4 f_sizeOf] ro [oX7 a_t a_d a_e a_kept v_isKept a_found a_tape v_taped v_gone a_hears a_near a_firstDay a_daily v_begin v_round v_leastFar v_leastWhere v_mostLed a_heardNow v_firstMove v_at v_sort v_from v_value v_fault a_bitsOf a_sizeOf a_number a_passing, aA cI a_bitsOf 4 f_bitsOf, aA cI a_d 40 o0, aA cI a_found 7 o1, aA cI a_number 160 f_number, aA cI a_sizeOf 4 f_sizeOf]) 0 0 (va_A [oX7 a_t a_d a_e a_kept v_isKept a_found a_tape v_taped v_gone a_hears a_near a_firstDay a_daily v_begin v_round v_leastFar v_leastWhere v_mostLed a_heardNow v_firstMove v_at v_sort v_from v_value v_fault a_bitsOf a_sizeOf a_number a_passing, aA cI a_bitsOf 4 f_bitsOf, aA cI a_d 40 f_d, aA cI a_found 7 f_found, aA cI a_number 160 f_number, aA cI a_sizeOf 4 f_sizeOf] sz) := by
  refine g_metI (Out := Int32 × (Nat → Int32) × (Nat → Int32)) (fun oo => oo.1) (fun oo => [oX7 a_t a_d a_e a_kept v_isKept a_found a_tape v_taped v_gone a_hears a_near a_firstDay a_daily v_begin v_round v_leastFar v_leastWhere v_mostLed a_heardNow v_firstMove v_at v_sort v_from v_value v_fault a_bitsOf a_sizeOf a_number a_passing, aA cI a_bitsOf 4 f_bitsOf, aA cI a_d 40 oo.2.1, aA cI a_found 7 oo.2.2, aA cI a_number 160 f_number, aA cI a_sizeOf 4 f_sizeOf]) (ro, o0, o1) (own := RX7) (lv := [(0, .ref a_t), (1, .int p1)]) (by decide) rfl rfl (Nat.le_of_ble_eq_true rfl) rfl ?_
  intro p e s m args below meth c Q ls C hret hV hl
  obtain ⟨out, hout⟩ : ∃ z : Int32 × (Nat → Int32) × (Nat → Int32), z = (ro, o0, o1) := ⟨_, rfl⟩
  rw [← hout] at hF hret
  obtain ⟨H0, hH0⟩ : ∃ z : Heap, z = s.heap := ⟨_, rfl⟩
  obtain ⟨A0, hA0⟩ : ∃ z : Nat → Prop, z = va_A [oX7 a_t a_d a_e a_kept v_isKept a_found a_tape v_taped v_gone a_hears a_near a_firstDay a_daily v_begin v_round v_leastFar v_leastWhere v_mostLed a_heardNow v_firstMove v_at v_sort v_from v_value v_fault a_bitsOf a_sizeOf a_number a_passing, aA cI a_bitsOf 4 f_bitsOf, aA cI a_d 40 f_d, aA cI a_found 7 f_found, aA cI a_number 160 f_number, aA cI a_sizeOf 4 f_sizeOf] s.heap.size := ⟨_, rfl⟩
  rw [← hA0] at hret hV
  rw [← hH0] at hret hV
  rw [← hH0]
  obtain ⟨H, locs, hH⟩ : ∃ (z : Heap) (y : List Loc), z = H0 ∧ y = [] := ⟨_, _, rfl, rfl⟩
  rw [← hH.1, ← hH.2]
  have hV : gV (dC, dI) (gT cI cB cO) A0 H0 s [oX7 a_t a_d a_e a_kept v_isKept a_found a_tape v_taped v_gone a_hears a_near a_firstDay a_daily v_begin v_round v_leastFar v_leastWhere v_mostLed a_heardNow v_firstMove v_at v_sort v_from v_value v_fault a_bitsOf a_sizeOf a_number a_passing, aA cI a_bitsOf 4 f_bitsOf, aA cI a_d 40 f_d, aA cI a_found 7 f_found, aA cI a_number 160 f_number, aA cI a_sizeOf 4 f_sizeOf] H locs := by rw [hH.1, hH.2]; exact hV
  unfold F_X7_load at hF
  refine lv_aload_n C.1 C.2.1 dX7_load_0 rfl (lv_at hl 0 rfl) ?_
  refine lv_iload_n C.1 C.2.1 dX7_load_1 rfl (lv_at hl 1 rfl) ?_
  obtain ⟨x1, hc, hF⟩ := bd1_s hF
  refine g_cVi (ws' := [oX7 a_t a_d a_e a_kept v_isKept a_found a_tape v_taped v_gone a_hears a_near a_firstDay a_daily v_begin v_round v_leastFar v_leastWhere v_mostLed a_heardNow v_firstMove v_at v_sort v_from v_value v_fault a_bitsOf a_sizeOf a_number a_passing, aA cI a_bitsOf 4 f_bitsOf, aA cI a_d 40 f_d, aA cI a_found 7 f_found, aA cI a_number 160 f_number, aA cI a_sizeOf 4 f_sizeOf]) (wr := [aA cI a_d 40 f_d, aA cI a_found 7 f_found, aA cI a_number 160 f_number, aA cI a_sizeOf 4 f_sizeOf]) C hV (k_X7_whyNone l dC dI cI cB cO n0 H.size a_t a_d a_e a_kept a_found a_tape a_hears a_near a_firstDay a_daily a_heardNow a_bitsOf a_sizeOf a_number a_passing v_isKept v_taped v_gone v_begin v_round v_leastFar v_leastWhere v_mostLed v_firstMove v_at v_sort v_from v_value v_fault f_bitsOf p1 hc) mdX7_whyNone gX7_load_X7_whyNone rfl rfl ⟨Nat.le_of_ble_eq_true rfl, Nat.le_of_ble_eq_true rfl⟩ [0, 1] [2, 3, 4, 5] [4, 5, 0, 1, 2, 3] rfl rfl rfl rfl rfl rfl rfl rfl rfl rfl hl.1 (Nat.le_of_ble_eq_true rfl) rfl dX7_load_2 (fun H locs hV => ?_)
  refine lv_istore_n (lv' := [(2, .int x1), (0, .ref a_t), (1, .int p1)]) C.1 C.2.1 dX7_load_5 rfl hl (by decide) rfl (fun ls hl => ?_)
  refine lv_iload_n C.1 C.2.1 dX7_load_6 rfl (lv_at hl 0 rfl) ?_
  refine g_if_lt (tgt := 16) C hF dX7_load_7 rfl (fun hF => ?_) (fun hF => ?_)
  · refine lv_iconst (v := 0) C.1 C.2.1 dX7_load_16 rfl ?_
    refine lv_istore_n (lv' := [(3, .int 0), (2, .int x1), (0, .ref a_t), (1, .int p1)]) C.1 C.2.1 dX7_load_17 rfl hl (by decide) rfl (fun ls hl => ?_)
    have hL18 : ∀ (n : Nat) (s2 : Int32) (t3 : Nat → Int32) (H : Heap) (locs : List Loc) (ls : Array Slot), gV (dC, dI) (gT cI cB cO) A0 H0 s [oX7 a_t a_d a_e a_kept v_isKept a_found a_tape v_taped v_gone a_hears a_near a_firstDay a_daily v_begin v_round v_leastFar v_leastWhere v_mostLed a_heardNow v_firstMove v_at v_sort v_from v_value v_fault a_bitsOf a_sizeOf a_number a_passing, aA cI a_bitsOf 4 f_bitsOf, aA cI a_d 40 t3, aA cI a_found 7 f_found, aA cI a_number 160 f_number, aA cI a_sizeOf 4 f_sizeOf] H locs → lv_has ls 4 [(0, .ref a_t), (1, .int p1), (3, .int s2)] → L_X7_load_18 f_sizeOf p1 f_found f_number n0 n s2 t3 = some out → W p l e rmX7_load s m args below meth c H locs 0 0 Q (F0 m 18 ls []) := by
      intro n
      induction n with
      | zero => intro s2 t3 H locs ls hV hl hF; exact lpp2_z hF
      | succ n ih18 =>
        intro s2 t3 H locs ls hV hl hF
        obtain ⟨kk18, hk18, hF⟩ := lpp2_g hF
        have hq18 : ∀ (s2 : Int32) (t3 : Nat → Int32), kk18 s2 t3 = some out → L_X7_load_18 f_sizeOf p1 f_found f_number n0 n s2 t3 = some out := fun _ _ h => by rw [hk18] at h; exact h
        refine lv_iload_n C.1 C.2.1 dX7_load_18 rfl (lv_at hl 2 rfl) ?_
        refine lv_aload_n C.1 C.2.1 dX7_load_19 rfl (lv_at hl 0 rfl) ?_
        refine g_get C hV flX7_load_48 0 rfl rfl dX7_load_20 ?_
        refine lv_iload_n C.1 C.2.1 dX7_load_23 rfl (lv_at hl 1 rfl) ?_
        refine g_iald C hV 5 rfl hF dX7_load_24 (fun x4 hF => ?_)
        refine g_icmp_ge (tgt := 80) C hF dX7_load_25 rfl (fun hF => ?_) (fun hF => ?_)
        · refine lv_iload_n C.1 C.2.1 dX7_load_80 rfl (lv_at hl 2 rfl) ?_
          exact hret (s2, t3, f_found) _ _ _ _ dX7_load_81 hF hV
        refine lv_iload_n C.1 C.2.1 dX7_load_28 rfl (lv_at hl 2 rfl) ?_
        refine lv_aload_n C.1 C.2.1 dX7_load_29 rfl (lv_at hl 0 rfl) ?_
        refine g_get C hV flX7_load_7 0 rfl rfl dX7_load_30 ?_
        refine lv_iconst (v := 0) C.1 C.2.1 dX7_load_33 rfl ?_
        refine g_iald C hV 2 rfl hF dX7_load_34 (fun x5 hF => ?_)
        refine g_icmp_ge (tgt := 80) C hF dX7_load_35 rfl (fun hF => ?_) (fun hF => ?_)
        · refine lv_iload_n C.1 C.2.1 dX7_load_80 rfl (lv_at hl 2 rfl) ?_
          exact hret (s2, t3, f_found) _ _ _ _ dX7_load_81 hF hV
        refine lv_aload_n C.1 C.2.1 dX7_load_38 rfl (lv_at hl 0 rfl) ?_
        refine g_get C hV flX7_load_51 0 rfl rfl dX7_load_39 ?_
        refine lv_bipush (v := 40) C.1 C.2.1 dX7_load_42 rfl ?_
        refine lv_iload_n C.1 C.2.1 dX7_load_44 rfl (lv_at hl 1 rfl) ?_
        refine g_imul C hF dX7_load_45 (fun x6 hF => ?_)
        refine lv_iload_n C.1 C.2.1 dX7_load_46 rfl (lv_at hl 2 rfl) ?_
        refine g_iadd C hF dX7_load_47 (fun x7 hF => ?_)
        refine g_iald C hV 4 rfl hF dX7_load_48 (fun x8 hF => ?_)
        refine g_i2l C hF dX7_load_49 (fun x9 hF => ?_)
        refine lv_lconst (v := 0) C.1 C.2.1 dX7_load_50 rfl ?_
        refine lv_lconst (v := 1) C.1 C.2.1 dX7_load_51 rfl ?_
        obtain ⟨x10, hc, hF⟩ := bd1_s hF
        refine g_cSi (ws' := [oX7 a_t a_d a_e a_kept v_isKept a_found a_tape v_taped v_gone a_hears a_near a_firstDay a_daily v_begin v_round v_leastFar v_leastWhere v_mostLed a_heardNow v_firstMove v_at v_sort v_from v_value v_fault a_bitsOf a_sizeOf a_number a_passing, aA cI a_bitsOf 4 f_bitsOf, aA cI a_d 40 t3, aA cI a_found 7 f_found, aA cI a_number 160 f_number, aA cI a_sizeOf 4 f_sizeOf]) (wr := [oX7 a_t a_d a_e a_kept v_isKept a_found a_tape v_taped v_gone a_hears a_near a_firstDay a_daily v_begin v_round v_leastFar v_leastWhere v_mostLed a_heardNow v_firstMove v_at v_sort v_from v_value v_fault a_bitsOf a_sizeOf a_number a_passing, aA cI a_bitsOf 4 f_bitsOf, aA cI a_d 40 t3, aA cI a_found 7 f_found, aA cI a_number 160 f_number, aA cI a_sizeOf 4 f_sizeOf]) C hV (k_X7_in l dC dI cI cB cO n0 H.size x9 0 1 hc) mdX7_in gX7_load_X7_in rfl rfl ⟨Nat.le_of_ble_eq_true rfl, Nat.le_of_ble_eq_true rfl⟩ [] [0, 1, 2, 3, 4, 5] [0, 1, 2, 3, 4, 5] rfl rfl rfl rfl rfl rfl rfl rfl hl.1 (Nat.le_of_ble_eq_true rfl) rfl dX7_load_52 (fun H locs hV => ?_)
        refine g_if_eq (tgt := 80) C hF dX7_load_55 rfl (fun hF => ?_) (fun hF => ?_)
        · refine lv_iload_n C.1 C.2.1 dX7_load_80 rfl (lv_at hl 2 rfl) ?_
          exact hret (s2, t3, f_found) _ _ _ _ dX7_load_81 hF hV
        refine lv_aload_n C.1 C.2.1 dX7_load_58 rfl (lv_at hl 0 rfl) ?_
        refine lv_iload_n C.1 C.2.1 dX7_load_59 rfl (lv_at hl 2 rfl) ?_
        refine lv_aload_n C.1 C.2.1 dX7_load_60 rfl (lv_at hl 0 rfl) ?_
        refine g_get C hV flX7_load_51 0 rfl rfl dX7_load_61 ?_
        refine lv_bipush (v := 40) C.1 C.2.1 dX7_load_64 rfl ?_
        refine lv_iload_n C.1 C.2.1 dX7_load_66 rfl (lv_at hl 1 rfl) ?_
        refine g_imul C hF dX7_load_67 (fun x11 hF => ?_)
        refine lv_iload_n C.1 C.2.1 dX7_load_68 rfl (lv_at hl 2 rfl) ?_
        refine g_iadd C hF dX7_load_69 (fun x12 hF => ?_)
        refine g_iald C hV 4 rfl hF dX7_load_70 (fun x13 hF => ?_)
        obtain ⟨g14, hc, hF⟩ := bd1_s hF
        refine g_cVv (ws' := [oX7 a_t a_d a_e a_kept v_isKept a_found a_tape v_taped v_gone a_hears a_near a_firstDay a_daily v_begin v_round v_leastFar v_leastWhere v_mostLed a_heardNow v_firstMove v_at v_sort v_from v_value v_fault a_bitsOf a_sizeOf a_number a_passing, aA cI a_bitsOf 4 f_bitsOf, aA cI a_d 40 g14, aA cI a_found 7 f_found, aA cI a_number 160 f_number, aA cI a_sizeOf 4 f_sizeOf]) (wr := [aA cI a_bitsOf 4 f_bitsOf, aA cI a_found 7 f_found, aA cI a_number 160 f_number, aA cI a_sizeOf 4 f_sizeOf]) C hV (k_X7_sayOf l dC dI cI cB cO n0 H.size a_t a_d a_e a_kept a_found a_tape a_hears a_near a_firstDay a_daily a_heardNow a_bitsOf a_sizeOf a_number a_passing v_isKept v_taped v_gone v_begin v_round v_leastFar v_leastWhere v_mostLed v_firstMove v_at v_sort v_from v_value v_fault t3 s2 x13 hc) mdX7_sayOf gX7_load_X7_sayOf rfl rfl ⟨Nat.le_of_ble_eq_true rfl, Nat.le_of_ble_eq_true rfl⟩ [0, 2] [1, 3, 4, 5] [4, 0, 5, 1, 2, 3] rfl rfl rfl rfl rfl rfl rfl rfl rfl rfl hl.1 (Nat.le_of_ble_eq_true rfl) rfl dX7_load_71 (fun H locs hV => ?_)
        refine g_iinc C hF dX7_load_74 (d := 1) rfl hl (j := 2) rfl (by decide) (fun y => [(3, .int y), (0, .ref a_t), (1, .int p1)]) (fun _ => rfl) (fun x15 ls hF hl => ?_)
        refine lv_goto (tgt := 18) C.1 C.2.1 dX7_load_77 rfl ?_
        exact ih18 x15 g14 H locs ls hV (lv_sub hl [1, 2, 0] rfl) (hq18 x15 g14 hF)
    exact hL18 n0 0 f_d H locs ls hV (lv_sub hl [2, 3, 0] rfl) hF
  refine lv_aload_n C.1 C.2.1 dX7_load_10 rfl (lv_at hl 1 rfl) ?_
  refine lv_iload_n C.1 C.2.1 dX7_load_11 rfl (lv_at hl 0 rfl) ?_
  obtain ⟨x16, g17, hc, hF⟩ := bd2_s hF
  refine g_cVi (ws' := [oX7 a_t a_d a_e a_kept v_isKept a_found a_tape v_taped v_gone a_hears a_near a_firstDay a_daily v_begin v_round v_leastFar v_leastWhere v_mostLed a_heardNow v_firstMove v_at v_sort v_from v_value v_fault a_bitsOf a_sizeOf a_number a_passing, aA cI a_bitsOf 4 f_bitsOf, aA cI a_d 40 f_d, aA cI a_found 7 g17, aA cI a_number 160 f_number, aA cI a_sizeOf 4 f_sizeOf]) (wr := [aA cI a_bitsOf 4 f_bitsOf, aA cI a_d 40 f_d, aA cI a_number 160 f_number, aA cI a_sizeOf 4 f_sizeOf]) C hV (k_X7_finds l dC dI cI cB cO n0 H.size a_t a_d a_e a_kept a_found a_tape a_hears a_near a_firstDay a_daily a_heardNow a_bitsOf a_sizeOf a_number a_passing v_isKept v_taped v_gone v_begin v_round v_leastFar v_leastWhere v_mostLed v_firstMove v_at v_sort v_from v_value v_fault f_found x1 hc) mdX7_finds gX7_load_X7_finds rfl rfl ⟨Nat.le_of_ble_eq_true rfl, Nat.le_of_ble_eq_true rfl⟩ [0, 3] [1, 2, 4, 5] [4, 0, 1, 5, 2, 3] rfl rfl rfl rfl rfl rfl rfl rfl rfl rfl hl.1 (Nat.le_of_ble_eq_true rfl) rfl dX7_load_12 (fun H locs hV => ?_)
  exact hret (x16, f_d, g17) _ _ _ _ dX7_load_15 hF hV
abbrev rmX7_judge : Room := { frames := 4, cells := 0, slots := 0, locals := 92 }
theorem mdX7_judge : gMd yX7_judge wsX7_judge cX7_judge 5 (some .int) 1 := ⟨⟨_, rfl⟩, by decide +kernel⟩
theorem flX7_judge_7 : gFL wsX7_judge RX7 7 7 0 RX7 TX7 28 := ⟨rfl, fun w h => List.mem_cons_of_mem _ (List.mem_append_right _ (h)), Nat.le_of_ble_eq_true rfl, List.mem_cons_of_mem _ (List.mem_append_left _ (List.mem_append_left _ (List.mem_of_getElem? (i := 0) rfl)))⟩
theorem flX7_judge_48 : gFL wsX7_judge RX7 48 7 25 RX7 TX7 28 := ⟨rfl, fun w h => List.mem_cons_of_mem _ (List.mem_append_right _ (h)), Nat.le_of_ble_eq_true rfl, List.mem_cons_of_mem _ (List.mem_append_left _ (List.mem_append_left _ (List.mem_of_getElem? (i := 1) rfl)))⟩
theorem flX7_judge_51 : gFL wsX7_judge RX7 51 7 26 RX7 TX7 28 := ⟨rfl, fun w h => List.mem_cons_of_mem _ (List.mem_append_right _ (h)), Nat.le_of_ble_eq_true rfl, List.mem_cons_of_mem _ (List.mem_append_left _ (List.mem_append_left _ (List.mem_of_getElem? (i := 2) rfl)))⟩
def L_X7_judge_31 (f_sizeOf : Nat → Int32) (p1 : Int32) (f_found : Nat → Int32) (g2 : Nat → Int32) (g3 : Nat → Int32) (n0 : Nat) (f_d : Nat → Int32) (f_number : Nat → Int32) : Nat → Int32 → Int32 → Option (Int32 × (Nat → Int32) × (Nat → Int32) × (Nat → Int32)) := lpp2 (fun s5 s6 kk31 => rd f_sizeOf 4 p1 (fun x7 => (if x7 ≤ s6 then some ((0, f_found, g2, g3) : Int32 × (Nat → Int32) × (Nat → Int32) × (Nat → Int32)) else bd1 (F_X7_nextOf n0 f_d g2 g3 s5) (fun x8 => nm (40 * p1) (fun x9 => nm (x9 + s6) (fun x10 => rd f_number 160 x10 (fun x11 => bd1 (F_X7_ones n0 x8) (fun x12 => (if x11 = x12 then nm (s6 + 1) (fun x13 => kk31 x8 x13) else nm (1 + s6) (fun x14 => some (x14, f_found, g2, g3)))))))))))
def F_X7_judge (n0 : Nat) (v_gone : Int32) (f_bitsOf : Nat → Int32) (f_d : Nat → Int32) (f_found : Nat → Int32) (f_hears : Nat → Int32) (f_near : Nat → Int32) (f_number : Nat → Int32) (f_sizeOf : Nat → Int32) (p1 : Int32) : Option (Int32 × (Nat → Int32) × (Nat → Int32) × (Nat → Int32)) := bd1 (F_X7_whyNone n0 f_bitsOf p1) (fun x1 => (if x1 < 0 then bd2 (F_X7_listen n0 v_gone f_d f_hears f_near) (fun g2 g3 => rd f_d 40 6 (fun x4 => L_X7_judge_31 f_sizeOf p1 f_found g2 g3 n0 f_d f_number n0 x4 0)) else bd2 (F_X7_finds n0 f_found x1) (fun x15 g16 => some (x15, g16, f_hears, f_near))))
set_option maxRecDepth 100000 in
set_option maxHeartbeats 4000000 in
theorem k_X7_judge (l : Launch) (dC : Nat → ClassId) (dI : Nat → Nat → Nat) (cI cB cO : ClassId) (n0 sz : Nat) (a_t : Nat) (a_d : Nat) (a_e : Nat) (a_kept : Nat) (a_found : Nat) (a_tape : Nat) (a_hears : Nat) (a_near : Nat) (a_firstDay : Nat) (a_daily : Nat) (a_heardNow : Nat) (a_bitsOf : Nat) (a_sizeOf : Nat) (a_number : Nat) (a_passing : Nat)   (v_isKept : Int32) (v_taped : Int32) (v_gone : Int32) (v_begin : Int32) (v_round : Int32) (v_leastFar : Int32) (v_leastWhere : Int32) (v_mostLed : Int32) (v_firstMove : Int32) (v_at : Int32) (v_sort : Int32) (v_from : Int32) (v_value : Int64) (v_fault : Int32) (f_bitsOf : Nat → Int32) (f_d : Nat → Int32) (f_found : Nat → Int32) (f_hears : Nat → Int32) (f_near : Nat → Int32) (f_number : Nat → Int32) (f_sizeOf : Nat → Int32) (p1 : Int32)  {ro : Int32} {o0 : Nat → Int32} {o1 : Nat → Int32} {o2 : Nat → Int32} (hF : F_X7_judge n0 v_gone f_bitsOf f_d f_found f_hears f_near f_number f_sizeOf p1 = some (ro, o0, o1, o2)) : Met l yX7_judge wsX7_judge rmX7_judge (va_Pc [.ref a_t, .int p1] (gPre (dC, dI) (gT cI cB cO) sz [oX7 a_t a_d a_e a_kept v_isKept a_found a_tape v_taped v_gone a_hears a_near a_firstDay a_daily v_begin v_round v_leastFar v_leastWhere v_mostLed a_heardNow v_firstMove v_at v_sort v_from v_value v_fault a_bitsOf a_sizeOf a_number a_passing, aA cI a_bitsOf 4 f_bitsOf, aA cI a_d 40 f_d, aA cI a_found 7 f_found, aA cI a_hears 10 f_hears, aA cI a_near 10 f_near, aA cI a_number 160 f_number, aA cI a_sizeOf 4 f_sizeOf])) (gQi (dC, dI) (gT cI cB cO) sz [oX7 a_t a_d a_e a_kept v_isKept a_found a_tape v_taped v_gone a_hears a_near a_firstDay a_daily v_begin v_round v_leastFar v_leastWhere v_mostLed a_heardNow v_firstMove v_at v_sort v_from v_value v_fault a_bitsOf a_sizeOf a_number a_passing, aA cI a_bitsOf 4 f_bitsOf, aA cI a_d 40 f_d, aA cI a_found 7 f_found, aA cI a_hears 10 f_hears, aA cI a_near 10 f_near, aA cI a_number 160 f_number, aA cI a_sizeOf 4 f_sizeOf] ro [oX7 a_t a_d a_e a_kept v_isKept a_found a_tape v_taped v_gone a_hears a_near a_firstDay a_daily v_begin v_round v_leastFar v_leastWhere v_mostLed a_heardNow v_firstMove v_at v_sort v_from v_value v_fault a_bitsOf a_sizeOf a_number a_passing, aA cI a_bitsOf 4 f_bitsOf, aA cI a_d 40 f_d, aA cI a_found 7 o0, aA cI a_hears 10 o1, aA cI a_near 10 o2, aA cI a_number 160 f_number, aA cI a_sizeOf 4 f_sizeOf]) 0 0 (va_A [oX7 a_t a_d a_e a_kept v_isKept a_found a_tape v_taped v_gone a_hears a_near a_firstDay a_daily v_begin v_round v_leastFar v_leastWhere v_mostLed a_heardNow v_firstMove v_at v_sort v_from v_value v_fault a_bitsOf a_sizeOf a_number a_passing, aA cI a_bitsOf 4 f_bitsOf, aA cI a_d 40 f_d, aA cI a_found 7 f_found, aA cI a_hears 10 f_hears, aA cI a_near 10 f_near, aA cI a_number 160 f_number, aA cI a_sizeOf 4 f_sizeOf] sz) := by
  refine g_metI (Out := Int32 × (Nat → Int32) × (Nat → Int32) × (Nat → Int32)) (fun oo => oo.1) (fun oo => [oX7 a_t a_d a_e a_kept v_isKept a_found a_tape v_taped v_gone a_hears a_near a_firstDay a_daily v_begin v_round v_leastFar v_leastWhere v_mostLed a_heardNow v_firstMove v_at v_sort v_from v_value v_fault a_bitsOf a_sizeOf a_number a_passing, aA cI a_bitsOf 4 f_bitsOf, aA cI a_d 40 f_d, aA cI a_found 7 oo.2.1, aA cI a_hears 10 oo.2.2.1, aA cI a_near 10 oo.2.2.2, aA cI a_number 160 f_number, aA cI a_sizeOf 4 f_sizeOf]) (ro, o0, o1, o2) (own := RX7) (lv := [(0, .ref a_t), (1, .int p1)]) (by decide) rfl rfl (Nat.le_of_ble_eq_true rfl) rfl ?_
  intro p e s m args below meth c Q ls C hret hV hl
  obtain ⟨out, hout⟩ : ∃ z : Int32 × (Nat → Int32) × (Nat → Int32) × (Nat → Int32), z = (ro, o0, o1, o2) := ⟨_, rfl⟩
  rw [← hout] at hF hret
  obtain ⟨H0, hH0⟩ : ∃ z : Heap, z = s.heap := ⟨_, rfl⟩
  obtain ⟨A0, hA0⟩ : ∃ z : Nat → Prop, z = va_A [oX7 a_t a_d a_e a_kept v_isKept a_found a_tape v_taped v_gone a_hears a_near a_firstDay a_daily v_begin v_round v_leastFar v_leastWhere v_mostLed a_heardNow v_firstMove v_at v_sort v_from v_value v_fault a_bitsOf a_sizeOf a_number a_passing, aA cI a_bitsOf 4 f_bitsOf, aA cI a_d 40 f_d, aA cI a_found 7 f_found, aA cI a_hears 10 f_hears, aA cI a_near 10 f_near, aA cI a_number 160 f_number, aA cI a_sizeOf 4 f_sizeOf] s.heap.size := ⟨_, rfl⟩
  rw [← hA0] at hret hV
  rw [← hH0] at hret hV
  rw [← hH0]
  obtain ⟨H, locs, hH⟩ : ∃ (z : Heap) (y : List Loc), z = H0 ∧ y = [] := ⟨_, _, rfl, rfl⟩
  rw [← hH.1, ← hH.2]
  have hV : gV (dC, dI) (gT cI cB cO) A0 H0 s [oX7 a_t a_d a_e a_kept v_isKept a_found a_tape v_taped v_gone a_hears a_near a_firstDay a_daily v_begin v_round v_leastFar v_leastWhere v_mostLed a_heardNow v_firstMove v_at v_sort v_from v_value v_fault a_bitsOf a_sizeOf a_number a_passing, aA cI a_bitsOf 4 f_bitsOf, aA cI a_d 40 f_d, aA cI a_found 7 f_found, aA cI a_hears 10 f_hears, aA cI a_near 10 f_near, aA cI a_number 160 f_number, aA cI a_sizeOf 4 f_sizeOf] H locs := by rw [hH.1, hH.2]; exact hV
  unfold F_X7_judge at hF
  refine lv_aload_n C.1 C.2.1 dX7_judge_0 rfl (lv_at hl 0 rfl) ?_
  refine lv_iload_n C.1 C.2.1 dX7_judge_1 rfl (lv_at hl 1 rfl) ?_
  obtain ⟨x1, hc, hF⟩ := bd1_s hF
  refine g_cVi (ws' := [oX7 a_t a_d a_e a_kept v_isKept a_found a_tape v_taped v_gone a_hears a_near a_firstDay a_daily v_begin v_round v_leastFar v_leastWhere v_mostLed a_heardNow v_firstMove v_at v_sort v_from v_value v_fault a_bitsOf a_sizeOf a_number a_passing, aA cI a_bitsOf 4 f_bitsOf, aA cI a_d 40 f_d, aA cI a_found 7 f_found, aA cI a_hears 10 f_hears, aA cI a_near 10 f_near, aA cI a_number 160 f_number, aA cI a_sizeOf 4 f_sizeOf]) (wr := [aA cI a_d 40 f_d, aA cI a_found 7 f_found, aA cI a_hears 10 f_hears, aA cI a_near 10 f_near, aA cI a_number 160 f_number, aA cI a_sizeOf 4 f_sizeOf]) C hV (k_X7_whyNone l dC dI cI cB cO n0 H.size a_t a_d a_e a_kept a_found a_tape a_hears a_near a_firstDay a_daily a_heardNow a_bitsOf a_sizeOf a_number a_passing v_isKept v_taped v_gone v_begin v_round v_leastFar v_leastWhere v_mostLed v_firstMove v_at v_sort v_from v_value v_fault f_bitsOf p1 hc) mdX7_whyNone gX7_judge_X7_whyNone rfl rfl ⟨Nat.le_of_ble_eq_true rfl, Nat.le_of_ble_eq_true rfl⟩ [0, 1] [2, 3, 4, 5, 6, 7] [6, 7, 0, 1, 2, 3, 4, 5] rfl rfl rfl rfl rfl rfl rfl rfl rfl rfl hl.1 (Nat.le_of_ble_eq_true rfl) rfl dX7_judge_2 (fun H locs hV => ?_)
  refine lv_istore_n (lv' := [(2, .int x1), (0, .ref a_t), (1, .int p1)]) C.1 C.2.1 dX7_judge_5 rfl hl (by decide) rfl (fun ls hl => ?_)
  refine lv_iload_n C.1 C.2.1 dX7_judge_6 rfl (lv_at hl 0 rfl) ?_
  refine g_if_lt (tgt := 16) C hF dX7_judge_7 rfl (fun hF => ?_) (fun hF => ?_)
  · refine lv_aload_n C.1 C.2.1 dX7_judge_16 rfl (lv_at hl 1 rfl) ?_
    obtain ⟨g2, g3, hc, hF⟩ := bd2_s hF
    refine g_cVv (ws' := [oX7 a_t a_d a_e a_kept v_isKept a_found a_tape v_taped v_gone a_hears a_near a_firstDay a_daily v_begin v_round v_leastFar v_leastWhere v_mostLed a_heardNow v_firstMove v_at v_sort v_from v_value v_fault a_bitsOf a_sizeOf a_number a_passing, aA cI a_bitsOf 4 f_bitsOf, aA cI a_d 40 f_d, aA cI a_found 7 f_found, aA cI a_hears 10 g2, aA cI a_near 10 g3, aA cI a_number 160 f_number, aA cI a_sizeOf 4 f_sizeOf]) (wr := [aA cI a_bitsOf 4 f_bitsOf, aA cI a_found 7 f_found, aA cI a_number 160 f_number, aA cI a_sizeOf 4 f_sizeOf]) C hV (k_X7_listen l dC dI cI cB cO n0 H.size a_t a_d a_e a_kept a_found a_tape a_hears a_near a_firstDay a_daily a_heardNow a_bitsOf a_sizeOf a_number a_passing v_isKept v_taped v_gone v_begin v_round v_leastFar v_leastWhere v_mostLed v_firstMove v_at v_sort v_from v_value v_fault f_d f_hears f_near hc) mdX7_listen gX7_judge_X7_listen rfl rfl ⟨Nat.le_of_ble_eq_true rfl, Nat.le_of_ble_eq_true rfl⟩ [0, 2, 4, 5] [1, 3, 6, 7] [4, 0, 5, 1, 6, 7, 2, 3] rfl rfl rfl rfl rfl rfl rfl rfl rfl rfl hl.1 (Nat.le_of_ble_eq_true rfl) rfl dX7_judge_17 (fun H locs hV => ?_)
    refine lv_aload_n C.1 C.2.1 dX7_judge_20 rfl (lv_at hl 1 rfl) ?_
    refine g_get C hV flX7_judge_7 0 rfl rfl dX7_judge_21 ?_
    refine lv_bipush (v := 6) C.1 C.2.1 dX7_judge_24 rfl ?_
    refine g_iald C hV 2 rfl hF dX7_judge_26 (fun x4 hF => ?_)
    refine lv_istore_n (lv' := [(3, .int x4), (2, .int x1), (0, .ref a_t), (1, .int p1)]) C.1 C.2.1 dX7_judge_27 rfl hl (by decide) rfl (fun ls hl => ?_)
    refine lv_iconst (v := 0) C.1 C.2.1 dX7_judge_28 rfl ?_
    refine lv_istore (lv' := [(4, .int 0), (3, .int x4), (2, .int x1), (0, .ref a_t), (1, .int p1)]) C.1 C.2.1 dX7_judge_29 hl (by decide) rfl (fun ls hl => ?_)
    have hL31 : ∀ (n : Nat) (s5 : Int32) (s6 : Int32) (H : Heap) (locs : List Loc) (ls : Array Slot), gV (dC, dI) (gT cI cB cO) A0 H0 s [oX7 a_t a_d a_e a_kept v_isKept a_found a_tape v_taped v_gone a_hears a_near a_firstDay a_daily v_begin v_round v_leastFar v_leastWhere v_mostLed a_heardNow v_firstMove v_at v_sort v_from v_value v_fault a_bitsOf a_sizeOf a_number a_passing, aA cI a_bitsOf 4 f_bitsOf, aA cI a_d 40 f_d, aA cI a_found 7 f_found, aA cI a_hears 10 g2, aA cI a_near 10 g3, aA cI a_number 160 f_number, aA cI a_sizeOf 4 f_sizeOf] H locs → lv_has ls 5 [(0, .ref a_t), (1, .int p1), (3, .int s5), (4, .int s6)] → L_X7_judge_31 f_sizeOf p1 f_found g2 g3 n0 f_d f_number n s5 s6 = some out → W p l e rmX7_judge s m args below meth c H locs 0 0 Q (F0 m 31 ls []) := by
      intro n
      induction n with
      | zero => intro s5 s6 H locs ls hV hl hF; exact lpp2_z hF
      | succ n ih31 =>
        intro s5 s6 H locs ls hV hl hF
        obtain ⟨kk31, hk31, hF⟩ := lpp2_g hF
        have hq31 : ∀ (s5 : Int32) (s6 : Int32), kk31 s5 s6 = some out → L_X7_judge_31 f_sizeOf p1 f_found g2 g3 n0 f_d f_number n s5 s6 = some out := fun _ _ h => by rw [hk31] at h; exact h
        refine lv_iload C.1 C.2.1 dX7_judge_31 (lv_at hl 3 rfl) ?_
        refine lv_aload_n C.1 C.2.1 dX7_judge_33 rfl (lv_at hl 0 rfl) ?_
        refine g_get C hV flX7_judge_48 0 rfl rfl dX7_judge_34 ?_
        refine lv_iload_n C.1 C.2.1 dX7_judge_37 rfl (lv_at hl 1 rfl) ?_
        refine g_iald C hV 7 rfl hF dX7_judge_38 (fun x7 hF => ?_)
        refine g_icmp_ge (tgt := 78) C hF dX7_judge_39 rfl (fun hF => ?_) (fun hF => ?_)
        · refine lv_iconst (v := 0) C.1 C.2.1 dX7_judge_78 rfl ?_
          exact hret ((0, f_found, g2, g3) : Int32 × (Nat → Int32) × (Nat → Int32) × (Nat → Int32)) _ _ _ _ dX7_judge_79 hF hV
        refine lv_aload_n C.1 C.2.1 dX7_judge_42 rfl (lv_at hl 0 rfl) ?_
        refine lv_iload_n C.1 C.2.1 dX7_judge_43 rfl (lv_at hl 2 rfl) ?_
        obtain ⟨x8, hc, hF⟩ := bd1_s hF
        refine g_cVi (ws' := [oX7 a_t a_d a_e a_kept v_isKept a_found a_tape v_taped v_gone a_hears a_near a_firstDay a_daily v_begin v_round v_leastFar v_leastWhere v_mostLed a_heardNow v_firstMove v_at v_sort v_from v_value v_fault a_bitsOf a_sizeOf a_number a_passing, aA cI a_bitsOf 4 f_bitsOf, aA cI a_d 40 f_d, aA cI a_found 7 f_found, aA cI a_hears 10 g2, aA cI a_near 10 g3, aA cI a_number 160 f_number, aA cI a_sizeOf 4 f_sizeOf]) (wr := [aA cI a_bitsOf 4 f_bitsOf, aA cI a_found 7 f_found, aA cI a_number 160 f_number, aA cI a_sizeOf 4 f_sizeOf]) C hV (k_X7_nextOf l dC dI cI cB cO n0 H.size a_t a_d a_e a_kept a_found a_tape a_hears a_near a_firstDay a_daily a_heardNow a_bitsOf a_sizeOf a_number a_passing v_isKept v_taped v_gone v_begin v_round v_leastFar v_leastWhere v_mostLed v_firstMove v_at v_sort v_from v_value v_fault f_d g2 g3 s5 hc) mdX7_nextOf gX7_judge_X7_nextOf rfl rfl ⟨Nat.le_of_ble_eq_true rfl, Nat.le_of_ble_eq_true rfl⟩ [0, 2, 4, 5] [1, 3, 6, 7] [4, 0, 5, 1, 6, 7, 2, 3] rfl rfl rfl rfl rfl rfl rfl rfl rfl rfl hl.1 (Nat.le_of_ble_eq_true rfl) rfl dX7_judge_44 (fun H locs hV => ?_)
        refine lv_istore_n (lv' := [(3, .int x8), (0, .ref a_t), (1, .int p1), (4, .int s6)]) C.1 C.2.1 dX7_judge_47 rfl hl (by decide) rfl (fun ls hl => ?_)
        refine lv_aload_n C.1 C.2.1 dX7_judge_48 rfl (lv_at hl 1 rfl) ?_
        refine g_get C hV flX7_judge_51 0 rfl rfl dX7_judge_49 ?_
        refine lv_bipush (v := 40) C.1 C.2.1 dX7_judge_52 rfl ?_
        refine lv_iload_n C.1 C.2.1 dX7_judge_54 rfl (lv_at hl 2 rfl) ?_
        refine g_imul C hF dX7_judge_55 (fun x9 hF => ?_)
        refine lv_iload C.1 C.2.1 dX7_judge_56 (lv_at hl 3 rfl) ?_
        refine g_iadd C hF dX7_judge_58 (fun x10 hF => ?_)
        refine g_iald C hV 6 rfl hF dX7_judge_59 (fun x11 hF => ?_)
        refine lv_iload_n C.1 C.2.1 dX7_judge_60 rfl (lv_at hl 0 rfl) ?_
        obtain ⟨x12, hc, hF⟩ := bd1_s hF
        refine g_cSi (ws' := [oX7 a_t a_d a_e a_kept v_isKept a_found a_tape v_taped v_gone a_hears a_near a_firstDay a_daily v_begin v_round v_leastFar v_leastWhere v_mostLed a_heardNow v_firstMove v_at v_sort v_from v_value v_fault a_bitsOf a_sizeOf a_number a_passing, aA cI a_bitsOf 4 f_bitsOf, aA cI a_d 40 f_d, aA cI a_found 7 f_found, aA cI a_hears 10 g2, aA cI a_near 10 g3, aA cI a_number 160 f_number, aA cI a_sizeOf 4 f_sizeOf]) (wr := [oX7 a_t a_d a_e a_kept v_isKept a_found a_tape v_taped v_gone a_hears a_near a_firstDay a_daily v_begin v_round v_leastFar v_leastWhere v_mostLed a_heardNow v_firstMove v_at v_sort v_from v_value v_fault a_bitsOf a_sizeOf a_number a_passing, aA cI a_bitsOf 4 f_bitsOf, aA cI a_d 40 f_d, aA cI a_found 7 f_found, aA cI a_hears 10 g2, aA cI a_near 10 g3, aA cI a_number 160 f_number, aA cI a_sizeOf 4 f_sizeOf]) C hV (k_X7_ones l dC dI cI cB cO n0 H.size x8 hc) mdX7_ones gX7_judge_X7_ones rfl rfl ⟨Nat.le_of_ble_eq_true rfl, Nat.le_of_ble_eq_true rfl⟩ [] [0, 1, 2, 3, 4, 5, 6, 7] [0, 1, 2, 3, 4, 5, 6, 7] rfl rfl rfl rfl rfl rfl rfl rfl hl.1 (Nat.le_of_ble_eq_true rfl) rfl dX7_judge_61 (fun H locs hV => ?_)
        refine g_icmp_eq (tgt := 72) C hF dX7_judge_64 rfl (fun hF => ?_) (fun hF => ?_)
        · refine g_iinc C hF dX7_judge_72 (d := 1) rfl hl (j := 3) rfl (by decide) (fun y => [(4, .int y), (3, .int x8), (0, .ref a_t), (1, .int p1)]) (fun _ => rfl) (fun x13 ls hF hl => ?_)
          refine lv_goto (tgt := 31) C.1 C.2.1 dX7_judge_75 rfl ?_
          exact ih31 x8 x13 H locs ls hV (lv_sub hl [2, 3, 1, 0] rfl) (hq31 x8 x13 hF)
        refine lv_iconst (v := 1) C.1 C.2.1 dX7_judge_67 rfl ?_
        refine lv_iload C.1 C.2.1 dX7_judge_68 (lv_at hl 3 rfl) ?_
        refine g_iadd C hF dX7_judge_70 (fun x14 hF => ?_)
        exact hret (x14, f_found, g2, g3) _ _ _ _ dX7_judge_71 hF hV
    exact hL31 n0 x4 0 H locs ls hV (lv_sub hl [3, 4, 1, 0] rfl) hF
  refine lv_aload_n C.1 C.2.1 dX7_judge_10 rfl (lv_at hl 1 rfl) ?_
  refine lv_iload_n C.1 C.2.1 dX7_judge_11 rfl (lv_at hl 0 rfl) ?_
  obtain ⟨x15, g16, hc, hF⟩ := bd2_s hF
  refine g_cVi (ws' := [oX7 a_t a_d a_e a_kept v_isKept a_found a_tape v_taped v_gone a_hears a_near a_firstDay a_daily v_begin v_round v_leastFar v_leastWhere v_mostLed a_heardNow v_firstMove v_at v_sort v_from v_value v_fault a_bitsOf a_sizeOf a_number a_passing, aA cI a_bitsOf 4 f_bitsOf, aA cI a_d 40 f_d, aA cI a_found 7 g16, aA cI a_hears 10 f_hears, aA cI a_near 10 f_near, aA cI a_number 160 f_number, aA cI a_sizeOf 4 f_sizeOf]) (wr := [aA cI a_bitsOf 4 f_bitsOf, aA cI a_d 40 f_d, aA cI a_hears 10 f_hears, aA cI a_near 10 f_near, aA cI a_number 160 f_number, aA cI a_sizeOf 4 f_sizeOf]) C hV (k_X7_finds l dC dI cI cB cO n0 H.size a_t a_d a_e a_kept a_found a_tape a_hears a_near a_firstDay a_daily a_heardNow a_bitsOf a_sizeOf a_number a_passing v_isKept v_taped v_gone v_begin v_round v_leastFar v_leastWhere v_mostLed v_firstMove v_at v_sort v_from v_value v_fault f_found x1 hc) mdX7_finds gX7_judge_X7_finds rfl rfl ⟨Nat.le_of_ble_eq_true rfl, Nat.le_of_ble_eq_true rfl⟩ [0, 3] [1, 2, 4, 5, 6, 7] [6, 0, 1, 7, 2, 3, 4, 5] rfl rfl rfl rfl rfl rfl rfl rfl rfl rfl hl.1 (Nat.le_of_ble_eq_true rfl) rfl dX7_judge_12 (fun H locs hV => ?_)
  exact hret (x15, g16, f_hears, f_near) _ _ _ _ dX7_judge_15 hF hV
abbrev rmX7_image : Room := { frames := 1, cells := 0, slots := 0, locals := 22 }
theorem mdX7_image : gMd yX7_image wsX7_image cX7_image 1 (some .int) 0 := ⟨⟨_, rfl⟩, by decide +kernel⟩
theorem flX7_image_7 : gFL wsX7_image RX7 7 7 0 RX7 TX7 28 := ⟨rfl, fun w h => List.mem_cons_of_mem _ (List.mem_append_right _ (h)), Nat.le_of_ble_eq_true rfl, List.mem_cons_of_mem _ (List.mem_append_left _ (List.mem_of_getElem? (i := 0) rfl))⟩
theorem flX7_image_16 : gFL wsX7_image RX7 16 7 2 RX7 TX7 28 := ⟨rfl, fun w h => List.mem_cons_of_mem _ (List.mem_append_right _ (h)), Nat.le_of_ble_eq_true rfl, List.mem_cons_of_mem _ (List.mem_append_left _ (List.mem_of_getElem? (i := 1) rfl))⟩
theorem flX7_image_323 : gFL wsX7_image RX7 323 7 3 RX7 TX7 28 := ⟨rfl, fun w h => List.mem_cons_of_mem _ (List.mem_append_right _ (h)), Nat.le_of_ble_eq_true rfl, List.mem_cons_of_mem _ (List.mem_append_left _ (List.mem_of_getElem? (i := 2) rfl))⟩
theorem fpX7_image_323 : gFP wsX7_image RX7 323 7 3 RX7 TX7 28 .boolean := ⟨flX7_image_323, ⟨tyX7, tyX7_ok⟩, nmX7, rfl, by decide +kernel⟩
def F_X7_image (n0 : Nat) (v_isKept : Int32) (f_d : Nat → Int32) (f_kept : Nat → Int32) : Option (Int32 × Int32 × (Nat → Int32)) := bd1 (F_X7_copies n0 40 40 f_d f_kept) (fun g1 => some ((1, 1, g1) : Int32 × Int32 × (Nat → Int32)))
set_option maxRecDepth 100000 in
set_option maxHeartbeats 4000000 in
theorem k_X7_image (l : Launch) (dC : Nat → ClassId) (dI : Nat → Nat → Nat) (cI cB cO : ClassId) (n0 sz : Nat) (a_t : Nat) (a_d : Nat) (a_e : Nat) (a_kept : Nat) (a_found : Nat) (a_tape : Nat) (a_hears : Nat) (a_near : Nat) (a_firstDay : Nat) (a_daily : Nat) (a_heardNow : Nat) (a_bitsOf : Nat) (a_sizeOf : Nat) (a_number : Nat) (a_passing : Nat)   (v_isKept : Int32) (v_taped : Int32) (v_gone : Int32) (v_begin : Int32) (v_round : Int32) (v_leastFar : Int32) (v_leastWhere : Int32) (v_mostLed : Int32) (v_firstMove : Int32) (v_at : Int32) (v_sort : Int32) (v_from : Int32) (v_value : Int64) (v_fault : Int32) (f_d : Nat → Int32) (f_kept : Nat → Int32)   {ro : Int32} {o0 : Int32} {o1 : Nat → Int32} (hF : F_X7_image n0 v_isKept f_d f_kept = some (ro, o0, o1)) : Met l yX7_image wsX7_image rmX7_image (va_Pc [.ref a_t] (gPre (dC, dI) (gT cI cB cO) sz [oX7 a_t a_d a_e a_kept v_isKept a_found a_tape v_taped v_gone a_hears a_near a_firstDay a_daily v_begin v_round v_leastFar v_leastWhere v_mostLed a_heardNow v_firstMove v_at v_sort v_from v_value v_fault a_bitsOf a_sizeOf a_number a_passing, aA cI a_d 40 f_d, aA cI a_kept 40 f_kept])) (gQi (dC, dI) (gT cI cB cO) sz [oX7 a_t a_d a_e a_kept v_isKept a_found a_tape v_taped v_gone a_hears a_near a_firstDay a_daily v_begin v_round v_leastFar v_leastWhere v_mostLed a_heardNow v_firstMove v_at v_sort v_from v_value v_fault a_bitsOf a_sizeOf a_number a_passing, aA cI a_d 40 f_d, aA cI a_kept 40 f_kept] ro [oX7 a_t a_d a_e a_kept o0 a_found a_tape v_taped v_gone a_hears a_near a_firstDay a_daily v_begin v_round v_leastFar v_leastWhere v_mostLed a_heardNow v_firstMove v_at v_sort v_from v_value v_fault a_bitsOf a_sizeOf a_number a_passing, aA cI a_d 40 f_d, aA cI a_kept 40 o1]) 0 0 (va_A [oX7 a_t a_d a_e a_kept v_isKept a_found a_tape v_taped v_gone a_hears a_near a_firstDay a_daily v_begin v_round v_leastFar v_leastWhere v_mostLed a_heardNow v_firstMove v_at v_sort v_from v_value v_fault a_bitsOf a_sizeOf a_number a_passing, aA cI a_d 40 f_d, aA cI a_kept 40 f_kept] sz) := by
  refine g_metI (Out := Int32 × Int32 × (Nat → Int32)) (fun oo => oo.1) (fun oo => [oX7 a_t a_d a_e a_kept oo.2.1 a_found a_tape v_taped v_gone a_hears a_near a_firstDay a_daily v_begin v_round v_leastFar v_leastWhere v_mostLed a_heardNow v_firstMove v_at v_sort v_from v_value v_fault a_bitsOf a_sizeOf a_number a_passing, aA cI a_d 40 f_d, aA cI a_kept 40 oo.2.2]) (ro, o0, o1) (own := RX7) (lv := [(0, .ref a_t)]) (by decide) rfl rfl (Nat.le_of_ble_eq_true rfl) rfl ?_
  intro p e s m args below meth c Q ls C hret hV hl
  obtain ⟨out, hout⟩ : ∃ z : Int32 × Int32 × (Nat → Int32), z = (ro, o0, o1) := ⟨_, rfl⟩
  rw [← hout] at hF hret
  obtain ⟨H0, hH0⟩ : ∃ z : Heap, z = s.heap := ⟨_, rfl⟩
  obtain ⟨A0, hA0⟩ : ∃ z : Nat → Prop, z = va_A [oX7 a_t a_d a_e a_kept v_isKept a_found a_tape v_taped v_gone a_hears a_near a_firstDay a_daily v_begin v_round v_leastFar v_leastWhere v_mostLed a_heardNow v_firstMove v_at v_sort v_from v_value v_fault a_bitsOf a_sizeOf a_number a_passing, aA cI a_d 40 f_d, aA cI a_kept 40 f_kept] s.heap.size := ⟨_, rfl⟩
  rw [← hA0] at hret hV
  rw [← hH0] at hret hV
  rw [← hH0]
  obtain ⟨H, locs, hH⟩ : ∃ (z : Heap) (y : List Loc), z = H0 ∧ y = [] := ⟨_, _, rfl, rfl⟩
  rw [← hH.1, ← hH.2]
  have hV : gV (dC, dI) (gT cI cB cO) A0 H0 s [oX7 a_t a_d a_e a_kept v_isKept a_found a_tape v_taped v_gone a_hears a_near a_firstDay a_daily v_begin v_round v_leastFar v_leastWhere v_mostLed a_heardNow v_firstMove v_at v_sort v_from v_value v_fault a_bitsOf a_sizeOf a_number a_passing, aA cI a_d 40 f_d, aA cI a_kept 40 f_kept] H locs := by rw [hH.1, hH.2]; exact hV
  unfold F_X7_image at hF
  refine lv_aload_n C.1 C.2.1 dX7_image_0 rfl (lv_at hl 0 rfl) ?_
  refine g_get C hV flX7_image_7 0 rfl rfl dX7_image_1 ?_
  refine lv_aload_n C.1 C.2.1 dX7_image_4 rfl (lv_at hl 0 rfl) ?_
  refine g_get C hV flX7_image_16 0 rfl rfl dX7_image_5 ?_
  obtain ⟨g1, hc, hF⟩ := bd1_s hF
  refine g_cSv (ws' := [oX7 a_t a_d a_e a_kept v_isKept a_found a_tape v_taped v_gone a_hears a_near a_firstDay a_daily v_begin v_round v_leastFar v_leastWhere v_mostLed a_heardNow v_firstMove v_at v_sort v_from v_value v_fault a_bitsOf a_sizeOf a_number a_passing, aA cI a_d 40 f_d, aA cI a_kept 40 g1]) (wr := [oX7 a_t a_d a_e a_kept v_isKept a_found a_tape v_taped v_gone a_hears a_near a_firstDay a_daily v_begin v_round v_leastFar v_leastWhere v_mostLed a_heardNow v_firstMove v_at v_sort v_from v_value v_fault a_bitsOf a_sizeOf a_number a_passing]) C hV (k_X7_copies l dC dI cI cB cO n0 H.size a_d a_kept 40 40 f_d f_kept hc) mdX7_copies gX7_image_X7_copies rfl rfl ⟨Nat.le_of_ble_eq_true rfl, Nat.le_of_ble_eq_true rfl⟩ [1, 2] [0] [0, 1, 2] rfl rfl rfl rfl rfl rfl rfl rfl hl.1 (Nat.le_of_ble_eq_true rfl) rfl dX7_image_8 (fun H locs hV => ?_)
  refine lv_aload_n C.1 C.2.1 dX7_image_11 rfl (lv_at hl 0 rfl) ?_
  refine lv_iconst (v := 1) C.1 C.2.1 dX7_image_12 rfl ?_
  refine g_put (ws' := [oX7 a_t a_d a_e a_kept 1 a_found a_tape v_taped v_gone a_hears a_near a_firstDay a_daily v_begin v_round v_leastFar v_leastWhere v_mostLed a_heardNow v_firstMove v_at v_sort v_from v_value v_fault a_bitsOf a_sizeOf a_number a_passing, aA cI a_d 40 f_d, aA cI a_kept 40 g1]) C hV fpX7_image_323 0 rfl rfl rfl (Nat.le_of_ble_eq_true rfl) rfl dX7_image_13 (fun H locs hV => ?_)
  refine lv_iconst (v := 1) C.1 C.2.1 dX7_image_16 rfl ?_
  exact hret ((1, 1, g1) : Int32 × Int32 × (Nat → Int32)) _ _ _ _ dX7_image_17 hF hV
abbrev rmX7_undo : Room := { frames := 1, cells := 0, slots := 0, locals := 22 }
theorem mdX7_undo : gMd yX7_undo wsX7_undo cX7_undo 1 (some .int) 0 := ⟨⟨_, rfl⟩, by decide +kernel⟩
theorem flX7_undo_323 : gFL wsX7_undo RX7 323 7 3 RX7 TX7 28 := ⟨rfl, fun w h => List.mem_cons_of_mem _ (List.mem_append_right _ (h)), Nat.le_of_ble_eq_true rfl, List.mem_cons_of_mem _ (List.mem_append_left _ (List.mem_of_getElem? (i := 0) rfl))⟩
theorem flX7_undo_16 : gFL wsX7_undo RX7 16 7 2 RX7 TX7 28 := ⟨rfl, fun w h => List.mem_cons_of_mem _ (List.mem_append_right _ (h)), Nat.le_of_ble_eq_true rfl, List.mem_cons_of_mem _ (List.mem_append_left _ (List.mem_of_getElem? (i := 1) rfl))⟩
theorem flX7_undo_7 : gFL wsX7_undo RX7 7 7 0 RX7 TX7 28 := ⟨rfl, fun w h => List.mem_cons_of_mem _ (List.mem_append_right _ (h)), Nat.le_of_ble_eq_true rfl, List.mem_cons_of_mem _ (List.mem_append_left _ (List.mem_of_getElem? (i := 2) rfl))⟩
def F_X7_undo (n0 : Nat) (v_isKept : Int32) (f_d : Nat → Int32) (f_found : Nat → Int32) (f_kept : Nat → Int32) : Option (Int32 × (Nat → Int32) × (Nat → Int32)) := (if v_isKept = 0 then bd2 (F_X7_finds n0 f_found 3) (fun x3 g4 => some (x3, f_d, g4)) else bd1 (F_X7_copies n0 40 40 f_kept f_d) (fun g1 => rd g1 40 1 (fun x2 => some (x2, g1, f_found))))
set_option maxRecDepth 100000 in
set_option maxHeartbeats 4000000 in
theorem k_X7_undo (l : Launch) (dC : Nat → ClassId) (dI : Nat → Nat → Nat) (cI cB cO : ClassId) (n0 sz : Nat) (a_t : Nat) (a_d : Nat) (a_e : Nat) (a_kept : Nat) (a_found : Nat) (a_tape : Nat) (a_hears : Nat) (a_near : Nat) (a_firstDay : Nat) (a_daily : Nat) (a_heardNow : Nat) (a_bitsOf : Nat) (a_sizeOf : Nat) (a_number : Nat) (a_passing : Nat)   (v_isKept : Int32) (v_taped : Int32) (v_gone : Int32) (v_begin : Int32) (v_round : Int32) (v_leastFar : Int32) (v_leastWhere : Int32) (v_mostLed : Int32) (v_firstMove : Int32) (v_at : Int32) (v_sort : Int32) (v_from : Int32) (v_value : Int64) (v_fault : Int32) (f_d : Nat → Int32) (f_found : Nat → Int32) (f_kept : Nat → Int32)   {ro : Int32} {o0 : Nat → Int32} {o1 : Nat → Int32} (hF : F_X7_undo n0 v_isKept f_d f_found f_kept = some (ro, o0, o1)) : Met l yX7_undo wsX7_undo rmX7_undo (va_Pc [.ref a_t] (gPre (dC, dI) (gT cI cB cO) sz [oX7 a_t a_d a_e a_kept v_isKept a_found a_tape v_taped v_gone a_hears a_near a_firstDay a_daily v_begin v_round v_leastFar v_leastWhere v_mostLed a_heardNow v_firstMove v_at v_sort v_from v_value v_fault a_bitsOf a_sizeOf a_number a_passing, aA cI a_d 40 f_d, aA cI a_found 7 f_found, aA cI a_kept 40 f_kept])) (gQi (dC, dI) (gT cI cB cO) sz [oX7 a_t a_d a_e a_kept v_isKept a_found a_tape v_taped v_gone a_hears a_near a_firstDay a_daily v_begin v_round v_leastFar v_leastWhere v_mostLed a_heardNow v_firstMove v_at v_sort v_from v_value v_fault a_bitsOf a_sizeOf a_number a_passing, aA cI a_d 40 f_d, aA cI a_found 7 f_found, aA cI a_kept 40 f_kept] ro [oX7 a_t a_d a_e a_kept v_isKept a_found a_tape v_taped v_gone a_hears a_near a_firstDay a_daily v_begin v_round v_leastFar v_leastWhere v_mostLed a_heardNow v_firstMove v_at v_sort v_from v_value v_fault a_bitsOf a_sizeOf a_number a_passing, aA cI a_d 40 o0, aA cI a_found 7 o1, aA cI a_kept 40 f_kept]) 0 0 (va_A [oX7 a_t a_d a_e a_kept v_isKept a_found a_tape v_taped v_gone a_hears a_near a_firstDay a_daily v_begin v_round v_leastFar v_leastWhere v_mostLed a_heardNow v_firstMove v_at v_sort v_from v_value v_fault a_bitsOf a_sizeOf a_number a_passing, aA cI a_d 40 f_d, aA cI a_found 7 f_found, aA cI a_kept 40 f_kept] sz) := by
  refine g_metI (Out := Int32 × (Nat → Int32) × (Nat → Int32)) (fun oo => oo.1) (fun oo => [oX7 a_t a_d a_e a_kept v_isKept a_found a_tape v_taped v_gone a_hears a_near a_firstDay a_daily v_begin v_round v_leastFar v_leastWhere v_mostLed a_heardNow v_firstMove v_at v_sort v_from v_value v_fault a_bitsOf a_sizeOf a_number a_passing, aA cI a_d 40 oo.2.1, aA cI a_found 7 oo.2.2, aA cI a_kept 40 f_kept]) (ro, o0, o1) (own := RX7) (lv := [(0, .ref a_t)]) (by decide) rfl rfl (Nat.le_of_ble_eq_true rfl) rfl ?_
  intro p e s m args below meth c Q ls C hret hV hl
  obtain ⟨out, hout⟩ : ∃ z : Int32 × (Nat → Int32) × (Nat → Int32), z = (ro, o0, o1) := ⟨_, rfl⟩
  rw [← hout] at hF hret
  obtain ⟨H0, hH0⟩ : ∃ z : Heap, z = s.heap := ⟨_, rfl⟩
  obtain ⟨A0, hA0⟩ : ∃ z : Nat → Prop, z = va_A [oX7 a_t a_d a_e a_kept v_isKept a_found a_tape v_taped v_gone a_hears a_near a_firstDay a_daily v_begin v_round v_leastFar v_leastWhere v_mostLed a_heardNow v_firstMove v_at v_sort v_from v_value v_fault a_bitsOf a_sizeOf a_number a_passing, aA cI a_d 40 f_d, aA cI a_found 7 f_found, aA cI a_kept 40 f_kept] s.heap.size := ⟨_, rfl⟩
  rw [← hA0] at hret hV
  rw [← hH0] at hret hV
  rw [← hH0]
  obtain ⟨H, locs, hH⟩ : ∃ (z : Heap) (y : List Loc), z = H0 ∧ y = [] := ⟨_, _, rfl, rfl⟩
  rw [← hH.1, ← hH.2]
  have hV : gV (dC, dI) (gT cI cB cO) A0 H0 s [oX7 a_t a_d a_e a_kept v_isKept a_found a_tape v_taped v_gone a_hears a_near a_firstDay a_daily v_begin v_round v_leastFar v_leastWhere v_mostLed a_heardNow v_firstMove v_at v_sort v_from v_value v_fault a_bitsOf a_sizeOf a_number a_passing, aA cI a_d 40 f_d, aA cI a_found 7 f_found, aA cI a_kept 40 f_kept] H locs := by rw [hH.1, hH.2]; exact hV
  unfold F_X7_undo at hF
  refine lv_aload_n C.1 C.2.1 dX7_undo_0 rfl (lv_at hl 0 rfl) ?_
  refine g_get C hV flX7_undo_323 0 rfl rfl dX7_undo_1 ?_
  refine g_if_ne (tgt := 13) C hF dX7_undo_4 rfl (fun hF => ?_) (fun hF => ?_)
  · refine lv_aload_n C.1 C.2.1 dX7_undo_13 rfl (lv_at hl 0 rfl) ?_
    refine g_get C hV flX7_undo_16 0 rfl rfl dX7_undo_14 ?_
    refine lv_aload_n C.1 C.2.1 dX7_undo_17 rfl (lv_at hl 0 rfl) ?_
    refine g_get C hV flX7_undo_7 0 rfl rfl dX7_undo_18 ?_
    obtain ⟨g1, hc, hF⟩ := bd1_s hF
    refine g_cSv (ws' := [oX7 a_t a_d a_e a_kept v_isKept a_found a_tape v_taped v_gone a_hears a_near a_firstDay a_daily v_begin v_round v_leastFar v_leastWhere v_mostLed a_heardNow v_firstMove v_at v_sort v_from v_value v_fault a_bitsOf a_sizeOf a_number a_passing, aA cI a_d 40 g1, aA cI a_found 7 f_found, aA cI a_kept 40 f_kept]) (wr := [oX7 a_t a_d a_e a_kept v_isKept a_found a_tape v_taped v_gone a_hears a_near a_firstDay a_daily v_begin v_round v_leastFar v_leastWhere v_mostLed a_heardNow v_firstMove v_at v_sort v_from v_value v_fault a_bitsOf a_sizeOf a_number a_passing, aA cI a_found 7 f_found]) C hV (k_X7_copies l dC dI cI cB cO n0 H.size a_kept a_d 40 40 f_kept f_d hc) mdX7_copies gX7_undo_X7_copies rfl rfl ⟨Nat.le_of_ble_eq_true rfl, Nat.le_of_ble_eq_true rfl⟩ [3, 1] [0, 2] [0, 3, 1, 2] rfl rfl rfl rfl rfl rfl rfl rfl hl.1 (Nat.le_of_ble_eq_true rfl) rfl dX7_undo_21 (fun H locs hV => ?_)
    refine lv_aload_n C.1 C.2.1 dX7_undo_24 rfl (lv_at hl 0 rfl) ?_
    refine g_get C hV flX7_undo_7 0 rfl rfl dX7_undo_25 ?_
    refine lv_iconst (v := 1) C.1 C.2.1 dX7_undo_28 rfl ?_
    refine g_iald C hV 1 rfl hF dX7_undo_29 (fun x2 hF => ?_)
    exact hret (x2, g1, f_found) _ _ _ _ dX7_undo_30 hF hV
  refine lv_aload_n C.1 C.2.1 dX7_undo_7 rfl (lv_at hl 0 rfl) ?_
  refine lv_iconst (v := 3) C.1 C.2.1 dX7_undo_8 rfl ?_
  obtain ⟨x3, g4, hc, hF⟩ := bd2_s hF
  refine g_cVi (ws' := [oX7 a_t a_d a_e a_kept v_isKept a_found a_tape v_taped v_gone a_hears a_near a_firstDay a_daily v_begin v_round v_leastFar v_leastWhere v_mostLed a_heardNow v_firstMove v_at v_sort v_from v_value v_fault a_bitsOf a_sizeOf a_number a_passing, aA cI a_d 40 f_d, aA cI a_found 7 g4, aA cI a_kept 40 f_kept]) (wr := [aA cI a_d 40 f_d, aA cI a_kept 40 f_kept]) C hV (k_X7_finds l dC dI cI cB cO n0 H.size a_t a_d a_e a_kept a_found a_tape a_hears a_near a_firstDay a_daily a_heardNow a_bitsOf a_sizeOf a_number a_passing v_isKept v_taped v_gone v_begin v_round v_leastFar v_leastWhere v_mostLed v_firstMove v_at v_sort v_from v_value v_fault f_found 3 hc) mdX7_finds gX7_undo_X7_finds rfl rfl ⟨Nat.le_of_ble_eq_true rfl, Nat.le_of_ble_eq_true rfl⟩ [0, 2] [1, 3] [2, 0, 3, 1] rfl rfl rfl rfl rfl rfl rfl rfl rfl rfl hl.1 (Nat.le_of_ble_eq_true rfl) rfl dX7_undo_9 (fun H locs hV => ?_)
  exact hret (x3, f_d, g4) _ _ _ _ dX7_undo_12 hF hV
abbrev rmX7_tear : Room := { frames := 0, cells := 0, slots := 0, locals := 0 }
theorem mdX7_tear : gMd yX7_tear wsX7_tear cX7_tear 2 (some .int) 0 := ⟨⟨_, rfl⟩, by decide +kernel⟩
theorem flX7_tear_323 : gFL wsX7_tear RX7 323 7 3 RX7 TX7 28 := ⟨rfl, fun w h => List.mem_cons_of_mem _ (List.mem_append_right _ (h)), Nat.le_of_ble_eq_true rfl, List.mem_cons_of_mem _ (List.mem_append_left _ (List.mem_of_getElem? (i := 0) rfl))⟩
theorem fpX7_tear_323 : gFP wsX7_tear RX7 323 7 3 RX7 TX7 28 .boolean := ⟨flX7_tear_323, ⟨tyX7, tyX7_ok⟩, nmX7, rfl, by decide +kernel⟩
def F_X7_tear (n0 : Nat) (v_isKept : Int32) : Option (Int32 × Int32) := (if v_isKept = 0 then some ((0, 0) : Int32 × Int32) else some ((1, 0) : Int32 × Int32))
set_option maxRecDepth 100000 in
set_option maxHeartbeats 4000000 in
theorem k_X7_tear (l : Launch) (dC : Nat → ClassId) (dI : Nat → Nat → Nat) (cI cB cO : ClassId) (n0 sz : Nat) (a_t : Nat) (a_d : Nat) (a_e : Nat) (a_kept : Nat) (a_found : Nat) (a_tape : Nat) (a_hears : Nat) (a_near : Nat) (a_firstDay : Nat) (a_daily : Nat) (a_heardNow : Nat) (a_bitsOf : Nat) (a_sizeOf : Nat) (a_number : Nat) (a_passing : Nat)   (v_isKept : Int32) (v_taped : Int32) (v_gone : Int32) (v_begin : Int32) (v_round : Int32) (v_leastFar : Int32) (v_leastWhere : Int32) (v_mostLed : Int32) (v_firstMove : Int32) (v_at : Int32) (v_sort : Int32) (v_from : Int32) (v_value : Int64) (v_fault : Int32)   {ro : Int32} {o0 : Int32} (hF : F_X7_tear n0 v_isKept = some (ro, o0)) : Met l yX7_tear wsX7_tear rmX7_tear (va_Pc [.ref a_t] (gPre (dC, dI) (gT cI cB cO) sz [oX7 a_t a_d a_e a_kept v_isKept a_found a_tape v_taped v_gone a_hears a_near a_firstDay a_daily v_begin v_round v_leastFar v_leastWhere v_mostLed a_heardNow v_firstMove v_at v_sort v_from v_value v_fault a_bitsOf a_sizeOf a_number a_passing])) (gQi (dC, dI) (gT cI cB cO) sz [oX7 a_t a_d a_e a_kept v_isKept a_found a_tape v_taped v_gone a_hears a_near a_firstDay a_daily v_begin v_round v_leastFar v_leastWhere v_mostLed a_heardNow v_firstMove v_at v_sort v_from v_value v_fault a_bitsOf a_sizeOf a_number a_passing] ro [oX7 a_t a_d a_e a_kept o0 a_found a_tape v_taped v_gone a_hears a_near a_firstDay a_daily v_begin v_round v_leastFar v_leastWhere v_mostLed a_heardNow v_firstMove v_at v_sort v_from v_value v_fault a_bitsOf a_sizeOf a_number a_passing]) 0 0 (va_A [oX7 a_t a_d a_e a_kept v_isKept a_found a_tape v_taped v_gone a_hears a_near a_firstDay a_daily v_begin v_round v_leastFar v_leastWhere v_mostLed a_heardNow v_firstMove v_at v_sort v_from v_value v_fault a_bitsOf a_sizeOf a_number a_passing] sz) := by
  refine g_metI (Out := Int32 × Int32) (fun oo => oo.1) (fun oo => [oX7 a_t a_d a_e a_kept oo.2 a_found a_tape v_taped v_gone a_hears a_near a_firstDay a_daily v_begin v_round v_leastFar v_leastWhere v_mostLed a_heardNow v_firstMove v_at v_sort v_from v_value v_fault a_bitsOf a_sizeOf a_number a_passing]) (ro, o0) (own := RX7) (lv := [(0, .ref a_t)]) (by decide) rfl rfl (Nat.le_of_ble_eq_true rfl) rfl ?_
  intro p e s m args below meth c Q ls C hret hV hl
  obtain ⟨out, hout⟩ : ∃ z : Int32 × Int32, z = (ro, o0) := ⟨_, rfl⟩
  rw [← hout] at hF hret
  obtain ⟨H0, hH0⟩ : ∃ z : Heap, z = s.heap := ⟨_, rfl⟩
  obtain ⟨A0, hA0⟩ : ∃ z : Nat → Prop, z = va_A [oX7 a_t a_d a_e a_kept v_isKept a_found a_tape v_taped v_gone a_hears a_near a_firstDay a_daily v_begin v_round v_leastFar v_leastWhere v_mostLed a_heardNow v_firstMove v_at v_sort v_from v_value v_fault a_bitsOf a_sizeOf a_number a_passing] s.heap.size := ⟨_, rfl⟩
  rw [← hA0] at hret hV
  rw [← hH0] at hret hV
  rw [← hH0]
  obtain ⟨H, locs, hH⟩ : ∃ (z : Heap) (y : List Loc), z = H0 ∧ y = [] := ⟨_, _, rfl, rfl⟩
  rw [← hH.1, ← hH.2]
  have hV : gV (dC, dI) (gT cI cB cO) A0 H0 s [oX7 a_t a_d a_e a_kept v_isKept a_found a_tape v_taped v_gone a_hears a_near a_firstDay a_daily v_begin v_round v_leastFar v_leastWhere v_mostLed a_heardNow v_firstMove v_at v_sort v_from v_value v_fault a_bitsOf a_sizeOf a_number a_passing] H locs := by rw [hH.1, hH.2]; exact hV
  unfold F_X7_tear at hF
  refine lv_aload_n C.1 C.2.1 dX7_tear_0 rfl (lv_at hl 0 rfl) ?_
  refine g_get C hV flX7_tear_323 0 rfl rfl dX7_tear_1 ?_
  refine g_if_eq (tgt := 11) C hF dX7_tear_4 rfl (fun hF => ?_) (fun hF => ?_)
  · refine lv_iconst (v := 0) C.1 C.2.1 dX7_tear_11 rfl ?_
    refine lv_istore_n (lv' := [(1, .int 0), (0, .ref a_t)]) C.1 C.2.1 dX7_tear_12 rfl hl (by decide) rfl (fun ls hl => ?_)
    refine lv_aload_n C.1 C.2.1 dX7_tear_13 rfl (lv_at hl 1 rfl) ?_
    refine lv_iconst (v := 0) C.1 C.2.1 dX7_tear_14 rfl ?_
    refine g_put (ws' := [oX7 a_t a_d a_e a_kept 0 a_found a_tape v_taped v_gone a_hears a_near a_firstDay a_daily v_begin v_round v_leastFar v_leastWhere v_mostLed a_heardNow v_firstMove v_at v_sort v_from v_value v_fault a_bitsOf a_sizeOf a_number a_passing]) C hV fpX7_tear_323 0 rfl rfl rfl (Nat.le_of_ble_eq_true rfl) rfl dX7_tear_15 (fun H locs hV => ?_)
    refine lv_iload_n C.1 C.2.1 dX7_tear_18 rfl (lv_at hl 0 rfl) ?_
    exact hret ((0, 0) : Int32 × Int32) _ _ _ _ dX7_tear_19 hF hV
  refine lv_iconst (v := 1) C.1 C.2.1 dX7_tear_7 rfl ?_
  refine lv_goto (tgt := 12) C.1 C.2.1 dX7_tear_8 rfl ?_
  refine lv_istore_n (lv' := [(1, .int 1), (0, .ref a_t)]) C.1 C.2.1 dX7_tear_12 rfl hl (by decide) rfl (fun ls hl => ?_)
  refine lv_aload_n C.1 C.2.1 dX7_tear_13 rfl (lv_at hl 1 rfl) ?_
  refine lv_iconst (v := 0) C.1 C.2.1 dX7_tear_14 rfl ?_
  refine g_put (ws' := [oX7 a_t a_d a_e a_kept 0 a_found a_tape v_taped v_gone a_hears a_near a_firstDay a_daily v_begin v_round v_leastFar v_leastWhere v_mostLed a_heardNow v_firstMove v_at v_sort v_from v_value v_fault a_bitsOf a_sizeOf a_number a_passing]) C hV fpX7_tear_323 0 rfl rfl rfl (Nat.le_of_ble_eq_true rfl) rfl dX7_tear_15 (fun H locs hV => ?_)
  refine lv_iload_n C.1 C.2.1 dX7_tear_18 rfl (lv_at hl 0 rfl) ?_
  exact hret ((1, 0) : Int32 × Int32) _ _ _ _ dX7_tear_19 hF hV
abbrev rmX7_holding : Room := { frames := 0, cells := 0, slots := 0, locals := 0 }
theorem mdX7_holding : gMd yX7_holding wsX7_holding cX7_holding 3 (some .int) 0 := ⟨⟨_, rfl⟩, by decide +kernel⟩
theorem flX7_holding_7 : gFL wsX7_holding RX7 7 7 0 RX7 TX7 28 := ⟨rfl, fun w h => List.mem_cons_of_mem _ (List.mem_append_right _ (h)), Nat.le_of_ble_eq_true rfl, List.mem_cons_of_mem _ (List.mem_append_left _ (List.mem_of_getElem? (i := 0) rfl))⟩
def L_X7_holding_4 (f_d : Nat → Int32) : Nat → Int32 → Int32 → Option (Int32) := lpp2 (fun s1 s2 kk4 => (if 10 ≤ s2 then some s1 else nm (30 + s2) (fun x3 => rd f_d 40 x3 (fun x4 => (if x4 ≤ 0 then nm (s1 + 0) (fun x5 => nm (s2 + 1) (fun x6 => kk4 x5 x6)) else nm (s1 + 1) (fun x7 => nm (s2 + 1) (fun x8 => kk4 x7 x8)))))))
def F_X7_holding (n0 : Nat) (f_d : Nat → Int32) : Option (Int32) := L_X7_holding_4 f_d n0 0 0
set_option maxRecDepth 100000 in
set_option maxHeartbeats 4000000 in
theorem k_X7_holding (l : Launch) (dC : Nat → ClassId) (dI : Nat → Nat → Nat) (cI cB cO : ClassId) (n0 sz : Nat) (a_t : Nat) (a_d : Nat) (a_e : Nat) (a_kept : Nat) (a_found : Nat) (a_tape : Nat) (a_hears : Nat) (a_near : Nat) (a_firstDay : Nat) (a_daily : Nat) (a_heardNow : Nat) (a_bitsOf : Nat) (a_sizeOf : Nat) (a_number : Nat) (a_passing : Nat)   (v_isKept : Int32) (v_taped : Int32) (v_gone : Int32) (v_begin : Int32) (v_round : Int32) (v_leastFar : Int32) (v_leastWhere : Int32) (v_mostLed : Int32) (v_firstMove : Int32) (v_at : Int32) (v_sort : Int32) (v_from : Int32) (v_value : Int64) (v_fault : Int32) (f_d : Nat → Int32)   {ro : Int32} (hF : F_X7_holding n0 f_d = some ro) : Met l yX7_holding wsX7_holding rmX7_holding (va_Pc [.ref a_t] (gPre (dC, dI) (gT cI cB cO) sz [oX7 a_t a_d a_e a_kept v_isKept a_found a_tape v_taped v_gone a_hears a_near a_firstDay a_daily v_begin v_round v_leastFar v_leastWhere v_mostLed a_heardNow v_firstMove v_at v_sort v_from v_value v_fault a_bitsOf a_sizeOf a_number a_passing, aA cI a_d 40 f_d])) (gQi (dC, dI) (gT cI cB cO) sz [oX7 a_t a_d a_e a_kept v_isKept a_found a_tape v_taped v_gone a_hears a_near a_firstDay a_daily v_begin v_round v_leastFar v_leastWhere v_mostLed a_heardNow v_firstMove v_at v_sort v_from v_value v_fault a_bitsOf a_sizeOf a_number a_passing, aA cI a_d 40 f_d] ro [oX7 a_t a_d a_e a_kept v_isKept a_found a_tape v_taped v_gone a_hears a_near a_firstDay a_daily v_begin v_round v_leastFar v_leastWhere v_mostLed a_heardNow v_firstMove v_at v_sort v_from v_value v_fault a_bitsOf a_sizeOf a_number a_passing, aA cI a_d 40 f_d]) 0 0 (va_A [oX7 a_t a_d a_e a_kept v_isKept a_found a_tape v_taped v_gone a_hears a_near a_firstDay a_daily v_begin v_round v_leastFar v_leastWhere v_mostLed a_heardNow v_firstMove v_at v_sort v_from v_value v_fault a_bitsOf a_sizeOf a_number a_passing, aA cI a_d 40 f_d] sz) := by
  refine g_metI (Out := Int32) (fun oo => oo) (fun oo => [oX7 a_t a_d a_e a_kept v_isKept a_found a_tape v_taped v_gone a_hears a_near a_firstDay a_daily v_begin v_round v_leastFar v_leastWhere v_mostLed a_heardNow v_firstMove v_at v_sort v_from v_value v_fault a_bitsOf a_sizeOf a_number a_passing, aA cI a_d 40 f_d]) ro (own := RX7) (lv := [(0, .ref a_t)]) (by decide) rfl rfl (Nat.le_of_ble_eq_true rfl) rfl ?_
  intro p e s m args below meth c Q ls C hret hV hl
  obtain ⟨out, hout⟩ : ∃ z : Int32, z = ro := ⟨_, rfl⟩
  rw [← hout] at hF hret
  obtain ⟨H0, hH0⟩ : ∃ z : Heap, z = s.heap := ⟨_, rfl⟩
  obtain ⟨A0, hA0⟩ : ∃ z : Nat → Prop, z = va_A [oX7 a_t a_d a_e a_kept v_isKept a_found a_tape v_taped v_gone a_hears a_near a_firstDay a_daily v_begin v_round v_leastFar v_leastWhere v_mostLed a_heardNow v_firstMove v_at v_sort v_from v_value v_fault a_bitsOf a_sizeOf a_number a_passing, aA cI a_d 40 f_d] s.heap.size := ⟨_, rfl⟩
  rw [← hA0] at hret hV
  rw [← hH0] at hret hV
  rw [← hH0]
  obtain ⟨H, locs, hH⟩ : ∃ (z : Heap) (y : List Loc), z = H0 ∧ y = [] := ⟨_, _, rfl, rfl⟩
  rw [← hH.1, ← hH.2]
  have hV : gV (dC, dI) (gT cI cB cO) A0 H0 s [oX7 a_t a_d a_e a_kept v_isKept a_found a_tape v_taped v_gone a_hears a_near a_firstDay a_daily v_begin v_round v_leastFar v_leastWhere v_mostLed a_heardNow v_firstMove v_at v_sort v_from v_value v_fault a_bitsOf a_sizeOf a_number a_passing, aA cI a_d 40 f_d] H locs := by rw [hH.1, hH.2]; exact hV
  unfold F_X7_holding at hF
  refine lv_iconst (v := 0) C.1 C.2.1 dX7_holding_0 rfl ?_
  refine lv_istore_n (lv' := [(1, .int 0), (0, .ref a_t)]) C.1 C.2.1 dX7_holding_1 rfl hl (by decide) rfl (fun ls hl => ?_)
  refine lv_iconst (v := 0) C.1 C.2.1 dX7_holding_2 rfl ?_
  refine lv_istore_n (lv' := [(2, .int 0), (1, .int 0), (0, .ref a_t)]) C.1 C.2.1 dX7_holding_3 rfl hl (by decide) rfl (fun ls hl => ?_)
  have hL4 : ∀ (n : Nat) (s1 : Int32) (s2 : Int32) (H : Heap) (locs : List Loc) (ls : Array Slot), gV (dC, dI) (gT cI cB cO) A0 H0 s [oX7 a_t a_d a_e a_kept v_isKept a_found a_tape v_taped v_gone a_hears a_near a_firstDay a_daily v_begin v_round v_leastFar v_leastWhere v_mostLed a_heardNow v_firstMove v_at v_sort v_from v_value v_fault a_bitsOf a_sizeOf a_number a_passing, aA cI a_d 40 f_d] H locs → lv_has ls 3 [(0, .ref a_t), (1, .int s1), (2, .int s2)] → L_X7_holding_4 f_d n s1 s2 = some out → W p l e rmX7_holding s m args below meth c H locs 0 0 Q (F0 m 4 ls []) := by
    intro n
    induction n with
    | zero => intro s1 s2 H locs ls hV hl hF; exact lpp2_z hF
    | succ n ih4 =>
      intro s1 s2 H locs ls hV hl hF
      obtain ⟨kk4, hk4, hF⟩ := lpp2_g hF
      have hq4 : ∀ (s1 : Int32) (s2 : Int32), kk4 s1 s2 = some out → L_X7_holding_4 f_d n s1 s2 = some out := fun _ _ h => by rw [hk4] at h; exact h
      refine lv_iload_n C.1 C.2.1 dX7_holding_4 rfl (lv_at hl 2 rfl) ?_
      refine lv_bipush (v := 10) C.1 C.2.1 dX7_holding_5 rfl ?_
      refine g_icmp_ge (tgt := 36) C hF dX7_holding_7 rfl (fun hF => ?_) (fun hF => ?_)
      · refine lv_iload_n C.1 C.2.1 dX7_holding_36 rfl (lv_at hl 1 rfl) ?_
        exact hret s1 _ _ _ _ dX7_holding_37 hF hV
      refine lv_iload_n C.1 C.2.1 dX7_holding_10 rfl (lv_at hl 1 rfl) ?_
      refine lv_aload_n C.1 C.2.1 dX7_holding_11 rfl (lv_at hl 0 rfl) ?_
      refine g_get C hV flX7_holding_7 0 rfl rfl dX7_holding_12 ?_
      refine lv_bipush (v := 30) C.1 C.2.1 dX7_holding_15 rfl ?_
      refine lv_iload_n C.1 C.2.1 dX7_holding_17 rfl (lv_at hl 2 rfl) ?_
      refine g_iadd C hF dX7_holding_18 (fun x3 hF => ?_)
      refine g_iald C hV 1 rfl hF dX7_holding_19 (fun x4 hF => ?_)
      refine g_if_le (tgt := 27) C hF dX7_holding_20 rfl (fun hF => ?_) (fun hF => ?_)
      · refine lv_iconst (v := 0) C.1 C.2.1 dX7_holding_27 rfl ?_
        refine g_iadd C hF dX7_holding_28 (fun x5 hF => ?_)
        refine lv_istore_n (lv' := [(1, .int x5), (0, .ref a_t), (2, .int s2)]) C.1 C.2.1 dX7_holding_29 rfl hl (by decide) rfl (fun ls hl => ?_)
        refine g_iinc C hF dX7_holding_30 (d := 1) rfl hl (j := 2) rfl (by decide) (fun y => [(2, .int y), (1, .int x5), (0, .ref a_t)]) (fun _ => rfl) (fun x6 ls hF hl => ?_)
        refine lv_goto (tgt := 4) C.1 C.2.1 dX7_holding_33 rfl ?_
        exact ih4 x5 x6 H locs ls hV (lv_sub hl [2, 1, 0] rfl) (hq4 x5 x6 hF)
      refine lv_iconst (v := 1) C.1 C.2.1 dX7_holding_23 rfl ?_
      refine lv_goto (tgt := 28) C.1 C.2.1 dX7_holding_24 rfl ?_
      refine g_iadd C hF dX7_holding_28 (fun x7 hF => ?_)
      refine lv_istore_n (lv' := [(1, .int x7), (0, .ref a_t), (2, .int s2)]) C.1 C.2.1 dX7_holding_29 rfl hl (by decide) rfl (fun ls hl => ?_)
      refine g_iinc C hF dX7_holding_30 (d := 1) rfl hl (j := 2) rfl (by decide) (fun y => [(2, .int y), (1, .int x7), (0, .ref a_t)]) (fun _ => rfl) (fun x8 ls hF hl => ?_)
      refine lv_goto (tgt := 4) C.1 C.2.1 dX7_holding_33 rfl ?_
      exact ih4 x7 x8 H locs ls hV (lv_sub hl [2, 1, 0] rfl) (hq4 x7 x8 hF)
  exact hL4 n0 0 0 H locs ls hV (lv_sub hl [2, 1, 0] rfl) hF
abbrev rmX7_count : Room := { frames := 1, cells := 0, slots := 0, locals := 22 }
theorem mdX7_count : gMd yX7_count wsX7_count cX7_count 2 (some .int) 1 := ⟨⟨_, rfl⟩, by decide +kernel⟩
theorem flX7_count_7 : gFL wsX7_count RX7 7 7 0 RX7 TX7 28 := ⟨rfl, fun w h => List.mem_cons_of_mem _ (List.mem_append_right _ (h)), Nat.le_of_ble_eq_true rfl, List.mem_cons_of_mem _ (List.mem_append_left _ (List.mem_of_getElem? (i := 0) rfl))⟩
theorem flX7_count_216 : gFL wsX7_count RX7 216 7 6 RX7 TX7 28 := ⟨rfl, fun w h => List.mem_cons_of_mem _ (List.mem_append_right _ (h)), Nat.le_of_ble_eq_true rfl, List.mem_cons_of_mem _ (List.mem_append_left _ (List.mem_of_getElem? (i := 1) rfl))⟩
def F_X7_count (n0 : Nat) (v_taped : Int32) (f_d : Nat → Int32) (f_found : Nat → Int32) (p1 : Int32) : Option (Int32 × (Nat → Int32)) := (if p1 = 0 then rd f_d 40 1 (fun x1 => some (x1, f_found)) else (if p1 = 1 then rd f_d 40 0 (fun x2 => some (x2, f_found)) else (if p1 = 2 then rd f_d 40 6 (fun x3 => bd1 (F_X7_ones n0 x3) (fun x4 => some (x4, f_found))) else (if p1 = 3 then rd f_d 40 3 (fun x5 => some (x5, f_found)) else (if p1 = 4 then rd f_d 40 4 (fun x6 => some (x6, f_found)) else (if p1 = 5 then some (v_taped, f_found) else (if p1 = 6 then rd f_d 40 2 (fun x7 => some (x7, f_found)) else (if p1 = 7 then bd1 (F_X7_holding n0 f_d) (fun x8 => some (x8, f_found)) else bd2 (F_X7_finds n0 f_found 0) (fun x9 g10 => some (x9, g10))))))))))
set_option maxRecDepth 100000 in
set_option maxHeartbeats 4000000 in
theorem k_X7_count (l : Launch) (dC : Nat → ClassId) (dI : Nat → Nat → Nat) (cI cB cO : ClassId) (n0 sz : Nat) (a_t : Nat) (a_d : Nat) (a_e : Nat) (a_kept : Nat) (a_found : Nat) (a_tape : Nat) (a_hears : Nat) (a_near : Nat) (a_firstDay : Nat) (a_daily : Nat) (a_heardNow : Nat) (a_bitsOf : Nat) (a_sizeOf : Nat) (a_number : Nat) (a_passing : Nat)   (v_isKept : Int32) (v_taped : Int32) (v_gone : Int32) (v_begin : Int32) (v_round : Int32) (v_leastFar : Int32) (v_leastWhere : Int32) (v_mostLed : Int32) (v_firstMove : Int32) (v_at : Int32) (v_sort : Int32) (v_from : Int32) (v_value : Int64) (v_fault : Int32) (f_d : Nat → Int32) (f_found : Nat → Int32) (p1 : Int32)  {ro : Int32} {o0 : Nat → Int32} (hF : F_X7_count n0 v_taped f_d f_found p1 = some (ro, o0)) : Met l yX7_count wsX7_count rmX7_count (va_Pc [.ref a_t, .int p1] (gPre (dC, dI) (gT cI cB cO) sz [oX7 a_t a_d a_e a_kept v_isKept a_found a_tape v_taped v_gone a_hears a_near a_firstDay a_daily v_begin v_round v_leastFar v_leastWhere v_mostLed a_heardNow v_firstMove v_at v_sort v_from v_value v_fault a_bitsOf a_sizeOf a_number a_passing, aA cI a_d 40 f_d, aA cI a_found 7 f_found])) (gQi (dC, dI) (gT cI cB cO) sz [oX7 a_t a_d a_e a_kept v_isKept a_found a_tape v_taped v_gone a_hears a_near a_firstDay a_daily v_begin v_round v_leastFar v_leastWhere v_mostLed a_heardNow v_firstMove v_at v_sort v_from v_value v_fault a_bitsOf a_sizeOf a_number a_passing, aA cI a_d 40 f_d, aA cI a_found 7 f_found] ro [oX7 a_t a_d a_e a_kept v_isKept a_found a_tape v_taped v_gone a_hears a_near a_firstDay a_daily v_begin v_round v_leastFar v_leastWhere v_mostLed a_heardNow v_firstMove v_at v_sort v_from v_value v_fault a_bitsOf a_sizeOf a_number a_passing, aA cI a_d 40 f_d, aA cI a_found 7 o0]) 0 0 (va_A [oX7 a_t a_d a_e a_kept v_isKept a_found a_tape v_taped v_gone a_hears a_near a_firstDay a_daily v_begin v_round v_leastFar v_leastWhere v_mostLed a_heardNow v_firstMove v_at v_sort v_from v_value v_fault a_bitsOf a_sizeOf a_number a_passing, aA cI a_d 40 f_d, aA cI a_found 7 f_found] sz) := by
  refine g_metI (Out := Int32 × (Nat → Int32)) (fun oo => oo.1) (fun oo => [oX7 a_t a_d a_e a_kept v_isKept a_found a_tape v_taped v_gone a_hears a_near a_firstDay a_daily v_begin v_round v_leastFar v_leastWhere v_mostLed a_heardNow v_firstMove v_at v_sort v_from v_value v_fault a_bitsOf a_sizeOf a_number a_passing, aA cI a_d 40 f_d, aA cI a_found 7 oo.2]) (ro, o0) (own := RX7) (lv := [(0, .ref a_t), (1, .int p1)]) (by decide) rfl rfl (Nat.le_of_ble_eq_true rfl) rfl ?_
  intro p e s m args below meth c Q ls C hret hV hl
  obtain ⟨out, hout⟩ : ∃ z : Int32 × (Nat → Int32), z = (ro, o0) := ⟨_, rfl⟩
  rw [← hout] at hF hret
  obtain ⟨H0, hH0⟩ : ∃ z : Heap, z = s.heap := ⟨_, rfl⟩
  obtain ⟨A0, hA0⟩ : ∃ z : Nat → Prop, z = va_A [oX7 a_t a_d a_e a_kept v_isKept a_found a_tape v_taped v_gone a_hears a_near a_firstDay a_daily v_begin v_round v_leastFar v_leastWhere v_mostLed a_heardNow v_firstMove v_at v_sort v_from v_value v_fault a_bitsOf a_sizeOf a_number a_passing, aA cI a_d 40 f_d, aA cI a_found 7 f_found] s.heap.size := ⟨_, rfl⟩
  rw [← hA0] at hret hV
  rw [← hH0] at hret hV
  rw [← hH0]
  obtain ⟨H, locs, hH⟩ : ∃ (z : Heap) (y : List Loc), z = H0 ∧ y = [] := ⟨_, _, rfl, rfl⟩
  rw [← hH.1, ← hH.2]
  have hV : gV (dC, dI) (gT cI cB cO) A0 H0 s [oX7 a_t a_d a_e a_kept v_isKept a_found a_tape v_taped v_gone a_hears a_near a_firstDay a_daily v_begin v_round v_leastFar v_leastWhere v_mostLed a_heardNow v_firstMove v_at v_sort v_from v_value v_fault a_bitsOf a_sizeOf a_number a_passing, aA cI a_d 40 f_d, aA cI a_found 7 f_found] H locs := by rw [hH.1, hH.2]; exact hV
  unfold F_X7_count at hF
  refine lv_iload_n C.1 C.2.1 dX7_count_0 rfl (lv_at hl 1 rfl) ?_
  rcases ite_or hF with ⟨hc, hF⟩ | ⟨hc1_0, hF⟩
  · refine lv_tableIn (off := 47) (tgt := 48) C.1 C.2.1 dX7_count_1 (by rw [hc]; decide) (by rw [hc]; decide) (by rw [hc]; rfl) rfl ?_
    refine lv_aload_n C.1 C.2.1 dX7_count_48 rfl (lv_at hl 0 rfl) ?_
    refine g_get C hV flX7_count_7 0 rfl rfl dX7_count_49 ?_
    refine lv_iconst (v := 1) C.1 C.2.1 dX7_count_52 rfl ?_
    refine g_iald C hV 1 rfl hF dX7_count_53 (fun x1 hF => ?_)
    exact hret (x1, f_found) _ _ _ _ dX7_count_54 hF hV
  rcases ite_or hF with ⟨hc, hF⟩ | ⟨hc1_1, hF⟩
  · refine lv_tableIn (off := 54) (tgt := 55) C.1 C.2.1 dX7_count_1 (by rw [hc]; decide) (by rw [hc]; decide) (by rw [hc]; rfl) rfl ?_
    refine lv_aload_n C.1 C.2.1 dX7_count_55 rfl (lv_at hl 0 rfl) ?_
    refine g_get C hV flX7_count_7 0 rfl rfl dX7_count_56 ?_
    refine lv_iconst (v := 0) C.1 C.2.1 dX7_count_59 rfl ?_
    refine g_iald C hV 1 rfl hF dX7_count_60 (fun x2 hF => ?_)
    exact hret (x2, f_found) _ _ _ _ dX7_count_61 hF hV
  rcases ite_or hF with ⟨hc, hF⟩ | ⟨hc1_2, hF⟩
  · refine lv_tableIn (off := 61) (tgt := 62) C.1 C.2.1 dX7_count_1 (by rw [hc]; decide) (by rw [hc]; decide) (by rw [hc]; rfl) rfl ?_
    refine lv_aload_n C.1 C.2.1 dX7_count_62 rfl (lv_at hl 0 rfl) ?_
    refine g_get C hV flX7_count_7 0 rfl rfl dX7_count_63 ?_
    refine lv_bipush (v := 6) C.1 C.2.1 dX7_count_66 rfl ?_
    refine g_iald C hV 1 rfl hF dX7_count_68 (fun x3 hF => ?_)
    obtain ⟨x4, hc, hF⟩ := bd1_s hF
    refine g_cSi (ws' := [oX7 a_t a_d a_e a_kept v_isKept a_found a_tape v_taped v_gone a_hears a_near a_firstDay a_daily v_begin v_round v_leastFar v_leastWhere v_mostLed a_heardNow v_firstMove v_at v_sort v_from v_value v_fault a_bitsOf a_sizeOf a_number a_passing, aA cI a_d 40 f_d, aA cI a_found 7 f_found]) (wr := [oX7 a_t a_d a_e a_kept v_isKept a_found a_tape v_taped v_gone a_hears a_near a_firstDay a_daily v_begin v_round v_leastFar v_leastWhere v_mostLed a_heardNow v_firstMove v_at v_sort v_from v_value v_fault a_bitsOf a_sizeOf a_number a_passing, aA cI a_d 40 f_d, aA cI a_found 7 f_found]) C hV (k_X7_ones l dC dI cI cB cO n0 H.size x3 hc) mdX7_ones gX7_count_X7_ones rfl rfl ⟨Nat.le_of_ble_eq_true rfl, Nat.le_of_ble_eq_true rfl⟩ [] [0, 1, 2] [0, 1, 2] rfl rfl rfl rfl rfl rfl rfl rfl hl.1 (Nat.le_of_ble_eq_true rfl) rfl dX7_count_69 (fun H locs hV => ?_)
    exact hret (x4, f_found) _ _ _ _ dX7_count_72 hF hV
  rcases ite_or hF with ⟨hc, hF⟩ | ⟨hc1_3, hF⟩
  · refine lv_tableIn (off := 72) (tgt := 73) C.1 C.2.1 dX7_count_1 (by rw [hc]; decide) (by rw [hc]; decide) (by rw [hc]; rfl) rfl ?_
    refine lv_aload_n C.1 C.2.1 dX7_count_73 rfl (lv_at hl 0 rfl) ?_
    refine g_get C hV flX7_count_7 0 rfl rfl dX7_count_74 ?_
    refine lv_iconst (v := 3) C.1 C.2.1 dX7_count_77 rfl ?_
    refine g_iald C hV 1 rfl hF dX7_count_78 (fun x5 hF => ?_)
    exact hret (x5, f_found) _ _ _ _ dX7_count_79 hF hV
  rcases ite_or hF with ⟨hc, hF⟩ | ⟨hc1_4, hF⟩
  · refine lv_tableIn (off := 79) (tgt := 80) C.1 C.2.1 dX7_count_1 (by rw [hc]; decide) (by rw [hc]; decide) (by rw [hc]; rfl) rfl ?_
    refine lv_aload_n C.1 C.2.1 dX7_count_80 rfl (lv_at hl 0 rfl) ?_
    refine g_get C hV flX7_count_7 0 rfl rfl dX7_count_81 ?_
    refine lv_iconst (v := 4) C.1 C.2.1 dX7_count_84 rfl ?_
    refine g_iald C hV 1 rfl hF dX7_count_85 (fun x6 hF => ?_)
    exact hret (x6, f_found) _ _ _ _ dX7_count_86 hF hV
  rcases ite_or hF with ⟨hc, hF⟩ | ⟨hc1_5, hF⟩
  · refine lv_tableIn (off := 86) (tgt := 87) C.1 C.2.1 dX7_count_1 (by rw [hc]; decide) (by rw [hc]; decide) (by rw [hc]; rfl) rfl ?_
    refine lv_aload_n C.1 C.2.1 dX7_count_87 rfl (lv_at hl 0 rfl) ?_
    refine g_get C hV flX7_count_216 0 rfl rfl dX7_count_88 ?_
    exact hret (v_taped, f_found) _ _ _ _ dX7_count_91 hF hV
  rcases ite_or hF with ⟨hc, hF⟩ | ⟨hc1_6, hF⟩
  · refine lv_tableIn (off := 91) (tgt := 92) C.1 C.2.1 dX7_count_1 (by rw [hc]; decide) (by rw [hc]; decide) (by rw [hc]; rfl) rfl ?_
    refine lv_aload_n C.1 C.2.1 dX7_count_92 rfl (lv_at hl 0 rfl) ?_
    refine g_get C hV flX7_count_7 0 rfl rfl dX7_count_93 ?_
    refine lv_iconst (v := 2) C.1 C.2.1 dX7_count_96 rfl ?_
    refine g_iald C hV 1 rfl hF dX7_count_97 (fun x7 hF => ?_)
    exact hret (x7, f_found) _ _ _ _ dX7_count_98 hF hV
  rcases ite_or hF with ⟨hc, hF⟩ | ⟨hc1_7, hF⟩
  · refine lv_tableIn (off := 98) (tgt := 99) C.1 C.2.1 dX7_count_1 (by rw [hc]; decide) (by rw [hc]; decide) (by rw [hc]; rfl) rfl ?_
    refine lv_aload_n C.1 C.2.1 dX7_count_99 rfl (lv_at hl 0 rfl) ?_
    obtain ⟨x8, hc, hF⟩ := bd1_s hF
    refine g_cVi (ws' := [oX7 a_t a_d a_e a_kept v_isKept a_found a_tape v_taped v_gone a_hears a_near a_firstDay a_daily v_begin v_round v_leastFar v_leastWhere v_mostLed a_heardNow v_firstMove v_at v_sort v_from v_value v_fault a_bitsOf a_sizeOf a_number a_passing, aA cI a_d 40 f_d, aA cI a_found 7 f_found]) (wr := [aA cI a_found 7 f_found]) C hV (k_X7_holding l dC dI cI cB cO n0 H.size a_t a_d a_e a_kept a_found a_tape a_hears a_near a_firstDay a_daily a_heardNow a_bitsOf a_sizeOf a_number a_passing v_isKept v_taped v_gone v_begin v_round v_leastFar v_leastWhere v_mostLed v_firstMove v_at v_sort v_from v_value v_fault f_d hc) mdX7_holding gX7_count_X7_holding rfl rfl ⟨Nat.le_of_ble_eq_true rfl, Nat.le_of_ble_eq_true rfl⟩ [0, 1] [2] [1, 2, 0] rfl rfl rfl rfl rfl rfl rfl rfl rfl rfl hl.1 (Nat.le_of_ble_eq_true rfl) rfl dX7_count_100 (fun H locs hV => ?_)
    exact hret (x8, f_found) _ _ _ _ dX7_count_103 hF hV
  refine lv_tableOut (tgt := 104) C.1 C.2.1 dX7_count_1 (sw_out (fun j h1 h2 => by rcases (show j = 0 ∨ j = 1 ∨ j = 2 ∨ j = 3 ∨ j = 4 ∨ j = 5 ∨ j = 6 ∨ j = 7 by omega) with rfl | rfl | rfl | rfl | rfl | rfl | rfl | rfl <;> first | exact hc1_0 | exact hc1_1 | exact hc1_2 | exact hc1_3 | exact hc1_4 | exact hc1_5 | exact hc1_6 | exact hc1_7)) rfl ?_
  refine lv_aload_n C.1 C.2.1 dX7_count_104 rfl (lv_at hl 0 rfl) ?_
  refine lv_iconst (v := 0) C.1 C.2.1 dX7_count_105 rfl ?_
  obtain ⟨x9, g10, hc, hF⟩ := bd2_s hF
  refine g_cVi (ws' := [oX7 a_t a_d a_e a_kept v_isKept a_found a_tape v_taped v_gone a_hears a_near a_firstDay a_daily v_begin v_round v_leastFar v_leastWhere v_mostLed a_heardNow v_firstMove v_at v_sort v_from v_value v_fault a_bitsOf a_sizeOf a_number a_passing, aA cI a_d 40 f_d, aA cI a_found 7 g10]) (wr := [aA cI a_d 40 f_d]) C hV (k_X7_finds l dC dI cI cB cO n0 H.size a_t a_d a_e a_kept a_found a_tape a_hears a_near a_firstDay a_daily a_heardNow a_bitsOf a_sizeOf a_number a_passing v_isKept v_taped v_gone v_begin v_round v_leastFar v_leastWhere v_mostLed v_firstMove v_at v_sort v_from v_value v_fault f_found 0 hc) mdX7_finds gX7_count_X7_finds rfl rfl ⟨Nat.le_of_ble_eq_true rfl, Nat.le_of_ble_eq_true rfl⟩ [0, 2] [1] [1, 0, 2] rfl rfl rfl rfl rfl rfl rfl rfl rfl rfl hl.1 (Nat.le_of_ble_eq_true rfl) rfl dX7_count_106 (fun H locs hV => ?_)
  exact hret (x9, g10) _ _ _ _ dX7_count_109 hF hV
abbrev rmX7_status : Room := { frames := 1, cells := 0, slots := 0, locals := 25 }
theorem mdX7_status : gMd yX7_status wsX7_status cX7_status 4 (some .int) 1 := ⟨⟨_, rfl⟩, by decide +kernel⟩
theorem ctX7_status_310 : Cond.constantLong RX7 310 (-1) ∈ wsX7_status := List.mem_cons_of_mem _ (List.mem_append_left _ (List.mem_of_getElem? (i := 0) rfl))
theorem ctX7_status_100 : Cond.constantLong RX7 100 6 ∈ wsX7_status := List.mem_cons_of_mem _ (List.mem_append_left _ (List.mem_of_getElem? (i := 1) rfl))
theorem flX7_status_19 : gFL wsX7_status RX7 19 7 4 RX7 TX7 28 := ⟨rfl, fun w h => List.mem_cons_of_mem _ (List.mem_append_right _ (h)), Nat.le_of_ble_eq_true rfl, List.mem_cons_of_mem _ (List.mem_append_left _ (List.mem_of_getElem? (i := 2) rfl))⟩
def L_X7_status_24 (p1 : Int32) (f_found : Nat → Int32) : Nat → Int32 → Int32 → Option (Int32 × (Nat → Int32)) := lpp2 (fun s3 s4 kk24 => (if 7 ≤ s4 then (if 0 ≤ p1 then rd f_found 7 p1 (fun x5 => some (x5, f_found)) else some (s3, f_found)) else rd f_found 7 s4 (fun x6 => nm (s3 + x6) (fun x7 => nm (s4 + 1) (fun x8 => kk24 x7 x8)))))
def F_X7_status (n0 : Nat) (f_found : Nat → Int32) (p1 : Int32) : Option (Int32 × (Nat → Int32)) := nm (p1.toInt64) (fun x1 => bd1 (F_X7_in n0 x1 ((-1)) 6) (fun x2 => (if x2 = 0 then bd2 (F_X7_finds n0 f_found 0) (fun x9 g10 => some (x9, g10)) else L_X7_status_24 p1 f_found n0 0 0)))
set_option maxRecDepth 100000 in
set_option maxHeartbeats 4000000 in
theorem k_X7_status (l : Launch) (dC : Nat → ClassId) (dI : Nat → Nat → Nat) (cI cB cO : ClassId) (n0 sz : Nat) (a_t : Nat) (a_d : Nat) (a_e : Nat) (a_kept : Nat) (a_found : Nat) (a_tape : Nat) (a_hears : Nat) (a_near : Nat) (a_firstDay : Nat) (a_daily : Nat) (a_heardNow : Nat) (a_bitsOf : Nat) (a_sizeOf : Nat) (a_number : Nat) (a_passing : Nat)   (v_isKept : Int32) (v_taped : Int32) (v_gone : Int32) (v_begin : Int32) (v_round : Int32) (v_leastFar : Int32) (v_leastWhere : Int32) (v_mostLed : Int32) (v_firstMove : Int32) (v_at : Int32) (v_sort : Int32) (v_from : Int32) (v_value : Int64) (v_fault : Int32) (f_found : Nat → Int32) (p1 : Int32)  {ro : Int32} {o0 : Nat → Int32} (hF : F_X7_status n0 f_found p1 = some (ro, o0)) : Met l yX7_status wsX7_status rmX7_status (va_Pc [.ref a_t, .int p1] (gPre (dC, dI) (gT cI cB cO) sz [oX7 a_t a_d a_e a_kept v_isKept a_found a_tape v_taped v_gone a_hears a_near a_firstDay a_daily v_begin v_round v_leastFar v_leastWhere v_mostLed a_heardNow v_firstMove v_at v_sort v_from v_value v_fault a_bitsOf a_sizeOf a_number a_passing, aA cI a_found 7 f_found])) (gQi (dC, dI) (gT cI cB cO) sz [oX7 a_t a_d a_e a_kept v_isKept a_found a_tape v_taped v_gone a_hears a_near a_firstDay a_daily v_begin v_round v_leastFar v_leastWhere v_mostLed a_heardNow v_firstMove v_at v_sort v_from v_value v_fault a_bitsOf a_sizeOf a_number a_passing, aA cI a_found 7 f_found] ro [oX7 a_t a_d a_e a_kept v_isKept a_found a_tape v_taped v_gone a_hears a_near a_firstDay a_daily v_begin v_round v_leastFar v_leastWhere v_mostLed a_heardNow v_firstMove v_at v_sort v_from v_value v_fault a_bitsOf a_sizeOf a_number a_passing, aA cI a_found 7 o0]) 0 0 (va_A [oX7 a_t a_d a_e a_kept v_isKept a_found a_tape v_taped v_gone a_hears a_near a_firstDay a_daily v_begin v_round v_leastFar v_leastWhere v_mostLed a_heardNow v_firstMove v_at v_sort v_from v_value v_fault a_bitsOf a_sizeOf a_number a_passing, aA cI a_found 7 f_found] sz) := by
  refine g_metI (Out := Int32 × (Nat → Int32)) (fun oo => oo.1) (fun oo => [oX7 a_t a_d a_e a_kept v_isKept a_found a_tape v_taped v_gone a_hears a_near a_firstDay a_daily v_begin v_round v_leastFar v_leastWhere v_mostLed a_heardNow v_firstMove v_at v_sort v_from v_value v_fault a_bitsOf a_sizeOf a_number a_passing, aA cI a_found 7 oo.2]) (ro, o0) (own := RX7) (lv := [(0, .ref a_t), (1, .int p1)]) (by decide) rfl rfl (Nat.le_of_ble_eq_true rfl) rfl ?_
  intro p e s m args below meth c Q ls C hret hV hl
  obtain ⟨out, hout⟩ : ∃ z : Int32 × (Nat → Int32), z = (ro, o0) := ⟨_, rfl⟩
  rw [← hout] at hF hret
  obtain ⟨H0, hH0⟩ : ∃ z : Heap, z = s.heap := ⟨_, rfl⟩
  obtain ⟨A0, hA0⟩ : ∃ z : Nat → Prop, z = va_A [oX7 a_t a_d a_e a_kept v_isKept a_found a_tape v_taped v_gone a_hears a_near a_firstDay a_daily v_begin v_round v_leastFar v_leastWhere v_mostLed a_heardNow v_firstMove v_at v_sort v_from v_value v_fault a_bitsOf a_sizeOf a_number a_passing, aA cI a_found 7 f_found] s.heap.size := ⟨_, rfl⟩
  rw [← hA0] at hret hV
  rw [← hH0] at hret hV
  rw [← hH0]
  obtain ⟨H, locs, hH⟩ : ∃ (z : Heap) (y : List Loc), z = H0 ∧ y = [] := ⟨_, _, rfl, rfl⟩
  rw [← hH.1, ← hH.2]
  have hV : gV (dC, dI) (gT cI cB cO) A0 H0 s [oX7 a_t a_d a_e a_kept v_isKept a_found a_tape v_taped v_gone a_hears a_near a_firstDay a_daily v_begin v_round v_leastFar v_leastWhere v_mostLed a_heardNow v_firstMove v_at v_sort v_from v_value v_fault a_bitsOf a_sizeOf a_number a_passing, aA cI a_found 7 f_found] H locs := by rw [hH.1, hH.2]; exact hV
  unfold F_X7_status at hF
  refine lv_iload_n C.1 C.2.1 dX7_status_0 rfl (lv_at hl 1 rfl) ?_
  refine g_i2l C hF dX7_status_1 (fun x1 hF => ?_)
  refine lv_ldc2 (v := (-1)) C.1 C.2.1 C.2.2.2.1 (C.2.2.2.2 _ ctX7_status_310) dX7_status_2 ?_
  refine lv_ldc2 (v := 6) C.1 C.2.1 C.2.2.2.1 (C.2.2.2.2 _ ctX7_status_100) dX7_status_5 ?_
  obtain ⟨x2, hc, hF⟩ := bd1_s hF
  refine g_cSi (ws' := [oX7 a_t a_d a_e a_kept v_isKept a_found a_tape v_taped v_gone a_hears a_near a_firstDay a_daily v_begin v_round v_leastFar v_leastWhere v_mostLed a_heardNow v_firstMove v_at v_sort v_from v_value v_fault a_bitsOf a_sizeOf a_number a_passing, aA cI a_found 7 f_found]) (wr := [oX7 a_t a_d a_e a_kept v_isKept a_found a_tape v_taped v_gone a_hears a_near a_firstDay a_daily v_begin v_round v_leastFar v_leastWhere v_mostLed a_heardNow v_firstMove v_at v_sort v_from v_value v_fault a_bitsOf a_sizeOf a_number a_passing, aA cI a_found 7 f_found]) C hV (k_X7_in l dC dI cI cB cO n0 H.size x1 ((-1)) 6 hc) mdX7_in gX7_status_X7_in rfl rfl ⟨Nat.le_of_ble_eq_true rfl, Nat.le_of_ble_eq_true rfl⟩ [] [0, 1] [0, 1] rfl rfl rfl rfl rfl rfl rfl rfl hl.1 (Nat.le_of_ble_eq_true rfl) rfl dX7_status_8 (fun H locs hV => ?_)
  refine g_if_ne (tgt := 20) C hF dX7_status_11 rfl (fun hF => ?_) (fun hF => ?_)
  · refine lv_iconst (v := 0) C.1 C.2.1 dX7_status_20 rfl ?_
    refine lv_istore_n (lv' := [(2, .int 0), (0, .ref a_t), (1, .int p1)]) C.1 C.2.1 dX7_status_21 rfl hl (by decide) rfl (fun ls hl => ?_)
    refine lv_iconst (v := 0) C.1 C.2.1 dX7_status_22 rfl ?_
    refine lv_istore_n (lv' := [(3, .int 0), (2, .int 0), (0, .ref a_t), (1, .int p1)]) C.1 C.2.1 dX7_status_23 rfl hl (by decide) rfl (fun ls hl => ?_)
    have hL24 : ∀ (n : Nat) (s3 : Int32) (s4 : Int32) (H : Heap) (locs : List Loc) (ls : Array Slot), gV (dC, dI) (gT cI cB cO) A0 H0 s [oX7 a_t a_d a_e a_kept v_isKept a_found a_tape v_taped v_gone a_hears a_near a_firstDay a_daily v_begin v_round v_leastFar v_leastWhere v_mostLed a_heardNow v_firstMove v_at v_sort v_from v_value v_fault a_bitsOf a_sizeOf a_number a_passing, aA cI a_found 7 f_found] H locs → lv_has ls 4 [(0, .ref a_t), (1, .int p1), (2, .int s3), (3, .int s4)] → L_X7_status_24 p1 f_found n s3 s4 = some out → W p l e rmX7_status s m args below meth c H locs 0 0 Q (F0 m 24 ls []) := by
      intro n
      induction n with
      | zero => intro s3 s4 H locs ls hV hl hF; exact lpp2_z hF
      | succ n ih24 =>
        intro s3 s4 H locs ls hV hl hF
        obtain ⟨kk24, hk24, hF⟩ := lpp2_g hF
        have hq24 : ∀ (s3 : Int32) (s4 : Int32), kk24 s3 s4 = some out → L_X7_status_24 p1 f_found n s3 s4 = some out := fun _ _ h => by rw [hk24] at h; exact h
        refine lv_iload_n C.1 C.2.1 dX7_status_24 rfl (lv_at hl 3 rfl) ?_
        refine lv_bipush (v := 7) C.1 C.2.1 dX7_status_25 rfl ?_
        refine g_icmp_ge (tgt := 45) C hF dX7_status_27 rfl (fun hF => ?_) (fun hF => ?_)
        · refine lv_iload_n C.1 C.2.1 dX7_status_45 rfl (lv_at hl 1 rfl) ?_
          refine g_if_ge (tgt := 53) C hF dX7_status_46 rfl (fun hF => ?_) (fun hF => ?_)
          · refine lv_aload_n C.1 C.2.1 dX7_status_53 rfl (lv_at hl 0 rfl) ?_
            refine g_get C hV flX7_status_19 0 rfl rfl dX7_status_54 ?_
            refine lv_iload_n C.1 C.2.1 dX7_status_57 rfl (lv_at hl 1 rfl) ?_
            refine g_iald C hV 1 rfl hF dX7_status_58 (fun x5 hF => ?_)
            exact hret (x5, f_found) _ _ _ _ dX7_status_59 hF hV
          refine lv_iload_n C.1 C.2.1 dX7_status_49 rfl (lv_at hl 2 rfl) ?_
          refine lv_goto (tgt := 59) C.1 C.2.1 dX7_status_50 rfl ?_
          exact hret (s3, f_found) _ _ _ _ dX7_status_59 hF hV
        refine lv_iload_n C.1 C.2.1 dX7_status_30 rfl (lv_at hl 2 rfl) ?_
        refine lv_aload_n C.1 C.2.1 dX7_status_31 rfl (lv_at hl 0 rfl) ?_
        refine g_get C hV flX7_status_19 0 rfl rfl dX7_status_32 ?_
        refine lv_iload_n C.1 C.2.1 dX7_status_35 rfl (lv_at hl 3 rfl) ?_
        refine g_iald C hV 1 rfl hF dX7_status_36 (fun x6 hF => ?_)
        refine g_iadd C hF dX7_status_37 (fun x7 hF => ?_)
        refine lv_istore_n (lv' := [(2, .int x7), (0, .ref a_t), (1, .int p1), (3, .int s4)]) C.1 C.2.1 dX7_status_38 rfl hl (by decide) rfl (fun ls hl => ?_)
        refine g_iinc C hF dX7_status_39 (d := 1) rfl hl (j := 3) rfl (by decide) (fun y => [(3, .int y), (2, .int x7), (0, .ref a_t), (1, .int p1)]) (fun _ => rfl) (fun x8 ls hF hl => ?_)
        refine lv_goto (tgt := 24) C.1 C.2.1 dX7_status_42 rfl ?_
        exact ih24 x7 x8 H locs ls hV (lv_sub hl [2, 3, 1, 0] rfl) (hq24 x7 x8 hF)
    exact hL24 n0 0 0 H locs ls hV (lv_sub hl [2, 3, 1, 0] rfl) hF
  refine lv_aload_n C.1 C.2.1 dX7_status_14 rfl (lv_at hl 0 rfl) ?_
  refine lv_iconst (v := 0) C.1 C.2.1 dX7_status_15 rfl ?_
  obtain ⟨x9, g10, hc, hF⟩ := bd2_s hF
  refine g_cVi (ws' := [oX7 a_t a_d a_e a_kept v_isKept a_found a_tape v_taped v_gone a_hears a_near a_firstDay a_daily v_begin v_round v_leastFar v_leastWhere v_mostLed a_heardNow v_firstMove v_at v_sort v_from v_value v_fault a_bitsOf a_sizeOf a_number a_passing, aA cI a_found 7 g10]) (wr := []) C hV (k_X7_finds l dC dI cI cB cO n0 H.size a_t a_d a_e a_kept a_found a_tape a_hears a_near a_firstDay a_daily a_heardNow a_bitsOf a_sizeOf a_number a_passing v_isKept v_taped v_gone v_begin v_round v_leastFar v_leastWhere v_mostLed v_firstMove v_at v_sort v_from v_value v_fault f_found 0 hc) mdX7_finds gX7_status_X7_finds rfl rfl ⟨Nat.le_of_ble_eq_true rfl, Nat.le_of_ble_eq_true rfl⟩ [0, 1] [] [0, 1] rfl rfl rfl rfl rfl rfl rfl rfl rfl rfl hl.1 (Nat.le_of_ble_eq_true rfl) rfl dX7_status_16 (fun H locs hV => ?_)
  exact hret (x9, g10) _ _ _ _ dX7_status_19 hF hV
