abbrev rmX7_keepHears : Room := { frames := 4, cells := 0, slots := 0, locals := 92 }
theorem mdX7_keepHears : gMd yX7_keepHears wsX7_keepHears cX7_keepHears 2 none 0 := ⟨⟨_, rfl⟩, by decide +kernel⟩
theorem flX7_keepHears_7 : gFL wsX7_keepHears RX7 7 7 0 RX7 TX7 28 := ⟨rfl, fun w h => List.mem_cons_of_mem _ (List.mem_append_right _ (h)), Nat.le_of_ble_eq_true rfl, List.mem_cons_of_mem _ (List.mem_append_left _ (List.mem_append_left _ (List.mem_of_getElem? (i := 0) rfl)))⟩
theorem flX7_keepHears_42 : gFL wsX7_keepHears RX7 42 7 17 RX7 TX7 28 := ⟨rfl, fun w h => List.mem_cons_of_mem _ (List.mem_append_right _ (h)), Nat.le_of_ble_eq_true rfl, List.mem_cons_of_mem _ (List.mem_append_left _ (List.mem_append_left _ (List.mem_of_getElem? (i := 1) rfl)))⟩
theorem flX7_keepHears_30 : gFL wsX7_keepHears RX7 30 7 8 RX7 TX7 28 := ⟨rfl, fun w h => List.mem_cons_of_mem _ (List.mem_append_right _ (h)), Nat.le_of_ble_eq_true rfl, List.mem_cons_of_mem _ (List.mem_append_left _ (List.mem_append_left _ (List.mem_of_getElem? (i := 2) rfl)))⟩
def L_X7_keepHears_6 (f_d : Nat → Int32) (g1 : Nat → Int32) (g2 : Nat → Int32) : Nat → Int32 → (Nat → Int32) → Option ((Nat → Int32) × (Nat → Int32) × (Nat → Int32)) := lpp2 (fun s3 t4 kk6 => rd f_d 40 0 (fun x5 => (if x5 ≤ s3 then some (t4, g1, g2) else rd g1 10 s3 (fun x6 => wrt t4 10 s3 x6 (fun g7 => nm (s3 + 1) (fun x8 => kk6 x8 g7))))))
def F_X7_keepHears (n0 : Nat) (v_gone : Int32) (f_d : Nat → Int32) (f_heardNow : Nat → Int32) (f_hears : Nat → Int32) (f_near : Nat → Int32) : Option ((Nat → Int32) × (Nat → Int32) × (Nat → Int32)) := bd2 (F_X7_listen n0 v_gone f_d f_hears f_near) (fun g1 g2 => L_X7_keepHears_6 f_d g1 g2 n0 0 f_heardNow)
set_option maxRecDepth 100000 in
set_option maxHeartbeats 4000000 in
theorem k_X7_keepHears (l : Launch) (dC : Nat → ClassId) (dI : Nat → Nat → Nat) (cI cB cO : ClassId) (n0 sz : Nat) (a_t : Nat) (a_d : Nat) (a_e : Nat) (a_kept : Nat) (a_found : Nat) (a_tape : Nat) (a_hears : Nat) (a_near : Nat) (a_firstDay : Nat) (a_daily : Nat) (a_heardNow : Nat) (a_bitsOf : Nat) (a_sizeOf : Nat) (a_number : Nat) (a_passing : Nat)   (v_isKept : Int32) (v_taped : Int32) (v_gone : Int32) (v_begin : Int32) (v_round : Int32) (v_leastFar : Int32) (v_leastWhere : Int32) (v_mostLed : Int32) (v_firstMove : Int32) (v_at : Int32) (v_sort : Int32) (v_from : Int32) (v_value : Int64) (v_fault : Int32) (f_d : Nat → Int32) (f_heardNow : Nat → Int32) (f_hears : Nat → Int32) (f_near : Nat → Int32)   {o0 : Nat → Int32} {o1 : Nat → Int32} {o2 : Nat → Int32} (hF : F_X7_keepHears n0 v_gone f_d f_heardNow f_hears f_near = some (o0, o1, o2)) : Met l yX7_keepHears wsX7_keepHears rmX7_keepHears (va_Pc [.ref a_t] (gPre (dC, dI) (gT cI cB cO) sz [oX7 a_t a_d a_e a_kept v_isKept a_found a_tape v_taped v_gone a_hears a_near a_firstDay a_daily v_begin v_round v_leastFar v_leastWhere v_mostLed a_heardNow v_firstMove v_at v_sort v_from v_value v_fault a_bitsOf a_sizeOf a_number a_passing, aA cI a_d 40 f_d, aA cI a_heardNow 10 f_heardNow, aA cI a_hears 10 f_hears, aA cI a_near 10 f_near])) (gQv (dC, dI) (gT cI cB cO) sz [oX7 a_t a_d a_e a_kept v_isKept a_found a_tape v_taped v_gone a_hears a_near a_firstDay a_daily v_begin v_round v_leastFar v_leastWhere v_mostLed a_heardNow v_firstMove v_at v_sort v_from v_value v_fault a_bitsOf a_sizeOf a_number a_passing, aA cI a_d 40 f_d, aA cI a_heardNow 10 f_heardNow, aA cI a_hears 10 f_hears, aA cI a_near 10 f_near] [oX7 a_t a_d a_e a_kept v_isKept a_found a_tape v_taped v_gone a_hears a_near a_firstDay a_daily v_begin v_round v_leastFar v_leastWhere v_mostLed a_heardNow v_firstMove v_at v_sort v_from v_value v_fault a_bitsOf a_sizeOf a_number a_passing, aA cI a_d 40 f_d, aA cI a_heardNow 10 o0, aA cI a_hears 10 o1, aA cI a_near 10 o2]) 0 0 (va_A [oX7 a_t a_d a_e a_kept v_isKept a_found a_tape v_taped v_gone a_hears a_near a_firstDay a_daily v_begin v_round v_leastFar v_leastWhere v_mostLed a_heardNow v_firstMove v_at v_sort v_from v_value v_fault a_bitsOf a_sizeOf a_number a_passing, aA cI a_d 40 f_d, aA cI a_heardNow 10 f_heardNow, aA cI a_hears 10 f_hears, aA cI a_near 10 f_near] sz) := by
  refine g_metV (Out := (Nat → Int32) × (Nat → Int32) × (Nat → Int32)) (fun oo => [oX7 a_t a_d a_e a_kept v_isKept a_found a_tape v_taped v_gone a_hears a_near a_firstDay a_daily v_begin v_round v_leastFar v_leastWhere v_mostLed a_heardNow v_firstMove v_at v_sort v_from v_value v_fault a_bitsOf a_sizeOf a_number a_passing, aA cI a_d 40 f_d, aA cI a_heardNow 10 oo.1, aA cI a_hears 10 oo.2.1, aA cI a_near 10 oo.2.2]) (o0, o1, o2) (own := RX7) (lv := [(0, .ref a_t)]) (by decide) rfl rfl (Nat.le_of_ble_eq_true rfl) rfl ?_
  intro p e s m args below meth c Q ls C hret hV hl
  obtain ⟨out, hout⟩ : ∃ z : (Nat → Int32) × (Nat → Int32) × (Nat → Int32), z = (o0, o1, o2) := ⟨_, rfl⟩
  rw [← hout] at hF hret
  obtain ⟨H0, hH0⟩ : ∃ z : Heap, z = s.heap := ⟨_, rfl⟩
  obtain ⟨A0, hA0⟩ : ∃ z : Nat → Prop, z = va_A [oX7 a_t a_d a_e a_kept v_isKept a_found a_tape v_taped v_gone a_hears a_near a_firstDay a_daily v_begin v_round v_leastFar v_leastWhere v_mostLed a_heardNow v_firstMove v_at v_sort v_from v_value v_fault a_bitsOf a_sizeOf a_number a_passing, aA cI a_d 40 f_d, aA cI a_heardNow 10 f_heardNow, aA cI a_hears 10 f_hears, aA cI a_near 10 f_near] s.heap.size := ⟨_, rfl⟩
  rw [← hA0] at hret hV
  rw [← hH0] at hret hV
  rw [← hH0]
  obtain ⟨H, locs, hH⟩ : ∃ (z : Heap) (y : List Loc), z = H0 ∧ y = [] := ⟨_, _, rfl, rfl⟩
  rw [← hH.1, ← hH.2]
  have hV : gV (dC, dI) (gT cI cB cO) A0 H0 s [oX7 a_t a_d a_e a_kept v_isKept a_found a_tape v_taped v_gone a_hears a_near a_firstDay a_daily v_begin v_round v_leastFar v_leastWhere v_mostLed a_heardNow v_firstMove v_at v_sort v_from v_value v_fault a_bitsOf a_sizeOf a_number a_passing, aA cI a_d 40 f_d, aA cI a_heardNow 10 f_heardNow, aA cI a_hears 10 f_hears, aA cI a_near 10 f_near] H locs := by rw [hH.1, hH.2]; exact hV
  unfold F_X7_keepHears at hF
  refine lv_aload_n C.1 C.2.1 dX7_keepHears_0 rfl (lv_at hl 0 rfl) ?_
  obtain ⟨g1, g2, hc, hF⟩ := bd2_s hF
  refine g_cVv (ws' := [oX7 a_t a_d a_e a_kept v_isKept a_found a_tape v_taped v_gone a_hears a_near a_firstDay a_daily v_begin v_round v_leastFar v_leastWhere v_mostLed a_heardNow v_firstMove v_at v_sort v_from v_value v_fault a_bitsOf a_sizeOf a_number a_passing, aA cI a_d 40 f_d, aA cI a_heardNow 10 f_heardNow, aA cI a_hears 10 g1, aA cI a_near 10 g2]) (wr := [aA cI a_heardNow 10 f_heardNow]) C hV (k_X7_listen l dC dI cI cB cO n0 H.size a_t a_d a_e a_kept a_found a_tape a_hears a_near a_firstDay a_daily a_heardNow a_bitsOf a_sizeOf a_number a_passing v_isKept v_taped v_gone v_begin v_round v_leastFar v_leastWhere v_mostLed v_firstMove v_at v_sort v_from v_value v_fault f_d f_hears f_near hc) mdX7_listen gX7_keepHears_X7_listen rfl rfl ⟨Nat.le_of_ble_eq_true rfl, Nat.le_of_ble_eq_true rfl⟩ [0, 1, 3, 4] [2] [1, 2, 0, 3, 4] rfl rfl rfl rfl rfl rfl rfl rfl rfl rfl hl.1 (Nat.le_of_ble_eq_true rfl) rfl dX7_keepHears_1 (fun H locs hV => ?_)
  refine lv_iconst (v := 0) C.1 C.2.1 dX7_keepHears_4 rfl ?_
  refine lv_istore_n (lv' := [(1, .int 0), (0, .ref a_t)]) C.1 C.2.1 dX7_keepHears_5 rfl hl (by decide) rfl (fun ls hl => ?_)
  have hL6 : ∀ (n : Nat) (s3 : Int32) (t4 : Nat → Int32) (H : Heap) (locs : List Loc) (ls : Array Slot), gV (dC, dI) (gT cI cB cO) A0 H0 s [oX7 a_t a_d a_e a_kept v_isKept a_found a_tape v_taped v_gone a_hears a_near a_firstDay a_daily v_begin v_round v_leastFar v_leastWhere v_mostLed a_heardNow v_firstMove v_at v_sort v_from v_value v_fault a_bitsOf a_sizeOf a_number a_passing, aA cI a_d 40 f_d, aA cI a_heardNow 10 t4, aA cI a_hears 10 g1, aA cI a_near 10 g2] H locs → lv_has ls 2 [(0, .ref a_t), (1, .int s3)] → L_X7_keepHears_6 f_d g1 g2 n s3 t4 = some out → W p l e rmX7_keepHears s m args below meth c H locs 0 0 Q (F0 m 6 ls []) := by
    intro n
    induction n with
    | zero => intro s3 t4 H locs ls hV hl hF; exact lpp2_z hF
    | succ n ih6 =>
      intro s3 t4 H locs ls hV hl hF
      obtain ⟨kk6, hk6, hF⟩ := lpp2_g hF
      have hq6 : ∀ (s3 : Int32) (t4 : Nat → Int32), kk6 s3 t4 = some out → L_X7_keepHears_6 f_d g1 g2 n s3 t4 = some out := fun _ _ h => by rw [hk6] at h; exact h
      refine lv_iload_n C.1 C.2.1 dX7_keepHears_6 rfl (lv_at hl 1 rfl) ?_
      refine lv_aload_n C.1 C.2.1 dX7_keepHears_7 rfl (lv_at hl 0 rfl) ?_
      refine g_get C hV flX7_keepHears_7 0 rfl rfl dX7_keepHears_8 ?_
      refine lv_iconst (v := 0) C.1 C.2.1 dX7_keepHears_11 rfl ?_
      refine g_iald C hV 1 rfl hF dX7_keepHears_12 (fun x5 hF => ?_)
      refine g_icmp_ge (tgt := 34) C hF dX7_keepHears_13 rfl (fun hF => ?_) (fun hF => ?_)
      · exact hret (t4, g1, g2) _ _ _ _ dX7_keepHears_34 hF hV
      refine lv_aload_n C.1 C.2.1 dX7_keepHears_16 rfl (lv_at hl 0 rfl) ?_
      refine g_get C hV flX7_keepHears_42 0 rfl rfl dX7_keepHears_17 ?_
      refine lv_iload_n C.1 C.2.1 dX7_keepHears_20 rfl (lv_at hl 1 rfl) ?_
      refine lv_aload_n C.1 C.2.1 dX7_keepHears_21 rfl (lv_at hl 0 rfl) ?_
      refine g_get C hV flX7_keepHears_30 0 rfl rfl dX7_keepHears_22 ?_
      refine lv_iload_n C.1 C.2.1 dX7_keepHears_25 rfl (lv_at hl 1 rfl) ?_
      refine g_iald C hV 3 rfl hF dX7_keepHears_26 (fun x6 hF => ?_)
      refine g_iast C hV 2 rfl hF (fun gq => [oX7 a_t a_d a_e a_kept v_isKept a_found a_tape v_taped v_gone a_hears a_near a_firstDay a_daily v_begin v_round v_leastFar v_leastWhere v_mostLed a_heardNow v_firstMove v_at v_sort v_from v_value v_fault a_bitsOf a_sizeOf a_number a_passing, aA cI a_d 40 f_d, aA cI a_heardNow 10 gq, aA cI a_hears 10 g1, aA cI a_near 10 g2]) (fun _ => rfl) dX7_keepHears_27 (fun g7 H locs hF hV => ?_)
      refine g_iinc C hF dX7_keepHears_28 (d := 1) rfl hl (j := 1) rfl (by decide) (fun y => [(1, .int y), (0, .ref a_t)]) (fun _ => rfl) (fun x8 ls hF hl => ?_)
      refine lv_goto (tgt := 6) C.1 C.2.1 dX7_keepHears_31 rfl ?_
      exact ih6 x8 g7 H locs ls hV (lv_sub hl [1, 0] rfl) (hq6 x8 g7 hF)
  exact hL6 n0 0 f_heardNow H locs ls hV (lv_sub hl [1, 0] rfl) hF
abbrev rmX7_otherHears : Room := { frames := 4, cells := 0, slots := 0, locals := 92 }
theorem mdX7_otherHears : gMd yX7_otherHears wsX7_otherHears cX7_otherHears 3 (some .int) 0 := ⟨⟨_, rfl⟩, by decide +kernel⟩
theorem flX7_otherHears_7 : gFL wsX7_otherHears RX7 7 7 0 RX7 TX7 28 := ⟨rfl, fun w h => List.mem_cons_of_mem _ (List.mem_append_right _ (h)), Nat.le_of_ble_eq_true rfl, List.mem_cons_of_mem _ (List.mem_append_left _ (List.mem_append_left _ (List.mem_of_getElem? (i := 0) rfl)))⟩
theorem flX7_otherHears_30 : gFL wsX7_otherHears RX7 30 7 8 RX7 TX7 28 := ⟨rfl, fun w h => List.mem_cons_of_mem _ (List.mem_append_right _ (h)), Nat.le_of_ble_eq_true rfl, List.mem_cons_of_mem _ (List.mem_append_left _ (List.mem_append_left _ (List.mem_of_getElem? (i := 1) rfl)))⟩
theorem flX7_otherHears_42 : gFL wsX7_otherHears RX7 42 7 17 RX7 TX7 28 := ⟨rfl, fun w h => List.mem_cons_of_mem _ (List.mem_append_right _ (h)), Nat.le_of_ble_eq_true rfl, List.mem_cons_of_mem _ (List.mem_append_left _ (List.mem_append_left _ (List.mem_of_getElem? (i := 2) rfl)))⟩
def L_X7_otherHears_8 (f_d : Nat → Int32) (g1 : Nat → Int32) (g2 : Nat → Int32) (f_heardNow : Nat → Int32) : Nat → Int32 → Int32 → Option (Int32 × (Nat → Int32) × (Nat → Int32)) := lpp2 (fun s3 s4 kk8 => rd f_d 40 0 (fun x5 => (if x5 ≤ s4 then some (s3, g1, g2) else rd g1 10 s4 (fun x6 => rd f_heardNow 10 s4 (fun x7 => (if x6 = x7 then nm (s3 ||| 0) (fun x8 => nm (s4 + 1) (fun x9 => kk8 x8 x9)) else nm (1 <<< (s4 &&& 31)) (fun x10 => nm (s3 ||| x10) (fun x11 => nm (s4 + 1) (fun x12 => kk8 x11 x12)))))))))
def F_X7_otherHears (n0 : Nat) (v_gone : Int32) (f_d : Nat → Int32) (f_heardNow : Nat → Int32) (f_hears : Nat → Int32) (f_near : Nat → Int32) : Option (Int32 × (Nat → Int32) × (Nat → Int32)) := bd2 (F_X7_listen n0 v_gone f_d f_hears f_near) (fun g1 g2 => L_X7_otherHears_8 f_d g1 g2 f_heardNow n0 0 0)
set_option maxRecDepth 100000 in
set_option maxHeartbeats 4000000 in
theorem k_X7_otherHears (l : Launch) (dC : Nat → ClassId) (dI : Nat → Nat → Nat) (cI cB cO : ClassId) (n0 sz : Nat) (a_t : Nat) (a_d : Nat) (a_e : Nat) (a_kept : Nat) (a_found : Nat) (a_tape : Nat) (a_hears : Nat) (a_near : Nat) (a_firstDay : Nat) (a_daily : Nat) (a_heardNow : Nat) (a_bitsOf : Nat) (a_sizeOf : Nat) (a_number : Nat) (a_passing : Nat)   (v_isKept : Int32) (v_taped : Int32) (v_gone : Int32) (v_begin : Int32) (v_round : Int32) (v_leastFar : Int32) (v_leastWhere : Int32) (v_mostLed : Int32) (v_firstMove : Int32) (v_at : Int32) (v_sort : Int32) (v_from : Int32) (v_value : Int64) (v_fault : Int32) (f_d : Nat → Int32) (f_heardNow : Nat → Int32) (f_hears : Nat → Int32) (f_near : Nat → Int32)   {ro : Int32} {o0 : Nat → Int32} {o1 : Nat → Int32} (hF : F_X7_otherHears n0 v_gone f_d f_heardNow f_hears f_near = some (ro, o0, o1)) : Met l yX7_otherHears wsX7_otherHears rmX7_otherHears (va_Pc [.ref a_t] (gPre (dC, dI) (gT cI cB cO) sz [oX7 a_t a_d a_e a_kept v_isKept a_found a_tape v_taped v_gone a_hears a_near a_firstDay a_daily v_begin v_round v_leastFar v_leastWhere v_mostLed a_heardNow v_firstMove v_at v_sort v_from v_value v_fault a_bitsOf a_sizeOf a_number a_passing, aA cI a_d 40 f_d, aA cI a_heardNow 10 f_heardNow, aA cI a_hears 10 f_hears, aA cI a_near 10 f_near])) (gQi (dC, dI) (gT cI cB cO) sz [oX7 a_t a_d a_e a_kept v_isKept a_found a_tape v_taped v_gone a_hears a_near a_firstDay a_daily v_begin v_round v_leastFar v_leastWhere v_mostLed a_heardNow v_firstMove v_at v_sort v_from v_value v_fault a_bitsOf a_sizeOf a_number a_passing, aA cI a_d 40 f_d, aA cI a_heardNow 10 f_heardNow, aA cI a_hears 10 f_hears, aA cI a_near 10 f_near] ro [oX7 a_t a_d a_e a_kept v_isKept a_found a_tape v_taped v_gone a_hears a_near a_firstDay a_daily v_begin v_round v_leastFar v_leastWhere v_mostLed a_heardNow v_firstMove v_at v_sort v_from v_value v_fault a_bitsOf a_sizeOf a_number a_passing, aA cI a_d 40 f_d, aA cI a_heardNow 10 f_heardNow, aA cI a_hears 10 o0, aA cI a_near 10 o1]) 0 0 (va_A [oX7 a_t a_d a_e a_kept v_isKept a_found a_tape v_taped v_gone a_hears a_near a_firstDay a_daily v_begin v_round v_leastFar v_leastWhere v_mostLed a_heardNow v_firstMove v_at v_sort v_from v_value v_fault a_bitsOf a_sizeOf a_number a_passing, aA cI a_d 40 f_d, aA cI a_heardNow 10 f_heardNow, aA cI a_hears 10 f_hears, aA cI a_near 10 f_near] sz) := by
  refine g_metI (Out := Int32 × (Nat → Int32) × (Nat → Int32)) (fun oo => oo.1) (fun oo => [oX7 a_t a_d a_e a_kept v_isKept a_found a_tape v_taped v_gone a_hears a_near a_firstDay a_daily v_begin v_round v_leastFar v_leastWhere v_mostLed a_heardNow v_firstMove v_at v_sort v_from v_value v_fault a_bitsOf a_sizeOf a_number a_passing, aA cI a_d 40 f_d, aA cI a_heardNow 10 f_heardNow, aA cI a_hears 10 oo.2.1, aA cI a_near 10 oo.2.2]) (ro, o0, o1) (own := RX7) (lv := [(0, .ref a_t)]) (by decide) rfl rfl (Nat.le_of_ble_eq_true rfl) rfl ?_
  intro p e s m args below meth c Q ls C hret hV hl
  obtain ⟨out, hout⟩ : ∃ z : Int32 × (Nat → Int32) × (Nat → Int32), z = (ro, o0, o1) := ⟨_, rfl⟩
  rw [← hout] at hF hret
  obtain ⟨H0, hH0⟩ : ∃ z : Heap, z = s.heap := ⟨_, rfl⟩
  obtain ⟨A0, hA0⟩ : ∃ z : Nat → Prop, z = va_A [oX7 a_t a_d a_e a_kept v_isKept a_found a_tape v_taped v_gone a_hears a_near a_firstDay a_daily v_begin v_round v_leastFar v_leastWhere v_mostLed a_heardNow v_firstMove v_at v_sort v_from v_value v_fault a_bitsOf a_sizeOf a_number a_passing, aA cI a_d 40 f_d, aA cI a_heardNow 10 f_heardNow, aA cI a_hears 10 f_hears, aA cI a_near 10 f_near] s.heap.size := ⟨_, rfl⟩
  rw [← hA0] at hret hV
  rw [← hH0] at hret hV
  rw [← hH0]
  obtain ⟨H, locs, hH⟩ : ∃ (z : Heap) (y : List Loc), z = H0 ∧ y = [] := ⟨_, _, rfl, rfl⟩
  rw [← hH.1, ← hH.2]
  have hV : gV (dC, dI) (gT cI cB cO) A0 H0 s [oX7 a_t a_d a_e a_kept v_isKept a_found a_tape v_taped v_gone a_hears a_near a_firstDay a_daily v_begin v_round v_leastFar v_leastWhere v_mostLed a_heardNow v_firstMove v_at v_sort v_from v_value v_fault a_bitsOf a_sizeOf a_number a_passing, aA cI a_d 40 f_d, aA cI a_heardNow 10 f_heardNow, aA cI a_hears 10 f_hears, aA cI a_near 10 f_near] H locs := by rw [hH.1, hH.2]; exact hV
  unfold F_X7_otherHears at hF
  refine lv_aload_n C.1 C.2.1 dX7_otherHears_0 rfl (lv_at hl 0 rfl) ?_
  obtain ⟨g1, g2, hc, hF⟩ := bd2_s hF
  refine g_cVv (ws' := [oX7 a_t a_d a_e a_kept v_isKept a_found a_tape v_taped v_gone a_hears a_near a_firstDay a_daily v_begin v_round v_leastFar v_leastWhere v_mostLed a_heardNow v_firstMove v_at v_sort v_from v_value v_fault a_bitsOf a_sizeOf a_number a_passing, aA cI a_d 40 f_d, aA cI a_heardNow 10 f_heardNow, aA cI a_hears 10 g1, aA cI a_near 10 g2]) (wr := [aA cI a_heardNow 10 f_heardNow]) C hV (k_X7_listen l dC dI cI cB cO n0 H.size a_t a_d a_e a_kept a_found a_tape a_hears a_near a_firstDay a_daily a_heardNow a_bitsOf a_sizeOf a_number a_passing v_isKept v_taped v_gone v_begin v_round v_leastFar v_leastWhere v_mostLed v_firstMove v_at v_sort v_from v_value v_fault f_d f_hears f_near hc) mdX7_listen gX7_otherHears_X7_listen rfl rfl ⟨Nat.le_of_ble_eq_true rfl, Nat.le_of_ble_eq_true rfl⟩ [0, 1, 3, 4] [2] [1, 2, 0, 3, 4] rfl rfl rfl rfl rfl rfl rfl rfl rfl rfl hl.1 (Nat.le_of_ble_eq_true rfl) rfl dX7_otherHears_1 (fun H locs hV => ?_)
  refine lv_iconst (v := 0) C.1 C.2.1 dX7_otherHears_4 rfl ?_
  refine lv_istore_n (lv' := [(1, .int 0), (0, .ref a_t)]) C.1 C.2.1 dX7_otherHears_5 rfl hl (by decide) rfl (fun ls hl => ?_)
  refine lv_iconst (v := 0) C.1 C.2.1 dX7_otherHears_6 rfl ?_
  refine lv_istore_n (lv' := [(2, .int 0), (1, .int 0), (0, .ref a_t)]) C.1 C.2.1 dX7_otherHears_7 rfl hl (by decide) rfl (fun ls hl => ?_)
  have hL8 : ∀ (n : Nat) (s3 : Int32) (s4 : Int32) (H : Heap) (locs : List Loc) (ls : Array Slot), gV (dC, dI) (gT cI cB cO) A0 H0 s [oX7 a_t a_d a_e a_kept v_isKept a_found a_tape v_taped v_gone a_hears a_near a_firstDay a_daily v_begin v_round v_leastFar v_leastWhere v_mostLed a_heardNow v_firstMove v_at v_sort v_from v_value v_fault a_bitsOf a_sizeOf a_number a_passing, aA cI a_d 40 f_d, aA cI a_heardNow 10 f_heardNow, aA cI a_hears 10 g1, aA cI a_near 10 g2] H locs → lv_has ls 3 [(0, .ref a_t), (1, .int s3), (2, .int s4)] → L_X7_otherHears_8 f_d g1 g2 f_heardNow n s3 s4 = some out → W p l e rmX7_otherHears s m args below meth c H locs 0 0 Q (F0 m 8 ls []) := by
    intro n
    induction n with
    | zero => intro s3 s4 H locs ls hV hl hF; exact lpp2_z hF
    | succ n ih8 =>
      intro s3 s4 H locs ls hV hl hF
      obtain ⟨kk8, hk8, hF⟩ := lpp2_g hF
      have hq8 : ∀ (s3 : Int32) (s4 : Int32), kk8 s3 s4 = some out → L_X7_otherHears_8 f_d g1 g2 f_heardNow n s3 s4 = some out := fun _ _ h => by rw [hk8] at h; exact h
      refine lv_iload_n C.1 C.2.1 dX7_otherHears_8 rfl (lv_at hl 2 rfl) ?_
      refine lv_aload_n C.1 C.2.1 dX7_otherHears_9 rfl (lv_at hl 0 rfl) ?_
      refine g_get C hV flX7_otherHears_7 0 rfl rfl dX7_otherHears_10 ?_
      refine lv_iconst (v := 0) C.1 C.2.1 dX7_otherHears_13 rfl ?_
      refine g_iald C hV 1 rfl hF dX7_otherHears_14 (fun x5 hF => ?_)
      refine g_icmp_ge (tgt := 49) C hF dX7_otherHears_15 rfl (fun hF => ?_) (fun hF => ?_)
      · refine lv_iload_n C.1 C.2.1 dX7_otherHears_49 rfl (lv_at hl 1 rfl) ?_
        exact hret (s3, g1, g2) _ _ _ _ dX7_otherHears_50 hF hV
      refine lv_iload_n C.1 C.2.1 dX7_otherHears_18 rfl (lv_at hl 1 rfl) ?_
      refine lv_aload_n C.1 C.2.1 dX7_otherHears_19 rfl (lv_at hl 0 rfl) ?_
      refine g_get C hV flX7_otherHears_30 0 rfl rfl dX7_otherHears_20 ?_
      refine lv_iload_n C.1 C.2.1 dX7_otherHears_23 rfl (lv_at hl 2 rfl) ?_
      refine g_iald C hV 3 rfl hF dX7_otherHears_24 (fun x6 hF => ?_)
      refine lv_aload_n C.1 C.2.1 dX7_otherHears_25 rfl (lv_at hl 0 rfl) ?_
      refine g_get C hV flX7_otherHears_42 0 rfl rfl dX7_otherHears_26 ?_
      refine lv_iload_n C.1 C.2.1 dX7_otherHears_29 rfl (lv_at hl 2 rfl) ?_
      refine g_iald C hV 2 rfl hF dX7_otherHears_30 (fun x7 hF => ?_)
      refine g_icmp_eq (tgt := 40) C hF dX7_otherHears_31 rfl (fun hF => ?_) (fun hF => ?_)
      · refine lv_iconst (v := 0) C.1 C.2.1 dX7_otherHears_40 rfl ?_
        refine g_ior C hF dX7_otherHears_41 (fun x8 hF => ?_)
        refine lv_istore_n (lv' := [(1, .int x8), (0, .ref a_t), (2, .int s4)]) C.1 C.2.1 dX7_otherHears_42 rfl hl (by decide) rfl (fun ls hl => ?_)
        refine g_iinc C hF dX7_otherHears_43 (d := 1) rfl hl (j := 2) rfl (by decide) (fun y => [(2, .int y), (1, .int x8), (0, .ref a_t)]) (fun _ => rfl) (fun x9 ls hF hl => ?_)
        refine lv_goto (tgt := 8) C.1 C.2.1 dX7_otherHears_46 rfl ?_
        exact ih8 x8 x9 H locs ls hV (lv_sub hl [2, 1, 0] rfl) (hq8 x8 x9 hF)
      refine lv_iconst (v := 1) C.1 C.2.1 dX7_otherHears_34 rfl ?_
      refine lv_iload_n C.1 C.2.1 dX7_otherHears_35 rfl (lv_at hl 2 rfl) ?_
      refine g_ishl C hF dX7_otherHears_36 (fun x10 hF => ?_)
      refine lv_goto (tgt := 41) C.1 C.2.1 dX7_otherHears_37 rfl ?_
      refine g_ior C hF dX7_otherHears_41 (fun x11 hF => ?_)
      refine lv_istore_n (lv' := [(1, .int x11), (0, .ref a_t), (2, .int s4)]) C.1 C.2.1 dX7_otherHears_42 rfl hl (by decide) rfl (fun ls hl => ?_)
      refine g_iinc C hF dX7_otherHears_43 (d := 1) rfl hl (j := 2) rfl (by decide) (fun y => [(2, .int y), (1, .int x11), (0, .ref a_t)]) (fun _ => rfl) (fun x12 ls hF hl => ?_)
      refine lv_goto (tgt := 8) C.1 C.2.1 dX7_otherHears_46 rfl ?_
      exact ih8 x11 x12 H locs ls hV (lv_sub hl [2, 1, 0] rfl) (hq8 x11 x12 hF)
  exact hL8 n0 0 0 H locs ls hV (lv_sub hl [2, 1, 0] rfl) hF
abbrev rmX7_changed : Room := { frames := 5, cells := 0, slots := 0, locals := 114 }
theorem mdX7_changed : gMd yX7_changed wsX7_changed cX7_changed 7 (some .int) 3 := ⟨⟨_, rfl⟩, by decide +kernel⟩
theorem flX7_changed_7 : gFL wsX7_changed RX7 7 7 0 RX7 TX7 28 := ⟨rfl, fun w h => List.mem_cons_of_mem _ (List.mem_append_right _ (h)), Nat.le_of_ble_eq_true rfl, List.mem_cons_of_mem _ (List.mem_append_left _ (List.mem_append_left _ (List.mem_of_getElem? (i := 0) rfl)))⟩
def J_X7_changed_52 (n0 : Nat) (v_gone : Int32) (f_d : Nat → Int32) (f_heardNow : Nat → Int32) (f_hears : Nat → Int32) (f_near : Nat → Int32) (p1 : Int32) (p3 : Int32) (p2 : Int32) (f_found : Nat → Int32) : Option (Int32 × (Nat → Int32) × (Nat → Int32) × (Nat → Int32) × (Nat → Int32) × (Nat → Int32)) := bd3 (F_X7_keepHears n0 v_gone f_d f_heardNow f_hears f_near) (fun g8 g9 g10 => bd1 (F_X7_yard n0 f_d p1) (fun x11 => nm (20 + p1) (fun x12 => nm (12 * p3) (fun x13 => nm (x13 + p2) (fun x14 => wrt f_d 40 x12 x14 (fun g15 => bd3 (F_X7_otherHears n0 v_gone g15 g8 g9 g10) (fun x16 g17 g18 => nm (1 <<< (p1 &&& 31)) (fun x19 => nm (x19 ^^^ ((-1))) (fun x20 => nm (x16 &&& x20) (fun x21 => nm (20 + p1) (fun x22 => wrt g15 40 x22 x11 (fun g23 => some (x21, g23, f_found, g8, g17, g18)))))))))))))
def F_X7_changed (n0 : Nat) (v_gone : Int32) (f_d : Nat → Int32) (f_found : Nat → Int32) (f_heardNow : Nat → Int32) (f_hears : Nat → Int32) (f_near : Nat → Int32) (p1 : Int32) (p2 : Int32) (p3 : Int32) : Option (Int32 × (Nat → Int32) × (Nat → Int32) × (Nat → Int32) × (Nat → Int32) × (Nat → Int32)) := bd1 (F_X7_isTent n0 f_d p1) (fun x1 => (if x1 = 0 then bd2 (F_X7_finds n0 f_found 0) (fun x2 g3 => some (x2, f_d, g3, f_heardNow, f_hears, f_near)) else bd1 (F_X7_isYard n0 p2 p3) (fun x4 => (if x4 = 0 then bd2 (F_X7_finds n0 f_found 0) (fun x26 g27 => some (x26, f_d, g27, f_heardNow, f_hears, f_near)) else nm (12 * p3) (fun x5 => nm (x5 + p2) (fun x6 => bd1 (F_X7_whoIs n0 f_d x6) (fun x7 => (if x7 = ((-1)) then J_X7_changed_52 n0 v_gone f_d f_heardNow f_hears f_near p1 p3 p2 f_found else (if x7 = p1 then J_X7_changed_52 n0 v_gone f_d f_heardNow f_hears f_near p1 p3 p2 f_found else bd2 (F_X7_finds n0 f_found 4) (fun x24 g25 => some (x24, f_d, g25, f_heardNow, f_hears, f_near)))))))))))
set_option maxRecDepth 100000 in
set_option maxHeartbeats 4000000 in
theorem k_X7_changed (l : Launch) (dC : Nat → ClassId) (dI : Nat → Nat → Nat) (cI cB cO : ClassId) (n0 sz : Nat) (a_t : Nat) (a_d : Nat) (a_e : Nat) (a_kept : Nat) (a_found : Nat) (a_tape : Nat) (a_hears : Nat) (a_near : Nat) (a_firstDay : Nat) (a_daily : Nat) (a_heardNow : Nat) (a_bitsOf : Nat) (a_sizeOf : Nat) (a_number : Nat) (a_passing : Nat)   (v_isKept : Int32) (v_taped : Int32) (v_gone : Int32) (v_begin : Int32) (v_round : Int32) (v_leastFar : Int32) (v_leastWhere : Int32) (v_mostLed : Int32) (v_firstMove : Int32) (v_at : Int32) (v_sort : Int32) (v_from : Int32) (v_value : Int64) (v_fault : Int32) (f_d : Nat → Int32) (f_found : Nat → Int32) (f_heardNow : Nat → Int32) (f_hears : Nat → Int32) (f_near : Nat → Int32) (p1 : Int32) (p2 : Int32) (p3 : Int32)  {ro : Int32} {o0 : Nat → Int32} {o1 : Nat → Int32} {o2 : Nat → Int32} {o3 : Nat → Int32} {o4 : Nat → Int32} (hF : F_X7_changed n0 v_gone f_d f_found f_heardNow f_hears f_near p1 p2 p3 = some (ro, o0, o1, o2, o3, o4)) : Met l yX7_changed wsX7_changed rmX7_changed (va_Pc [.ref a_t, .int p1, .int p2, .int p3] (gPre (dC, dI) (gT cI cB cO) sz [oX7 a_t a_d a_e a_kept v_isKept a_found a_tape v_taped v_gone a_hears a_near a_firstDay a_daily v_begin v_round v_leastFar v_leastWhere v_mostLed a_heardNow v_firstMove v_at v_sort v_from v_value v_fault a_bitsOf a_sizeOf a_number a_passing, aA cI a_d 40 f_d, aA cI a_found 7 f_found, aA cI a_heardNow 10 f_heardNow, aA cI a_hears 10 f_hears, aA cI a_near 10 f_near])) (gQi (dC, dI) (gT cI cB cO) sz [oX7 a_t a_d a_e a_kept v_isKept a_found a_tape v_taped v_gone a_hears a_near a_firstDay a_daily v_begin v_round v_leastFar v_leastWhere v_mostLed a_heardNow v_firstMove v_at v_sort v_from v_value v_fault a_bitsOf a_sizeOf a_number a_passing, aA cI a_d 40 f_d, aA cI a_found 7 f_found, aA cI a_heardNow 10 f_heardNow, aA cI a_hears 10 f_hears, aA cI a_near 10 f_near] ro [oX7 a_t a_d a_e a_kept v_isKept a_found a_tape v_taped v_gone a_hears a_near a_firstDay a_daily v_begin v_round v_leastFar v_leastWhere v_mostLed a_heardNow v_firstMove v_at v_sort v_from v_value v_fault a_bitsOf a_sizeOf a_number a_passing, aA cI a_d 40 o0, aA cI a_found 7 o1, aA cI a_heardNow 10 o2, aA cI a_hears 10 o3, aA cI a_near 10 o4]) 0 0 (va_A [oX7 a_t a_d a_e a_kept v_isKept a_found a_tape v_taped v_gone a_hears a_near a_firstDay a_daily v_begin v_round v_leastFar v_leastWhere v_mostLed a_heardNow v_firstMove v_at v_sort v_from v_value v_fault a_bitsOf a_sizeOf a_number a_passing, aA cI a_d 40 f_d, aA cI a_found 7 f_found, aA cI a_heardNow 10 f_heardNow, aA cI a_hears 10 f_hears, aA cI a_near 10 f_near] sz) := by
  refine g_metI (Out := Int32 × (Nat → Int32) × (Nat → Int32) × (Nat → Int32) × (Nat → Int32) × (Nat → Int32)) (fun oo => oo.1) (fun oo => [oX7 a_t a_d a_e a_kept v_isKept a_found a_tape v_taped v_gone a_hears a_near a_firstDay a_daily v_begin v_round v_leastFar v_leastWhere v_mostLed a_heardNow v_firstMove v_at v_sort v_from v_value v_fault a_bitsOf a_sizeOf a_number a_passing, aA cI a_d 40 oo.2.1, aA cI a_found 7 oo.2.2.1, aA cI a_heardNow 10 oo.2.2.2.1, aA cI a_hears 10 oo.2.2.2.2.1, aA cI a_near 10 oo.2.2.2.2.2]) (ro, o0, o1, o2, o3, o4) (own := RX7) (lv := [(0, .ref a_t), (1, .int p1), (2, .int p2), (3, .int p3)]) (by decide) rfl rfl (Nat.le_of_ble_eq_true rfl) rfl ?_
  intro p e s m args below meth c Q ls C hret hV hl
  obtain ⟨out, hout⟩ : ∃ z : Int32 × (Nat → Int32) × (Nat → Int32) × (Nat → Int32) × (Nat → Int32) × (Nat → Int32), z = (ro, o0, o1, o2, o3, o4) := ⟨_, rfl⟩
  rw [← hout] at hF hret
  obtain ⟨H0, hH0⟩ : ∃ z : Heap, z = s.heap := ⟨_, rfl⟩
  obtain ⟨A0, hA0⟩ : ∃ z : Nat → Prop, z = va_A [oX7 a_t a_d a_e a_kept v_isKept a_found a_tape v_taped v_gone a_hears a_near a_firstDay a_daily v_begin v_round v_leastFar v_leastWhere v_mostLed a_heardNow v_firstMove v_at v_sort v_from v_value v_fault a_bitsOf a_sizeOf a_number a_passing, aA cI a_d 40 f_d, aA cI a_found 7 f_found, aA cI a_heardNow 10 f_heardNow, aA cI a_hears 10 f_hears, aA cI a_near 10 f_near] s.heap.size := ⟨_, rfl⟩
  rw [← hA0] at hret hV
  rw [← hH0] at hret hV
  rw [← hH0]
  obtain ⟨H, locs, hH⟩ : ∃ (z : Heap) (y : List Loc), z = H0 ∧ y = [] := ⟨_, _, rfl, rfl⟩
  rw [← hH.1, ← hH.2]
  have hV : gV (dC, dI) (gT cI cB cO) A0 H0 s [oX7 a_t a_d a_e a_kept v_isKept a_found a_tape v_taped v_gone a_hears a_near a_firstDay a_daily v_begin v_round v_leastFar v_leastWhere v_mostLed a_heardNow v_firstMove v_at v_sort v_from v_value v_fault a_bitsOf a_sizeOf a_number a_passing, aA cI a_d 40 f_d, aA cI a_found 7 f_found, aA cI a_heardNow 10 f_heardNow, aA cI a_hears 10 f_hears, aA cI a_near 10 f_near] H locs := by rw [hH.1, hH.2]; exact hV
  unfold F_X7_changed at hF
  refine lv_aload_n C.1 C.2.1 dX7_changed_0 rfl (lv_at hl 0 rfl) ?_
  refine lv_iload_n C.1 C.2.1 dX7_changed_1 rfl (lv_at hl 1 rfl) ?_
  obtain ⟨x1, hc, hF⟩ := bd1_s hF
  refine g_cVi (ws' := [oX7 a_t a_d a_e a_kept v_isKept a_found a_tape v_taped v_gone a_hears a_near a_firstDay a_daily v_begin v_round v_leastFar v_leastWhere v_mostLed a_heardNow v_firstMove v_at v_sort v_from v_value v_fault a_bitsOf a_sizeOf a_number a_passing, aA cI a_d 40 f_d, aA cI a_found 7 f_found, aA cI a_heardNow 10 f_heardNow, aA cI a_hears 10 f_hears, aA cI a_near 10 f_near]) (wr := [aA cI a_found 7 f_found, aA cI a_heardNow 10 f_heardNow, aA cI a_hears 10 f_hears, aA cI a_near 10 f_near]) C hV (k_X7_isTent l dC dI cI cB cO n0 H.size a_t a_d a_e a_kept a_found a_tape a_hears a_near a_firstDay a_daily a_heardNow a_bitsOf a_sizeOf a_number a_passing v_isKept v_taped v_gone v_begin v_round v_leastFar v_leastWhere v_mostLed v_firstMove v_at v_sort v_from v_value v_fault f_d p1 hc) mdX7_isTent gX7_changed_X7_isTent rfl rfl ⟨Nat.le_of_ble_eq_true rfl, Nat.le_of_ble_eq_true rfl⟩ [0, 1] [2, 3, 4, 5] [4, 5, 0, 1, 2, 3] rfl rfl rfl rfl rfl rfl rfl rfl rfl rfl hl.1 (Nat.le_of_ble_eq_true rfl) rfl dX7_changed_2 (fun H locs hV => ?_)
  refine g_if_eq (tgt := 16) C hF dX7_changed_5 rfl (fun hF => ?_) (fun hF => ?_)
  · refine lv_aload_n C.1 C.2.1 dX7_changed_16 rfl (lv_at hl 0 rfl) ?_
    refine lv_iconst (v := 0) C.1 C.2.1 dX7_changed_17 rfl ?_
    obtain ⟨x2, g3, hc, hF⟩ := bd2_s hF
    refine g_cVi (ws' := [oX7 a_t a_d a_e a_kept v_isKept a_found a_tape v_taped v_gone a_hears a_near a_firstDay a_daily v_begin v_round v_leastFar v_leastWhere v_mostLed a_heardNow v_firstMove v_at v_sort v_from v_value v_fault a_bitsOf a_sizeOf a_number a_passing, aA cI a_d 40 f_d, aA cI a_found 7 g3, aA cI a_heardNow 10 f_heardNow, aA cI a_hears 10 f_hears, aA cI a_near 10 f_near]) (wr := [aA cI a_d 40 f_d, aA cI a_heardNow 10 f_heardNow, aA cI a_hears 10 f_hears, aA cI a_near 10 f_near]) C hV (k_X7_finds l dC dI cI cB cO n0 H.size a_t a_d a_e a_kept a_found a_tape a_hears a_near a_firstDay a_daily a_heardNow a_bitsOf a_sizeOf a_number a_passing v_isKept v_taped v_gone v_begin v_round v_leastFar v_leastWhere v_mostLed v_firstMove v_at v_sort v_from v_value v_fault f_found 0 hc) mdX7_finds gX7_changed_X7_finds rfl rfl ⟨Nat.le_of_ble_eq_true rfl, Nat.le_of_ble_eq_true rfl⟩ [0, 2] [1, 3, 4, 5] [4, 0, 5, 1, 2, 3] rfl rfl rfl rfl rfl rfl rfl rfl rfl rfl hl.1 (Nat.le_of_ble_eq_true rfl) rfl dX7_changed_18 (fun H locs hV => ?_)
    exact hret (x2, f_d, g3, f_heardNow, f_hears, f_near) _ _ _ _ dX7_changed_21 hF hV
  refine lv_iload_n C.1 C.2.1 dX7_changed_8 rfl (lv_at hl 2 rfl) ?_
  refine lv_iload_n C.1 C.2.1 dX7_changed_9 rfl (lv_at hl 3 rfl) ?_
  obtain ⟨x4, hc, hF⟩ := bd1_s hF
  refine g_cSi (ws' := [oX7 a_t a_d a_e a_kept v_isKept a_found a_tape v_taped v_gone a_hears a_near a_firstDay a_daily v_begin v_round v_leastFar v_leastWhere v_mostLed a_heardNow v_firstMove v_at v_sort v_from v_value v_fault a_bitsOf a_sizeOf a_number a_passing, aA cI a_d 40 f_d, aA cI a_found 7 f_found, aA cI a_heardNow 10 f_heardNow, aA cI a_hears 10 f_hears, aA cI a_near 10 f_near]) (wr := [oX7 a_t a_d a_e a_kept v_isKept a_found a_tape v_taped v_gone a_hears a_near a_firstDay a_daily v_begin v_round v_leastFar v_leastWhere v_mostLed a_heardNow v_firstMove v_at v_sort v_from v_value v_fault a_bitsOf a_sizeOf a_number a_passing, aA cI a_d 40 f_d, aA cI a_found 7 f_found, aA cI a_heardNow 10 f_heardNow, aA cI a_hears 10 f_hears, aA cI a_near 10 f_near]) C hV (k_X7_isYard l dC dI cI cB cO n0 H.size p2 p3 hc) mdX7_isYard gX7_changed_X7_isYard rfl rfl ⟨Nat.le_of_ble_eq_true rfl, Nat.le_of_ble_eq_true rfl⟩ [] [0, 1, 2, 3, 4, 5] [0, 1, 2, 3, 4, 5] rfl rfl rfl rfl rfl rfl rfl rfl hl.1 (Nat.le_of_ble_eq_true rfl) rfl dX7_changed_10 (fun H locs hV => ?_)
  refine g_if_ne (tgt := 22) C hF dX7_changed_13 rfl (fun hF => ?_) (fun hF => ?_)
  · refine lv_aload_n C.1 C.2.1 dX7_changed_22 rfl (lv_at hl 0 rfl) ?_
    refine lv_bipush (v := 12) C.1 C.2.1 dX7_changed_23 rfl ?_
    refine lv_iload_n C.1 C.2.1 dX7_changed_25 rfl (lv_at hl 3 rfl) ?_
    refine g_imul C hF dX7_changed_26 (fun x5 hF => ?_)
    refine lv_iload_n C.1 C.2.1 dX7_changed_27 rfl (lv_at hl 2 rfl) ?_
    refine g_iadd C hF dX7_changed_28 (fun x6 hF => ?_)
    obtain ⟨x7, hc, hF⟩ := bd1_s hF
    refine g_cVi (ws' := [oX7 a_t a_d a_e a_kept v_isKept a_found a_tape v_taped v_gone a_hears a_near a_firstDay a_daily v_begin v_round v_leastFar v_leastWhere v_mostLed a_heardNow v_firstMove v_at v_sort v_from v_value v_fault a_bitsOf a_sizeOf a_number a_passing, aA cI a_d 40 f_d, aA cI a_found 7 f_found, aA cI a_heardNow 10 f_heardNow, aA cI a_hears 10 f_hears, aA cI a_near 10 f_near]) (wr := [aA cI a_found 7 f_found, aA cI a_heardNow 10 f_heardNow, aA cI a_hears 10 f_hears, aA cI a_near 10 f_near]) C hV (k_X7_whoIs l dC dI cI cB cO n0 H.size a_t a_d a_e a_kept a_found a_tape a_hears a_near a_firstDay a_daily a_heardNow a_bitsOf a_sizeOf a_number a_passing v_isKept v_taped v_gone v_begin v_round v_leastFar v_leastWhere v_mostLed v_firstMove v_at v_sort v_from v_value v_fault f_d x6 hc) mdX7_whoIs gX7_changed_X7_whoIs rfl rfl ⟨Nat.le_of_ble_eq_true rfl, Nat.le_of_ble_eq_true rfl⟩ [0, 1] [2, 3, 4, 5] [4, 5, 0, 1, 2, 3] rfl rfl rfl rfl rfl rfl rfl rfl rfl rfl hl.1 (Nat.le_of_ble_eq_true rfl) rfl dX7_changed_29 (fun H locs hV => ?_)
    refine lv_istore (lv' := [(4, .int x7), (0, .ref a_t), (1, .int p1), (2, .int p2), (3, .int p3)]) C.1 C.2.1 dX7_changed_32 hl (by decide) rfl (fun ls hl => ?_)
    refine lv_iload C.1 C.2.1 dX7_changed_34 (lv_at hl 0 rfl) ?_
    refine lv_iconst (v := (-1)) C.1 C.2.1 dX7_changed_36 rfl ?_
    have hJ52 : ∀  (H : Heap) (locs : List Loc) (ls : Array Slot), gV (dC, dI) (gT cI cB cO) A0 H0 s [oX7 a_t a_d a_e a_kept v_isKept a_found a_tape v_taped v_gone a_hears a_near a_firstDay a_daily v_begin v_round v_leastFar v_leastWhere v_mostLed a_heardNow v_firstMove v_at v_sort v_from v_value v_fault a_bitsOf a_sizeOf a_number a_passing, aA cI a_d 40 f_d, aA cI a_found 7 f_found, aA cI a_heardNow 10 f_heardNow, aA cI a_hears 10 f_hears, aA cI a_near 10 f_near] H locs → lv_has ls 7 [(0, .ref a_t), (1, .int p1), (2, .int p2), (3, .int p3)] → J_X7_changed_52 n0 v_gone f_d f_heardNow f_hears f_near p1 p3 p2 f_found = some out → W p l e rmX7_changed s m args below meth c H locs 0 0 Q (F0 m 52 ls []) := by
      intro  H locs ls hV hl hF
      unfold J_X7_changed_52 at hF
      refine lv_aload_n C.1 C.2.1 dX7_changed_52 rfl (lv_at hl 0 rfl) ?_
      obtain ⟨g8, g9, g10, hc, hF⟩ := bd3_s hF
      refine g_cVv (ws' := [oX7 a_t a_d a_e a_kept v_isKept a_found a_tape v_taped v_gone a_hears a_near a_firstDay a_daily v_begin v_round v_leastFar v_leastWhere v_mostLed a_heardNow v_firstMove v_at v_sort v_from v_value v_fault a_bitsOf a_sizeOf a_number a_passing, aA cI a_d 40 f_d, aA cI a_found 7 f_found, aA cI a_heardNow 10 g8, aA cI a_hears 10 g9, aA cI a_near 10 g10]) (wr := [aA cI a_found 7 f_found]) C hV (k_X7_keepHears l dC dI cI cB cO n0 H.size a_t a_d a_e a_kept a_found a_tape a_hears a_near a_firstDay a_daily a_heardNow a_bitsOf a_sizeOf a_number a_passing v_isKept v_taped v_gone v_begin v_round v_leastFar v_leastWhere v_mostLed v_firstMove v_at v_sort v_from v_value v_fault f_d f_heardNow f_hears f_near hc) mdX7_keepHears gX7_changed_X7_keepHears rfl rfl ⟨Nat.le_of_ble_eq_true rfl, Nat.le_of_ble_eq_true rfl⟩ [0, 1, 3, 4, 5] [2] [1, 2, 0, 3, 4, 5] rfl rfl rfl rfl rfl rfl rfl rfl rfl rfl hl.1 (Nat.le_of_ble_eq_true rfl) rfl dX7_changed_53 (fun H locs hV => ?_)
      refine lv_aload_n C.1 C.2.1 dX7_changed_56 rfl (lv_at hl 0 rfl) ?_
      refine lv_iload_n C.1 C.2.1 dX7_changed_57 rfl (lv_at hl 1 rfl) ?_
      obtain ⟨x11, hc, hF⟩ := bd1_s hF
      refine g_cVi (ws' := [oX7 a_t a_d a_e a_kept v_isKept a_found a_tape v_taped v_gone a_hears a_near a_firstDay a_daily v_begin v_round v_leastFar v_leastWhere v_mostLed a_heardNow v_firstMove v_at v_sort v_from v_value v_fault a_bitsOf a_sizeOf a_number a_passing, aA cI a_d 40 f_d, aA cI a_found 7 f_found, aA cI a_heardNow 10 g8, aA cI a_hears 10 g9, aA cI a_near 10 g10]) (wr := [aA cI a_found 7 f_found, aA cI a_heardNow 10 g8, aA cI a_hears 10 g9, aA cI a_near 10 g10]) C hV (k_X7_yard l dC dI cI cB cO n0 H.size a_t a_d a_e a_kept a_found a_tape a_hears a_near a_firstDay a_daily a_heardNow a_bitsOf a_sizeOf a_number a_passing v_isKept v_taped v_gone v_begin v_round v_leastFar v_leastWhere v_mostLed v_firstMove v_at v_sort v_from v_value v_fault f_d p1 hc) mdX7_yard gX7_changed_X7_yard rfl rfl ⟨Nat.le_of_ble_eq_true rfl, Nat.le_of_ble_eq_true rfl⟩ [0, 1] [2, 3, 4, 5] [4, 5, 0, 1, 2, 3] rfl rfl rfl rfl rfl rfl rfl rfl rfl rfl hl.1 (Nat.le_of_ble_eq_true rfl) rfl dX7_changed_58 (fun H locs hV => ?_)
      refine lv_istore (lv' := [(5, .int x11), (0, .ref a_t), (1, .int p1), (2, .int p2), (3, .int p3)]) C.1 C.2.1 dX7_changed_61 hl (by decide) rfl (fun ls hl => ?_)
      refine lv_aload_n C.1 C.2.1 dX7_changed_63 rfl (lv_at hl 1 rfl) ?_
      refine g_get C hV flX7_changed_7 0 rfl rfl dX7_changed_64 ?_
      refine lv_bipush (v := 20) C.1 C.2.1 dX7_changed_67 rfl ?_
      refine lv_iload_n C.1 C.2.1 dX7_changed_69 rfl (lv_at hl 2 rfl) ?_
      refine g_iadd C hF dX7_changed_70 (fun x12 hF => ?_)
      refine lv_bipush (v := 12) C.1 C.2.1 dX7_changed_71 rfl ?_
      refine lv_iload_n C.1 C.2.1 dX7_changed_73 rfl (lv_at hl 4 rfl) ?_
      refine g_imul C hF dX7_changed_74 (fun x13 hF => ?_)
      refine lv_iload_n C.1 C.2.1 dX7_changed_75 rfl (lv_at hl 3 rfl) ?_
      refine g_iadd C hF dX7_changed_76 (fun x14 hF => ?_)
      refine g_iast C hV 1 rfl hF (fun gq => [oX7 a_t a_d a_e a_kept v_isKept a_found a_tape v_taped v_gone a_hears a_near a_firstDay a_daily v_begin v_round v_leastFar v_leastWhere v_mostLed a_heardNow v_firstMove v_at v_sort v_from v_value v_fault a_bitsOf a_sizeOf a_number a_passing, aA cI a_d 40 gq, aA cI a_found 7 f_found, aA cI a_heardNow 10 g8, aA cI a_hears 10 g9, aA cI a_near 10 g10]) (fun _ => rfl) dX7_changed_77 (fun g15 H locs hF hV => ?_)
      refine lv_aload_n C.1 C.2.1 dX7_changed_78 rfl (lv_at hl 1 rfl) ?_
      obtain ⟨x16, g17, g18, hc, hF⟩ := bd3_s hF
      refine g_cVi (ws' := [oX7 a_t a_d a_e a_kept v_isKept a_found a_tape v_taped v_gone a_hears a_near a_firstDay a_daily v_begin v_round v_leastFar v_leastWhere v_mostLed a_heardNow v_firstMove v_at v_sort v_from v_value v_fault a_bitsOf a_sizeOf a_number a_passing, aA cI a_d 40 g15, aA cI a_found 7 f_found, aA cI a_heardNow 10 g8, aA cI a_hears 10 g17, aA cI a_near 10 g18]) (wr := [aA cI a_found 7 f_found]) C hV (k_X7_otherHears l dC dI cI cB cO n0 H.size a_t a_d a_e a_kept a_found a_tape a_hears a_near a_firstDay a_daily a_heardNow a_bitsOf a_sizeOf a_number a_passing v_isKept v_taped v_gone v_begin v_round v_leastFar v_leastWhere v_mostLed v_firstMove v_at v_sort v_from v_value v_fault g15 g8 g9 g10 hc) mdX7_otherHears gX7_changed_X7_otherHears rfl rfl ⟨Nat.le_of_ble_eq_true rfl, Nat.le_of_ble_eq_true rfl⟩ [0, 1, 3, 4, 5] [2] [1, 2, 0, 3, 4, 5] rfl rfl rfl rfl rfl rfl rfl rfl rfl rfl hl.1 (Nat.le_of_ble_eq_true rfl) rfl dX7_changed_79 (fun H locs hV => ?_)
      refine lv_iconst (v := 1) C.1 C.2.1 dX7_changed_82 rfl ?_
      refine lv_iload_n C.1 C.2.1 dX7_changed_83 rfl (lv_at hl 2 rfl) ?_
      refine g_ishl C hF dX7_changed_84 (fun x19 hF => ?_)
      refine lv_iconst (v := (-1)) C.1 C.2.1 dX7_changed_85 rfl ?_
      refine g_ixor C hF dX7_changed_86 (fun x20 hF => ?_)
      refine g_iand C hF dX7_changed_87 (fun x21 hF => ?_)
      refine lv_istore (lv' := [(6, .int x21), (5, .int x11), (0, .ref a_t), (1, .int p1), (2, .int p2), (3, .int p3)]) C.1 C.2.1 dX7_changed_88 hl (by decide) rfl (fun ls hl => ?_)
      refine lv_aload_n C.1 C.2.1 dX7_changed_90 rfl (lv_at hl 2 rfl) ?_
      refine g_get C hV flX7_changed_7 0 rfl rfl dX7_changed_91 ?_
      refine lv_bipush (v := 20) C.1 C.2.1 dX7_changed_94 rfl ?_
      refine lv_iload_n C.1 C.2.1 dX7_changed_96 rfl (lv_at hl 3 rfl) ?_
      refine g_iadd C hF dX7_changed_97 (fun x22 hF => ?_)
      refine lv_iload C.1 C.2.1 dX7_changed_98 (lv_at hl 1 rfl) ?_
      refine g_iast C hV 1 rfl hF (fun gq => [oX7 a_t a_d a_e a_kept v_isKept a_found a_tape v_taped v_gone a_hears a_near a_firstDay a_daily v_begin v_round v_leastFar v_leastWhere v_mostLed a_heardNow v_firstMove v_at v_sort v_from v_value v_fault a_bitsOf a_sizeOf a_number a_passing, aA cI a_d 40 gq, aA cI a_found 7 f_found, aA cI a_heardNow 10 g8, aA cI a_hears 10 g17, aA cI a_near 10 g18]) (fun _ => rfl) dX7_changed_100 (fun g23 H locs hF hV => ?_)
      refine lv_iload C.1 C.2.1 dX7_changed_101 (lv_at hl 0 rfl) ?_
      exact hret (x21, g23, f_found, g8, g17, g18) _ _ _ _ dX7_changed_103 hF hV
    refine g_icmp_eq (tgt := 52) C hF dX7_changed_37 rfl (fun hF => ?_) (fun hF => ?_)
    · exact hJ52  H locs ls hV (lv_sub hl [1, 2, 3, 4] rfl) hF
    refine lv_iload C.1 C.2.1 dX7_changed_40 (lv_at hl 0 rfl) ?_
    refine lv_iload_n C.1 C.2.1 dX7_changed_42 rfl (lv_at hl 2 rfl) ?_
    refine g_icmp_eq (tgt := 52) C hF dX7_changed_43 rfl (fun hF => ?_) (fun hF => ?_)
    · exact hJ52  H locs ls hV (lv_sub hl [1, 2, 3, 4] rfl) hF
    refine lv_aload_n C.1 C.2.1 dX7_changed_46 rfl (lv_at hl 1 rfl) ?_
    refine lv_iconst (v := 4) C.1 C.2.1 dX7_changed_47 rfl ?_
    obtain ⟨x24, g25, hc, hF⟩ := bd2_s hF
    refine g_cVi (ws' := [oX7 a_t a_d a_e a_kept v_isKept a_found a_tape v_taped v_gone a_hears a_near a_firstDay a_daily v_begin v_round v_leastFar v_leastWhere v_mostLed a_heardNow v_firstMove v_at v_sort v_from v_value v_fault a_bitsOf a_sizeOf a_number a_passing, aA cI a_d 40 f_d, aA cI a_found 7 g25, aA cI a_heardNow 10 f_heardNow, aA cI a_hears 10 f_hears, aA cI a_near 10 f_near]) (wr := [aA cI a_d 40 f_d, aA cI a_heardNow 10 f_heardNow, aA cI a_hears 10 f_hears, aA cI a_near 10 f_near]) C hV (k_X7_finds l dC dI cI cB cO n0 H.size a_t a_d a_e a_kept a_found a_tape a_hears a_near a_firstDay a_daily a_heardNow a_bitsOf a_sizeOf a_number a_passing v_isKept v_taped v_gone v_begin v_round v_leastFar v_leastWhere v_mostLed v_firstMove v_at v_sort v_from v_value v_fault f_found 4 hc) mdX7_finds gX7_changed_X7_finds rfl rfl ⟨Nat.le_of_ble_eq_true rfl, Nat.le_of_ble_eq_true rfl⟩ [0, 2] [1, 3, 4, 5] [4, 0, 5, 1, 2, 3] rfl rfl rfl rfl rfl rfl rfl rfl rfl rfl hl.1 (Nat.le_of_ble_eq_true rfl) rfl dX7_changed_48 (fun H locs hV => ?_)
    exact hret (x24, f_d, g25, f_heardNow, f_hears, f_near) _ _ _ _ dX7_changed_51 hF hV
  refine lv_aload_n C.1 C.2.1 dX7_changed_16 rfl (lv_at hl 0 rfl) ?_
  refine lv_iconst (v := 0) C.1 C.2.1 dX7_changed_17 rfl ?_
  obtain ⟨x26, g27, hc, hF⟩ := bd2_s hF
  refine g_cVi (ws' := [oX7 a_t a_d a_e a_kept v_isKept a_found a_tape v_taped v_gone a_hears a_near a_firstDay a_daily v_begin v_round v_leastFar v_leastWhere v_mostLed a_heardNow v_firstMove v_at v_sort v_from v_value v_fault a_bitsOf a_sizeOf a_number a_passing, aA cI a_d 40 f_d, aA cI a_found 7 g27, aA cI a_heardNow 10 f_heardNow, aA cI a_hears 10 f_hears, aA cI a_near 10 f_near]) (wr := [aA cI a_d 40 f_d, aA cI a_heardNow 10 f_heardNow, aA cI a_hears 10 f_hears, aA cI a_near 10 f_near]) C hV (k_X7_finds l dC dI cI cB cO n0 H.size a_t a_d a_e a_kept a_found a_tape a_hears a_near a_firstDay a_daily a_heardNow a_bitsOf a_sizeOf a_number a_passing v_isKept v_taped v_gone v_begin v_round v_leastFar v_leastWhere v_mostLed v_firstMove v_at v_sort v_from v_value v_fault f_found 0 hc) mdX7_finds gX7_changed_X7_finds rfl rfl ⟨Nat.le_of_ble_eq_true rfl, Nat.le_of_ble_eq_true rfl⟩ [0, 2] [1, 3, 4, 5] [4, 0, 5, 1, 2, 3] rfl rfl rfl rfl rfl rfl rfl rfl rfl rfl hl.1 (Nat.le_of_ble_eq_true rfl) rfl dX7_changed_18 (fun H locs hV => ?_)
  exact hret (x26, f_d, g27, f_heardNow, f_hears, f_near) _ _ _ _ dX7_changed_21 hF hV
abbrev rmX7_still : Room := { frames := 5, cells := 0, slots := 0, locals := 114 }
theorem mdX7_still : gMd yX7_still wsX7_still cX7_still 5 (some .int) 1 := ⟨⟨_, rfl⟩, by decide +kernel⟩
theorem flX7_still_7 : gFL wsX7_still RX7 7 7 0 RX7 TX7 28 := ⟨rfl, fun w h => List.mem_cons_of_mem _ (List.mem_append_right _ (h)), Nat.le_of_ble_eq_true rfl, List.mem_cons_of_mem _ (List.mem_append_left _ (List.mem_append_left _ (List.mem_of_getElem? (i := 0) rfl)))⟩
def J_X7_still_74 (k18 : Int32) (k17 : Int32) (p1 : Int32) (g13 : Nat → Int32) (x5 : Int32) (s7 : Int32) (kk29 : Int32 → Int32 → (Nat → Int32) → (Nat → Int32) → (Nat → Int32) → Option (Int32 × (Nat → Int32) × (Nat → Int32) × (Nat → Int32) × (Nat → Int32) × (Nat → Int32))) (g15 : Nat → Int32) (g16 : Nat → Int32) : Option (Int32 × (Nat → Int32) × (Nat → Int32) × (Nat → Int32) × (Nat → Int32) × (Nat → Int32)) := nm (k18 + k17) (fun x19 => nm (20 + p1) (fun x20 => wrt g13 40 x20 x5 (fun g21 => nm (s7 + 1) (fun x22 => kk29 x19 x22 g21 g15 g16))))
def L_X7_still_29 (f_found : Nat → Int32) (g2 : Nat → Int32) (n0 : Nat) (p1 : Int32) (v_gone : Int32) (x5 : Int32) : Nat → Int32 → Int32 → (Nat → Int32) → (Nat → Int32) → (Nat → Int32) → Option (Int32 × (Nat → Int32) × (Nat → Int32) × (Nat → Int32) × (Nat → Int32) × (Nat → Int32)) := lpp5 (fun s6 s7 t8 t9 t10 kk29 => (if 144 ≤ s7 then some (s6, t8, f_found, g2, t9, t10) else bd1 (F_X7_whoIs n0 t8 s7) (fun x11 => (if x11 = ((-1)) then nm (20 + p1) (fun x12 => wrt t8 40 x12 s7 (fun g13 => bd3 (F_X7_otherHears n0 v_gone g13 g2 t9 t10) (fun x14 g15 g16 => (if x14 = 0 then J_X7_still_74 s6 1 p1 g13 x5 s7 kk29 g15 g16 else J_X7_still_74 s6 0 p1 g13 x5 s7 kk29 g15 g16)))) else nm (s7 + 1) (fun x23 => kk29 s6 x23 t8 t9 t10)))))
def F_X7_still (n0 : Nat) (v_gone : Int32) (f_d : Nat → Int32) (f_found : Nat → Int32) (f_heardNow : Nat → Int32) (f_hears : Nat → Int32) (f_near : Nat → Int32) (p1 : Int32) : Option (Int32 × (Nat → Int32) × (Nat → Int32) × (Nat → Int32) × (Nat → Int32) × (Nat → Int32)) := bd1 (F_X7_isTent n0 f_d p1) (fun x1 => (if x1 = 0 then bd2 (F_X7_finds n0 f_found 0) (fun x24 g25 => some (x24, f_d, g25, f_heardNow, f_hears, f_near)) else bd3 (F_X7_keepHears n0 v_gone f_d f_heardNow f_hears f_near) (fun g2 g3 g4 => bd1 (F_X7_yard n0 f_d p1) (fun x5 => L_X7_still_29 f_found g2 n0 p1 v_gone x5 n0 0 0 f_d g3 g4))))
set_option maxRecDepth 100000 in
set_option maxHeartbeats 4000000 in
theorem k_X7_still (l : Launch) (dC : Nat → ClassId) (dI : Nat → Nat → Nat) (cI cB cO : ClassId) (n0 sz : Nat) (a_t : Nat) (a_d : Nat) (a_e : Nat) (a_kept : Nat) (a_found : Nat) (a_tape : Nat) (a_hears : Nat) (a_near : Nat) (a_firstDay : Nat) (a_daily : Nat) (a_heardNow : Nat) (a_bitsOf : Nat) (a_sizeOf : Nat) (a_number : Nat) (a_passing : Nat)   (v_isKept : Int32) (v_taped : Int32) (v_gone : Int32) (v_begin : Int32) (v_round : Int32) (v_leastFar : Int32) (v_leastWhere : Int32) (v_mostLed : Int32) (v_firstMove : Int32) (v_at : Int32) (v_sort : Int32) (v_from : Int32) (v_value : Int64) (v_fault : Int32) (f_d : Nat → Int32) (f_found : Nat → Int32) (f_heardNow : Nat → Int32) (f_hears : Nat → Int32) (f_near : Nat → Int32) (p1 : Int32)  {ro : Int32} {o0 : Nat → Int32} {o1 : Nat → Int32} {o2 : Nat → Int32} {o3 : Nat → Int32} {o4 : Nat → Int32} (hF : F_X7_still n0 v_gone f_d f_found f_heardNow f_hears f_near p1 = some (ro, o0, o1, o2, o3, o4)) : Met l yX7_still wsX7_still rmX7_still (va_Pc [.ref a_t, .int p1] (gPre (dC, dI) (gT cI cB cO) sz [oX7 a_t a_d a_e a_kept v_isKept a_found a_tape v_taped v_gone a_hears a_near a_firstDay a_daily v_begin v_round v_leastFar v_leastWhere v_mostLed a_heardNow v_firstMove v_at v_sort v_from v_value v_fault a_bitsOf a_sizeOf a_number a_passing, aA cI a_d 40 f_d, aA cI a_found 7 f_found, aA cI a_heardNow 10 f_heardNow, aA cI a_hears 10 f_hears, aA cI a_near 10 f_near])) (gQi (dC, dI) (gT cI cB cO) sz [oX7 a_t a_d a_e a_kept v_isKept a_found a_tape v_taped v_gone a_hears a_near a_firstDay a_daily v_begin v_round v_leastFar v_leastWhere v_mostLed a_heardNow v_firstMove v_at v_sort v_from v_value v_fault a_bitsOf a_sizeOf a_number a_passing, aA cI a_d 40 f_d, aA cI a_found 7 f_found, aA cI a_heardNow 10 f_heardNow, aA cI a_hears 10 f_hears, aA cI a_near 10 f_near] ro [oX7 a_t a_d a_e a_kept v_isKept a_found a_tape v_taped v_gone a_hears a_near a_firstDay a_daily v_begin v_round v_leastFar v_leastWhere v_mostLed a_heardNow v_firstMove v_at v_sort v_from v_value v_fault a_bitsOf a_sizeOf a_number a_passing, aA cI a_d 40 o0, aA cI a_found 7 o1, aA cI a_heardNow 10 o2, aA cI a_hears 10 o3, aA cI a_near 10 o4]) 0 0 (va_A [oX7 a_t a_d a_e a_kept v_isKept a_found a_tape v_taped v_gone a_hears a_near a_firstDay a_daily v_begin v_round v_leastFar v_leastWhere v_mostLed a_heardNow v_firstMove v_at v_sort v_from v_value v_fault a_bitsOf a_sizeOf a_number a_passing, aA cI a_d 40 f_d, aA cI a_found 7 f_found, aA cI a_heardNow 10 f_heardNow, aA cI a_hears 10 f_hears, aA cI a_near 10 f_near] sz) := by
  refine g_metI (Out := Int32 × (Nat → Int32) × (Nat → Int32) × (Nat → Int32) × (Nat → Int32) × (Nat → Int32)) (fun oo => oo.1) (fun oo => [oX7 a_t a_d a_e a_kept v_isKept a_found a_tape v_taped v_gone a_hears a_near a_firstDay a_daily v_begin v_round v_leastFar v_leastWhere v_mostLed a_heardNow v_firstMove v_at v_sort v_from v_value v_fault a_bitsOf a_sizeOf a_number a_passing, aA cI a_d 40 oo.2.1, aA cI a_found 7 oo.2.2.1, aA cI a_heardNow 10 oo.2.2.2.1, aA cI a_hears 10 oo.2.2.2.2.1, aA cI a_near 10 oo.2.2.2.2.2]) (ro, o0, o1, o2, o3, o4) (own := RX7) (lv := [(0, .ref a_t), (1, .int p1)]) (by decide) rfl rfl (Nat.le_of_ble_eq_true rfl) rfl ?_
  intro p e s m args below meth c Q ls C hret hV hl
  obtain ⟨out, hout⟩ : ∃ z : Int32 × (Nat → Int32) × (Nat → Int32) × (Nat → Int32) × (Nat → Int32) × (Nat → Int32), z = (ro, o0, o1, o2, o3, o4) := ⟨_, rfl⟩
  rw [← hout] at hF hret
  obtain ⟨H0, hH0⟩ : ∃ z : Heap, z = s.heap := ⟨_, rfl⟩
  obtain ⟨A0, hA0⟩ : ∃ z : Nat → Prop, z = va_A [oX7 a_t a_d a_e a_kept v_isKept a_found a_tape v_taped v_gone a_hears a_near a_firstDay a_daily v_begin v_round v_leastFar v_leastWhere v_mostLed a_heardNow v_firstMove v_at v_sort v_from v_value v_fault a_bitsOf a_sizeOf a_number a_passing, aA cI a_d 40 f_d, aA cI a_found 7 f_found, aA cI a_heardNow 10 f_heardNow, aA cI a_hears 10 f_hears, aA cI a_near 10 f_near] s.heap.size := ⟨_, rfl⟩
  rw [← hA0] at hret hV
  rw [← hH0] at hret hV
  rw [← hH0]
  obtain ⟨H, locs, hH⟩ : ∃ (z : Heap) (y : List Loc), z = H0 ∧ y = [] := ⟨_, _, rfl, rfl⟩
  rw [← hH.1, ← hH.2]
  have hV : gV (dC, dI) (gT cI cB cO) A0 H0 s [oX7 a_t a_d a_e a_kept v_isKept a_found a_tape v_taped v_gone a_hears a_near a_firstDay a_daily v_begin v_round v_leastFar v_leastWhere v_mostLed a_heardNow v_firstMove v_at v_sort v_from v_value v_fault a_bitsOf a_sizeOf a_number a_passing, aA cI a_d 40 f_d, aA cI a_found 7 f_found, aA cI a_heardNow 10 f_heardNow, aA cI a_hears 10 f_hears, aA cI a_near 10 f_near] H locs := by rw [hH.1, hH.2]; exact hV
  unfold F_X7_still at hF
  refine lv_aload_n C.1 C.2.1 dX7_still_0 rfl (lv_at hl 0 rfl) ?_
  refine lv_iload_n C.1 C.2.1 dX7_still_1 rfl (lv_at hl 1 rfl) ?_
  obtain ⟨x1, hc, hF⟩ := bd1_s hF
  refine g_cVi (ws' := [oX7 a_t a_d a_e a_kept v_isKept a_found a_tape v_taped v_gone a_hears a_near a_firstDay a_daily v_begin v_round v_leastFar v_leastWhere v_mostLed a_heardNow v_firstMove v_at v_sort v_from v_value v_fault a_bitsOf a_sizeOf a_number a_passing, aA cI a_d 40 f_d, aA cI a_found 7 f_found, aA cI a_heardNow 10 f_heardNow, aA cI a_hears 10 f_hears, aA cI a_near 10 f_near]) (wr := [aA cI a_found 7 f_found, aA cI a_heardNow 10 f_heardNow, aA cI a_hears 10 f_hears, aA cI a_near 10 f_near]) C hV (k_X7_isTent l dC dI cI cB cO n0 H.size a_t a_d a_e a_kept a_found a_tape a_hears a_near a_firstDay a_daily a_heardNow a_bitsOf a_sizeOf a_number a_passing v_isKept v_taped v_gone v_begin v_round v_leastFar v_leastWhere v_mostLed v_firstMove v_at v_sort v_from v_value v_fault f_d p1 hc) mdX7_isTent gX7_still_X7_isTent rfl rfl ⟨Nat.le_of_ble_eq_true rfl, Nat.le_of_ble_eq_true rfl⟩ [0, 1] [2, 3, 4, 5] [4, 5, 0, 1, 2, 3] rfl rfl rfl rfl rfl rfl rfl rfl rfl rfl hl.1 (Nat.le_of_ble_eq_true rfl) rfl dX7_still_2 (fun H locs hV => ?_)
  refine g_if_ne (tgt := 14) C hF dX7_still_5 rfl (fun hF => ?_) (fun hF => ?_)
  · refine lv_aload_n C.1 C.2.1 dX7_still_14 rfl (lv_at hl 0 rfl) ?_
    obtain ⟨g2, g3, g4, hc, hF⟩ := bd3_s hF
    refine g_cVv (ws' := [oX7 a_t a_d a_e a_kept v_isKept a_found a_tape v_taped v_gone a_hears a_near a_firstDay a_daily v_begin v_round v_leastFar v_leastWhere v_mostLed a_heardNow v_firstMove v_at v_sort v_from v_value v_fault a_bitsOf a_sizeOf a_number a_passing, aA cI a_d 40 f_d, aA cI a_found 7 f_found, aA cI a_heardNow 10 g2, aA cI a_hears 10 g3, aA cI a_near 10 g4]) (wr := [aA cI a_found 7 f_found]) C hV (k_X7_keepHears l dC dI cI cB cO n0 H.size a_t a_d a_e a_kept a_found a_tape a_hears a_near a_firstDay a_daily a_heardNow a_bitsOf a_sizeOf a_number a_passing v_isKept v_taped v_gone v_begin v_round v_leastFar v_leastWhere v_mostLed v_firstMove v_at v_sort v_from v_value v_fault f_d f_heardNow f_hears f_near hc) mdX7_keepHears gX7_still_X7_keepHears rfl rfl ⟨Nat.le_of_ble_eq_true rfl, Nat.le_of_ble_eq_true rfl⟩ [0, 1, 3, 4, 5] [2] [1, 2, 0, 3, 4, 5] rfl rfl rfl rfl rfl rfl rfl rfl rfl rfl hl.1 (Nat.le_of_ble_eq_true rfl) rfl dX7_still_15 (fun H locs hV => ?_)
    refine lv_aload_n C.1 C.2.1 dX7_still_18 rfl (lv_at hl 0 rfl) ?_
    refine lv_iload_n C.1 C.2.1 dX7_still_19 rfl (lv_at hl 1 rfl) ?_
    obtain ⟨x5, hc, hF⟩ := bd1_s hF
    refine g_cVi (ws' := [oX7 a_t a_d a_e a_kept v_isKept a_found a_tape v_taped v_gone a_hears a_near a_firstDay a_daily v_begin v_round v_leastFar v_leastWhere v_mostLed a_heardNow v_firstMove v_at v_sort v_from v_value v_fault a_bitsOf a_sizeOf a_number a_passing, aA cI a_d 40 f_d, aA cI a_found 7 f_found, aA cI a_heardNow 10 g2, aA cI a_hears 10 g3, aA cI a_near 10 g4]) (wr := [aA cI a_found 7 f_found, aA cI a_heardNow 10 g2, aA cI a_hears 10 g3, aA cI a_near 10 g4]) C hV (k_X7_yard l dC dI cI cB cO n0 H.size a_t a_d a_e a_kept a_found a_tape a_hears a_near a_firstDay a_daily a_heardNow a_bitsOf a_sizeOf a_number a_passing v_isKept v_taped v_gone v_begin v_round v_leastFar v_leastWhere v_mostLed v_firstMove v_at v_sort v_from v_value v_fault f_d p1 hc) mdX7_yard gX7_still_X7_yard rfl rfl ⟨Nat.le_of_ble_eq_true rfl, Nat.le_of_ble_eq_true rfl⟩ [0, 1] [2, 3, 4, 5] [4, 5, 0, 1, 2, 3] rfl rfl rfl rfl rfl rfl rfl rfl rfl rfl hl.1 (Nat.le_of_ble_eq_true rfl) rfl dX7_still_20 (fun H locs hV => ?_)
    refine lv_istore_n (lv' := [(2, .int x5), (0, .ref a_t), (1, .int p1)]) C.1 C.2.1 dX7_still_23 rfl hl (by decide) rfl (fun ls hl => ?_)
    refine lv_iconst (v := 0) C.1 C.2.1 dX7_still_24 rfl ?_
    refine lv_istore_n (lv' := [(3, .int 0), (2, .int x5), (0, .ref a_t), (1, .int p1)]) C.1 C.2.1 dX7_still_25 rfl hl (by decide) rfl (fun ls hl => ?_)
    refine lv_iconst (v := 0) C.1 C.2.1 dX7_still_26 rfl ?_
    refine lv_istore (lv' := [(4, .int 0), (3, .int 0), (2, .int x5), (0, .ref a_t), (1, .int p1)]) C.1 C.2.1 dX7_still_27 hl (by decide) rfl (fun ls hl => ?_)
    have hL29 : ∀ (n : Nat) (s6 : Int32) (s7 : Int32) (t8 : Nat → Int32) (t9 : Nat → Int32) (t10 : Nat → Int32) (H : Heap) (locs : List Loc) (ls : Array Slot), gV (dC, dI) (gT cI cB cO) A0 H0 s [oX7 a_t a_d a_e a_kept v_isKept a_found a_tape v_taped v_gone a_hears a_near a_firstDay a_daily v_begin v_round v_leastFar v_leastWhere v_mostLed a_heardNow v_firstMove v_at v_sort v_from v_value v_fault a_bitsOf a_sizeOf a_number a_passing, aA cI a_d 40 t8, aA cI a_found 7 f_found, aA cI a_heardNow 10 g2, aA cI a_hears 10 t9, aA cI a_near 10 t10] H locs → lv_has ls 5 [(0, .ref a_t), (1, .int p1), (2, .int x5), (3, .int s6), (4, .int s7)] → L_X7_still_29 f_found g2 n0 p1 v_gone x5 n s6 s7 t8 t9 t10 = some out → W p l e rmX7_still s m args below meth c H locs 0 0 Q (F0 m 29 ls []) := by
      intro n
      induction n with
      | zero => intro s6 s7 t8 t9 t10 H locs ls hV hl hF; exact lpp5_z hF
      | succ n ih29 =>
        intro s6 s7 t8 t9 t10 H locs ls hV hl hF
        obtain ⟨kk29, hk29, hF⟩ := lpp5_g hF
        have hq29 : ∀ (s6 : Int32) (s7 : Int32) (t8 : Nat → Int32) (t9 : Nat → Int32) (t10 : Nat → Int32), kk29 s6 s7 t8 t9 t10 = some out → L_X7_still_29 f_found g2 n0 p1 v_gone x5 n s6 s7 t8 t9 t10 = some out := fun _ _ _ _ _ h => by rw [hk29] at h; exact h
        refine lv_iload C.1 C.2.1 dX7_still_29 (lv_at hl 4 rfl) ?_
        refine lv_sipush (v := 144) C.1 C.2.1 dX7_still_31 rfl ?_
        refine g_icmp_ge (tgt := 92) C hF dX7_still_34 rfl (fun hF => ?_) (fun hF => ?_)
        · refine lv_iload_n C.1 C.2.1 dX7_still_92 rfl (lv_at hl 3 rfl) ?_
          exact hret (s6, t8, f_found, g2, t9, t10) _ _ _ _ dX7_still_93 hF hV
        refine lv_aload_n C.1 C.2.1 dX7_still_37 rfl (lv_at hl 0 rfl) ?_
        refine lv_iload C.1 C.2.1 dX7_still_38 (lv_at hl 4 rfl) ?_
        obtain ⟨x11, hc, hF⟩ := bd1_s hF
        refine g_cVi (ws' := [oX7 a_t a_d a_e a_kept v_isKept a_found a_tape v_taped v_gone a_hears a_near a_firstDay a_daily v_begin v_round v_leastFar v_leastWhere v_mostLed a_heardNow v_firstMove v_at v_sort v_from v_value v_fault a_bitsOf a_sizeOf a_number a_passing, aA cI a_d 40 t8, aA cI a_found 7 f_found, aA cI a_heardNow 10 g2, aA cI a_hears 10 t9, aA cI a_near 10 t10]) (wr := [aA cI a_found 7 f_found, aA cI a_heardNow 10 g2, aA cI a_hears 10 t9, aA cI a_near 10 t10]) C hV (k_X7_whoIs l dC dI cI cB cO n0 H.size a_t a_d a_e a_kept a_found a_tape a_hears a_near a_firstDay a_daily a_heardNow a_bitsOf a_sizeOf a_number a_passing v_isKept v_taped v_gone v_begin v_round v_leastFar v_leastWhere v_mostLed v_firstMove v_at v_sort v_from v_value v_fault t8 s7 hc) mdX7_whoIs gX7_still_X7_whoIs rfl rfl ⟨Nat.le_of_ble_eq_true rfl, Nat.le_of_ble_eq_true rfl⟩ [0, 1] [2, 3, 4, 5] [4, 5, 0, 1, 2, 3] rfl rfl rfl rfl rfl rfl rfl rfl rfl rfl hl.1 (Nat.le_of_ble_eq_true rfl) rfl dX7_still_40 (fun H locs hV => ?_)
        refine lv_iconst (v := (-1)) C.1 C.2.1 dX7_still_43 rfl ?_
        refine g_icmp_eq (tgt := 50) C hF dX7_still_44 rfl (fun hF => ?_) (fun hF => ?_)
        · refine lv_aload_n C.1 C.2.1 dX7_still_50 rfl (lv_at hl 0 rfl) ?_
          refine g_get C hV flX7_still_7 0 rfl rfl dX7_still_51 ?_
          refine lv_bipush (v := 20) C.1 C.2.1 dX7_still_54 rfl ?_
          refine lv_iload_n C.1 C.2.1 dX7_still_56 rfl (lv_at hl 1 rfl) ?_
          refine g_iadd C hF dX7_still_57 (fun x12 hF => ?_)
          refine lv_iload C.1 C.2.1 dX7_still_58 (lv_at hl 4 rfl) ?_
          refine g_iast C hV 1 rfl hF (fun gq => [oX7 a_t a_d a_e a_kept v_isKept a_found a_tape v_taped v_gone a_hears a_near a_firstDay a_daily v_begin v_round v_leastFar v_leastWhere v_mostLed a_heardNow v_firstMove v_at v_sort v_from v_value v_fault a_bitsOf a_sizeOf a_number a_passing, aA cI a_d 40 gq, aA cI a_found 7 f_found, aA cI a_heardNow 10 g2, aA cI a_hears 10 t9, aA cI a_near 10 t10]) (fun _ => rfl) dX7_still_60 (fun g13 H locs hF hV => ?_)
          refine lv_iload_n C.1 C.2.1 dX7_still_61 rfl (lv_at hl 3 rfl) ?_
          refine lv_aload_n C.1 C.2.1 dX7_still_62 rfl (lv_at hl 0 rfl) ?_
          obtain ⟨x14, g15, g16, hc, hF⟩ := bd3_s hF
          refine g_cVi (ws' := [oX7 a_t a_d a_e a_kept v_isKept a_found a_tape v_taped v_gone a_hears a_near a_firstDay a_daily v_begin v_round v_leastFar v_leastWhere v_mostLed a_heardNow v_firstMove v_at v_sort v_from v_value v_fault a_bitsOf a_sizeOf a_number a_passing, aA cI a_d 40 g13, aA cI a_found 7 f_found, aA cI a_heardNow 10 g2, aA cI a_hears 10 g15, aA cI a_near 10 g16]) (wr := [aA cI a_found 7 f_found]) C hV (k_X7_otherHears l dC dI cI cB cO n0 H.size a_t a_d a_e a_kept a_found a_tape a_hears a_near a_firstDay a_daily a_heardNow a_bitsOf a_sizeOf a_number a_passing v_isKept v_taped v_gone v_begin v_round v_leastFar v_leastWhere v_mostLed v_firstMove v_at v_sort v_from v_value v_fault g13 g2 t9 t10 hc) mdX7_otherHears gX7_still_X7_otherHears rfl rfl ⟨Nat.le_of_ble_eq_true rfl, Nat.le_of_ble_eq_true rfl⟩ [0, 1, 3, 4, 5] [2] [1, 2, 0, 3, 4, 5] rfl rfl rfl rfl rfl rfl rfl rfl rfl rfl hl.1 (Nat.le_of_ble_eq_true rfl) rfl dX7_still_63 (fun H locs hV => ?_)
          have hJ74 : ∀ (k17 : Int32) (k18 : Int32) (H : Heap) (locs : List Loc) (ls : Array Slot), gV (dC, dI) (gT cI cB cO) A0 H0 s [oX7 a_t a_d a_e a_kept v_isKept a_found a_tape v_taped v_gone a_hears a_near a_firstDay a_daily v_begin v_round v_leastFar v_leastWhere v_mostLed a_heardNow v_firstMove v_at v_sort v_from v_value v_fault a_bitsOf a_sizeOf a_number a_passing, aA cI a_d 40 g13, aA cI a_found 7 f_found, aA cI a_heardNow 10 g2, aA cI a_hears 10 g15, aA cI a_near 10 g16] H locs → lv_has ls 5 [(0, .ref a_t), (1, .int p1), (2, .int x5), (4, .int s7)] → J_X7_still_74 k18 k17 p1 g13 x5 s7 kk29 g15 g16 = some out → W p l e rmX7_still s m args below meth c H locs 0 0 Q (F0 m 74 ls [.int k17, .int k18]) := by
            intro k17 k18 H locs ls hV hl hF
            unfold J_X7_still_74 at hF
            refine g_iadd C hF dX7_still_74 (fun x19 hF => ?_)
            refine lv_istore_n (lv' := [(3, .int x19), (0, .ref a_t), (1, .int p1), (2, .int x5), (4, .int s7)]) C.1 C.2.1 dX7_still_75 rfl hl (by decide) rfl (fun ls hl => ?_)
            refine lv_aload_n C.1 C.2.1 dX7_still_76 rfl (lv_at hl 1 rfl) ?_
            refine g_get C hV flX7_still_7 0 rfl rfl dX7_still_77 ?_
            refine lv_bipush (v := 20) C.1 C.2.1 dX7_still_80 rfl ?_
            refine lv_iload_n C.1 C.2.1 dX7_still_82 rfl (lv_at hl 2 rfl) ?_
            refine g_iadd C hF dX7_still_83 (fun x20 hF => ?_)
            refine lv_iload_n C.1 C.2.1 dX7_still_84 rfl (lv_at hl 3 rfl) ?_
            refine g_iast C hV 1 rfl hF (fun gq => [oX7 a_t a_d a_e a_kept v_isKept a_found a_tape v_taped v_gone a_hears a_near a_firstDay a_daily v_begin v_round v_leastFar v_leastWhere v_mostLed a_heardNow v_firstMove v_at v_sort v_from v_value v_fault a_bitsOf a_sizeOf a_number a_passing, aA cI a_d 40 gq, aA cI a_found 7 f_found, aA cI a_heardNow 10 g2, aA cI a_hears 10 g15, aA cI a_near 10 g16]) (fun _ => rfl) dX7_still_85 (fun g21 H locs hF hV => ?_)
            refine g_iinc C hF dX7_still_86 (d := 1) rfl hl (j := 4) rfl (by decide) (fun y => [(4, .int y), (3, .int x19), (0, .ref a_t), (1, .int p1), (2, .int x5)]) (fun _ => rfl) (fun x22 ls hF hl => ?_)
            refine lv_goto (tgt := 29) C.1 C.2.1 dX7_still_89 rfl ?_
            exact ih29 x19 x22 g21 g15 g16 H locs ls hV (lv_sub hl [2, 3, 4, 1, 0] rfl) (hq29 x19 x22 g21 g15 g16 hF)
          refine g_if_ne (tgt := 73) C hF dX7_still_66 rfl (fun hF => ?_) (fun hF => ?_)
          · refine lv_iconst (v := 0) C.1 C.2.1 dX7_still_73 rfl ?_
            exact hJ74 0 s6 H locs ls hV (lv_sub hl [0, 1, 2, 4] rfl) hF
          refine lv_iconst (v := 1) C.1 C.2.1 dX7_still_69 rfl ?_
          refine lv_goto (tgt := 74) C.1 C.2.1 dX7_still_70 rfl ?_
          exact hJ74 1 s6 H locs ls hV (lv_sub hl [0, 1, 2, 4] rfl) hF
        refine lv_goto (tgt := 86) C.1 C.2.1 dX7_still_47 rfl ?_
        refine g_iinc C hF dX7_still_86 (d := 1) rfl hl (j := 4) rfl (by decide) (fun y => [(4, .int y), (0, .ref a_t), (1, .int p1), (2, .int x5), (3, .int s6)]) (fun _ => rfl) (fun x23 ls hF hl => ?_)
        refine lv_goto (tgt := 29) C.1 C.2.1 dX7_still_89 rfl ?_
        exact ih29 s6 x23 t8 t9 t10 H locs ls hV (lv_sub hl [1, 2, 3, 4, 0] rfl) (hq29 s6 x23 t8 t9 t10 hF)
    exact hL29 n0 0 0 f_d g3 g4 H locs ls hV (lv_sub hl [3, 4, 2, 1, 0] rfl) hF
  refine lv_aload_n C.1 C.2.1 dX7_still_8 rfl (lv_at hl 0 rfl) ?_
  refine lv_iconst (v := 0) C.1 C.2.1 dX7_still_9 rfl ?_
  obtain ⟨x24, g25, hc, hF⟩ := bd2_s hF
  refine g_cVi (ws' := [oX7 a_t a_d a_e a_kept v_isKept a_found a_tape v_taped v_gone a_hears a_near a_firstDay a_daily v_begin v_round v_leastFar v_leastWhere v_mostLed a_heardNow v_firstMove v_at v_sort v_from v_value v_fault a_bitsOf a_sizeOf a_number a_passing, aA cI a_d 40 f_d, aA cI a_found 7 g25, aA cI a_heardNow 10 f_heardNow, aA cI a_hears 10 f_hears, aA cI a_near 10 f_near]) (wr := [aA cI a_d 40 f_d, aA cI a_heardNow 10 f_heardNow, aA cI a_hears 10 f_hears, aA cI a_near 10 f_near]) C hV (k_X7_finds l dC dI cI cB cO n0 H.size a_t a_d a_e a_kept a_found a_tape a_hears a_near a_firstDay a_daily a_heardNow a_bitsOf a_sizeOf a_number a_passing v_isKept v_taped v_gone v_begin v_round v_leastFar v_leastWhere v_mostLed v_firstMove v_at v_sort v_from v_value v_fault f_found 0 hc) mdX7_finds gX7_still_X7_finds rfl rfl ⟨Nat.le_of_ble_eq_true rfl, Nat.le_of_ble_eq_true rfl⟩ [0, 2] [1, 3, 4, 5] [4, 0, 5, 1, 2, 3] rfl rfl rfl rfl rfl rfl rfl rfl rfl rfl hl.1 (Nat.le_of_ble_eq_true rfl) rfl dX7_still_10 (fun H locs hV => ?_)
  exact hret (x24, f_d, g25, f_heardNow, f_hears, f_near) _ _ _ _ dX7_still_13 hF hV
abbrev rmX7_key : Room := { frames := 4, cells := 0, slots := 0, locals := 92 }
theorem mdX7_key : gMd yX7_key wsX7_key cX7_key 6 (some .int) 0 := ⟨⟨_, rfl⟩, by decide +kernel⟩
theorem flX7_key_7 : gFL wsX7_key RX7 7 7 0 RX7 TX7 28 := ⟨rfl, fun w h => List.mem_cons_of_mem _ (List.mem_append_right _ (h)), Nat.le_of_ble_eq_true rfl, List.mem_cons_of_mem _ (List.mem_append_left _ (List.mem_append_left _ (List.mem_of_getElem? (i := 0) rfl)))⟩
theorem flX7_key_26 : gFL wsX7_key RX7 26 7 7 RX7 TX7 28 := ⟨rfl, fun w h => List.mem_cons_of_mem _ (List.mem_append_right _ (h)), Nat.le_of_ble_eq_true rfl, List.mem_cons_of_mem _ (List.mem_append_left _ (List.mem_append_left _ (List.mem_of_getElem? (i := 1) rfl)))⟩
theorem fpX7_key_26 : gFP wsX7_key RX7 26 7 7 RX7 TX7 28 .int := ⟨flX7_key_26, ⟨tyX7, tyX7_ok⟩, nmX7, rfl, by decide +kernel⟩
theorem flX7_key_30 : gFL wsX7_key RX7 30 7 8 RX7 TX7 28 := ⟨rfl, fun w h => List.mem_cons_of_mem _ (List.mem_append_right _ (h)), Nat.le_of_ble_eq_true rfl, List.mem_cons_of_mem _ (List.mem_append_left _ (List.mem_append_left _ (List.mem_of_getElem? (i := 2) rfl)))⟩
def L_X7_key_38 (f_d : Nat → Int32) (s1 : Int32) (s3 : Int32) (kk6 : Int32 → Int32 → Int32 → (Nat → Int32) → (Nat → Int32) → Int32 → Option (Int32 × Int32 × (Nat → Int32) × (Nat → Int32) × (Nat → Int32))) (g12 : Nat → Int32) (g11 : Nat → Int32) (s2 : Int32) (n0 : Nat) : Nat → Int32 → Int32 → Option (Int32 × Int32 × (Nat → Int32) × (Nat → Int32) × (Nat → Int32)) := lpp2 (fun s13 s14 kk38 => rd f_d 40 0 (fun x15 => (if x15 ≤ s14 then (if s1 = ((-1)) then nm (s3 + 1) (fun x16 => kk6 s3 s13 x16 g12 g11 s3) else (if s2 ≤ s13 then nm (s3 + 1) (fun x17 => kk6 s1 s2 x17 g12 g11 s3) else nm (s3 + 1) (fun x18 => kk6 s3 s13 x18 g12 g11 s3))) else (if s14 = s3 then nm (s13 + 0) (fun x19 => nm (s14 + 1) (fun x20 => kk38 x19 x20)) else bd1 (F_X7_lineOf n0 g12 s14) (fun x21 => (if x21 < 0 then nm (s13 + 0) (fun x22 => nm (s14 + 1) (fun x23 => kk38 x22 x23)) else nm (s13 + 1) (fun x24 => nm (s14 + 1) (fun x25 => kk38 x24 x25))))))))
def L_X7_key_6 (f_d : Nat → Int32) (n0 : Nat) (f_found : Nat → Int32) : Nat → Int32 → Int32 → Int32 → (Nat → Int32) → (Nat → Int32) → Int32 → Option (Int32 × Int32 × (Nat → Int32) × (Nat → Int32) × (Nat → Int32)) := lpp6 (fun s1 s2 s3 t4 t5 u6 kk6 => rd f_d 40 0 (fun x7 => (if x7 ≤ s3 then (if s1 = ((-1)) then bd2 (F_X7_finds n0 f_found 3) (fun x8 g9 => some (x8, (-1), g9, t4, t5)) else some (s1, (-1), f_found, t4, t5)) else bd2 (F_X7_listen n0 s3 f_d t4 t5) (fun g10 g11 => wrt g10 10 s3 ((-1)) (fun g12 => L_X7_key_38 f_d s1 s3 kk6 g12 g11 s2 n0 n0 0 0)))))
def F_X7_key (n0 : Nat) (v_gone : Int32) (f_d : Nat → Int32) (f_found : Nat → Int32) (f_hears : Nat → Int32) (f_near : Nat → Int32) : Option (Int32 × Int32 × (Nat → Int32) × (Nat → Int32) × (Nat → Int32)) := L_X7_key_6 f_d n0 f_found n0 ((-1)) 0 0 f_hears f_near v_gone
set_option maxRecDepth 100000 in
set_option maxHeartbeats 4000000 in
theorem k_X7_key (l : Launch) (dC : Nat → ClassId) (dI : Nat → Nat → Nat) (cI cB cO : ClassId) (n0 sz : Nat) (a_t : Nat) (a_d : Nat) (a_e : Nat) (a_kept : Nat) (a_found : Nat) (a_tape : Nat) (a_hears : Nat) (a_near : Nat) (a_firstDay : Nat) (a_daily : Nat) (a_heardNow : Nat) (a_bitsOf : Nat) (a_sizeOf : Nat) (a_number : Nat) (a_passing : Nat)   (v_isKept : Int32) (v_taped : Int32) (v_gone : Int32) (v_begin : Int32) (v_round : Int32) (v_leastFar : Int32) (v_leastWhere : Int32) (v_mostLed : Int32) (v_firstMove : Int32) (v_at : Int32) (v_sort : Int32) (v_from : Int32) (v_value : Int64) (v_fault : Int32) (f_d : Nat → Int32) (f_found : Nat → Int32) (f_hears : Nat → Int32) (f_near : Nat → Int32)   {ro : Int32} {o0 : Int32} {o1 : Nat → Int32} {o2 : Nat → Int32} {o3 : Nat → Int32} (hF : F_X7_key n0 v_gone f_d f_found f_hears f_near = some (ro, o0, o1, o2, o3)) : Met l yX7_key wsX7_key rmX7_key (va_Pc [.ref a_t] (gPre (dC, dI) (gT cI cB cO) sz [oX7 a_t a_d a_e a_kept v_isKept a_found a_tape v_taped v_gone a_hears a_near a_firstDay a_daily v_begin v_round v_leastFar v_leastWhere v_mostLed a_heardNow v_firstMove v_at v_sort v_from v_value v_fault a_bitsOf a_sizeOf a_number a_passing, aA cI a_d 40 f_d, aA cI a_found 7 f_found, aA cI a_hears 10 f_hears, aA cI a_near 10 f_near])) (gQi (dC, dI) (gT cI cB cO) sz [oX7 a_t a_d a_e a_kept v_isKept a_found a_tape v_taped v_gone a_hears a_near a_firstDay a_daily v_begin v_round v_leastFar v_leastWhere v_mostLed a_heardNow v_firstMove v_at v_sort v_from v_value v_fault a_bitsOf a_sizeOf a_number a_passing, aA cI a_d 40 f_d, aA cI a_found 7 f_found, aA cI a_hears 10 f_hears, aA cI a_near 10 f_near] ro [oX7 a_t a_d a_e a_kept v_isKept a_found a_tape v_taped o0 a_hears a_near a_firstDay a_daily v_begin v_round v_leastFar v_leastWhere v_mostLed a_heardNow v_firstMove v_at v_sort v_from v_value v_fault a_bitsOf a_sizeOf a_number a_passing, aA cI a_d 40 f_d, aA cI a_found 7 o1, aA cI a_hears 10 o2, aA cI a_near 10 o3]) 0 0 (va_A [oX7 a_t a_d a_e a_kept v_isKept a_found a_tape v_taped v_gone a_hears a_near a_firstDay a_daily v_begin v_round v_leastFar v_leastWhere v_mostLed a_heardNow v_firstMove v_at v_sort v_from v_value v_fault a_bitsOf a_sizeOf a_number a_passing, aA cI a_d 40 f_d, aA cI a_found 7 f_found, aA cI a_hears 10 f_hears, aA cI a_near 10 f_near] sz) := by
  refine g_metI (Out := Int32 × Int32 × (Nat → Int32) × (Nat → Int32) × (Nat → Int32)) (fun oo => oo.1) (fun oo => [oX7 a_t a_d a_e a_kept v_isKept a_found a_tape v_taped oo.2.1 a_hears a_near a_firstDay a_daily v_begin v_round v_leastFar v_leastWhere v_mostLed a_heardNow v_firstMove v_at v_sort v_from v_value v_fault a_bitsOf a_sizeOf a_number a_passing, aA cI a_d 40 f_d, aA cI a_found 7 oo.2.2.1, aA cI a_hears 10 oo.2.2.2.1, aA cI a_near 10 oo.2.2.2.2]) (ro, o0, o1, o2, o3) (own := RX7) (lv := [(0, .ref a_t)]) (by decide) rfl rfl (Nat.le_of_ble_eq_true rfl) rfl ?_
  intro p e s m args below meth c Q ls C hret hV hl
  obtain ⟨out, hout⟩ : ∃ z : Int32 × Int32 × (Nat → Int32) × (Nat → Int32) × (Nat → Int32), z = (ro, o0, o1, o2, o3) := ⟨_, rfl⟩
  rw [← hout] at hF hret
  obtain ⟨H0, hH0⟩ : ∃ z : Heap, z = s.heap := ⟨_, rfl⟩
  obtain ⟨A0, hA0⟩ : ∃ z : Nat → Prop, z = va_A [oX7 a_t a_d a_e a_kept v_isKept a_found a_tape v_taped v_gone a_hears a_near a_firstDay a_daily v_begin v_round v_leastFar v_leastWhere v_mostLed a_heardNow v_firstMove v_at v_sort v_from v_value v_fault a_bitsOf a_sizeOf a_number a_passing, aA cI a_d 40 f_d, aA cI a_found 7 f_found, aA cI a_hears 10 f_hears, aA cI a_near 10 f_near] s.heap.size := ⟨_, rfl⟩
  rw [← hA0] at hret hV
  rw [← hH0] at hret hV
  rw [← hH0]
  obtain ⟨H, locs, hH⟩ : ∃ (z : Heap) (y : List Loc), z = H0 ∧ y = [] := ⟨_, _, rfl, rfl⟩
  rw [← hH.1, ← hH.2]
  have hV : gV (dC, dI) (gT cI cB cO) A0 H0 s [oX7 a_t a_d a_e a_kept v_isKept a_found a_tape v_taped v_gone a_hears a_near a_firstDay a_daily v_begin v_round v_leastFar v_leastWhere v_mostLed a_heardNow v_firstMove v_at v_sort v_from v_value v_fault a_bitsOf a_sizeOf a_number a_passing, aA cI a_d 40 f_d, aA cI a_found 7 f_found, aA cI a_hears 10 f_hears, aA cI a_near 10 f_near] H locs := by rw [hH.1, hH.2]; exact hV
  unfold F_X7_key at hF
  refine lv_iconst (v := (-1)) C.1 C.2.1 dX7_key_0 rfl ?_
  refine lv_istore_n (lv' := [(1, .int ((-1))), (0, .ref a_t)]) C.1 C.2.1 dX7_key_1 rfl hl (by decide) rfl (fun ls hl => ?_)
  refine lv_iconst (v := 0) C.1 C.2.1 dX7_key_2 rfl ?_
  refine lv_istore_n (lv' := [(2, .int 0), (1, .int ((-1))), (0, .ref a_t)]) C.1 C.2.1 dX7_key_3 rfl hl (by decide) rfl (fun ls hl => ?_)
  refine lv_iconst (v := 0) C.1 C.2.1 dX7_key_4 rfl ?_
  refine lv_istore_n (lv' := [(3, .int 0), (2, .int 0), (1, .int ((-1))), (0, .ref a_t)]) C.1 C.2.1 dX7_key_5 rfl hl (by decide) rfl (fun ls hl => ?_)
  have hL6 : ∀ (n : Nat) (s1 : Int32) (s2 : Int32) (s3 : Int32) (t4 : Nat → Int32) (t5 : Nat → Int32) (u6 : Int32) (H : Heap) (locs : List Loc) (ls : Array Slot), gV (dC, dI) (gT cI cB cO) A0 H0 s [oX7 a_t a_d a_e a_kept v_isKept a_found a_tape v_taped u6 a_hears a_near a_firstDay a_daily v_begin v_round v_leastFar v_leastWhere v_mostLed a_heardNow v_firstMove v_at v_sort v_from v_value v_fault a_bitsOf a_sizeOf a_number a_passing, aA cI a_d 40 f_d, aA cI a_found 7 f_found, aA cI a_hears 10 t4, aA cI a_near 10 t5] H locs → lv_has ls 6 [(0, .ref a_t), (1, .int s1), (2, .int s2), (3, .int s3)] → L_X7_key_6 f_d n0 f_found n s1 s2 s3 t4 t5 u6 = some out → W p l e rmX7_key s m args below meth c H locs 0 0 Q (F0 m 6 ls []) := by
    intro n
    induction n with
    | zero => intro s1 s2 s3 t4 t5 u6 H locs ls hV hl hF; exact lpp6_z hF
    | succ n ih6 =>
      intro s1 s2 s3 t4 t5 u6 H locs ls hV hl hF
      obtain ⟨kk6, hk6, hF⟩ := lpp6_g hF
      have hq6 : ∀ (s1 : Int32) (s2 : Int32) (s3 : Int32) (t4 : Nat → Int32) (t5 : Nat → Int32) (u6 : Int32), kk6 s1 s2 s3 t4 t5 u6 = some out → L_X7_key_6 f_d n0 f_found n s1 s2 s3 t4 t5 u6 = some out := fun _ _ _ _ _ _ h => by rw [hk6] at h; exact h
      refine lv_iload_n C.1 C.2.1 dX7_key_6 rfl (lv_at hl 3 rfl) ?_
      refine lv_aload_n C.1 C.2.1 dX7_key_7 rfl (lv_at hl 0 rfl) ?_
      refine g_get C hV flX7_key_7 0 rfl rfl dX7_key_8 ?_
      refine lv_iconst (v := 0) C.1 C.2.1 dX7_key_11 rfl ?_
      refine g_iald C hV 1 rfl hF dX7_key_12 (fun x7 hF => ?_)
      refine g_icmp_ge (tgt := 102) C hF dX7_key_13 rfl (fun hF => ?_) (fun hF => ?_)
      · refine lv_aload_n C.1 C.2.1 dX7_key_102 rfl (lv_at hl 0 rfl) ?_
        refine lv_iconst (v := (-1)) C.1 C.2.1 dX7_key_103 rfl ?_
        refine g_put (ws' := [oX7 a_t a_d a_e a_kept v_isKept a_found a_tape v_taped ((-1)) a_hears a_near a_firstDay a_daily v_begin v_round v_leastFar v_leastWhere v_mostLed a_heardNow v_firstMove v_at v_sort v_from v_value v_fault a_bitsOf a_sizeOf a_number a_passing, aA cI a_d 40 f_d, aA cI a_found 7 f_found, aA cI a_hears 10 t4, aA cI a_near 10 t5]) C hV fpX7_key_26 0 rfl rfl rfl (Nat.le_of_ble_eq_true rfl) rfl dX7_key_104 (fun H locs hV => ?_)
        refine lv_iload_n C.1 C.2.1 dX7_key_107 rfl (lv_at hl 1 rfl) ?_
        refine lv_iconst (v := (-1)) C.1 C.2.1 dX7_key_108 rfl ?_
        refine g_icmp_ne (tgt := 120) C hF dX7_key_109 rfl (fun hF => ?_) (fun hF => ?_)
        · refine lv_iload_n C.1 C.2.1 dX7_key_120 rfl (lv_at hl 1 rfl) ?_
          exact hret (s1, (-1), f_found, t4, t5) _ _ _ _ dX7_key_121 hF hV
        refine lv_aload_n C.1 C.2.1 dX7_key_112 rfl (lv_at hl 0 rfl) ?_
        refine lv_iconst (v := 3) C.1 C.2.1 dX7_key_113 rfl ?_
        obtain ⟨x8, g9, hc, hF⟩ := bd2_s hF
        refine g_cVi (ws' := [oX7 a_t a_d a_e a_kept v_isKept a_found a_tape v_taped ((-1)) a_hears a_near a_firstDay a_daily v_begin v_round v_leastFar v_leastWhere v_mostLed a_heardNow v_firstMove v_at v_sort v_from v_value v_fault a_bitsOf a_sizeOf a_number a_passing, aA cI a_d 40 f_d, aA cI a_found 7 g9, aA cI a_hears 10 t4, aA cI a_near 10 t5]) (wr := [aA cI a_d 40 f_d, aA cI a_hears 10 t4, aA cI a_near 10 t5]) C hV (k_X7_finds l dC dI cI cB cO n0 H.size a_t a_d a_e a_kept a_found a_tape a_hears a_near a_firstDay a_daily a_heardNow a_bitsOf a_sizeOf a_number a_passing v_isKept v_taped ((-1)) v_begin v_round v_leastFar v_leastWhere v_mostLed v_firstMove v_at v_sort v_from v_value v_fault f_found 3 hc) mdX7_finds gX7_key_X7_finds rfl rfl ⟨Nat.le_of_ble_eq_true rfl, Nat.le_of_ble_eq_true rfl⟩ [0, 2] [1, 3, 4] [3, 0, 4, 1, 2] rfl rfl rfl rfl rfl rfl rfl rfl rfl rfl hl.1 (Nat.le_of_ble_eq_true rfl) rfl dX7_key_114 (fun H locs hV => ?_)
        refine lv_goto (tgt := 121) C.1 C.2.1 dX7_key_117 rfl ?_
        exact hret (x8, (-1), g9, t4, t5) _ _ _ _ dX7_key_121 hF hV
      refine lv_aload_n C.1 C.2.1 dX7_key_16 rfl (lv_at hl 0 rfl) ?_
      refine lv_iload_n C.1 C.2.1 dX7_key_17 rfl (lv_at hl 3 rfl) ?_
      refine g_put (ws' := [oX7 a_t a_d a_e a_kept v_isKept a_found a_tape v_taped s3 a_hears a_near a_firstDay a_daily v_begin v_round v_leastFar v_leastWhere v_mostLed a_heardNow v_firstMove v_at v_sort v_from v_value v_fault a_bitsOf a_sizeOf a_number a_passing, aA cI a_d 40 f_d, aA cI a_found 7 f_found, aA cI a_hears 10 t4, aA cI a_near 10 t5]) C hV fpX7_key_26 0 rfl rfl rfl (Nat.le_of_ble_eq_true rfl) rfl dX7_key_18 (fun H locs hV => ?_)
      refine lv_aload_n C.1 C.2.1 dX7_key_21 rfl (lv_at hl 0 rfl) ?_
      obtain ⟨g10, g11, hc, hF⟩ := bd2_s hF
      refine g_cVv (ws' := [oX7 a_t a_d a_e a_kept v_isKept a_found a_tape v_taped s3 a_hears a_near a_firstDay a_daily v_begin v_round v_leastFar v_leastWhere v_mostLed a_heardNow v_firstMove v_at v_sort v_from v_value v_fault a_bitsOf a_sizeOf a_number a_passing, aA cI a_d 40 f_d, aA cI a_found 7 f_found, aA cI a_hears 10 g10, aA cI a_near 10 g11]) (wr := [aA cI a_found 7 f_found]) C hV (k_X7_listen l dC dI cI cB cO n0 H.size a_t a_d a_e a_kept a_found a_tape a_hears a_near a_firstDay a_daily a_heardNow a_bitsOf a_sizeOf a_number a_passing v_isKept v_taped s3 v_begin v_round v_leastFar v_leastWhere v_mostLed v_firstMove v_at v_sort v_from v_value v_fault f_d t4 t5 hc) mdX7_listen gX7_key_X7_listen rfl rfl ⟨Nat.le_of_ble_eq_true rfl, Nat.le_of_ble_eq_true rfl⟩ [0, 1, 3, 4] [2] [1, 2, 0, 3, 4] rfl rfl rfl rfl rfl rfl rfl rfl rfl rfl hl.1 (Nat.le_of_ble_eq_true rfl) rfl dX7_key_22 (fun H locs hV => ?_)
      refine lv_aload_n C.1 C.2.1 dX7_key_25 rfl (lv_at hl 0 rfl) ?_
      refine g_get C hV flX7_key_30 0 rfl rfl dX7_key_26 ?_
      refine lv_iload_n C.1 C.2.1 dX7_key_29 rfl (lv_at hl 3 rfl) ?_
      refine lv_iconst (v := (-1)) C.1 C.2.1 dX7_key_30 rfl ?_
      refine g_iast C hV 3 rfl hF (fun gq => [oX7 a_t a_d a_e a_kept v_isKept a_found a_tape v_taped s3 a_hears a_near a_firstDay a_daily v_begin v_round v_leastFar v_leastWhere v_mostLed a_heardNow v_firstMove v_at v_sort v_from v_value v_fault a_bitsOf a_sizeOf a_number a_passing, aA cI a_d 40 f_d, aA cI a_found 7 f_found, aA cI a_hears 10 gq, aA cI a_near 10 g11]) (fun _ => rfl) dX7_key_31 (fun g12 H locs hF hV => ?_)
      refine lv_iconst (v := 0) C.1 C.2.1 dX7_key_32 rfl ?_
      refine lv_istore (lv' := [(4, .int 0), (0, .ref a_t), (1, .int s1), (2, .int s2), (3, .int s3)]) C.1 C.2.1 dX7_key_33 hl (by decide) rfl (fun ls hl => ?_)
      refine lv_iconst (v := 0) C.1 C.2.1 dX7_key_35 rfl ?_
      refine lv_istore (lv' := [(5, .int 0), (4, .int 0), (0, .ref a_t), (1, .int s1), (2, .int s2), (3, .int s3)]) C.1 C.2.1 dX7_key_36 hl (by decide) rfl (fun ls hl => ?_)
      have hL38 : ∀ (n : Nat) (s13 : Int32) (s14 : Int32) (H : Heap) (locs : List Loc) (ls : Array Slot), gV (dC, dI) (gT cI cB cO) A0 H0 s [oX7 a_t a_d a_e a_kept v_isKept a_found a_tape v_taped s3 a_hears a_near a_firstDay a_daily v_begin v_round v_leastFar v_leastWhere v_mostLed a_heardNow v_firstMove v_at v_sort v_from v_value v_fault a_bitsOf a_sizeOf a_number a_passing, aA cI a_d 40 f_d, aA cI a_found 7 f_found, aA cI a_hears 10 g12, aA cI a_near 10 g11] H locs → lv_has ls 6 [(0, .ref a_t), (1, .int s1), (2, .int s2), (3, .int s3), (4, .int s13), (5, .int s14)] → L_X7_key_38 f_d s1 s3 kk6 g12 g11 s2 n0 n s13 s14 = some out → W p l e rmX7_key s m args below meth c H locs 0 0 Q (F0 m 38 ls []) := by
        intro n
        induction n with
        | zero => intro s13 s14 H locs ls hV hl hF; exact lpp2_z hF
        | succ n ih38 =>
          intro s13 s14 H locs ls hV hl hF
          obtain ⟨kk38, hk38, hF⟩ := lpp2_g hF
          have hq38 : ∀ (s13 : Int32) (s14 : Int32), kk38 s13 s14 = some out → L_X7_key_38 f_d s1 s3 kk6 g12 g11 s2 n0 n s13 s14 = some out := fun _ _ h => by rw [hk38] at h; exact h
          refine lv_iload C.1 C.2.1 dX7_key_38 (lv_at hl 5 rfl) ?_
          refine lv_aload_n C.1 C.2.1 dX7_key_40 rfl (lv_at hl 0 rfl) ?_
          refine g_get C hV flX7_key_7 0 rfl rfl dX7_key_41 ?_
          refine lv_iconst (v := 0) C.1 C.2.1 dX7_key_44 rfl ?_
          refine g_iald C hV 1 rfl hF dX7_key_45 (fun x15 hF => ?_)
          refine g_icmp_ge (tgt := 80) C hF dX7_key_46 rfl (fun hF => ?_) (fun hF => ?_)
          · refine lv_iload_n C.1 C.2.1 dX7_key_80 rfl (lv_at hl 1 rfl) ?_
            refine lv_iconst (v := (-1)) C.1 C.2.1 dX7_key_81 rfl ?_
            refine g_icmp_eq (tgt := 91) C hF dX7_key_82 rfl (fun hF => ?_) (fun hF => ?_)
            · refine lv_iload_n C.1 C.2.1 dX7_key_91 rfl (lv_at hl 3 rfl) ?_
              refine lv_istore_n (lv' := [(1, .int s3), (0, .ref a_t), (2, .int s2), (3, .int s3), (4, .int s13), (5, .int s14)]) C.1 C.2.1 dX7_key_92 rfl hl (by decide) rfl (fun ls hl => ?_)
              refine lv_iload C.1 C.2.1 dX7_key_93 (lv_at hl 4 rfl) ?_
              refine lv_istore_n (lv' := [(2, .int s13), (1, .int s3), (0, .ref a_t), (3, .int s3), (4, .int s13), (5, .int s14)]) C.1 C.2.1 dX7_key_95 rfl hl (by decide) rfl (fun ls hl => ?_)
              refine g_iinc C hF dX7_key_96 (d := 1) rfl hl (j := 3) rfl (by decide) (fun y => [(3, .int y), (2, .int s13), (1, .int s3), (0, .ref a_t), (4, .int s13), (5, .int s14)]) (fun _ => rfl) (fun x16 ls hF hl => ?_)
              refine lv_goto (tgt := 6) C.1 C.2.1 dX7_key_99 rfl ?_
              exact ih6 s3 s13 x16 g12 g11 s3 H locs ls hV (lv_sub hl [3, 2, 1, 0] rfl) (hq6 s3 s13 x16 g12 g11 s3 hF)
            refine lv_iload C.1 C.2.1 dX7_key_85 (lv_at hl 4 rfl) ?_
            refine lv_iload_n C.1 C.2.1 dX7_key_87 rfl (lv_at hl 2 rfl) ?_
            refine g_icmp_ge (tgt := 96) C hF dX7_key_88 rfl (fun hF => ?_) (fun hF => ?_)
            · refine g_iinc C hF dX7_key_96 (d := 1) rfl hl (j := 3) rfl (by decide) (fun y => [(3, .int y), (0, .ref a_t), (1, .int s1), (2, .int s2), (4, .int s13), (5, .int s14)]) (fun _ => rfl) (fun x17 ls hF hl => ?_)
              refine lv_goto (tgt := 6) C.1 C.2.1 dX7_key_99 rfl ?_
              exact ih6 s1 s2 x17 g12 g11 s3 H locs ls hV (lv_sub hl [1, 2, 3, 0] rfl) (hq6 s1 s2 x17 g12 g11 s3 hF)
            refine lv_iload_n C.1 C.2.1 dX7_key_91 rfl (lv_at hl 3 rfl) ?_
            refine lv_istore_n (lv' := [(1, .int s3), (0, .ref a_t), (2, .int s2), (3, .int s3), (4, .int s13), (5, .int s14)]) C.1 C.2.1 dX7_key_92 rfl hl (by decide) rfl (fun ls hl => ?_)
            refine lv_iload C.1 C.2.1 dX7_key_93 (lv_at hl 4 rfl) ?_
            refine lv_istore_n (lv' := [(2, .int s13), (1, .int s3), (0, .ref a_t), (3, .int s3), (4, .int s13), (5, .int s14)]) C.1 C.2.1 dX7_key_95 rfl hl (by decide) rfl (fun ls hl => ?_)
            refine g_iinc C hF dX7_key_96 (d := 1) rfl hl (j := 3) rfl (by decide) (fun y => [(3, .int y), (2, .int s13), (1, .int s3), (0, .ref a_t), (4, .int s13), (5, .int s14)]) (fun _ => rfl) (fun x18 ls hF hl => ?_)
            refine lv_goto (tgt := 6) C.1 C.2.1 dX7_key_99 rfl ?_
            exact ih6 s3 s13 x18 g12 g11 s3 H locs ls hV (lv_sub hl [3, 2, 1, 0] rfl) (hq6 s3 s13 x18 g12 g11 s3 hF)
          refine lv_iload C.1 C.2.1 dX7_key_49 (lv_at hl 4 rfl) ?_
          refine lv_iload C.1 C.2.1 dX7_key_51 (lv_at hl 5 rfl) ?_
          refine lv_iload_n C.1 C.2.1 dX7_key_53 rfl (lv_at hl 3 rfl) ?_
          refine g_icmp_eq (tgt := 70) C hF dX7_key_54 rfl (fun hF => ?_) (fun hF => ?_)
          · refine lv_iconst (v := 0) C.1 C.2.1 dX7_key_70 rfl ?_
            refine g_iadd C hF dX7_key_71 (fun x19 hF => ?_)
            refine lv_istore (lv' := [(4, .int x19), (0, .ref a_t), (1, .int s1), (2, .int s2), (3, .int s3), (5, .int s14)]) C.1 C.2.1 dX7_key_72 hl (by decide) rfl (fun ls hl => ?_)
            refine g_iinc C hF dX7_key_74 (d := 1) rfl hl (j := 5) rfl (by decide) (fun y => [(5, .int y), (4, .int x19), (0, .ref a_t), (1, .int s1), (2, .int s2), (3, .int s3)]) (fun _ => rfl) (fun x20 ls hF hl => ?_)
            refine lv_goto (tgt := 38) C.1 C.2.1 dX7_key_77 rfl ?_
            exact ih38 x19 x20 H locs ls hV (lv_sub hl [2, 3, 4, 5, 1, 0] rfl) (hq38 x19 x20 hF)
          refine lv_aload_n C.1 C.2.1 dX7_key_57 rfl (lv_at hl 0 rfl) ?_
          refine lv_iload C.1 C.2.1 dX7_key_58 (lv_at hl 5 rfl) ?_
          obtain ⟨x21, hc, hF⟩ := bd1_s hF
          refine g_cVi (ws' := [oX7 a_t a_d a_e a_kept v_isKept a_found a_tape v_taped s3 a_hears a_near a_firstDay a_daily v_begin v_round v_leastFar v_leastWhere v_mostLed a_heardNow v_firstMove v_at v_sort v_from v_value v_fault a_bitsOf a_sizeOf a_number a_passing, aA cI a_d 40 f_d, aA cI a_found 7 f_found, aA cI a_hears 10 g12, aA cI a_near 10 g11]) (wr := [aA cI a_d 40 f_d, aA cI a_found 7 f_found, aA cI a_near 10 g11]) C hV (k_X7_lineOf l dC dI cI cB cO n0 H.size a_t a_d a_e a_kept a_found a_tape a_hears a_near a_firstDay a_daily a_heardNow a_bitsOf a_sizeOf a_number a_passing v_isKept v_taped s3 v_begin v_round v_leastFar v_leastWhere v_mostLed v_firstMove v_at v_sort v_from v_value v_fault g12 s14 hc) mdX7_lineOf gX7_key_X7_lineOf rfl rfl ⟨Nat.le_of_ble_eq_true rfl, Nat.le_of_ble_eq_true rfl⟩ [0, 3] [1, 2, 4] [3, 0, 1, 4, 2] rfl rfl rfl rfl rfl rfl rfl rfl rfl rfl hl.1 (Nat.le_of_ble_eq_true rfl) rfl dX7_key_60 (fun H locs hV => ?_)
          refine g_if_lt (tgt := 70) C hF dX7_key_63 rfl (fun hF => ?_) (fun hF => ?_)
          · refine lv_iconst (v := 0) C.1 C.2.1 dX7_key_70 rfl ?_
            refine g_iadd C hF dX7_key_71 (fun x22 hF => ?_)
            refine lv_istore (lv' := [(4, .int x22), (0, .ref a_t), (1, .int s1), (2, .int s2), (3, .int s3), (5, .int s14)]) C.1 C.2.1 dX7_key_72 hl (by decide) rfl (fun ls hl => ?_)
            refine g_iinc C hF dX7_key_74 (d := 1) rfl hl (j := 5) rfl (by decide) (fun y => [(5, .int y), (4, .int x22), (0, .ref a_t), (1, .int s1), (2, .int s2), (3, .int s3)]) (fun _ => rfl) (fun x23 ls hF hl => ?_)
            refine lv_goto (tgt := 38) C.1 C.2.1 dX7_key_77 rfl ?_
            exact ih38 x22 x23 H locs ls hV (lv_sub hl [2, 3, 4, 5, 1, 0] rfl) (hq38 x22 x23 hF)
          refine lv_iconst (v := 1) C.1 C.2.1 dX7_key_66 rfl ?_
          refine lv_goto (tgt := 71) C.1 C.2.1 dX7_key_67 rfl ?_
          refine g_iadd C hF dX7_key_71 (fun x24 hF => ?_)
          refine lv_istore (lv' := [(4, .int x24), (0, .ref a_t), (1, .int s1), (2, .int s2), (3, .int s3), (5, .int s14)]) C.1 C.2.1 dX7_key_72 hl (by decide) rfl (fun ls hl => ?_)
          refine g_iinc C hF dX7_key_74 (d := 1) rfl hl (j := 5) rfl (by decide) (fun y => [(5, .int y), (4, .int x24), (0, .ref a_t), (1, .int s1), (2, .int s2), (3, .int s3)]) (fun _ => rfl) (fun x25 ls hF hl => ?_)
          refine lv_goto (tgt := 38) C.1 C.2.1 dX7_key_77 rfl ?_
          exact ih38 x24 x25 H locs ls hV (lv_sub hl [2, 3, 4, 5, 1, 0] rfl) (hq38 x24 x25 hF)
      exact hL38 n0 0 0 H locs ls hV (lv_sub hl [2, 3, 4, 5, 1, 0] rfl) hF
  exact hL6 n0 ((-1)) 0 0 f_hears f_near v_gone H locs ls hV (lv_sub hl [3, 2, 1, 0] rfl) hF
abbrev rmX7_leader : Room := { frames := 4, cells := 0, slots := 0, locals := 92 }
theorem mdX7_leader : gMd yX7_leader wsX7_leader cX7_leader 3 (some .int) 0 := ⟨⟨_, rfl⟩, by decide +kernel⟩
theorem flX7_leader_7 : gFL wsX7_leader RX7 7 7 0 RX7 TX7 28 := ⟨rfl, fun w h => List.mem_cons_of_mem _ (List.mem_append_right _ (h)), Nat.le_of_ble_eq_true rfl, List.mem_cons_of_mem _ (List.mem_append_left _ (List.mem_append_left _ (List.mem_of_getElem? (i := 0) rfl)))⟩
def L_X7_leader_8 (f_d : Nat → Int32) (n0 : Nat) (f_found : Nat → Int32) (g1 : Nat → Int32) (g2 : Nat → Int32) : Nat → Int32 → Int32 → Option (Int32 × (Nat → Int32) × (Nat → Int32) × (Nat → Int32)) := lpp2 (fun s3 s4 kk8 => rd f_d 40 0 (fun x5 => (if x5 ≤ s4 then (if s3 = ((-1)) then bd2 (F_X7_finds n0 f_found 3) (fun x6 g7 => some (x6, g7, g1, g2)) else some (s3, f_found, g1, g2)) else (if s3 = ((-1)) then nm (s4 + 1) (fun x8 => kk8 s4 x8) else bd1 (F_X7_followersOf n0 f_d g1 s4) (fun x9 => bd1 (F_X7_ones n0 x9) (fun x10 => bd1 (F_X7_followersOf n0 f_d g1 s3) (fun x11 => bd1 (F_X7_ones n0 x11) (fun x12 => (if x10 ≤ x12 then nm (s4 + 1) (fun x13 => kk8 s3 x13) else nm (s4 + 1) (fun x14 => kk8 s4 x14))))))))))
def F_X7_leader (n0 : Nat) (v_gone : Int32) (f_d : Nat → Int32) (f_found : Nat → Int32) (f_hears : Nat → Int32) (f_near : Nat → Int32) : Option (Int32 × (Nat → Int32) × (Nat → Int32) × (Nat → Int32)) := bd2 (F_X7_listen n0 v_gone f_d f_hears f_near) (fun g1 g2 => L_X7_leader_8 f_d n0 f_found g1 g2 n0 ((-1)) 0)
set_option maxRecDepth 100000 in
set_option maxHeartbeats 4000000 in
theorem k_X7_leader (l : Launch) (dC : Nat → ClassId) (dI : Nat → Nat → Nat) (cI cB cO : ClassId) (n0 sz : Nat) (a_t : Nat) (a_d : Nat) (a_e : Nat) (a_kept : Nat) (a_found : Nat) (a_tape : Nat) (a_hears : Nat) (a_near : Nat) (a_firstDay : Nat) (a_daily : Nat) (a_heardNow : Nat) (a_bitsOf : Nat) (a_sizeOf : Nat) (a_number : Nat) (a_passing : Nat)   (v_isKept : Int32) (v_taped : Int32) (v_gone : Int32) (v_begin : Int32) (v_round : Int32) (v_leastFar : Int32) (v_leastWhere : Int32) (v_mostLed : Int32) (v_firstMove : Int32) (v_at : Int32) (v_sort : Int32) (v_from : Int32) (v_value : Int64) (v_fault : Int32) (f_d : Nat → Int32) (f_found : Nat → Int32) (f_hears : Nat → Int32) (f_near : Nat → Int32)   {ro : Int32} {o0 : Nat → Int32} {o1 : Nat → Int32} {o2 : Nat → Int32} (hF : F_X7_leader n0 v_gone f_d f_found f_hears f_near = some (ro, o0, o1, o2)) : Met l yX7_leader wsX7_leader rmX7_leader (va_Pc [.ref a_t] (gPre (dC, dI) (gT cI cB cO) sz [oX7 a_t a_d a_e a_kept v_isKept a_found a_tape v_taped v_gone a_hears a_near a_firstDay a_daily v_begin v_round v_leastFar v_leastWhere v_mostLed a_heardNow v_firstMove v_at v_sort v_from v_value v_fault a_bitsOf a_sizeOf a_number a_passing, aA cI a_d 40 f_d, aA cI a_found 7 f_found, aA cI a_hears 10 f_hears, aA cI a_near 10 f_near])) (gQi (dC, dI) (gT cI cB cO) sz [oX7 a_t a_d a_e a_kept v_isKept a_found a_tape v_taped v_gone a_hears a_near a_firstDay a_daily v_begin v_round v_leastFar v_leastWhere v_mostLed a_heardNow v_firstMove v_at v_sort v_from v_value v_fault a_bitsOf a_sizeOf a_number a_passing, aA cI a_d 40 f_d, aA cI a_found 7 f_found, aA cI a_hears 10 f_hears, aA cI a_near 10 f_near] ro [oX7 a_t a_d a_e a_kept v_isKept a_found a_tape v_taped v_gone a_hears a_near a_firstDay a_daily v_begin v_round v_leastFar v_leastWhere v_mostLed a_heardNow v_firstMove v_at v_sort v_from v_value v_fault a_bitsOf a_sizeOf a_number a_passing, aA cI a_d 40 f_d, aA cI a_found 7 o0, aA cI a_hears 10 o1, aA cI a_near 10 o2]) 0 0 (va_A [oX7 a_t a_d a_e a_kept v_isKept a_found a_tape v_taped v_gone a_hears a_near a_firstDay a_daily v_begin v_round v_leastFar v_leastWhere v_mostLed a_heardNow v_firstMove v_at v_sort v_from v_value v_fault a_bitsOf a_sizeOf a_number a_passing, aA cI a_d 40 f_d, aA cI a_found 7 f_found, aA cI a_hears 10 f_hears, aA cI a_near 10 f_near] sz) := by
  refine g_metI (Out := Int32 × (Nat → Int32) × (Nat → Int32) × (Nat → Int32)) (fun oo => oo.1) (fun oo => [oX7 a_t a_d a_e a_kept v_isKept a_found a_tape v_taped v_gone a_hears a_near a_firstDay a_daily v_begin v_round v_leastFar v_leastWhere v_mostLed a_heardNow v_firstMove v_at v_sort v_from v_value v_fault a_bitsOf a_sizeOf a_number a_passing, aA cI a_d 40 f_d, aA cI a_found 7 oo.2.1, aA cI a_hears 10 oo.2.2.1, aA cI a_near 10 oo.2.2.2]) (ro, o0, o1, o2) (own := RX7) (lv := [(0, .ref a_t)]) (by decide) rfl rfl (Nat.le_of_ble_eq_true rfl) rfl ?_
  intro p e s m args below meth c Q ls C hret hV hl
  obtain ⟨out, hout⟩ : ∃ z : Int32 × (Nat → Int32) × (Nat → Int32) × (Nat → Int32), z = (ro, o0, o1, o2) := ⟨_, rfl⟩
  rw [← hout] at hF hret
  obtain ⟨H0, hH0⟩ : ∃ z : Heap, z = s.heap := ⟨_, rfl⟩
  obtain ⟨A0, hA0⟩ : ∃ z : Nat → Prop, z = va_A [oX7 a_t a_d a_e a_kept v_isKept a_found a_tape v_taped v_gone a_hears a_near a_firstDay a_daily v_begin v_round v_leastFar v_leastWhere v_mostLed a_heardNow v_firstMove v_at v_sort v_from v_value v_fault a_bitsOf a_sizeOf a_number a_passing, aA cI a_d 40 f_d, aA cI a_found 7 f_found, aA cI a_hears 10 f_hears, aA cI a_near 10 f_near] s.heap.size := ⟨_, rfl⟩
  rw [← hA0] at hret hV
  rw [← hH0] at hret hV
  rw [← hH0]
  obtain ⟨H, locs, hH⟩ : ∃ (z : Heap) (y : List Loc), z = H0 ∧ y = [] := ⟨_, _, rfl, rfl⟩
  rw [← hH.1, ← hH.2]
  have hV : gV (dC, dI) (gT cI cB cO) A0 H0 s [oX7 a_t a_d a_e a_kept v_isKept a_found a_tape v_taped v_gone a_hears a_near a_firstDay a_daily v_begin v_round v_leastFar v_leastWhere v_mostLed a_heardNow v_firstMove v_at v_sort v_from v_value v_fault a_bitsOf a_sizeOf a_number a_passing, aA cI a_d 40 f_d, aA cI a_found 7 f_found, aA cI a_hears 10 f_hears, aA cI a_near 10 f_near] H locs := by rw [hH.1, hH.2]; exact hV
  unfold F_X7_leader at hF
  refine lv_aload_n C.1 C.2.1 dX7_leader_0 rfl (lv_at hl 0 rfl) ?_
  obtain ⟨g1, g2, hc, hF⟩ := bd2_s hF
  refine g_cVv (ws' := [oX7 a_t a_d a_e a_kept v_isKept a_found a_tape v_taped v_gone a_hears a_near a_firstDay a_daily v_begin v_round v_leastFar v_leastWhere v_mostLed a_heardNow v_firstMove v_at v_sort v_from v_value v_fault a_bitsOf a_sizeOf a_number a_passing, aA cI a_d 40 f_d, aA cI a_found 7 f_found, aA cI a_hears 10 g1, aA cI a_near 10 g2]) (wr := [aA cI a_found 7 f_found]) C hV (k_X7_listen l dC dI cI cB cO n0 H.size a_t a_d a_e a_kept a_found a_tape a_hears a_near a_firstDay a_daily a_heardNow a_bitsOf a_sizeOf a_number a_passing v_isKept v_taped v_gone v_begin v_round v_leastFar v_leastWhere v_mostLed v_firstMove v_at v_sort v_from v_value v_fault f_d f_hears f_near hc) mdX7_listen gX7_leader_X7_listen rfl rfl ⟨Nat.le_of_ble_eq_true rfl, Nat.le_of_ble_eq_true rfl⟩ [0, 1, 3, 4] [2] [1, 2, 0, 3, 4] rfl rfl rfl rfl rfl rfl rfl rfl rfl rfl hl.1 (Nat.le_of_ble_eq_true rfl) rfl dX7_leader_1 (fun H locs hV => ?_)
  refine lv_iconst (v := (-1)) C.1 C.2.1 dX7_leader_4 rfl ?_
  refine lv_istore_n (lv' := [(1, .int ((-1))), (0, .ref a_t)]) C.1 C.2.1 dX7_leader_5 rfl hl (by decide) rfl (fun ls hl => ?_)
  refine lv_iconst (v := 0) C.1 C.2.1 dX7_leader_6 rfl ?_
  refine lv_istore_n (lv' := [(2, .int 0), (1, .int ((-1))), (0, .ref a_t)]) C.1 C.2.1 dX7_leader_7 rfl hl (by decide) rfl (fun ls hl => ?_)
  have hL8 : ∀ (n : Nat) (s3 : Int32) (s4 : Int32) (H : Heap) (locs : List Loc) (ls : Array Slot), gV (dC, dI) (gT cI cB cO) A0 H0 s [oX7 a_t a_d a_e a_kept v_isKept a_found a_tape v_taped v_gone a_hears a_near a_firstDay a_daily v_begin v_round v_leastFar v_leastWhere v_mostLed a_heardNow v_firstMove v_at v_sort v_from v_value v_fault a_bitsOf a_sizeOf a_number a_passing, aA cI a_d 40 f_d, aA cI a_found 7 f_found, aA cI a_hears 10 g1, aA cI a_near 10 g2] H locs → lv_has ls 3 [(0, .ref a_t), (1, .int s3), (2, .int s4)] → L_X7_leader_8 f_d n0 f_found g1 g2 n s3 s4 = some out → W p l e rmX7_leader s m args below meth c H locs 0 0 Q (F0 m 8 ls []) := by
    intro n
    induction n with
    | zero => intro s3 s4 H locs ls hV hl hF; exact lpp2_z hF
    | succ n ih8 =>
      intro s3 s4 H locs ls hV hl hF
      obtain ⟨kk8, hk8, hF⟩ := lpp2_g hF
      have hq8 : ∀ (s3 : Int32) (s4 : Int32), kk8 s3 s4 = some out → L_X7_leader_8 f_d n0 f_found g1 g2 n s3 s4 = some out := fun _ _ h => by rw [hk8] at h; exact h
      refine lv_iload_n C.1 C.2.1 dX7_leader_8 rfl (lv_at hl 2 rfl) ?_
      refine lv_aload_n C.1 C.2.1 dX7_leader_9 rfl (lv_at hl 0 rfl) ?_
      refine g_get C hV flX7_leader_7 0 rfl rfl dX7_leader_10 ?_
      refine lv_iconst (v := 0) C.1 C.2.1 dX7_leader_13 rfl ?_
      refine g_iald C hV 1 rfl hF dX7_leader_14 (fun x5 hF => ?_)
      refine g_icmp_ge (tgt := 54) C hF dX7_leader_15 rfl (fun hF => ?_) (fun hF => ?_)
      · refine lv_iload_n C.1 C.2.1 dX7_leader_54 rfl (lv_at hl 1 rfl) ?_
        refine lv_iconst (v := (-1)) C.1 C.2.1 dX7_leader_55 rfl ?_
        refine g_icmp_ne (tgt := 67) C hF dX7_leader_56 rfl (fun hF => ?_) (fun hF => ?_)
        · refine lv_iload_n C.1 C.2.1 dX7_leader_67 rfl (lv_at hl 1 rfl) ?_
          exact hret (s3, f_found, g1, g2) _ _ _ _ dX7_leader_68 hF hV
        refine lv_aload_n C.1 C.2.1 dX7_leader_59 rfl (lv_at hl 0 rfl) ?_
        refine lv_iconst (v := 3) C.1 C.2.1 dX7_leader_60 rfl ?_
        obtain ⟨x6, g7, hc, hF⟩ := bd2_s hF
        refine g_cVi (ws' := [oX7 a_t a_d a_e a_kept v_isKept a_found a_tape v_taped v_gone a_hears a_near a_firstDay a_daily v_begin v_round v_leastFar v_leastWhere v_mostLed a_heardNow v_firstMove v_at v_sort v_from v_value v_fault a_bitsOf a_sizeOf a_number a_passing, aA cI a_d 40 f_d, aA cI a_found 7 g7, aA cI a_hears 10 g1, aA cI a_near 10 g2]) (wr := [aA cI a_d 40 f_d, aA cI a_hears 10 g1, aA cI a_near 10 g2]) C hV (k_X7_finds l dC dI cI cB cO n0 H.size a_t a_d a_e a_kept a_found a_tape a_hears a_near a_firstDay a_daily a_heardNow a_bitsOf a_sizeOf a_number a_passing v_isKept v_taped v_gone v_begin v_round v_leastFar v_leastWhere v_mostLed v_firstMove v_at v_sort v_from v_value v_fault f_found 3 hc) mdX7_finds gX7_leader_X7_finds rfl rfl ⟨Nat.le_of_ble_eq_true rfl, Nat.le_of_ble_eq_true rfl⟩ [0, 2] [1, 3, 4] [3, 0, 4, 1, 2] rfl rfl rfl rfl rfl rfl rfl rfl rfl rfl hl.1 (Nat.le_of_ble_eq_true rfl) rfl dX7_leader_61 (fun H locs hV => ?_)
        refine lv_goto (tgt := 68) C.1 C.2.1 dX7_leader_64 rfl ?_
        exact hret (x6, g7, g1, g2) _ _ _ _ dX7_leader_68 hF hV
      refine lv_iload_n C.1 C.2.1 dX7_leader_18 rfl (lv_at hl 1 rfl) ?_
      refine lv_iconst (v := (-1)) C.1 C.2.1 dX7_leader_19 rfl ?_
      refine g_icmp_eq (tgt := 42) C hF dX7_leader_20 rfl (fun hF => ?_) (fun hF => ?_)
      · refine lv_iload_n C.1 C.2.1 dX7_leader_42 rfl (lv_at hl 2 rfl) ?_
        refine lv_goto (tgt := 47) C.1 C.2.1 dX7_leader_43 rfl ?_
        refine lv_istore_n (lv' := [(1, .int s4), (0, .ref a_t), (2, .int s4)]) C.1 C.2.1 dX7_leader_47 rfl hl (by decide) rfl (fun ls hl => ?_)
        refine g_iinc C hF dX7_leader_48 (d := 1) rfl hl (j := 2) rfl (by decide) (fun y => [(2, .int y), (1, .int s4), (0, .ref a_t)]) (fun _ => rfl) (fun x8 ls hF hl => ?_)
        refine lv_goto (tgt := 8) C.1 C.2.1 dX7_leader_51 rfl ?_
        exact ih8 s4 x8 H locs ls hV (lv_sub hl [2, 1, 0] rfl) (hq8 s4 x8 hF)
      refine lv_aload_n C.1 C.2.1 dX7_leader_23 rfl (lv_at hl 0 rfl) ?_
      refine lv_iload_n C.1 C.2.1 dX7_leader_24 rfl (lv_at hl 2 rfl) ?_
      obtain ⟨x9, hc, hF⟩ := bd1_s hF
      refine g_cVi (ws' := [oX7 a_t a_d a_e a_kept v_isKept a_found a_tape v_taped v_gone a_hears a_near a_firstDay a_daily v_begin v_round v_leastFar v_leastWhere v_mostLed a_heardNow v_firstMove v_at v_sort v_from v_value v_fault a_bitsOf a_sizeOf a_number a_passing, aA cI a_d 40 f_d, aA cI a_found 7 f_found, aA cI a_hears 10 g1, aA cI a_near 10 g2]) (wr := [aA cI a_found 7 f_found, aA cI a_near 10 g2]) C hV (k_X7_followersOf l dC dI cI cB cO n0 H.size a_t a_d a_e a_kept a_found a_tape a_hears a_near a_firstDay a_daily a_heardNow a_bitsOf a_sizeOf a_number a_passing v_isKept v_taped v_gone v_begin v_round v_leastFar v_leastWhere v_mostLed v_firstMove v_at v_sort v_from v_value v_fault f_d g1 s4 hc) mdX7_followersOf gX7_leader_X7_followersOf rfl rfl ⟨Nat.le_of_ble_eq_true rfl, Nat.le_of_ble_eq_true rfl⟩ [0, 1, 3] [2, 4] [2, 3, 0, 4, 1] rfl rfl rfl rfl rfl rfl rfl rfl rfl rfl hl.1 (Nat.le_of_ble_eq_true rfl) rfl dX7_leader_25 (fun H locs hV => ?_)
      obtain ⟨x10, hc, hF⟩ := bd1_s hF
      refine g_cSi (ws' := [oX7 a_t a_d a_e a_kept v_isKept a_found a_tape v_taped v_gone a_hears a_near a_firstDay a_daily v_begin v_round v_leastFar v_leastWhere v_mostLed a_heardNow v_firstMove v_at v_sort v_from v_value v_fault a_bitsOf a_sizeOf a_number a_passing, aA cI a_d 40 f_d, aA cI a_found 7 f_found, aA cI a_hears 10 g1, aA cI a_near 10 g2]) (wr := [oX7 a_t a_d a_e a_kept v_isKept a_found a_tape v_taped v_gone a_hears a_near a_firstDay a_daily v_begin v_round v_leastFar v_leastWhere v_mostLed a_heardNow v_firstMove v_at v_sort v_from v_value v_fault a_bitsOf a_sizeOf a_number a_passing, aA cI a_d 40 f_d, aA cI a_found 7 f_found, aA cI a_hears 10 g1, aA cI a_near 10 g2]) C hV (k_X7_ones l dC dI cI cB cO n0 H.size x9 hc) mdX7_ones gX7_leader_X7_ones rfl rfl ⟨Nat.le_of_ble_eq_true rfl, Nat.le_of_ble_eq_true rfl⟩ [] [0, 1, 2, 3, 4] [0, 1, 2, 3, 4] rfl rfl rfl rfl rfl rfl rfl rfl hl.1 (Nat.le_of_ble_eq_true rfl) rfl dX7_leader_28 (fun H locs hV => ?_)
      refine lv_aload_n C.1 C.2.1 dX7_leader_31 rfl (lv_at hl 0 rfl) ?_
      refine lv_iload_n C.1 C.2.1 dX7_leader_32 rfl (lv_at hl 1 rfl) ?_
      obtain ⟨x11, hc, hF⟩ := bd1_s hF
      refine g_cVi (ws' := [oX7 a_t a_d a_e a_kept v_isKept a_found a_tape v_taped v_gone a_hears a_near a_firstDay a_daily v_begin v_round v_leastFar v_leastWhere v_mostLed a_heardNow v_firstMove v_at v_sort v_from v_value v_fault a_bitsOf a_sizeOf a_number a_passing, aA cI a_d 40 f_d, aA cI a_found 7 f_found, aA cI a_hears 10 g1, aA cI a_near 10 g2]) (wr := [aA cI a_found 7 f_found, aA cI a_near 10 g2]) C hV (k_X7_followersOf l dC dI cI cB cO n0 H.size a_t a_d a_e a_kept a_found a_tape a_hears a_near a_firstDay a_daily a_heardNow a_bitsOf a_sizeOf a_number a_passing v_isKept v_taped v_gone v_begin v_round v_leastFar v_leastWhere v_mostLed v_firstMove v_at v_sort v_from v_value v_fault f_d g1 s3 hc) mdX7_followersOf gX7_leader_X7_followersOf rfl rfl ⟨Nat.le_of_ble_eq_true rfl, Nat.le_of_ble_eq_true rfl⟩ [0, 1, 3] [2, 4] [2, 3, 0, 4, 1] rfl rfl rfl rfl rfl rfl rfl rfl rfl rfl hl.1 (Nat.le_of_ble_eq_true rfl) rfl dX7_leader_33 (fun H locs hV => ?_)
      obtain ⟨x12, hc, hF⟩ := bd1_s hF
      refine g_cSi (ws' := [oX7 a_t a_d a_e a_kept v_isKept a_found a_tape v_taped v_gone a_hears a_near a_firstDay a_daily v_begin v_round v_leastFar v_leastWhere v_mostLed a_heardNow v_firstMove v_at v_sort v_from v_value v_fault a_bitsOf a_sizeOf a_number a_passing, aA cI a_d 40 f_d, aA cI a_found 7 f_found, aA cI a_hears 10 g1, aA cI a_near 10 g2]) (wr := [oX7 a_t a_d a_e a_kept v_isKept a_found a_tape v_taped v_gone a_hears a_near a_firstDay a_daily v_begin v_round v_leastFar v_leastWhere v_mostLed a_heardNow v_firstMove v_at v_sort v_from v_value v_fault a_bitsOf a_sizeOf a_number a_passing, aA cI a_d 40 f_d, aA cI a_found 7 f_found, aA cI a_hears 10 g1, aA cI a_near 10 g2]) C hV (k_X7_ones l dC dI cI cB cO n0 H.size x11 hc) mdX7_ones gX7_leader_X7_ones rfl rfl ⟨Nat.le_of_ble_eq_true rfl, Nat.le_of_ble_eq_true rfl⟩ [] [0, 1, 2, 3, 4] [0, 1, 2, 3, 4] rfl rfl rfl rfl rfl rfl rfl rfl hl.1 (Nat.le_of_ble_eq_true rfl) rfl dX7_leader_36 (fun H locs hV => ?_)
      refine g_icmp_le (tgt := 46) C hF dX7_leader_39 rfl (fun hF => ?_) (fun hF => ?_)
      · refine lv_iload_n C.1 C.2.1 dX7_leader_46 rfl (lv_at hl 1 rfl) ?_
        refine lv_istore_n (lv' := [(1, .int s3), (0, .ref a_t), (2, .int s4)]) C.1 C.2.1 dX7_leader_47 rfl hl (by decide) rfl (fun ls hl => ?_)
        refine g_iinc C hF dX7_leader_48 (d := 1) rfl hl (j := 2) rfl (by decide) (fun y => [(2, .int y), (1, .int s3), (0, .ref a_t)]) (fun _ => rfl) (fun x13 ls hF hl => ?_)
        refine lv_goto (tgt := 8) C.1 C.2.1 dX7_leader_51 rfl ?_
        exact ih8 s3 x13 H locs ls hV (lv_sub hl [2, 1, 0] rfl) (hq8 s3 x13 hF)
      refine lv_iload_n C.1 C.2.1 dX7_leader_42 rfl (lv_at hl 2 rfl) ?_
      refine lv_goto (tgt := 47) C.1 C.2.1 dX7_leader_43 rfl ?_
      refine lv_istore_n (lv' := [(1, .int s4), (0, .ref a_t), (2, .int s4)]) C.1 C.2.1 dX7_leader_47 rfl hl (by decide) rfl (fun ls hl => ?_)
      refine g_iinc C hF dX7_leader_48 (d := 1) rfl hl (j := 2) rfl (by decide) (fun y => [(2, .int y), (1, .int s4), (0, .ref a_t)]) (fun _ => rfl) (fun x14 ls hF hl => ?_)
      refine lv_goto (tgt := 8) C.1 C.2.1 dX7_leader_51 rfl ?_
      exact ih8 s4 x14 H locs ls hV (lv_sub hl [2, 1, 0] rfl) (hq8 s4 x14 hF)
  exact hL8 n0 ((-1)) 0 H locs ls hV (lv_sub hl [2, 1, 0] rfl) hF
abbrev rmX7_walled : Room := { frames := 5, cells := 0, slots := 0, locals := 114 }
theorem mdX7_walled : gMd yX7_walled wsX7_walled cX7_walled 3 (some .int) 0 := ⟨⟨_, rfl⟩, by decide +kernel⟩
theorem flX7_walled_7 : gFL wsX7_walled RX7 7 7 0 RX7 TX7 28 := ⟨rfl, fun w h => List.mem_cons_of_mem _ (List.mem_append_right _ (h)), Nat.le_of_ble_eq_true rfl, List.mem_cons_of_mem _ (List.mem_append_left _ (List.mem_append_left _ (List.mem_of_getElem? (i := 0) rfl)))⟩
def F_X7_walled (n0 : Nat) (v_gone : Int32) (f_d : Nat → Int32) (f_heardNow : Nat → Int32) (f_hears : Nat → Int32) (f_near : Nat → Int32) : Option (Int32 × (Nat → Int32) × (Nat → Int32) × (Nat → Int32) × (Nat → Int32)) := rd f_d 40 5 (fun x1 => wrt f_d 40 5 0 (fun g2 => bd3 (F_X7_keepHears n0 v_gone g2 f_heardNow f_hears f_near) (fun g3 g4 g5 => wrt g2 40 5 1 (fun g6 => bd3 (F_X7_otherHears n0 v_gone g6 g3 g4 g5) (fun x7 g8 g9 => wrt g6 40 5 x1 (fun g10 => some (x7, g10, g3, g8, g9)))))))
set_option maxRecDepth 100000 in
set_option maxHeartbeats 4000000 in
theorem k_X7_walled (l : Launch) (dC : Nat → ClassId) (dI : Nat → Nat → Nat) (cI cB cO : ClassId) (n0 sz : Nat) (a_t : Nat) (a_d : Nat) (a_e : Nat) (a_kept : Nat) (a_found : Nat) (a_tape : Nat) (a_hears : Nat) (a_near : Nat) (a_firstDay : Nat) (a_daily : Nat) (a_heardNow : Nat) (a_bitsOf : Nat) (a_sizeOf : Nat) (a_number : Nat) (a_passing : Nat)   (v_isKept : Int32) (v_taped : Int32) (v_gone : Int32) (v_begin : Int32) (v_round : Int32) (v_leastFar : Int32) (v_leastWhere : Int32) (v_mostLed : Int32) (v_firstMove : Int32) (v_at : Int32) (v_sort : Int32) (v_from : Int32) (v_value : Int64) (v_fault : Int32) (f_d : Nat → Int32) (f_heardNow : Nat → Int32) (f_hears : Nat → Int32) (f_near : Nat → Int32)   {ro : Int32} {o0 : Nat → Int32} {o1 : Nat → Int32} {o2 : Nat → Int32} {o3 : Nat → Int32} (hF : F_X7_walled n0 v_gone f_d f_heardNow f_hears f_near = some (ro, o0, o1, o2, o3)) : Met l yX7_walled wsX7_walled rmX7_walled (va_Pc [.ref a_t] (gPre (dC, dI) (gT cI cB cO) sz [oX7 a_t a_d a_e a_kept v_isKept a_found a_tape v_taped v_gone a_hears a_near a_firstDay a_daily v_begin v_round v_leastFar v_leastWhere v_mostLed a_heardNow v_firstMove v_at v_sort v_from v_value v_fault a_bitsOf a_sizeOf a_number a_passing, aA cI a_d 40 f_d, aA cI a_heardNow 10 f_heardNow, aA cI a_hears 10 f_hears, aA cI a_near 10 f_near])) (gQi (dC, dI) (gT cI cB cO) sz [oX7 a_t a_d a_e a_kept v_isKept a_found a_tape v_taped v_gone a_hears a_near a_firstDay a_daily v_begin v_round v_leastFar v_leastWhere v_mostLed a_heardNow v_firstMove v_at v_sort v_from v_value v_fault a_bitsOf a_sizeOf a_number a_passing, aA cI a_d 40 f_d, aA cI a_heardNow 10 f_heardNow, aA cI a_hears 10 f_hears, aA cI a_near 10 f_near] ro [oX7 a_t a_d a_e a_kept v_isKept a_found a_tape v_taped v_gone a_hears a_near a_firstDay a_daily v_begin v_round v_leastFar v_leastWhere v_mostLed a_heardNow v_firstMove v_at v_sort v_from v_value v_fault a_bitsOf a_sizeOf a_number a_passing, aA cI a_d 40 o0, aA cI a_heardNow 10 o1, aA cI a_hears 10 o2, aA cI a_near 10 o3]) 0 0 (va_A [oX7 a_t a_d a_e a_kept v_isKept a_found a_tape v_taped v_gone a_hears a_near a_firstDay a_daily v_begin v_round v_leastFar v_leastWhere v_mostLed a_heardNow v_firstMove v_at v_sort v_from v_value v_fault a_bitsOf a_sizeOf a_number a_passing, aA cI a_d 40 f_d, aA cI a_heardNow 10 f_heardNow, aA cI a_hears 10 f_hears, aA cI a_near 10 f_near] sz) := by
  refine g_metI (Out := Int32 × (Nat → Int32) × (Nat → Int32) × (Nat → Int32) × (Nat → Int32)) (fun oo => oo.1) (fun oo => [oX7 a_t a_d a_e a_kept v_isKept a_found a_tape v_taped v_gone a_hears a_near a_firstDay a_daily v_begin v_round v_leastFar v_leastWhere v_mostLed a_heardNow v_firstMove v_at v_sort v_from v_value v_fault a_bitsOf a_sizeOf a_number a_passing, aA cI a_d 40 oo.2.1, aA cI a_heardNow 10 oo.2.2.1, aA cI a_hears 10 oo.2.2.2.1, aA cI a_near 10 oo.2.2.2.2]) (ro, o0, o1, o2, o3) (own := RX7) (lv := [(0, .ref a_t)]) (by decide) rfl rfl (Nat.le_of_ble_eq_true rfl) rfl ?_
  intro p e s m args below meth c Q ls C hret hV hl
  obtain ⟨out, hout⟩ : ∃ z : Int32 × (Nat → Int32) × (Nat → Int32) × (Nat → Int32) × (Nat → Int32), z = (ro, o0, o1, o2, o3) := ⟨_, rfl⟩
  rw [← hout] at hF hret
  obtain ⟨H0, hH0⟩ : ∃ z : Heap, z = s.heap := ⟨_, rfl⟩
  obtain ⟨A0, hA0⟩ : ∃ z : Nat → Prop, z = va_A [oX7 a_t a_d a_e a_kept v_isKept a_found a_tape v_taped v_gone a_hears a_near a_firstDay a_daily v_begin v_round v_leastFar v_leastWhere v_mostLed a_heardNow v_firstMove v_at v_sort v_from v_value v_fault a_bitsOf a_sizeOf a_number a_passing, aA cI a_d 40 f_d, aA cI a_heardNow 10 f_heardNow, aA cI a_hears 10 f_hears, aA cI a_near 10 f_near] s.heap.size := ⟨_, rfl⟩
  rw [← hA0] at hret hV
  rw [← hH0] at hret hV
  rw [← hH0]
  obtain ⟨H, locs, hH⟩ : ∃ (z : Heap) (y : List Loc), z = H0 ∧ y = [] := ⟨_, _, rfl, rfl⟩
  rw [← hH.1, ← hH.2]
  have hV : gV (dC, dI) (gT cI cB cO) A0 H0 s [oX7 a_t a_d a_e a_kept v_isKept a_found a_tape v_taped v_gone a_hears a_near a_firstDay a_daily v_begin v_round v_leastFar v_leastWhere v_mostLed a_heardNow v_firstMove v_at v_sort v_from v_value v_fault a_bitsOf a_sizeOf a_number a_passing, aA cI a_d 40 f_d, aA cI a_heardNow 10 f_heardNow, aA cI a_hears 10 f_hears, aA cI a_near 10 f_near] H locs := by rw [hH.1, hH.2]; exact hV
  unfold F_X7_walled at hF
  refine lv_aload_n C.1 C.2.1 dX7_walled_0 rfl (lv_at hl 0 rfl) ?_
  refine g_get C hV flX7_walled_7 0 rfl rfl dX7_walled_1 ?_
  refine lv_iconst (v := 5) C.1 C.2.1 dX7_walled_4 rfl ?_
  refine g_iald C hV 1 rfl hF dX7_walled_5 (fun x1 hF => ?_)
  refine lv_istore_n (lv' := [(1, .int x1), (0, .ref a_t)]) C.1 C.2.1 dX7_walled_6 rfl hl (by decide) rfl (fun ls hl => ?_)
  refine lv_aload_n C.1 C.2.1 dX7_walled_7 rfl (lv_at hl 1 rfl) ?_
  refine g_get C hV flX7_walled_7 0 rfl rfl dX7_walled_8 ?_
  refine lv_iconst (v := 5) C.1 C.2.1 dX7_walled_11 rfl ?_
  refine lv_iconst (v := 0) C.1 C.2.1 dX7_walled_12 rfl ?_
  refine g_iast C hV 1 rfl hF (fun gq => [oX7 a_t a_d a_e a_kept v_isKept a_found a_tape v_taped v_gone a_hears a_near a_firstDay a_daily v_begin v_round v_leastFar v_leastWhere v_mostLed a_heardNow v_firstMove v_at v_sort v_from v_value v_fault a_bitsOf a_sizeOf a_number a_passing, aA cI a_d 40 gq, aA cI a_heardNow 10 f_heardNow, aA cI a_hears 10 f_hears, aA cI a_near 10 f_near]) (fun _ => rfl) dX7_walled_13 (fun g2 H locs hF hV => ?_)
  refine lv_aload_n C.1 C.2.1 dX7_walled_14 rfl (lv_at hl 1 rfl) ?_
  obtain ⟨g3, g4, g5, hc, hF⟩ := bd3_s hF
  refine g_cVv (ws' := [oX7 a_t a_d a_e a_kept v_isKept a_found a_tape v_taped v_gone a_hears a_near a_firstDay a_daily v_begin v_round v_leastFar v_leastWhere v_mostLed a_heardNow v_firstMove v_at v_sort v_from v_value v_fault a_bitsOf a_sizeOf a_number a_passing, aA cI a_d 40 g2, aA cI a_heardNow 10 g3, aA cI a_hears 10 g4, aA cI a_near 10 g5]) (wr := []) C hV (k_X7_keepHears l dC dI cI cB cO n0 H.size a_t a_d a_e a_kept a_found a_tape a_hears a_near a_firstDay a_daily a_heardNow a_bitsOf a_sizeOf a_number a_passing v_isKept v_taped v_gone v_begin v_round v_leastFar v_leastWhere v_mostLed v_firstMove v_at v_sort v_from v_value v_fault g2 f_heardNow f_hears f_near hc) mdX7_keepHears gX7_walled_X7_keepHears rfl rfl ⟨Nat.le_of_ble_eq_true rfl, Nat.le_of_ble_eq_true rfl⟩ [0, 1, 2, 3, 4] [] [0, 1, 2, 3, 4] rfl rfl rfl rfl rfl rfl rfl rfl rfl rfl hl.1 (Nat.le_of_ble_eq_true rfl) rfl dX7_walled_15 (fun H locs hV => ?_)
  refine lv_aload_n C.1 C.2.1 dX7_walled_18 rfl (lv_at hl 1 rfl) ?_
  refine g_get C hV flX7_walled_7 0 rfl rfl dX7_walled_19 ?_
  refine lv_iconst (v := 5) C.1 C.2.1 dX7_walled_22 rfl ?_
  refine lv_iconst (v := 1) C.1 C.2.1 dX7_walled_23 rfl ?_
  refine g_iast C hV 1 rfl hF (fun gq => [oX7 a_t a_d a_e a_kept v_isKept a_found a_tape v_taped v_gone a_hears a_near a_firstDay a_daily v_begin v_round v_leastFar v_leastWhere v_mostLed a_heardNow v_firstMove v_at v_sort v_from v_value v_fault a_bitsOf a_sizeOf a_number a_passing, aA cI a_d 40 gq, aA cI a_heardNow 10 g3, aA cI a_hears 10 g4, aA cI a_near 10 g5]) (fun _ => rfl) dX7_walled_24 (fun g6 H locs hF hV => ?_)
  refine lv_aload_n C.1 C.2.1 dX7_walled_25 rfl (lv_at hl 1 rfl) ?_
  obtain ⟨x7, g8, g9, hc, hF⟩ := bd3_s hF
  refine g_cVi (ws' := [oX7 a_t a_d a_e a_kept v_isKept a_found a_tape v_taped v_gone a_hears a_near a_firstDay a_daily v_begin v_round v_leastFar v_leastWhere v_mostLed a_heardNow v_firstMove v_at v_sort v_from v_value v_fault a_bitsOf a_sizeOf a_number a_passing, aA cI a_d 40 g6, aA cI a_heardNow 10 g3, aA cI a_hears 10 g8, aA cI a_near 10 g9]) (wr := []) C hV (k_X7_otherHears l dC dI cI cB cO n0 H.size a_t a_d a_e a_kept a_found a_tape a_hears a_near a_firstDay a_daily a_heardNow a_bitsOf a_sizeOf a_number a_passing v_isKept v_taped v_gone v_begin v_round v_leastFar v_leastWhere v_mostLed v_firstMove v_at v_sort v_from v_value v_fault g6 g3 g4 g5 hc) mdX7_otherHears gX7_walled_X7_otherHears rfl rfl ⟨Nat.le_of_ble_eq_true rfl, Nat.le_of_ble_eq_true rfl⟩ [0, 1, 2, 3, 4] [] [0, 1, 2, 3, 4] rfl rfl rfl rfl rfl rfl rfl rfl rfl rfl hl.1 (Nat.le_of_ble_eq_true rfl) rfl dX7_walled_26 (fun H locs hV => ?_)
  refine lv_istore_n (lv' := [(2, .int x7), (1, .int x1), (0, .ref a_t)]) C.1 C.2.1 dX7_walled_29 rfl hl (by decide) rfl (fun ls hl => ?_)
  refine lv_aload_n C.1 C.2.1 dX7_walled_30 rfl (lv_at hl 2 rfl) ?_
  refine g_get C hV flX7_walled_7 0 rfl rfl dX7_walled_31 ?_
  refine lv_iconst (v := 5) C.1 C.2.1 dX7_walled_34 rfl ?_
  refine lv_iload_n C.1 C.2.1 dX7_walled_35 rfl (lv_at hl 1 rfl) ?_
  refine g_iast C hV 1 rfl hF (fun gq => [oX7 a_t a_d a_e a_kept v_isKept a_found a_tape v_taped v_gone a_hears a_near a_firstDay a_daily v_begin v_round v_leastFar v_leastWhere v_mostLed a_heardNow v_firstMove v_at v_sort v_from v_value v_fault a_bitsOf a_sizeOf a_number a_passing, aA cI a_d 40 gq, aA cI a_heardNow 10 g3, aA cI a_hears 10 g8, aA cI a_near 10 g9]) (fun _ => rfl) dX7_walled_36 (fun g10 H locs hF hV => ?_)
  refine lv_iload_n C.1 C.2.1 dX7_walled_37 rfl (lv_at hl 0 rfl) ?_
  exact hret (x7, g10, g3, g8, g9) _ _ _ _ dX7_walled_38 hF hV
abbrev rmX7_law : Room := { frames := 4, cells := 0, slots := 0, locals := 92 }
theorem mdX7_law : gMd yX7_law wsX7_law cX7_law 6 (some .int) 1 := ⟨⟨_, rfl⟩, by decide +kernel⟩
theorem ctX7_law_175 : Cond.constantLong RX7 175 60 ∈ wsX7_law := List.mem_cons_of_mem _ (List.mem_append_left _ (List.mem_append_left _ (List.mem_of_getElem? (i := 0) rfl)))
theorem flX7_law_7 : gFL wsX7_law RX7 7 7 0 RX7 TX7 28 := ⟨rfl, fun w h => List.mem_cons_of_mem _ (List.mem_append_right _ (h)), Nat.le_of_ble_eq_true rfl, List.mem_cons_of_mem _ (List.mem_append_left _ (List.mem_append_left _ (List.mem_of_getElem? (i := 1) rfl)))⟩
theorem flX7_law_13 : gFL wsX7_law RX7 13 7 1 RX7 TX7 28 := ⟨rfl, fun w h => List.mem_cons_of_mem _ (List.mem_append_right _ (h)), Nat.le_of_ble_eq_true rfl, List.mem_cons_of_mem _ (List.mem_append_left _ (List.mem_append_left _ (List.mem_of_getElem? (i := 2) rfl)))⟩
def J_X7_law_108 (x18 : Int32) (s5 : Int32) (s6 : Int32) (kk36 : Int32 → Int32 → Int32 → (Nat → Int32) → (Nat → Int32) → (Nat → Int32) → Option (Int32 × (Nat → Int32) × (Nat → Int32) × (Nat → Int32) × (Nat → Int32) × (Nat → Int32))) (k19 : Int32) (t12 : Nat → Int32) (g14 : Nat → Int32) (g15 : Nat → Int32) : Option (Int32 × (Nat → Int32) × (Nat → Int32) × (Nat → Int32) × (Nat → Int32) × (Nat → Int32)) := (if x18 ≤ s5 then nm (s6 + 1) (fun x20 => kk36 k19 s5 x20 t12 g14 g15) else nm (s6 + 1) (fun x21 => kk36 k19 x18 x21 t12 g14 g15))
def L_X7_law_46 (n0 : Nat) (v_gone : Int32) (t8 : Nat → Int32) (t9 : Nat → Int32) (p1 : Int32) (s5 : Int32) (s6 : Int32) (kk36 : Int32 → Int32 → Int32 → (Nat → Int32) → (Nat → Int32) → (Nat → Int32) → Option (Int32 × (Nat → Int32) × (Nat → Int32) × (Nat → Int32) × (Nat → Int32) × (Nat → Int32))) (s4 : Int32) : Nat → Int32 → (Nat → Int32) → Option (Int32 × (Nat → Int32) × (Nat → Int32) × (Nat → Int32) × (Nat → Int32) × (Nat → Int32)) := lpp2 (fun s11 t12 kk46 => rd t12 40 0 (fun x13 => (if x13 ≤ s11 then bd2 (F_X7_listen n0 v_gone t12 t8 t9) (fun g14 g15 => rd t12 40 6 (fun x16 => bd1 (F_X7_ahead n0 t12 g14 g15 x16 p1) (fun x17 => bd1 (F_X7_ones n0 x17) (fun x18 => (if x18 ≤ s5 then J_X7_law_108 x18 s5 s6 kk36 s4 t12 g14 g15 else J_X7_law_108 x18 s5 s6 kk36 s6 t12 g14 g15))))) else nm (10 + s11) (fun x22 => wrt t12 40 x22 s6 (fun g23 => nm (s11 + 1) (fun x24 => kk46 x24 g23))))))
def L_X7_law_36 (n0 : Nat) (g3 : Nat → Int32) (f_found : Nat → Int32) (v_gone : Int32) (p1 : Int32) : Nat → Int32 → Int32 → Int32 → (Nat → Int32) → (Nat → Int32) → (Nat → Int32) → Option (Int32 × (Nat → Int32) × (Nat → Int32) × (Nat → Int32) × (Nat → Int32) × (Nat → Int32)) := lpp6 (fun s4 s5 s6 t7 t8 t9 kk36 => (if 6 < s6 then bd1 (F_X7_copies n0 40 40 g3 t7) (fun g10 => some (s4, g10, g3, f_found, t8, t9)) else L_X7_law_46 n0 v_gone t8 t9 p1 s5 s6 kk36 s4 n0 0 t7))
def F_X7_law (n0 : Nat) (v_gone : Int32) (f_d : Nat → Int32) (f_e : Nat → Int32) (f_found : Nat → Int32) (f_hears : Nat → Int32) (f_near : Nat → Int32) (p1 : Int32) : Option (Int32 × (Nat → Int32) × (Nat → Int32) × (Nat → Int32) × (Nat → Int32) × (Nat → Int32)) := nm (p1.toInt64) (fun x1 => bd1 (F_X7_in n0 x1 1 60) (fun x2 => (if x2 = 0 then bd2 (F_X7_finds n0 f_found 0) (fun x25 g26 => some (x25, f_d, f_e, g26, f_hears, f_near)) else bd1 (F_X7_copies n0 40 40 f_d f_e) (fun g3 => L_X7_law_36 n0 g3 f_found v_gone p1 n0 0 ((-1)) 0 f_d f_hears f_near))))
set_option maxRecDepth 100000 in
set_option maxHeartbeats 4000000 in
theorem k_X7_law (l : Launch) (dC : Nat → ClassId) (dI : Nat → Nat → Nat) (cI cB cO : ClassId) (n0 sz : Nat) (a_t : Nat) (a_d : Nat) (a_e : Nat) (a_kept : Nat) (a_found : Nat) (a_tape : Nat) (a_hears : Nat) (a_near : Nat) (a_firstDay : Nat) (a_daily : Nat) (a_heardNow : Nat) (a_bitsOf : Nat) (a_sizeOf : Nat) (a_number : Nat) (a_passing : Nat)   (v_isKept : Int32) (v_taped : Int32) (v_gone : Int32) (v_begin : Int32) (v_round : Int32) (v_leastFar : Int32) (v_leastWhere : Int32) (v_mostLed : Int32) (v_firstMove : Int32) (v_at : Int32) (v_sort : Int32) (v_from : Int32) (v_value : Int64) (v_fault : Int32) (f_d : Nat → Int32) (f_e : Nat → Int32) (f_found : Nat → Int32) (f_hears : Nat → Int32) (f_near : Nat → Int32) (p1 : Int32)  {ro : Int32} {o0 : Nat → Int32} {o1 : Nat → Int32} {o2 : Nat → Int32} {o3 : Nat → Int32} {o4 : Nat → Int32} (hF : F_X7_law n0 v_gone f_d f_e f_found f_hears f_near p1 = some (ro, o0, o1, o2, o3, o4)) : Met l yX7_law wsX7_law rmX7_law (va_Pc [.ref a_t, .int p1] (gPre (dC, dI) (gT cI cB cO) sz [oX7 a_t a_d a_e a_kept v_isKept a_found a_tape v_taped v_gone a_hears a_near a_firstDay a_daily v_begin v_round v_leastFar v_leastWhere v_mostLed a_heardNow v_firstMove v_at v_sort v_from v_value v_fault a_bitsOf a_sizeOf a_number a_passing, aA cI a_d 40 f_d, aA cI a_e 40 f_e, aA cI a_found 7 f_found, aA cI a_hears 10 f_hears, aA cI a_near 10 f_near])) (gQi (dC, dI) (gT cI cB cO) sz [oX7 a_t a_d a_e a_kept v_isKept a_found a_tape v_taped v_gone a_hears a_near a_firstDay a_daily v_begin v_round v_leastFar v_leastWhere v_mostLed a_heardNow v_firstMove v_at v_sort v_from v_value v_fault a_bitsOf a_sizeOf a_number a_passing, aA cI a_d 40 f_d, aA cI a_e 40 f_e, aA cI a_found 7 f_found, aA cI a_hears 10 f_hears, aA cI a_near 10 f_near] ro [oX7 a_t a_d a_e a_kept v_isKept a_found a_tape v_taped v_gone a_hears a_near a_firstDay a_daily v_begin v_round v_leastFar v_leastWhere v_mostLed a_heardNow v_firstMove v_at v_sort v_from v_value v_fault a_bitsOf a_sizeOf a_number a_passing, aA cI a_d 40 o0, aA cI a_e 40 o1, aA cI a_found 7 o2, aA cI a_hears 10 o3, aA cI a_near 10 o4]) 0 0 (va_A [oX7 a_t a_d a_e a_kept v_isKept a_found a_tape v_taped v_gone a_hears a_near a_firstDay a_daily v_begin v_round v_leastFar v_leastWhere v_mostLed a_heardNow v_firstMove v_at v_sort v_from v_value v_fault a_bitsOf a_sizeOf a_number a_passing, aA cI a_d 40 f_d, aA cI a_e 40 f_e, aA cI a_found 7 f_found, aA cI a_hears 10 f_hears, aA cI a_near 10 f_near] sz) := by
  refine g_metI (Out := Int32 × (Nat → Int32) × (Nat → Int32) × (Nat → Int32) × (Nat → Int32) × (Nat → Int32)) (fun oo => oo.1) (fun oo => [oX7 a_t a_d a_e a_kept v_isKept a_found a_tape v_taped v_gone a_hears a_near a_firstDay a_daily v_begin v_round v_leastFar v_leastWhere v_mostLed a_heardNow v_firstMove v_at v_sort v_from v_value v_fault a_bitsOf a_sizeOf a_number a_passing, aA cI a_d 40 oo.2.1, aA cI a_e 40 oo.2.2.1, aA cI a_found 7 oo.2.2.2.1, aA cI a_hears 10 oo.2.2.2.2.1, aA cI a_near 10 oo.2.2.2.2.2]) (ro, o0, o1, o2, o3, o4) (own := RX7) (lv := [(0, .ref a_t), (1, .int p1)]) (by decide) rfl rfl (Nat.le_of_ble_eq_true rfl) rfl ?_
  intro p e s m args below meth c Q ls C hret hV hl
  obtain ⟨out, hout⟩ : ∃ z : Int32 × (Nat → Int32) × (Nat → Int32) × (Nat → Int32) × (Nat → Int32) × (Nat → Int32), z = (ro, o0, o1, o2, o3, o4) := ⟨_, rfl⟩
  rw [← hout] at hF hret
  obtain ⟨H0, hH0⟩ : ∃ z : Heap, z = s.heap := ⟨_, rfl⟩
  obtain ⟨A0, hA0⟩ : ∃ z : Nat → Prop, z = va_A [oX7 a_t a_d a_e a_kept v_isKept a_found a_tape v_taped v_gone a_hears a_near a_firstDay a_daily v_begin v_round v_leastFar v_leastWhere v_mostLed a_heardNow v_firstMove v_at v_sort v_from v_value v_fault a_bitsOf a_sizeOf a_number a_passing, aA cI a_d 40 f_d, aA cI a_e 40 f_e, aA cI a_found 7 f_found, aA cI a_hears 10 f_hears, aA cI a_near 10 f_near] s.heap.size := ⟨_, rfl⟩
  rw [← hA0] at hret hV
  rw [← hH0] at hret hV
  rw [← hH0]
  obtain ⟨H, locs, hH⟩ : ∃ (z : Heap) (y : List Loc), z = H0 ∧ y = [] := ⟨_, _, rfl, rfl⟩
  rw [← hH.1, ← hH.2]
  have hV : gV (dC, dI) (gT cI cB cO) A0 H0 s [oX7 a_t a_d a_e a_kept v_isKept a_found a_tape v_taped v_gone a_hears a_near a_firstDay a_daily v_begin v_round v_leastFar v_leastWhere v_mostLed a_heardNow v_firstMove v_at v_sort v_from v_value v_fault a_bitsOf a_sizeOf a_number a_passing, aA cI a_d 40 f_d, aA cI a_e 40 f_e, aA cI a_found 7 f_found, aA cI a_hears 10 f_hears, aA cI a_near 10 f_near] H locs := by rw [hH.1, hH.2]; exact hV
  unfold F_X7_law at hF
  refine lv_iload_n C.1 C.2.1 dX7_law_0 rfl (lv_at hl 1 rfl) ?_
  refine g_i2l C hF dX7_law_1 (fun x1 hF => ?_)
  refine lv_lconst (v := 1) C.1 C.2.1 dX7_law_2 rfl ?_
  refine lv_ldc2 (v := 60) C.1 C.2.1 C.2.2.2.1 (C.2.2.2.2 _ ctX7_law_175) dX7_law_3 ?_
  obtain ⟨x2, hc, hF⟩ := bd1_s hF
  refine g_cSi (ws' := [oX7 a_t a_d a_e a_kept v_isKept a_found a_tape v_taped v_gone a_hears a_near a_firstDay a_daily v_begin v_round v_leastFar v_leastWhere v_mostLed a_heardNow v_firstMove v_at v_sort v_from v_value v_fault a_bitsOf a_sizeOf a_number a_passing, aA cI a_d 40 f_d, aA cI a_e 40 f_e, aA cI a_found 7 f_found, aA cI a_hears 10 f_hears, aA cI a_near 10 f_near]) (wr := [oX7 a_t a_d a_e a_kept v_isKept a_found a_tape v_taped v_gone a_hears a_near a_firstDay a_daily v_begin v_round v_leastFar v_leastWhere v_mostLed a_heardNow v_firstMove v_at v_sort v_from v_value v_fault a_bitsOf a_sizeOf a_number a_passing, aA cI a_d 40 f_d, aA cI a_e 40 f_e, aA cI a_found 7 f_found, aA cI a_hears 10 f_hears, aA cI a_near 10 f_near]) C hV (k_X7_in l dC dI cI cB cO n0 H.size x1 1 60 hc) mdX7_in gX7_law_X7_in rfl rfl ⟨Nat.le_of_ble_eq_true rfl, Nat.le_of_ble_eq_true rfl⟩ [] [0, 1, 2, 3, 4, 5] [0, 1, 2, 3, 4, 5] rfl rfl rfl rfl rfl rfl rfl rfl hl.1 (Nat.le_of_ble_eq_true rfl) rfl dX7_law_6 (fun H locs hV => ?_)
  refine g_if_ne (tgt := 18) C hF dX7_law_9 rfl (fun hF => ?_) (fun hF => ?_)
  · refine lv_aload_n C.1 C.2.1 dX7_law_18 rfl (lv_at hl 0 rfl) ?_
    refine g_get C hV flX7_law_7 0 rfl rfl dX7_law_19 ?_
    refine lv_aload_n C.1 C.2.1 dX7_law_22 rfl (lv_at hl 0 rfl) ?_
    refine g_get C hV flX7_law_13 0 rfl rfl dX7_law_23 ?_
    obtain ⟨g3, hc, hF⟩ := bd1_s hF
    refine g_cSv (ws' := [oX7 a_t a_d a_e a_kept v_isKept a_found a_tape v_taped v_gone a_hears a_near a_firstDay a_daily v_begin v_round v_leastFar v_leastWhere v_mostLed a_heardNow v_firstMove v_at v_sort v_from v_value v_fault a_bitsOf a_sizeOf a_number a_passing, aA cI a_d 40 f_d, aA cI a_e 40 g3, aA cI a_found 7 f_found, aA cI a_hears 10 f_hears, aA cI a_near 10 f_near]) (wr := [oX7 a_t a_d a_e a_kept v_isKept a_found a_tape v_taped v_gone a_hears a_near a_firstDay a_daily v_begin v_round v_leastFar v_leastWhere v_mostLed a_heardNow v_firstMove v_at v_sort v_from v_value v_fault a_bitsOf a_sizeOf a_number a_passing, aA cI a_found 7 f_found, aA cI a_hears 10 f_hears, aA cI a_near 10 f_near]) C hV (k_X7_copies l dC dI cI cB cO n0 H.size a_d a_e 40 40 f_d f_e hc) mdX7_copies gX7_law_X7_copies rfl rfl ⟨Nat.le_of_ble_eq_true rfl, Nat.le_of_ble_eq_true rfl⟩ [1, 2] [0, 3, 4, 5] [0, 4, 5, 1, 2, 3] rfl rfl rfl rfl rfl rfl rfl rfl hl.1 (Nat.le_of_ble_eq_true rfl) rfl dX7_law_26 (fun H locs hV => ?_)
    refine lv_iconst (v := 0) C.1 C.2.1 dX7_law_29 rfl ?_
    refine lv_istore_n (lv' := [(2, .int 0), (0, .ref a_t), (1, .int p1)]) C.1 C.2.1 dX7_law_30 rfl hl (by decide) rfl (fun ls hl => ?_)
    refine lv_iconst (v := (-1)) C.1 C.2.1 dX7_law_31 rfl ?_
    refine lv_istore_n (lv' := [(3, .int ((-1))), (2, .int 0), (0, .ref a_t), (1, .int p1)]) C.1 C.2.1 dX7_law_32 rfl hl (by decide) rfl (fun ls hl => ?_)
    refine lv_iconst (v := 0) C.1 C.2.1 dX7_law_33 rfl ?_
    refine lv_istore (lv' := [(4, .int 0), (3, .int ((-1))), (2, .int 0), (0, .ref a_t), (1, .int p1)]) C.1 C.2.1 dX7_law_34 hl (by decide) rfl (fun ls hl => ?_)
    have hL36 : ∀ (n : Nat) (s4 : Int32) (s5 : Int32) (s6 : Int32) (t7 : Nat → Int32) (t8 : Nat → Int32) (t9 : Nat → Int32) (H : Heap) (locs : List Loc) (ls : Array Slot), gV (dC, dI) (gT cI cB cO) A0 H0 s [oX7 a_t a_d a_e a_kept v_isKept a_found a_tape v_taped v_gone a_hears a_near a_firstDay a_daily v_begin v_round v_leastFar v_leastWhere v_mostLed a_heardNow v_firstMove v_at v_sort v_from v_value v_fault a_bitsOf a_sizeOf a_number a_passing, aA cI a_d 40 t7, aA cI a_e 40 g3, aA cI a_found 7 f_found, aA cI a_hears 10 t8, aA cI a_near 10 t9] H locs → lv_has ls 6 [(0, .ref a_t), (1, .int p1), (2, .int s4), (3, .int s5), (4, .int s6)] → L_X7_law_36 n0 g3 f_found v_gone p1 n s4 s5 s6 t7 t8 t9 = some out → W p l e rmX7_law s m args below meth c H locs 0 0 Q (F0 m 36 ls []) := by
      intro n
      induction n with
      | zero => intro s4 s5 s6 t7 t8 t9 H locs ls hV hl hF; exact lpp6_z hF
      | succ n ih36 =>
        intro s4 s5 s6 t7 t8 t9 H locs ls hV hl hF
        obtain ⟨kk36, hk36, hF⟩ := lpp6_g hF
        have hq36 : ∀ (s4 : Int32) (s5 : Int32) (s6 : Int32) (t7 : Nat → Int32) (t8 : Nat → Int32) (t9 : Nat → Int32), kk36 s4 s5 s6 t7 t8 t9 = some out → L_X7_law_36 n0 g3 f_found v_gone p1 n s4 s5 s6 t7 t8 t9 = some out := fun _ _ _ _ _ _ h => by rw [hk36] at h; exact h
        refine lv_iload C.1 C.2.1 dX7_law_36 (lv_at hl 4 rfl) ?_
        refine lv_bipush (v := 6) C.1 C.2.1 dX7_law_38 rfl ?_
        refine g_icmp_gt (tgt := 128) C hF dX7_law_40 rfl (fun hF => ?_) (fun hF => ?_)
        · refine lv_aload_n C.1 C.2.1 dX7_law_128 rfl (lv_at hl 0 rfl) ?_
          refine g_get C hV flX7_law_13 0 rfl rfl dX7_law_129 ?_
          refine lv_aload_n C.1 C.2.1 dX7_law_132 rfl (lv_at hl 0 rfl) ?_
          refine g_get C hV flX7_law_7 0 rfl rfl dX7_law_133 ?_
          obtain ⟨g10, hc, hF⟩ := bd1_s hF
          refine g_cSv (ws' := [oX7 a_t a_d a_e a_kept v_isKept a_found a_tape v_taped v_gone a_hears a_near a_firstDay a_daily v_begin v_round v_leastFar v_leastWhere v_mostLed a_heardNow v_firstMove v_at v_sort v_from v_value v_fault a_bitsOf a_sizeOf a_number a_passing, aA cI a_d 40 g10, aA cI a_e 40 g3, aA cI a_found 7 f_found, aA cI a_hears 10 t8, aA cI a_near 10 t9]) (wr := [oX7 a_t a_d a_e a_kept v_isKept a_found a_tape v_taped v_gone a_hears a_near a_firstDay a_daily v_begin v_round v_leastFar v_leastWhere v_mostLed a_heardNow v_firstMove v_at v_sort v_from v_value v_fault a_bitsOf a_sizeOf a_number a_passing, aA cI a_found 7 f_found, aA cI a_hears 10 t8, aA cI a_near 10 t9]) C hV (k_X7_copies l dC dI cI cB cO n0 H.size a_e a_d 40 40 g3 t7 hc) mdX7_copies gX7_law_X7_copies rfl rfl ⟨Nat.le_of_ble_eq_true rfl, Nat.le_of_ble_eq_true rfl⟩ [2, 1] [0, 3, 4, 5] [0, 5, 4, 1, 2, 3] rfl rfl rfl rfl rfl rfl rfl rfl hl.1 (Nat.le_of_ble_eq_true rfl) rfl dX7_law_136 (fun H locs hV => ?_)
          refine lv_iload_n C.1 C.2.1 dX7_law_139 rfl (lv_at hl 2 rfl) ?_
          exact hret (s4, g10, g3, f_found, t8, t9) _ _ _ _ dX7_law_140 hF hV
        refine lv_iconst (v := 0) C.1 C.2.1 dX7_law_43 rfl ?_
        refine lv_istore (lv' := [(5, .int 0), (0, .ref a_t), (1, .int p1), (2, .int s4), (3, .int s5), (4, .int s6)]) C.1 C.2.1 dX7_law_44 hl (by decide) rfl (fun ls hl => ?_)
        have hL46 : ∀ (n : Nat) (s11 : Int32) (t12 : Nat → Int32) (H : Heap) (locs : List Loc) (ls : Array Slot), gV (dC, dI) (gT cI cB cO) A0 H0 s [oX7 a_t a_d a_e a_kept v_isKept a_found a_tape v_taped v_gone a_hears a_near a_firstDay a_daily v_begin v_round v_leastFar v_leastWhere v_mostLed a_heardNow v_firstMove v_at v_sort v_from v_value v_fault a_bitsOf a_sizeOf a_number a_passing, aA cI a_d 40 t12, aA cI a_e 40 g3, aA cI a_found 7 f_found, aA cI a_hears 10 t8, aA cI a_near 10 t9] H locs → lv_has ls 6 [(0, .ref a_t), (1, .int p1), (2, .int s4), (3, .int s5), (4, .int s6), (5, .int s11)] → L_X7_law_46 n0 v_gone t8 t9 p1 s5 s6 kk36 s4 n s11 t12 = some out → W p l e rmX7_law s m args below meth c H locs 0 0 Q (F0 m 46 ls []) := by
          intro n
          induction n with
          | zero => intro s11 t12 H locs ls hV hl hF; exact lpp2_z hF
          | succ n ih46 =>
            intro s11 t12 H locs ls hV hl hF
            obtain ⟨kk46, hk46, hF⟩ := lpp2_g hF
            have hq46 : ∀ (s11 : Int32) (t12 : Nat → Int32), kk46 s11 t12 = some out → L_X7_law_46 n0 v_gone t8 t9 p1 s5 s6 kk36 s4 n s11 t12 = some out := fun _ _ h => by rw [hk46] at h; exact h
            refine lv_iload C.1 C.2.1 dX7_law_46 (lv_at hl 5 rfl) ?_
            refine lv_aload_n C.1 C.2.1 dX7_law_48 rfl (lv_at hl 0 rfl) ?_
            refine g_get C hV flX7_law_7 0 rfl rfl dX7_law_49 ?_
            refine lv_iconst (v := 0) C.1 C.2.1 dX7_law_52 rfl ?_
            refine g_iald C hV 1 rfl hF dX7_law_53 (fun x13 hF => ?_)
            refine g_icmp_ge (tgt := 75) C hF dX7_law_54 rfl (fun hF => ?_) (fun hF => ?_)
            · refine lv_aload_n C.1 C.2.1 dX7_law_75 rfl (lv_at hl 0 rfl) ?_
              obtain ⟨g14, g15, hc, hF⟩ := bd2_s hF
              refine g_cVv (ws' := [oX7 a_t a_d a_e a_kept v_isKept a_found a_tape v_taped v_gone a_hears a_near a_firstDay a_daily v_begin v_round v_leastFar v_leastWhere v_mostLed a_heardNow v_firstMove v_at v_sort v_from v_value v_fault a_bitsOf a_sizeOf a_number a_passing, aA cI a_d 40 t12, aA cI a_e 40 g3, aA cI a_found 7 f_found, aA cI a_hears 10 g14, aA cI a_near 10 g15]) (wr := [aA cI a_e 40 g3, aA cI a_found 7 f_found]) C hV (k_X7_listen l dC dI cI cB cO n0 H.size a_t a_d a_e a_kept a_found a_tape a_hears a_near a_firstDay a_daily a_heardNow a_bitsOf a_sizeOf a_number a_passing v_isKept v_taped v_gone v_begin v_round v_leastFar v_leastWhere v_mostLed v_firstMove v_at v_sort v_from v_value v_fault t12 t8 t9 hc) mdX7_listen gX7_law_X7_listen rfl rfl ⟨Nat.le_of_ble_eq_true rfl, Nat.le_of_ble_eq_true rfl⟩ [0, 1, 4, 5] [2, 3] [2, 3, 0, 1, 4, 5] rfl rfl rfl rfl rfl rfl rfl rfl rfl rfl hl.1 (Nat.le_of_ble_eq_true rfl) rfl dX7_law_76 (fun H locs hV => ?_)
              refine lv_aload_n C.1 C.2.1 dX7_law_79 rfl (lv_at hl 0 rfl) ?_
              refine lv_aload_n C.1 C.2.1 dX7_law_80 rfl (lv_at hl 0 rfl) ?_
              refine g_get C hV flX7_law_7 0 rfl rfl dX7_law_81 ?_
              refine lv_bipush (v := 6) C.1 C.2.1 dX7_law_84 rfl ?_
              refine g_iald C hV 1 rfl hF dX7_law_86 (fun x16 hF => ?_)
              refine lv_iload_n C.1 C.2.1 dX7_law_87 rfl (lv_at hl 1 rfl) ?_
              obtain ⟨x17, hc, hF⟩ := bd1_s hF
              refine g_cVi (ws' := [oX7 a_t a_d a_e a_kept v_isKept a_found a_tape v_taped v_gone a_hears a_near a_firstDay a_daily v_begin v_round v_leastFar v_leastWhere v_mostLed a_heardNow v_firstMove v_at v_sort v_from v_value v_fault a_bitsOf a_sizeOf a_number a_passing, aA cI a_d 40 t12, aA cI a_e 40 g3, aA cI a_found 7 f_found, aA cI a_hears 10 g14, aA cI a_near 10 g15]) (wr := [aA cI a_e 40 g3, aA cI a_found 7 f_found]) C hV (k_X7_ahead l dC dI cI cB cO n0 H.size a_t a_d a_e a_kept a_found a_tape a_hears a_near a_firstDay a_daily a_heardNow a_bitsOf a_sizeOf a_number a_passing v_isKept v_taped v_gone v_begin v_round v_leastFar v_leastWhere v_mostLed v_firstMove v_at v_sort v_from v_value v_fault t12 g14 g15 x16 p1 hc) mdX7_ahead gX7_law_X7_ahead rfl rfl ⟨Nat.le_of_ble_eq_true rfl, Nat.le_of_ble_eq_true rfl⟩ [0, 1, 4, 5] [2, 3] [2, 3, 0, 1, 4, 5] rfl rfl rfl rfl rfl rfl rfl rfl rfl rfl hl.1 (Nat.le_of_ble_eq_true rfl) rfl dX7_law_88 (fun H locs hV => ?_)
              obtain ⟨x18, hc, hF⟩ := bd1_s hF
              refine g_cSi (ws' := [oX7 a_t a_d a_e a_kept v_isKept a_found a_tape v_taped v_gone a_hears a_near a_firstDay a_daily v_begin v_round v_leastFar v_leastWhere v_mostLed a_heardNow v_firstMove v_at v_sort v_from v_value v_fault a_bitsOf a_sizeOf a_number a_passing, aA cI a_d 40 t12, aA cI a_e 40 g3, aA cI a_found 7 f_found, aA cI a_hears 10 g14, aA cI a_near 10 g15]) (wr := [oX7 a_t a_d a_e a_kept v_isKept a_found a_tape v_taped v_gone a_hears a_near a_firstDay a_daily v_begin v_round v_leastFar v_leastWhere v_mostLed a_heardNow v_firstMove v_at v_sort v_from v_value v_fault a_bitsOf a_sizeOf a_number a_passing, aA cI a_d 40 t12, aA cI a_e 40 g3, aA cI a_found 7 f_found, aA cI a_hears 10 g14, aA cI a_near 10 g15]) C hV (k_X7_ones l dC dI cI cB cO n0 H.size x17 hc) mdX7_ones gX7_law_X7_ones rfl rfl ⟨Nat.le_of_ble_eq_true rfl, Nat.le_of_ble_eq_true rfl⟩ [] [0, 1, 2, 3, 4, 5] [0, 1, 2, 3, 4, 5] rfl rfl rfl rfl rfl rfl rfl rfl hl.1 (Nat.le_of_ble_eq_true rfl) rfl dX7_law_91 (fun H locs hV => ?_)
              refine lv_istore (lv' := [(5, .int x18), (0, .ref a_t), (1, .int p1), (2, .int s4), (3, .int s5), (4, .int s6)]) C.1 C.2.1 dX7_law_94 hl (by decide) rfl (fun ls hl => ?_)
              refine lv_iload C.1 C.2.1 dX7_law_96 (lv_at hl 0 rfl) ?_
              refine lv_iload_n C.1 C.2.1 dX7_law_98 rfl (lv_at hl 4 rfl) ?_
              have hJ108 : ∀ (k19 : Int32) (H : Heap) (locs : List Loc) (ls : Array Slot), gV (dC, dI) (gT cI cB cO) A0 H0 s [oX7 a_t a_d a_e a_kept v_isKept a_found a_tape v_taped v_gone a_hears a_near a_firstDay a_daily v_begin v_round v_leastFar v_leastWhere v_mostLed a_heardNow v_firstMove v_at v_sort v_from v_value v_fault a_bitsOf a_sizeOf a_number a_passing, aA cI a_d 40 t12, aA cI a_e 40 g3, aA cI a_found 7 f_found, aA cI a_hears 10 g14, aA cI a_near 10 g15] H locs → lv_has ls 6 [(0, .ref a_t), (1, .int p1), (3, .int s5), (4, .int s6), (5, .int x18)] → J_X7_law_108 x18 s5 s6 kk36 k19 t12 g14 g15 = some out → W p l e rmX7_law s m args below meth c H locs 0 0 Q (F0 m 108 ls [.int k19]) := by
                intro k19 H locs ls hV hl hF
                unfold J_X7_law_108 at hF
                refine lv_istore_n (lv' := [(2, .int k19), (0, .ref a_t), (1, .int p1), (3, .int s5), (4, .int s6), (5, .int x18)]) C.1 C.2.1 dX7_law_108 rfl hl (by decide) rfl (fun ls hl => ?_)
                refine lv_iload C.1 C.2.1 dX7_law_109 (lv_at hl 5 rfl) ?_
                refine lv_iload_n C.1 C.2.1 dX7_law_111 rfl (lv_at hl 3 rfl) ?_
                refine g_icmp_le (tgt := 120) C hF dX7_law_112 rfl (fun hF => ?_) (fun hF => ?_)
                · refine lv_iload_n C.1 C.2.1 dX7_law_120 rfl (lv_at hl 3 rfl) ?_
                  refine lv_istore_n (lv' := [(3, .int s5), (2, .int k19), (0, .ref a_t), (1, .int p1), (4, .int s6), (5, .int x18)]) C.1 C.2.1 dX7_law_121 rfl hl (by decide) rfl (fun ls hl => ?_)
                  refine g_iinc C hF dX7_law_122 (d := 1) rfl hl (j := 4) rfl (by decide) (fun y => [(4, .int y), (3, .int s5), (2, .int k19), (0, .ref a_t), (1, .int p1), (5, .int x18)]) (fun _ => rfl) (fun x20 ls hF hl => ?_)
                  refine lv_goto (tgt := 36) C.1 C.2.1 dX7_law_125 rfl ?_
                  exact ih36 k19 s5 x20 t12 g14 g15 H locs ls hV (lv_sub hl [3, 4, 2, 1, 0] rfl) (hq36 k19 s5 x20 t12 g14 g15 hF)
                refine lv_iload C.1 C.2.1 dX7_law_115 (lv_at hl 5 rfl) ?_
                refine lv_goto (tgt := 121) C.1 C.2.1 dX7_law_117 rfl ?_
                refine lv_istore_n (lv' := [(3, .int x18), (2, .int k19), (0, .ref a_t), (1, .int p1), (4, .int s6), (5, .int x18)]) C.1 C.2.1 dX7_law_121 rfl hl (by decide) rfl (fun ls hl => ?_)
                refine g_iinc C hF dX7_law_122 (d := 1) rfl hl (j := 4) rfl (by decide) (fun y => [(4, .int y), (3, .int x18), (2, .int k19), (0, .ref a_t), (1, .int p1), (5, .int x18)]) (fun _ => rfl) (fun x21 ls hF hl => ?_)
                refine lv_goto (tgt := 36) C.1 C.2.1 dX7_law_125 rfl ?_
                exact ih36 k19 x18 x21 t12 g14 g15 H locs ls hV (lv_sub hl [3, 4, 2, 1, 0] rfl) (hq36 k19 x18 x21 t12 g14 g15 hF)
              refine g_icmp_le (tgt := 107) C hF dX7_law_99 rfl (fun hF => ?_) (fun hF => ?_)
              · refine lv_iload_n C.1 C.2.1 dX7_law_107 rfl (lv_at hl 3 rfl) ?_
                exact hJ108 s4 H locs ls hV (lv_sub hl [1, 2, 4, 5, 0] rfl) hF
              refine lv_iload C.1 C.2.1 dX7_law_102 (lv_at hl 5 rfl) ?_
              refine lv_goto (tgt := 108) C.1 C.2.1 dX7_law_104 rfl ?_
              exact hJ108 s6 H locs ls hV (lv_sub hl [1, 2, 4, 5, 0] rfl) hF
            refine lv_aload_n C.1 C.2.1 dX7_law_57 rfl (lv_at hl 0 rfl) ?_
            refine g_get C hV flX7_law_7 0 rfl rfl dX7_law_58 ?_
            refine lv_bipush (v := 10) C.1 C.2.1 dX7_law_61 rfl ?_
            refine lv_iload C.1 C.2.1 dX7_law_63 (lv_at hl 5 rfl) ?_
            refine g_iadd C hF dX7_law_65 (fun x22 hF => ?_)
            refine lv_iload C.1 C.2.1 dX7_law_66 (lv_at hl 4 rfl) ?_
            refine g_iast C hV 1 rfl hF (fun gq => [oX7 a_t a_d a_e a_kept v_isKept a_found a_tape v_taped v_gone a_hears a_near a_firstDay a_daily v_begin v_round v_leastFar v_leastWhere v_mostLed a_heardNow v_firstMove v_at v_sort v_from v_value v_fault a_bitsOf a_sizeOf a_number a_passing, aA cI a_d 40 gq, aA cI a_e 40 g3, aA cI a_found 7 f_found, aA cI a_hears 10 t8, aA cI a_near 10 t9]) (fun _ => rfl) dX7_law_68 (fun g23 H locs hF hV => ?_)
            refine g_iinc C hF dX7_law_69 (d := 1) rfl hl (j := 5) rfl (by decide) (fun y => [(5, .int y), (0, .ref a_t), (1, .int p1), (2, .int s4), (3, .int s5), (4, .int s6)]) (fun _ => rfl) (fun x24 ls hF hl => ?_)
            refine lv_goto (tgt := 46) C.1 C.2.1 dX7_law_72 rfl ?_
            exact ih46 x24 g23 H locs ls hV (lv_sub hl [1, 2, 3, 4, 5, 0] rfl) (hq46 x24 g23 hF)
        exact hL46 n0 0 t7 H locs ls hV (lv_sub hl [1, 2, 3, 4, 5, 0] rfl) hF
    exact hL36 n0 0 ((-1)) 0 f_d f_hears f_near H locs ls hV (lv_sub hl [3, 4, 2, 1, 0] rfl) hF
  refine lv_aload_n C.1 C.2.1 dX7_law_12 rfl (lv_at hl 0 rfl) ?_
  refine lv_iconst (v := 0) C.1 C.2.1 dX7_law_13 rfl ?_
  obtain ⟨x25, g26, hc, hF⟩ := bd2_s hF
  refine g_cVi (ws' := [oX7 a_t a_d a_e a_kept v_isKept a_found a_tape v_taped v_gone a_hears a_near a_firstDay a_daily v_begin v_round v_leastFar v_leastWhere v_mostLed a_heardNow v_firstMove v_at v_sort v_from v_value v_fault a_bitsOf a_sizeOf a_number a_passing, aA cI a_d 40 f_d, aA cI a_e 40 f_e, aA cI a_found 7 g26, aA cI a_hears 10 f_hears, aA cI a_near 10 f_near]) (wr := [aA cI a_d 40 f_d, aA cI a_e 40 f_e, aA cI a_hears 10 f_hears, aA cI a_near 10 f_near]) C hV (k_X7_finds l dC dI cI cB cO n0 H.size a_t a_d a_e a_kept a_found a_tape a_hears a_near a_firstDay a_daily a_heardNow a_bitsOf a_sizeOf a_number a_passing v_isKept v_taped v_gone v_begin v_round v_leastFar v_leastWhere v_mostLed v_firstMove v_at v_sort v_from v_value v_fault f_found 0 hc) mdX7_finds gX7_law_X7_finds rfl rfl ⟨Nat.le_of_ble_eq_true rfl, Nat.le_of_ble_eq_true rfl⟩ [0, 3] [1, 2, 4, 5] [4, 0, 1, 5, 2, 3] rfl rfl rfl rfl rfl rfl rfl rfl rfl rfl hl.1 (Nat.le_of_ble_eq_true rfl) rfl dX7_law_14 (fun H locs hV => ?_)
  exact hret (x25, f_d, f_e, g26, f_hears, f_near) _ _ _ _ dX7_law_17 hF hV
abbrev rmX7_heard : Room := { frames := 4, cells := 0, slots := 0, locals := 92 }
theorem mdX7_heard : gMd yX7_heard wsX7_heard cX7_heard 7 (some .int) 1 := ⟨⟨_, rfl⟩, by decide +kernel⟩
theorem ctX7_heard_175 : Cond.constantLong RX7 175 60 ∈ wsX7_heard := List.mem_cons_of_mem _ (List.mem_append_left _ (List.mem_append_left _ (List.mem_of_getElem? (i := 0) rfl)))
theorem flX7_heard_7 : gFL wsX7_heard RX7 7 7 0 RX7 TX7 28 := ⟨rfl, fun w h => List.mem_cons_of_mem _ (List.mem_append_right _ (h)), Nat.le_of_ble_eq_true rfl, List.mem_cons_of_mem _ (List.mem_append_left _ (List.mem_append_left _ (List.mem_of_getElem? (i := 1) rfl)))⟩
def J_X7_heard_113 (x20 : Int32) (s9 : Int32) (s10 : Int32) (kk58 : Int32 → Int32 → Int32 → Option (Int32 × (Nat → Int32) × (Nat → Int32) × (Nat → Int32))) (k21 : Int32) : Option (Int32 × (Nat → Int32) × (Nat → Int32) × (Nat → Int32)) := (if x20 ≤ s9 then nm (s10 + 1) (fun x22 => kk58 k21 s9 x22) else nm (s10 + 1) (fun x23 => kk58 k21 x20 x23))
def L_X7_heard_58 (f_d : Nat → Int32) (f_found : Nat → Int32) (g4 : Nat → Int32) (g5 : Nat → Int32) (n0 : Nat) (p1 : Int32) (x7 : Int32) : Nat → Int32 → Int32 → Int32 → Option (Int32 × (Nat → Int32) × (Nat → Int32) × (Nat → Int32)) := lpp3 (fun s8 s9 s10 kk58 => rd f_d 40 0 (fun x11 => (if x11 ≤ s10 then some (s8, f_found, g4, g5) else rd f_d 40 6 (fun x12 => nm (1 <<< (s10 &&& 31)) (fun x13 => nm (x12 ^^^ x13) (fun x14 => bd1 (F_X7_ahead n0 f_d g4 g5 x14 p1) (fun x15 => nm (x15 ^^^ x7) (fun x16 => nm (1 <<< (s10 &&& 31)) (fun x17 => nm (x17 ^^^ ((-1))) (fun x18 => nm (x16 &&& x18) (fun x19 => bd1 (F_X7_ones n0 x19) (fun x20 => (if x20 ≤ s9 then J_X7_heard_113 x20 s9 s10 kk58 s8 else J_X7_heard_113 x20 s9 s10 kk58 s10)))))))))))))
def F_X7_heard (n0 : Nat) (v_gone : Int32) (f_d : Nat → Int32) (f_found : Nat → Int32) (f_hears : Nat → Int32) (f_near : Nat → Int32) (p1 : Int32) : Option (Int32 × (Nat → Int32) × (Nat → Int32) × (Nat → Int32)) := nm (p1.toInt64) (fun x1 => bd1 (F_X7_in n0 x1 1 60) (fun x2 => (if x2 = 0 then bd2 (F_X7_finds n0 f_found 0) (fun x26 g27 => some (x26, g27, f_hears, f_near)) else rd f_d 40 0 (fun x3 => (if x3 = 0 then bd2 (F_X7_finds n0 f_found 3) (fun x24 g25 => some (x24, g25, f_hears, f_near)) else bd2 (F_X7_listen n0 v_gone f_d f_hears f_near) (fun g4 g5 => rd f_d 40 6 (fun x6 => bd1 (F_X7_ahead n0 f_d g4 g5 x6 p1) (fun x7 => L_X7_heard_58 f_d f_found g4 g5 n0 p1 x7 n0 0 ((-1)) 0))))))))
set_option maxRecDepth 100000 in
set_option maxHeartbeats 4000000 in
theorem k_X7_heard (l : Launch) (dC : Nat → ClassId) (dI : Nat → Nat → Nat) (cI cB cO : ClassId) (n0 sz : Nat) (a_t : Nat) (a_d : Nat) (a_e : Nat) (a_kept : Nat) (a_found : Nat) (a_tape : Nat) (a_hears : Nat) (a_near : Nat) (a_firstDay : Nat) (a_daily : Nat) (a_heardNow : Nat) (a_bitsOf : Nat) (a_sizeOf : Nat) (a_number : Nat) (a_passing : Nat)   (v_isKept : Int32) (v_taped : Int32) (v_gone : Int32) (v_begin : Int32) (v_round : Int32) (v_leastFar : Int32) (v_leastWhere : Int32) (v_mostLed : Int32) (v_firstMove : Int32) (v_at : Int32) (v_sort : Int32) (v_from : Int32) (v_value : Int64) (v_fault : Int32) (f_d : Nat → Int32) (f_found : Nat → Int32) (f_hears : Nat → Int32) (f_near : Nat → Int32) (p1 : Int32)  {ro : Int32} {o0 : Nat → Int32} {o1 : Nat → Int32} {o2 : Nat → Int32} (hF : F_X7_heard n0 v_gone f_d f_found f_hears f_near p1 = some (ro, o0, o1, o2)) : Met l yX7_heard wsX7_heard rmX7_heard (va_Pc [.ref a_t, .int p1] (gPre (dC, dI) (gT cI cB cO) sz [oX7 a_t a_d a_e a_kept v_isKept a_found a_tape v_taped v_gone a_hears a_near a_firstDay a_daily v_begin v_round v_leastFar v_leastWhere v_mostLed a_heardNow v_firstMove v_at v_sort v_from v_value v_fault a_bitsOf a_sizeOf a_number a_passing, aA cI a_d 40 f_d, aA cI a_found 7 f_found, aA cI a_hears 10 f_hears, aA cI a_near 10 f_near])) (gQi (dC, dI) (gT cI cB cO) sz [oX7 a_t a_d a_e a_kept v_isKept a_found a_tape v_taped v_gone a_hears a_near a_firstDay a_daily v_begin v_round v_leastFar v_leastWhere v_mostLed a_heardNow v_firstMove v_at v_sort v_from v_value v_fault a_bitsOf a_sizeOf a_number a_passing, aA cI a_d 40 f_d, aA cI a_found 7 f_found, aA cI a_hears 10 f_hears, aA cI a_near 10 f_near] ro [oX7 a_t a_d a_e a_kept v_isKept a_found a_tape v_taped v_gone a_hears a_near a_firstDay a_daily v_begin v_round v_leastFar v_leastWhere v_mostLed a_heardNow v_firstMove v_at v_sort v_from v_value v_fault a_bitsOf a_sizeOf a_number a_passing, aA cI a_d 40 f_d, aA cI a_found 7 o0, aA cI a_hears 10 o1, aA cI a_near 10 o2]) 0 0 (va_A [oX7 a_t a_d a_e a_kept v_isKept a_found a_tape v_taped v_gone a_hears a_near a_firstDay a_daily v_begin v_round v_leastFar v_leastWhere v_mostLed a_heardNow v_firstMove v_at v_sort v_from v_value v_fault a_bitsOf a_sizeOf a_number a_passing, aA cI a_d 40 f_d, aA cI a_found 7 f_found, aA cI a_hears 10 f_hears, aA cI a_near 10 f_near] sz) := by
  refine g_metI (Out := Int32 × (Nat → Int32) × (Nat → Int32) × (Nat → Int32)) (fun oo => oo.1) (fun oo => [oX7 a_t a_d a_e a_kept v_isKept a_found a_tape v_taped v_gone a_hears a_near a_firstDay a_daily v_begin v_round v_leastFar v_leastWhere v_mostLed a_heardNow v_firstMove v_at v_sort v_from v_value v_fault a_bitsOf a_sizeOf a_number a_passing, aA cI a_d 40 f_d, aA cI a_found 7 oo.2.1, aA cI a_hears 10 oo.2.2.1, aA cI a_near 10 oo.2.2.2]) (ro, o0, o1, o2) (own := RX7) (lv := [(0, .ref a_t), (1, .int p1)]) (by decide) rfl rfl (Nat.le_of_ble_eq_true rfl) rfl ?_
  intro p e s m args below meth c Q ls C hret hV hl
  obtain ⟨out, hout⟩ : ∃ z : Int32 × (Nat → Int32) × (Nat → Int32) × (Nat → Int32), z = (ro, o0, o1, o2) := ⟨_, rfl⟩
  rw [← hout] at hF hret
  obtain ⟨H0, hH0⟩ : ∃ z : Heap, z = s.heap := ⟨_, rfl⟩
  obtain ⟨A0, hA0⟩ : ∃ z : Nat → Prop, z = va_A [oX7 a_t a_d a_e a_kept v_isKept a_found a_tape v_taped v_gone a_hears a_near a_firstDay a_daily v_begin v_round v_leastFar v_leastWhere v_mostLed a_heardNow v_firstMove v_at v_sort v_from v_value v_fault a_bitsOf a_sizeOf a_number a_passing, aA cI a_d 40 f_d, aA cI a_found 7 f_found, aA cI a_hears 10 f_hears, aA cI a_near 10 f_near] s.heap.size := ⟨_, rfl⟩
  rw [← hA0] at hret hV
  rw [← hH0] at hret hV
  rw [← hH0]
  obtain ⟨H, locs, hH⟩ : ∃ (z : Heap) (y : List Loc), z = H0 ∧ y = [] := ⟨_, _, rfl, rfl⟩
  rw [← hH.1, ← hH.2]
  have hV : gV (dC, dI) (gT cI cB cO) A0 H0 s [oX7 a_t a_d a_e a_kept v_isKept a_found a_tape v_taped v_gone a_hears a_near a_firstDay a_daily v_begin v_round v_leastFar v_leastWhere v_mostLed a_heardNow v_firstMove v_at v_sort v_from v_value v_fault a_bitsOf a_sizeOf a_number a_passing, aA cI a_d 40 f_d, aA cI a_found 7 f_found, aA cI a_hears 10 f_hears, aA cI a_near 10 f_near] H locs := by rw [hH.1, hH.2]; exact hV
  unfold F_X7_heard at hF
  refine lv_iload_n C.1 C.2.1 dX7_heard_0 rfl (lv_at hl 1 rfl) ?_
  refine g_i2l C hF dX7_heard_1 (fun x1 hF => ?_)
  refine lv_lconst (v := 1) C.1 C.2.1 dX7_heard_2 rfl ?_
  refine lv_ldc2 (v := 60) C.1 C.2.1 C.2.2.2.1 (C.2.2.2.2 _ ctX7_heard_175) dX7_heard_3 ?_
  obtain ⟨x2, hc, hF⟩ := bd1_s hF
  refine g_cSi (ws' := [oX7 a_t a_d a_e a_kept v_isKept a_found a_tape v_taped v_gone a_hears a_near a_firstDay a_daily v_begin v_round v_leastFar v_leastWhere v_mostLed a_heardNow v_firstMove v_at v_sort v_from v_value v_fault a_bitsOf a_sizeOf a_number a_passing, aA cI a_d 40 f_d, aA cI a_found 7 f_found, aA cI a_hears 10 f_hears, aA cI a_near 10 f_near]) (wr := [oX7 a_t a_d a_e a_kept v_isKept a_found a_tape v_taped v_gone a_hears a_near a_firstDay a_daily v_begin v_round v_leastFar v_leastWhere v_mostLed a_heardNow v_firstMove v_at v_sort v_from v_value v_fault a_bitsOf a_sizeOf a_number a_passing, aA cI a_d 40 f_d, aA cI a_found 7 f_found, aA cI a_hears 10 f_hears, aA cI a_near 10 f_near]) C hV (k_X7_in l dC dI cI cB cO n0 H.size x1 1 60 hc) mdX7_in gX7_heard_X7_in rfl rfl ⟨Nat.le_of_ble_eq_true rfl, Nat.le_of_ble_eq_true rfl⟩ [] [0, 1, 2, 3, 4] [0, 1, 2, 3, 4] rfl rfl rfl rfl rfl rfl rfl rfl hl.1 (Nat.le_of_ble_eq_true rfl) rfl dX7_heard_6 (fun H locs hV => ?_)
  refine g_if_ne (tgt := 18) C hF dX7_heard_9 rfl (fun hF => ?_) (fun hF => ?_)
  · refine lv_aload_n C.1 C.2.1 dX7_heard_18 rfl (lv_at hl 0 rfl) ?_
    refine g_get C hV flX7_heard_7 0 rfl rfl dX7_heard_19 ?_
    refine lv_iconst (v := 0) C.1 C.2.1 dX7_heard_22 rfl ?_
    refine g_iald C hV 1 rfl hF dX7_heard_23 (fun x3 hF => ?_)
    refine g_if_ne (tgt := 33) C hF dX7_heard_24 rfl (fun hF => ?_) (fun hF => ?_)
    · refine lv_aload_n C.1 C.2.1 dX7_heard_33 rfl (lv_at hl 0 rfl) ?_
      obtain ⟨g4, g5, hc, hF⟩ := bd2_s hF
      refine g_cVv (ws' := [oX7 a_t a_d a_e a_kept v_isKept a_found a_tape v_taped v_gone a_hears a_near a_firstDay a_daily v_begin v_round v_leastFar v_leastWhere v_mostLed a_heardNow v_firstMove v_at v_sort v_from v_value v_fault a_bitsOf a_sizeOf a_number a_passing, aA cI a_d 40 f_d, aA cI a_found 7 f_found, aA cI a_hears 10 g4, aA cI a_near 10 g5]) (wr := [aA cI a_found 7 f_found]) C hV (k_X7_listen l dC dI cI cB cO n0 H.size a_t a_d a_e a_kept a_found a_tape a_hears a_near a_firstDay a_daily a_heardNow a_bitsOf a_sizeOf a_number a_passing v_isKept v_taped v_gone v_begin v_round v_leastFar v_leastWhere v_mostLed v_firstMove v_at v_sort v_from v_value v_fault f_d f_hears f_near hc) mdX7_listen gX7_heard_X7_listen rfl rfl ⟨Nat.le_of_ble_eq_true rfl, Nat.le_of_ble_eq_true rfl⟩ [0, 1, 3, 4] [2] [1, 2, 0, 3, 4] rfl rfl rfl rfl rfl rfl rfl rfl rfl rfl hl.1 (Nat.le_of_ble_eq_true rfl) rfl dX7_heard_34 (fun H locs hV => ?_)
      refine lv_aload_n C.1 C.2.1 dX7_heard_37 rfl (lv_at hl 0 rfl) ?_
      refine lv_aload_n C.1 C.2.1 dX7_heard_38 rfl (lv_at hl 0 rfl) ?_
      refine g_get C hV flX7_heard_7 0 rfl rfl dX7_heard_39 ?_
      refine lv_bipush (v := 6) C.1 C.2.1 dX7_heard_42 rfl ?_
      refine g_iald C hV 1 rfl hF dX7_heard_44 (fun x6 hF => ?_)
      refine lv_iload_n C.1 C.2.1 dX7_heard_45 rfl (lv_at hl 1 rfl) ?_
      obtain ⟨x7, hc, hF⟩ := bd1_s hF
      refine g_cVi (ws' := [oX7 a_t a_d a_e a_kept v_isKept a_found a_tape v_taped v_gone a_hears a_near a_firstDay a_daily v_begin v_round v_leastFar v_leastWhere v_mostLed a_heardNow v_firstMove v_at v_sort v_from v_value v_fault a_bitsOf a_sizeOf a_number a_passing, aA cI a_d 40 f_d, aA cI a_found 7 f_found, aA cI a_hears 10 g4, aA cI a_near 10 g5]) (wr := [aA cI a_found 7 f_found]) C hV (k_X7_ahead l dC dI cI cB cO n0 H.size a_t a_d a_e a_kept a_found a_tape a_hears a_near a_firstDay a_daily a_heardNow a_bitsOf a_sizeOf a_number a_passing v_isKept v_taped v_gone v_begin v_round v_leastFar v_leastWhere v_mostLed v_firstMove v_at v_sort v_from v_value v_fault f_d g4 g5 x6 p1 hc) mdX7_ahead gX7_heard_X7_ahead rfl rfl ⟨Nat.le_of_ble_eq_true rfl, Nat.le_of_ble_eq_true rfl⟩ [0, 1, 3, 4] [2] [1, 2, 0, 3, 4] rfl rfl rfl rfl rfl rfl rfl rfl rfl rfl hl.1 (Nat.le_of_ble_eq_true rfl) rfl dX7_heard_46 (fun H locs hV => ?_)
      refine lv_istore_n (lv' := [(2, .int x7), (0, .ref a_t), (1, .int p1)]) C.1 C.2.1 dX7_heard_49 rfl hl (by decide) rfl (fun ls hl => ?_)
      refine lv_iconst (v := 0) C.1 C.2.1 dX7_heard_50 rfl ?_
      refine lv_istore_n (lv' := [(3, .int 0), (2, .int x7), (0, .ref a_t), (1, .int p1)]) C.1 C.2.1 dX7_heard_51 rfl hl (by decide) rfl (fun ls hl => ?_)
      refine lv_iconst (v := (-1)) C.1 C.2.1 dX7_heard_52 rfl ?_
      refine lv_istore (lv' := [(4, .int ((-1))), (3, .int 0), (2, .int x7), (0, .ref a_t), (1, .int p1)]) C.1 C.2.1 dX7_heard_53 hl (by decide) rfl (fun ls hl => ?_)
      refine lv_iconst (v := 0) C.1 C.2.1 dX7_heard_55 rfl ?_
      refine lv_istore (lv' := [(5, .int 0), (4, .int ((-1))), (3, .int 0), (2, .int x7), (0, .ref a_t), (1, .int p1)]) C.1 C.2.1 dX7_heard_56 hl (by decide) rfl (fun ls hl => ?_)
      have hL58 : ∀ (n : Nat) (s8 : Int32) (s9 : Int32) (s10 : Int32) (H : Heap) (locs : List Loc) (ls : Array Slot), gV (dC, dI) (gT cI cB cO) A0 H0 s [oX7 a_t a_d a_e a_kept v_isKept a_found a_tape v_taped v_gone a_hears a_near a_firstDay a_daily v_begin v_round v_leastFar v_leastWhere v_mostLed a_heardNow v_firstMove v_at v_sort v_from v_value v_fault a_bitsOf a_sizeOf a_number a_passing, aA cI a_d 40 f_d, aA cI a_found 7 f_found, aA cI a_hears 10 g4, aA cI a_near 10 g5] H locs → lv_has ls 7 [(0, .ref a_t), (1, .int p1), (2, .int x7), (3, .int s8), (4, .int s9), (5, .int s10)] → L_X7_heard_58 f_d f_found g4 g5 n0 p1 x7 n s8 s9 s10 = some out → W p l e rmX7_heard s m args below meth c H locs 0 0 Q (F0 m 58 ls []) := by
        intro n
        induction n with
        | zero => intro s8 s9 s10 H locs ls hV hl hF; exact lpp3_z hF
        | succ n ih58 =>
          intro s8 s9 s10 H locs ls hV hl hF
          obtain ⟨kk58, hk58, hF⟩ := lpp3_g hF
          have hq58 : ∀ (s8 : Int32) (s9 : Int32) (s10 : Int32), kk58 s8 s9 s10 = some out → L_X7_heard_58 f_d f_found g4 g5 n0 p1 x7 n s8 s9 s10 = some out := fun _ _ _ h => by rw [hk58] at h; exact h
          refine lv_iload C.1 C.2.1 dX7_heard_58 (lv_at hl 5 rfl) ?_
          refine lv_aload_n C.1 C.2.1 dX7_heard_60 rfl (lv_at hl 0 rfl) ?_
          refine g_get C hV flX7_heard_7 0 rfl rfl dX7_heard_61 ?_
          refine lv_iconst (v := 0) C.1 C.2.1 dX7_heard_64 rfl ?_
          refine g_iald C hV 1 rfl hF dX7_heard_65 (fun x11 hF => ?_)
          refine g_icmp_ge (tgt := 136) C hF dX7_heard_66 rfl (fun hF => ?_) (fun hF => ?_)
          · refine lv_iload_n C.1 C.2.1 dX7_heard_136 rfl (lv_at hl 3 rfl) ?_
            exact hret (s8, f_found, g4, g5) _ _ _ _ dX7_heard_137 hF hV
          refine lv_aload_n C.1 C.2.1 dX7_heard_69 rfl (lv_at hl 0 rfl) ?_
          refine lv_aload_n C.1 C.2.1 dX7_heard_70 rfl (lv_at hl 0 rfl) ?_
          refine g_get C hV flX7_heard_7 0 rfl rfl dX7_heard_71 ?_
          refine lv_bipush (v := 6) C.1 C.2.1 dX7_heard_74 rfl ?_
          refine g_iald C hV 1 rfl hF dX7_heard_76 (fun x12 hF => ?_)
          refine lv_iconst (v := 1) C.1 C.2.1 dX7_heard_77 rfl ?_
          refine lv_iload C.1 C.2.1 dX7_heard_78 (lv_at hl 5 rfl) ?_
          refine g_ishl C hF dX7_heard_80 (fun x13 hF => ?_)
          refine g_ixor C hF dX7_heard_81 (fun x14 hF => ?_)
          refine lv_iload_n C.1 C.2.1 dX7_heard_82 rfl (lv_at hl 1 rfl) ?_
          obtain ⟨x15, hc, hF⟩ := bd1_s hF
          refine g_cVi (ws' := [oX7 a_t a_d a_e a_kept v_isKept a_found a_tape v_taped v_gone a_hears a_near a_firstDay a_daily v_begin v_round v_leastFar v_leastWhere v_mostLed a_heardNow v_firstMove v_at v_sort v_from v_value v_fault a_bitsOf a_sizeOf a_number a_passing, aA cI a_d 40 f_d, aA cI a_found 7 f_found, aA cI a_hears 10 g4, aA cI a_near 10 g5]) (wr := [aA cI a_found 7 f_found]) C hV (k_X7_ahead l dC dI cI cB cO n0 H.size a_t a_d a_e a_kept a_found a_tape a_hears a_near a_firstDay a_daily a_heardNow a_bitsOf a_sizeOf a_number a_passing v_isKept v_taped v_gone v_begin v_round v_leastFar v_leastWhere v_mostLed v_firstMove v_at v_sort v_from v_value v_fault f_d g4 g5 x14 p1 hc) mdX7_ahead gX7_heard_X7_ahead rfl rfl ⟨Nat.le_of_ble_eq_true rfl, Nat.le_of_ble_eq_true rfl⟩ [0, 1, 3, 4] [2] [1, 2, 0, 3, 4] rfl rfl rfl rfl rfl rfl rfl rfl rfl rfl hl.1 (Nat.le_of_ble_eq_true rfl) rfl dX7_heard_83 (fun H locs hV => ?_)
          refine lv_iload_n C.1 C.2.1 dX7_heard_86 rfl (lv_at hl 2 rfl) ?_
          refine g_ixor C hF dX7_heard_87 (fun x16 hF => ?_)
          refine lv_iconst (v := 1) C.1 C.2.1 dX7_heard_88 rfl ?_
          refine lv_iload C.1 C.2.1 dX7_heard_89 (lv_at hl 5 rfl) ?_
          refine g_ishl C hF dX7_heard_91 (fun x17 hF => ?_)
          refine lv_iconst (v := (-1)) C.1 C.2.1 dX7_heard_92 rfl ?_
          refine g_ixor C hF dX7_heard_93 (fun x18 hF => ?_)
          refine g_iand C hF dX7_heard_94 (fun x19 hF => ?_)
          obtain ⟨x20, hc, hF⟩ := bd1_s hF
          refine g_cSi (ws' := [oX7 a_t a_d a_e a_kept v_isKept a_found a_tape v_taped v_gone a_hears a_near a_firstDay a_daily v_begin v_round v_leastFar v_leastWhere v_mostLed a_heardNow v_firstMove v_at v_sort v_from v_value v_fault a_bitsOf a_sizeOf a_number a_passing, aA cI a_d 40 f_d, aA cI a_found 7 f_found, aA cI a_hears 10 g4, aA cI a_near 10 g5]) (wr := [oX7 a_t a_d a_e a_kept v_isKept a_found a_tape v_taped v_gone a_hears a_near a_firstDay a_daily v_begin v_round v_leastFar v_leastWhere v_mostLed a_heardNow v_firstMove v_at v_sort v_from v_value v_fault a_bitsOf a_sizeOf a_number a_passing, aA cI a_d 40 f_d, aA cI a_found 7 f_found, aA cI a_hears 10 g4, aA cI a_near 10 g5]) C hV (k_X7_ones l dC dI cI cB cO n0 H.size x19 hc) mdX7_ones gX7_heard_X7_ones rfl rfl ⟨Nat.le_of_ble_eq_true rfl, Nat.le_of_ble_eq_true rfl⟩ [] [0, 1, 2, 3, 4] [0, 1, 2, 3, 4] rfl rfl rfl rfl rfl rfl rfl rfl hl.1 (Nat.le_of_ble_eq_true rfl) rfl dX7_heard_95 (fun H locs hV => ?_)
          refine lv_istore (lv' := [(6, .int x20), (0, .ref a_t), (1, .int p1), (2, .int x7), (3, .int s8), (4, .int s9), (5, .int s10)]) C.1 C.2.1 dX7_heard_98 hl (by decide) rfl (fun ls hl => ?_)
          refine lv_iload C.1 C.2.1 dX7_heard_100 (lv_at hl 0 rfl) ?_
          refine lv_iload C.1 C.2.1 dX7_heard_102 (lv_at hl 5 rfl) ?_
          have hJ113 : ∀ (k21 : Int32) (H : Heap) (locs : List Loc) (ls : Array Slot), gV (dC, dI) (gT cI cB cO) A0 H0 s [oX7 a_t a_d a_e a_kept v_isKept a_found a_tape v_taped v_gone a_hears a_near a_firstDay a_daily v_begin v_round v_leastFar v_leastWhere v_mostLed a_heardNow v_firstMove v_at v_sort v_from v_value v_fault a_bitsOf a_sizeOf a_number a_passing, aA cI a_d 40 f_d, aA cI a_found 7 f_found, aA cI a_hears 10 g4, aA cI a_near 10 g5] H locs → lv_has ls 7 [(0, .ref a_t), (1, .int p1), (2, .int x7), (4, .int s9), (5, .int s10), (6, .int x20)] → J_X7_heard_113 x20 s9 s10 kk58 k21 = some out → W p l e rmX7_heard s m args below meth c H locs 0 0 Q (F0 m 113 ls [.int k21]) := by
            intro k21 H locs ls hV hl hF
            unfold J_X7_heard_113 at hF
            refine lv_istore_n (lv' := [(3, .int k21), (0, .ref a_t), (1, .int p1), (2, .int x7), (4, .int s9), (5, .int s10), (6, .int x20)]) C.1 C.2.1 dX7_heard_113 rfl hl (by decide) rfl (fun ls hl => ?_)
            refine lv_iload C.1 C.2.1 dX7_heard_114 (lv_at hl 6 rfl) ?_
            refine lv_iload C.1 C.2.1 dX7_heard_116 (lv_at hl 4 rfl) ?_
            refine g_icmp_le (tgt := 126) C hF dX7_heard_118 rfl (fun hF => ?_) (fun hF => ?_)
            · refine lv_iload C.1 C.2.1 dX7_heard_126 (lv_at hl 4 rfl) ?_
              refine lv_istore (lv' := [(4, .int s9), (3, .int k21), (0, .ref a_t), (1, .int p1), (2, .int x7), (5, .int s10), (6, .int x20)]) C.1 C.2.1 dX7_heard_128 hl (by decide) rfl (fun ls hl => ?_)
              refine g_iinc C hF dX7_heard_130 (d := 1) rfl hl (j := 5) rfl (by decide) (fun y => [(5, .int y), (4, .int s9), (3, .int k21), (0, .ref a_t), (1, .int p1), (2, .int x7), (6, .int x20)]) (fun _ => rfl) (fun x22 ls hF hl => ?_)
              refine lv_goto (tgt := 58) C.1 C.2.1 dX7_heard_133 rfl ?_
              exact ih58 k21 s9 x22 H locs ls hV (lv_sub hl [3, 4, 5, 2, 1, 0] rfl) (hq58 k21 s9 x22 hF)
            refine lv_iload C.1 C.2.1 dX7_heard_121 (lv_at hl 6 rfl) ?_
            refine lv_goto (tgt := 128) C.1 C.2.1 dX7_heard_123 rfl ?_
            refine lv_istore (lv' := [(4, .int x20), (3, .int k21), (0, .ref a_t), (1, .int p1), (2, .int x7), (5, .int s10), (6, .int x20)]) C.1 C.2.1 dX7_heard_128 hl (by decide) rfl (fun ls hl => ?_)
            refine g_iinc C hF dX7_heard_130 (d := 1) rfl hl (j := 5) rfl (by decide) (fun y => [(5, .int y), (4, .int x20), (3, .int k21), (0, .ref a_t), (1, .int p1), (2, .int x7), (6, .int x20)]) (fun _ => rfl) (fun x23 ls hF hl => ?_)
            refine lv_goto (tgt := 58) C.1 C.2.1 dX7_heard_133 rfl ?_
            exact ih58 k21 x20 x23 H locs ls hV (lv_sub hl [3, 4, 5, 2, 1, 0] rfl) (hq58 k21 x20 x23 hF)
          refine g_icmp_le (tgt := 112) C hF dX7_heard_104 rfl (fun hF => ?_) (fun hF => ?_)
          · refine lv_iload_n C.1 C.2.1 dX7_heard_112 rfl (lv_at hl 4 rfl) ?_
            exact hJ113 s8 H locs ls hV (lv_sub hl [1, 2, 3, 5, 6, 0] rfl) hF
          refine lv_iload C.1 C.2.1 dX7_heard_107 (lv_at hl 6 rfl) ?_
          refine lv_goto (tgt := 113) C.1 C.2.1 dX7_heard_109 rfl ?_
          exact hJ113 s10 H locs ls hV (lv_sub hl [1, 2, 3, 5, 6, 0] rfl) hF
      exact hL58 n0 0 ((-1)) 0 H locs ls hV (lv_sub hl [4, 5, 3, 2, 1, 0] rfl) hF
    refine lv_aload_n C.1 C.2.1 dX7_heard_27 rfl (lv_at hl 0 rfl) ?_
    refine lv_iconst (v := 3) C.1 C.2.1 dX7_heard_28 rfl ?_
    obtain ⟨x24, g25, hc, hF⟩ := bd2_s hF
    refine g_cVi (ws' := [oX7 a_t a_d a_e a_kept v_isKept a_found a_tape v_taped v_gone a_hears a_near a_firstDay a_daily v_begin v_round v_leastFar v_leastWhere v_mostLed a_heardNow v_firstMove v_at v_sort v_from v_value v_fault a_bitsOf a_sizeOf a_number a_passing, aA cI a_d 40 f_d, aA cI a_found 7 g25, aA cI a_hears 10 f_hears, aA cI a_near 10 f_near]) (wr := [aA cI a_d 40 f_d, aA cI a_hears 10 f_hears, aA cI a_near 10 f_near]) C hV (k_X7_finds l dC dI cI cB cO n0 H.size a_t a_d a_e a_kept a_found a_tape a_hears a_near a_firstDay a_daily a_heardNow a_bitsOf a_sizeOf a_number a_passing v_isKept v_taped v_gone v_begin v_round v_leastFar v_leastWhere v_mostLed v_firstMove v_at v_sort v_from v_value v_fault f_found 3 hc) mdX7_finds gX7_heard_X7_finds rfl rfl ⟨Nat.le_of_ble_eq_true rfl, Nat.le_of_ble_eq_true rfl⟩ [0, 2] [1, 3, 4] [3, 0, 4, 1, 2] rfl rfl rfl rfl rfl rfl rfl rfl rfl rfl hl.1 (Nat.le_of_ble_eq_true rfl) rfl dX7_heard_29 (fun H locs hV => ?_)
    exact hret (x24, g25, f_hears, f_near) _ _ _ _ dX7_heard_32 hF hV
  refine lv_aload_n C.1 C.2.1 dX7_heard_12 rfl (lv_at hl 0 rfl) ?_
  refine lv_iconst (v := 0) C.1 C.2.1 dX7_heard_13 rfl ?_
  obtain ⟨x26, g27, hc, hF⟩ := bd2_s hF
  refine g_cVi (ws' := [oX7 a_t a_d a_e a_kept v_isKept a_found a_tape v_taped v_gone a_hears a_near a_firstDay a_daily v_begin v_round v_leastFar v_leastWhere v_mostLed a_heardNow v_firstMove v_at v_sort v_from v_value v_fault a_bitsOf a_sizeOf a_number a_passing, aA cI a_d 40 f_d, aA cI a_found 7 g27, aA cI a_hears 10 f_hears, aA cI a_near 10 f_near]) (wr := [aA cI a_d 40 f_d, aA cI a_hears 10 f_hears, aA cI a_near 10 f_near]) C hV (k_X7_finds l dC dI cI cB cO n0 H.size a_t a_d a_e a_kept a_found a_tape a_hears a_near a_firstDay a_daily a_heardNow a_bitsOf a_sizeOf a_number a_passing v_isKept v_taped v_gone v_begin v_round v_leastFar v_leastWhere v_mostLed v_firstMove v_at v_sort v_from v_value v_fault f_found 0 hc) mdX7_finds gX7_heard_X7_finds rfl rfl ⟨Nat.le_of_ble_eq_true rfl, Nat.le_of_ble_eq_true rfl⟩ [0, 2] [1, 3, 4] [3, 0, 4, 1, 2] rfl rfl rfl rfl rfl rfl rfl rfl rfl rfl hl.1 (Nat.le_of_ble_eq_true rfl) rfl dX7_heard_14 (fun H locs hV => ?_)
  exact hret (x26, g27, f_hears, f_near) _ _ _ _ dX7_heard_17 hF hV
abbrev rmX7_areTents : Room := { frames := 1, cells := 0, slots := 0, locals := 25 }
theorem mdX7_areTents : gMd yX7_areTents wsX7_areTents cX7_areTents 2 (some .boolean) 1 := ⟨⟨_, rfl⟩, by decide +kernel⟩
theorem flX7_areTents_7 : gFL wsX7_areTents RX7 7 7 0 RX7 TX7 28 := ⟨rfl, fun w h => List.mem_cons_of_mem _ (List.mem_append_right _ (h)), Nat.le_of_ble_eq_true rfl, List.mem_cons_of_mem _ (List.mem_append_left _ (List.mem_of_getElem? (i := 0) rfl))⟩
def F_X7_areTents (n0 : Nat) (f_d : Nat → Int32) (p1 : Int32) : Option (Int32) := nm (p1.toInt64) (fun x1 => rd f_d 40 0 (fun x2 => nm (1 <<< (x2 &&& 31)) (fun x3 => nm (x3 - 1) (fun x4 => nm (x4.toInt64) (fun x5 => bd1 (F_X7_in n0 x1 0 x5) (fun x6 => bz x6 (some x6)))))))
set_option maxRecDepth 100000 in
set_option maxHeartbeats 4000000 in
theorem k_X7_areTents (l : Launch) (dC : Nat → ClassId) (dI : Nat → Nat → Nat) (cI cB cO : ClassId) (n0 sz : Nat) (a_t : Nat) (a_d : Nat) (a_e : Nat) (a_kept : Nat) (a_found : Nat) (a_tape : Nat) (a_hears : Nat) (a_near : Nat) (a_firstDay : Nat) (a_daily : Nat) (a_heardNow : Nat) (a_bitsOf : Nat) (a_sizeOf : Nat) (a_number : Nat) (a_passing : Nat)   (v_isKept : Int32) (v_taped : Int32) (v_gone : Int32) (v_begin : Int32) (v_round : Int32) (v_leastFar : Int32) (v_leastWhere : Int32) (v_mostLed : Int32) (v_firstMove : Int32) (v_at : Int32) (v_sort : Int32) (v_from : Int32) (v_value : Int64) (v_fault : Int32) (f_d : Nat → Int32) (p1 : Int32)  {ro : Int32} (hF : F_X7_areTents n0 f_d p1 = some ro) : Met l yX7_areTents wsX7_areTents rmX7_areTents (va_Pc [.ref a_t, .int p1] (gPre (dC, dI) (gT cI cB cO) sz [oX7 a_t a_d a_e a_kept v_isKept a_found a_tape v_taped v_gone a_hears a_near a_firstDay a_daily v_begin v_round v_leastFar v_leastWhere v_mostLed a_heardNow v_firstMove v_at v_sort v_from v_value v_fault a_bitsOf a_sizeOf a_number a_passing, aA cI a_d 40 f_d])) (gQi (dC, dI) (gT cI cB cO) sz [oX7 a_t a_d a_e a_kept v_isKept a_found a_tape v_taped v_gone a_hears a_near a_firstDay a_daily v_begin v_round v_leastFar v_leastWhere v_mostLed a_heardNow v_firstMove v_at v_sort v_from v_value v_fault a_bitsOf a_sizeOf a_number a_passing, aA cI a_d 40 f_d] ro [oX7 a_t a_d a_e a_kept v_isKept a_found a_tape v_taped v_gone a_hears a_near a_firstDay a_daily v_begin v_round v_leastFar v_leastWhere v_mostLed a_heardNow v_firstMove v_at v_sort v_from v_value v_fault a_bitsOf a_sizeOf a_number a_passing, aA cI a_d 40 f_d]) 0 0 (va_A [oX7 a_t a_d a_e a_kept v_isKept a_found a_tape v_taped v_gone a_hears a_near a_firstDay a_daily v_begin v_round v_leastFar v_leastWhere v_mostLed a_heardNow v_firstMove v_at v_sort v_from v_value v_fault a_bitsOf a_sizeOf a_number a_passing, aA cI a_d 40 f_d] sz) := by
  refine g_metZ (Out := Int32) (fun oo => oo) (fun oo => [oX7 a_t a_d a_e a_kept v_isKept a_found a_tape v_taped v_gone a_hears a_near a_firstDay a_daily v_begin v_round v_leastFar v_leastWhere v_mostLed a_heardNow v_firstMove v_at v_sort v_from v_value v_fault a_bitsOf a_sizeOf a_number a_passing, aA cI a_d 40 f_d]) ro (own := RX7) (lv := [(0, .ref a_t), (1, .int p1)]) (by decide) rfl rfl (Nat.le_of_ble_eq_true rfl) rfl ?_
  intro p e s m args below meth c Q ls C hret hV hl
  obtain ⟨out, hout⟩ : ∃ z : Int32, z = ro := ⟨_, rfl⟩
  rw [← hout] at hF hret
  obtain ⟨H0, hH0⟩ : ∃ z : Heap, z = s.heap := ⟨_, rfl⟩
  obtain ⟨A0, hA0⟩ : ∃ z : Nat → Prop, z = va_A [oX7 a_t a_d a_e a_kept v_isKept a_found a_tape v_taped v_gone a_hears a_near a_firstDay a_daily v_begin v_round v_leastFar v_leastWhere v_mostLed a_heardNow v_firstMove v_at v_sort v_from v_value v_fault a_bitsOf a_sizeOf a_number a_passing, aA cI a_d 40 f_d] s.heap.size := ⟨_, rfl⟩
  rw [← hA0] at hret hV
  rw [← hH0] at hret hV
  rw [← hH0]
  obtain ⟨H, locs, hH⟩ : ∃ (z : Heap) (y : List Loc), z = H0 ∧ y = [] := ⟨_, _, rfl, rfl⟩
  rw [← hH.1, ← hH.2]
  have hV : gV (dC, dI) (gT cI cB cO) A0 H0 s [oX7 a_t a_d a_e a_kept v_isKept a_found a_tape v_taped v_gone a_hears a_near a_firstDay a_daily v_begin v_round v_leastFar v_leastWhere v_mostLed a_heardNow v_firstMove v_at v_sort v_from v_value v_fault a_bitsOf a_sizeOf a_number a_passing, aA cI a_d 40 f_d] H locs := by rw [hH.1, hH.2]; exact hV
  unfold F_X7_areTents at hF
  refine lv_iload_n C.1 C.2.1 dX7_areTents_0 rfl (lv_at hl 1 rfl) ?_
  refine g_i2l C hF dX7_areTents_1 (fun x1 hF => ?_)
  refine lv_lconst (v := 0) C.1 C.2.1 dX7_areTents_2 rfl ?_
  refine lv_iconst (v := 1) C.1 C.2.1 dX7_areTents_3 rfl ?_
  refine lv_aload_n C.1 C.2.1 dX7_areTents_4 rfl (lv_at hl 0 rfl) ?_
  refine g_get C hV flX7_areTents_7 0 rfl rfl dX7_areTents_5 ?_
  refine lv_iconst (v := 0) C.1 C.2.1 dX7_areTents_8 rfl ?_
  refine g_iald C hV 1 rfl hF dX7_areTents_9 (fun x2 hF => ?_)
  refine g_ishl C hF dX7_areTents_10 (fun x3 hF => ?_)
  refine lv_iconst (v := 1) C.1 C.2.1 dX7_areTents_11 rfl ?_
  refine g_isub C hF dX7_areTents_12 (fun x4 hF => ?_)
  refine g_i2l C hF dX7_areTents_13 (fun x5 hF => ?_)
  obtain ⟨x6, hc, hF⟩ := bd1_s hF
  refine g_cSi (ws' := [oX7 a_t a_d a_e a_kept v_isKept a_found a_tape v_taped v_gone a_hears a_near a_firstDay a_daily v_begin v_round v_leastFar v_leastWhere v_mostLed a_heardNow v_firstMove v_at v_sort v_from v_value v_fault a_bitsOf a_sizeOf a_number a_passing, aA cI a_d 40 f_d]) (wr := [oX7 a_t a_d a_e a_kept v_isKept a_found a_tape v_taped v_gone a_hears a_near a_firstDay a_daily v_begin v_round v_leastFar v_leastWhere v_mostLed a_heardNow v_firstMove v_at v_sort v_from v_value v_fault a_bitsOf a_sizeOf a_number a_passing, aA cI a_d 40 f_d]) C hV (k_X7_in l dC dI cI cB cO n0 H.size x1 0 x5 hc) mdX7_in gX7_areTents_X7_in rfl rfl ⟨Nat.le_of_ble_eq_true rfl, Nat.le_of_ble_eq_true rfl⟩ [] [0, 1] [0, 1] rfl rfl rfl rfl rfl rfl rfl rfl hl.1 (Nat.le_of_ble_eq_true rfl) rfl dX7_areTents_14 (fun H locs hV => ?_)
  obtain ⟨hz, hF⟩ := bz_s hF
  exact hret x6 _ _ _ _ dX7_areTents_17 hF hz hV
abbrev rmX7_follows : Room := { frames := 2, cells := 0, slots := 0, locals := 46 }
theorem mdX7_follows : gMd yX7_follows wsX7_follows cX7_follows 4 (some .int) 2 := ⟨⟨_, rfl⟩, by decide +kernel⟩
theorem flX7_follows_7 : gFL wsX7_follows RX7 7 7 0 RX7 TX7 28 := ⟨rfl, fun w h => List.mem_cons_of_mem _ (List.mem_append_right _ (h)), Nat.le_of_ble_eq_true rfl, List.mem_cons_of_mem _ (List.mem_append_left _ (List.mem_of_getElem? (i := 0) rfl))⟩
def J_X7_follows_51 (p1 : Int32) (k9 : Int32) (f_found : Nat → Int32) : Option (Int32 × (Nat → Int32)) := nm (1 <<< (p1 &&& 31)) (fun x10 => nm (x10 ^^^ ((-1))) (fun x11 => nm (k9 &&& x11) (fun x12 => some (x12, f_found))))
def F_X7_follows (n0 : Nat) (f_d : Nat → Int32) (f_found : Nat → Int32) (p1 : Int32) (p2 : Int32) : Option (Int32 × (Nat → Int32)) := bd1 (F_X7_isTent n0 f_d p1) (fun x1 => (if x1 = 0 then bd2 (F_X7_finds n0 f_found 0) (fun x2 g3 => some (x2, g3)) else bd1 (F_X7_areTents n0 f_d p2) (fun x4 => (if x4 = 0 then bd2 (F_X7_finds n0 f_found 0) (fun x15 g16 => some (x15, g16)) else rd f_d 40 0 (fun x5 => nm (1 <<< (x5 &&& 31)) (fun x6 => nm (x6 - 1) (fun x7 => bd1 (F_X7_saysNow n0 f_d p1) (fun x8 => (if x8 = 1 then J_X7_follows_51 p1 p2 f_found else nm (p2 ^^^ ((-1))) (fun x13 => nm (x7 &&& x13) (fun x14 => J_X7_follows_51 p1 x14 f_found)))))))))))
set_option maxRecDepth 100000 in
set_option maxHeartbeats 4000000 in
theorem k_X7_follows (l : Launch) (dC : Nat → ClassId) (dI : Nat → Nat → Nat) (cI cB cO : ClassId) (n0 sz : Nat) (a_t : Nat) (a_d : Nat) (a_e : Nat) (a_kept : Nat) (a_found : Nat) (a_tape : Nat) (a_hears : Nat) (a_near : Nat) (a_firstDay : Nat) (a_daily : Nat) (a_heardNow : Nat) (a_bitsOf : Nat) (a_sizeOf : Nat) (a_number : Nat) (a_passing : Nat)   (v_isKept : Int32) (v_taped : Int32) (v_gone : Int32) (v_begin : Int32) (v_round : Int32) (v_leastFar : Int32) (v_leastWhere : Int32) (v_mostLed : Int32) (v_firstMove : Int32) (v_at : Int32) (v_sort : Int32) (v_from : Int32) (v_value : Int64) (v_fault : Int32) (f_d : Nat → Int32) (f_found : Nat → Int32) (p1 : Int32) (p2 : Int32)  {ro : Int32} {o0 : Nat → Int32} (hF : F_X7_follows n0 f_d f_found p1 p2 = some (ro, o0)) : Met l yX7_follows wsX7_follows rmX7_follows (va_Pc [.ref a_t, .int p1, .int p2] (gPre (dC, dI) (gT cI cB cO) sz [oX7 a_t a_d a_e a_kept v_isKept a_found a_tape v_taped v_gone a_hears a_near a_firstDay a_daily v_begin v_round v_leastFar v_leastWhere v_mostLed a_heardNow v_firstMove v_at v_sort v_from v_value v_fault a_bitsOf a_sizeOf a_number a_passing, aA cI a_d 40 f_d, aA cI a_found 7 f_found])) (gQi (dC, dI) (gT cI cB cO) sz [oX7 a_t a_d a_e a_kept v_isKept a_found a_tape v_taped v_gone a_hears a_near a_firstDay a_daily v_begin v_round v_leastFar v_leastWhere v_mostLed a_heardNow v_firstMove v_at v_sort v_from v_value v_fault a_bitsOf a_sizeOf a_number a_passing, aA cI a_d 40 f_d, aA cI a_found 7 f_found] ro [oX7 a_t a_d a_e a_kept v_isKept a_found a_tape v_taped v_gone a_hears a_near a_firstDay a_daily v_begin v_round v_leastFar v_leastWhere v_mostLed a_heardNow v_firstMove v_at v_sort v_from v_value v_fault a_bitsOf a_sizeOf a_number a_passing, aA cI a_d 40 f_d, aA cI a_found 7 o0]) 0 0 (va_A [oX7 a_t a_d a_e a_kept v_isKept a_found a_tape v_taped v_gone a_hears a_near a_firstDay a_daily v_begin v_round v_leastFar v_leastWhere v_mostLed a_heardNow v_firstMove v_at v_sort v_from v_value v_fault a_bitsOf a_sizeOf a_number a_passing, aA cI a_d 40 f_d, aA cI a_found 7 f_found] sz) := by
  refine g_metI (Out := Int32 × (Nat → Int32)) (fun oo => oo.1) (fun oo => [oX7 a_t a_d a_e a_kept v_isKept a_found a_tape v_taped v_gone a_hears a_near a_firstDay a_daily v_begin v_round v_leastFar v_leastWhere v_mostLed a_heardNow v_firstMove v_at v_sort v_from v_value v_fault a_bitsOf a_sizeOf a_number a_passing, aA cI a_d 40 f_d, aA cI a_found 7 oo.2]) (ro, o0) (own := RX7) (lv := [(0, .ref a_t), (1, .int p1), (2, .int p2)]) (by decide) rfl rfl (Nat.le_of_ble_eq_true rfl) rfl ?_
  intro p e s m args below meth c Q ls C hret hV hl
  obtain ⟨out, hout⟩ : ∃ z : Int32 × (Nat → Int32), z = (ro, o0) := ⟨_, rfl⟩
  rw [← hout] at hF hret
  obtain ⟨H0, hH0⟩ : ∃ z : Heap, z = s.heap := ⟨_, rfl⟩
  obtain ⟨A0, hA0⟩ : ∃ z : Nat → Prop, z = va_A [oX7 a_t a_d a_e a_kept v_isKept a_found a_tape v_taped v_gone a_hears a_near a_firstDay a_daily v_begin v_round v_leastFar v_leastWhere v_mostLed a_heardNow v_firstMove v_at v_sort v_from v_value v_fault a_bitsOf a_sizeOf a_number a_passing, aA cI a_d 40 f_d, aA cI a_found 7 f_found] s.heap.size := ⟨_, rfl⟩
  rw [← hA0] at hret hV
  rw [← hH0] at hret hV
  rw [← hH0]
  obtain ⟨H, locs, hH⟩ : ∃ (z : Heap) (y : List Loc), z = H0 ∧ y = [] := ⟨_, _, rfl, rfl⟩
  rw [← hH.1, ← hH.2]
  have hV : gV (dC, dI) (gT cI cB cO) A0 H0 s [oX7 a_t a_d a_e a_kept v_isKept a_found a_tape v_taped v_gone a_hears a_near a_firstDay a_daily v_begin v_round v_leastFar v_leastWhere v_mostLed a_heardNow v_firstMove v_at v_sort v_from v_value v_fault a_bitsOf a_sizeOf a_number a_passing, aA cI a_d 40 f_d, aA cI a_found 7 f_found] H locs := by rw [hH.1, hH.2]; exact hV
  unfold F_X7_follows at hF
  refine lv_aload_n C.1 C.2.1 dX7_follows_0 rfl (lv_at hl 0 rfl) ?_
  refine lv_iload_n C.1 C.2.1 dX7_follows_1 rfl (lv_at hl 1 rfl) ?_
  obtain ⟨x1, hc, hF⟩ := bd1_s hF
  refine g_cVi (ws' := [oX7 a_t a_d a_e a_kept v_isKept a_found a_tape v_taped v_gone a_hears a_near a_firstDay a_daily v_begin v_round v_leastFar v_leastWhere v_mostLed a_heardNow v_firstMove v_at v_sort v_from v_value v_fault a_bitsOf a_sizeOf a_number a_passing, aA cI a_d 40 f_d, aA cI a_found 7 f_found]) (wr := [aA cI a_found 7 f_found]) C hV (k_X7_isTent l dC dI cI cB cO n0 H.size a_t a_d a_e a_kept a_found a_tape a_hears a_near a_firstDay a_daily a_heardNow a_bitsOf a_sizeOf a_number a_passing v_isKept v_taped v_gone v_begin v_round v_leastFar v_leastWhere v_mostLed v_firstMove v_at v_sort v_from v_value v_fault f_d p1 hc) mdX7_isTent gX7_follows_X7_isTent rfl rfl ⟨Nat.le_of_ble_eq_true rfl, Nat.le_of_ble_eq_true rfl⟩ [0, 1] [2] [1, 2, 0] rfl rfl rfl rfl rfl rfl rfl rfl rfl rfl hl.1 (Nat.le_of_ble_eq_true rfl) rfl dX7_follows_2 (fun H locs hV => ?_)
  refine g_if_eq (tgt := 16) C hF dX7_follows_5 rfl (fun hF => ?_) (fun hF => ?_)
  · refine lv_aload_n C.1 C.2.1 dX7_follows_16 rfl (lv_at hl 0 rfl) ?_
    refine lv_iconst (v := 0) C.1 C.2.1 dX7_follows_17 rfl ?_
    obtain ⟨x2, g3, hc, hF⟩ := bd2_s hF
    refine g_cVi (ws' := [oX7 a_t a_d a_e a_kept v_isKept a_found a_tape v_taped v_gone a_hears a_near a_firstDay a_daily v_begin v_round v_leastFar v_leastWhere v_mostLed a_heardNow v_firstMove v_at v_sort v_from v_value v_fault a_bitsOf a_sizeOf a_number a_passing, aA cI a_d 40 f_d, aA cI a_found 7 g3]) (wr := [aA cI a_d 40 f_d]) C hV (k_X7_finds l dC dI cI cB cO n0 H.size a_t a_d a_e a_kept a_found a_tape a_hears a_near a_firstDay a_daily a_heardNow a_bitsOf a_sizeOf a_number a_passing v_isKept v_taped v_gone v_begin v_round v_leastFar v_leastWhere v_mostLed v_firstMove v_at v_sort v_from v_value v_fault f_found 0 hc) mdX7_finds gX7_follows_X7_finds rfl rfl ⟨Nat.le_of_ble_eq_true rfl, Nat.le_of_ble_eq_true rfl⟩ [0, 2] [1] [1, 0, 2] rfl rfl rfl rfl rfl rfl rfl rfl rfl rfl hl.1 (Nat.le_of_ble_eq_true rfl) rfl dX7_follows_18 (fun H locs hV => ?_)
    exact hret (x2, g3) _ _ _ _ dX7_follows_21 hF hV
  refine lv_aload_n C.1 C.2.1 dX7_follows_8 rfl (lv_at hl 0 rfl) ?_
  refine lv_iload_n C.1 C.2.1 dX7_follows_9 rfl (lv_at hl 2 rfl) ?_
  obtain ⟨x4, hc, hF⟩ := bd1_s hF
  refine g_cVi (ws' := [oX7 a_t a_d a_e a_kept v_isKept a_found a_tape v_taped v_gone a_hears a_near a_firstDay a_daily v_begin v_round v_leastFar v_leastWhere v_mostLed a_heardNow v_firstMove v_at v_sort v_from v_value v_fault a_bitsOf a_sizeOf a_number a_passing, aA cI a_d 40 f_d, aA cI a_found 7 f_found]) (wr := [aA cI a_found 7 f_found]) C hV (k_X7_areTents l dC dI cI cB cO n0 H.size a_t a_d a_e a_kept a_found a_tape a_hears a_near a_firstDay a_daily a_heardNow a_bitsOf a_sizeOf a_number a_passing v_isKept v_taped v_gone v_begin v_round v_leastFar v_leastWhere v_mostLed v_firstMove v_at v_sort v_from v_value v_fault f_d p2 hc) mdX7_areTents gX7_follows_X7_areTents rfl rfl ⟨Nat.le_of_ble_eq_true rfl, Nat.le_of_ble_eq_true rfl⟩ [0, 1] [2] [1, 2, 0] rfl rfl rfl rfl rfl rfl rfl rfl rfl rfl hl.1 (Nat.le_of_ble_eq_true rfl) rfl dX7_follows_10 (fun H locs hV => ?_)
  refine g_if_ne (tgt := 22) C hF dX7_follows_13 rfl (fun hF => ?_) (fun hF => ?_)
  · refine lv_iconst (v := 1) C.1 C.2.1 dX7_follows_22 rfl ?_
    refine lv_aload_n C.1 C.2.1 dX7_follows_23 rfl (lv_at hl 0 rfl) ?_
    refine g_get C hV flX7_follows_7 0 rfl rfl dX7_follows_24 ?_
    refine lv_iconst (v := 0) C.1 C.2.1 dX7_follows_27 rfl ?_
    refine g_iald C hV 1 rfl hF dX7_follows_28 (fun x5 hF => ?_)
    refine g_ishl C hF dX7_follows_29 (fun x6 hF => ?_)
    refine lv_iconst (v := 1) C.1 C.2.1 dX7_follows_30 rfl ?_
    refine g_isub C hF dX7_follows_31 (fun x7 hF => ?_)
    refine lv_istore_n (lv' := [(3, .int x7), (0, .ref a_t), (1, .int p1), (2, .int p2)]) C.1 C.2.1 dX7_follows_32 rfl hl (by decide) rfl (fun ls hl => ?_)
    refine lv_aload_n C.1 C.2.1 dX7_follows_33 rfl (lv_at hl 1 rfl) ?_
    refine lv_iload_n C.1 C.2.1 dX7_follows_34 rfl (lv_at hl 2 rfl) ?_
    obtain ⟨x8, hc, hF⟩ := bd1_s hF
    refine g_cVi (ws' := [oX7 a_t a_d a_e a_kept v_isKept a_found a_tape v_taped v_gone a_hears a_near a_firstDay a_daily v_begin v_round v_leastFar v_leastWhere v_mostLed a_heardNow v_firstMove v_at v_sort v_from v_value v_fault a_bitsOf a_sizeOf a_number a_passing, aA cI a_d 40 f_d, aA cI a_found 7 f_found]) (wr := [aA cI a_found 7 f_found]) C hV (k_X7_saysNow l dC dI cI cB cO n0 H.size a_t a_d a_e a_kept a_found a_tape a_hears a_near a_firstDay a_daily a_heardNow a_bitsOf a_sizeOf a_number a_passing v_isKept v_taped v_gone v_begin v_round v_leastFar v_leastWhere v_mostLed v_firstMove v_at v_sort v_from v_value v_fault f_d p1 hc) mdX7_saysNow gX7_follows_X7_saysNow rfl rfl ⟨Nat.le_of_ble_eq_true rfl, Nat.le_of_ble_eq_true rfl⟩ [0, 1] [2] [1, 2, 0] rfl rfl rfl rfl rfl rfl rfl rfl rfl rfl hl.1 (Nat.le_of_ble_eq_true rfl) rfl dX7_follows_35 (fun H locs hV => ?_)
    refine lv_iconst (v := 1) C.1 C.2.1 dX7_follows_38 rfl ?_
    have hJ51 : ∀ (k9 : Int32) (H : Heap) (locs : List Loc) (ls : Array Slot), gV (dC, dI) (gT cI cB cO) A0 H0 s [oX7 a_t a_d a_e a_kept v_isKept a_found a_tape v_taped v_gone a_hears a_near a_firstDay a_daily v_begin v_round v_leastFar v_leastWhere v_mostLed a_heardNow v_firstMove v_at v_sort v_from v_value v_fault a_bitsOf a_sizeOf a_number a_passing, aA cI a_d 40 f_d, aA cI a_found 7 f_found] H locs → lv_has ls 4 [(1, .int p1)] → J_X7_follows_51 p1 k9 f_found = some out → W p l e rmX7_follows s m args below meth c H locs 0 0 Q (F0 m 51 ls [.int k9]) := by
      intro k9 H locs ls hV hl hF
      unfold J_X7_follows_51 at hF
      refine lv_iconst (v := 1) C.1 C.2.1 dX7_follows_51 rfl ?_
      refine lv_iload_n C.1 C.2.1 dX7_follows_52 rfl (lv_at hl 0 rfl) ?_
      refine g_ishl C hF dX7_follows_53 (fun x10 hF => ?_)
      refine lv_iconst (v := (-1)) C.1 C.2.1 dX7_follows_54 rfl ?_
      refine g_ixor C hF dX7_follows_55 (fun x11 hF => ?_)
      refine g_iand C hF dX7_follows_56 (fun x12 hF => ?_)
      exact hret (x12, f_found) _ _ _ _ dX7_follows_57 hF hV
    refine g_icmp_ne (tgt := 46) C hF dX7_follows_39 rfl (fun hF => ?_) (fun hF => ?_)
    · refine lv_iload_n C.1 C.2.1 dX7_follows_46 rfl (lv_at hl 0 rfl) ?_
      refine lv_iload_n C.1 C.2.1 dX7_follows_47 rfl (lv_at hl 3 rfl) ?_
      refine lv_iconst (v := (-1)) C.1 C.2.1 dX7_follows_48 rfl ?_
      refine g_ixor C hF dX7_follows_49 (fun x13 hF => ?_)
      refine g_iand C hF dX7_follows_50 (fun x14 hF => ?_)
      exact hJ51 x14 H locs ls hV (lv_sub hl [2] rfl) hF
    refine lv_iload_n C.1 C.2.1 dX7_follows_42 rfl (lv_at hl 3 rfl) ?_
    refine lv_goto (tgt := 51) C.1 C.2.1 dX7_follows_43 rfl ?_
    exact hJ51 p2 H locs ls hV (lv_sub hl [2] rfl) hF
  refine lv_aload_n C.1 C.2.1 dX7_follows_16 rfl (lv_at hl 0 rfl) ?_
  refine lv_iconst (v := 0) C.1 C.2.1 dX7_follows_17 rfl ?_
  obtain ⟨x15, g16, hc, hF⟩ := bd2_s hF
  refine g_cVi (ws' := [oX7 a_t a_d a_e a_kept v_isKept a_found a_tape v_taped v_gone a_hears a_near a_firstDay a_daily v_begin v_round v_leastFar v_leastWhere v_mostLed a_heardNow v_firstMove v_at v_sort v_from v_value v_fault a_bitsOf a_sizeOf a_number a_passing, aA cI a_d 40 f_d, aA cI a_found 7 g16]) (wr := [aA cI a_d 40 f_d]) C hV (k_X7_finds l dC dI cI cB cO n0 H.size a_t a_d a_e a_kept a_found a_tape a_hears a_near a_firstDay a_daily a_heardNow a_bitsOf a_sizeOf a_number a_passing v_isKept v_taped v_gone v_begin v_round v_leastFar v_leastWhere v_mostLed v_firstMove v_at v_sort v_from v_value v_fault f_found 0 hc) mdX7_finds gX7_follows_X7_finds rfl rfl ⟨Nat.le_of_ble_eq_true rfl, Nat.le_of_ble_eq_true rfl⟩ [0, 2] [1] [1, 0, 2] rfl rfl rfl rfl rfl rfl rfl rfl rfl rfl hl.1 (Nat.le_of_ble_eq_true rfl) rfl dX7_follows_18 (fun H locs hV => ?_)
  exact hret (x15, g16) _ _ _ _ dX7_follows_21 hF hV
abbrev rmX7_waysOf : Room := { frames := 4, cells := 0, slots := 0, locals := 92 }
theorem mdX7_waysOf : gMd yX7_waysOf wsX7_waysOf cX7_waysOf 8 (some .int) 2 := ⟨⟨_, rfl⟩, by decide +kernel⟩
theorem flX7_waysOf_199 : gFL wsX7_waysOf RX7 199 7 18 RX7 TX7 28 := ⟨rfl, fun w h => List.mem_cons_of_mem _ (List.mem_append_right _ (h)), Nat.le_of_ble_eq_true rfl, List.mem_cons_of_mem _ (List.mem_append_left _ (List.mem_append_left _ (List.mem_of_getElem? (i := 0) rfl)))⟩
theorem fpX7_waysOf_199 : gFP wsX7_waysOf RX7 199 7 18 RX7 TX7 28 .int := ⟨flX7_waysOf_199, ⟨tyX7, tyX7_ok⟩, nmX7, rfl, by decide +kernel⟩
theorem flX7_waysOf_7 : gFL wsX7_waysOf RX7 7 7 0 RX7 TX7 28 := ⟨rfl, fun w h => List.mem_cons_of_mem _ (List.mem_append_right _ (h)), Nat.le_of_ble_eq_true rfl, List.mem_cons_of_mem _ (List.mem_append_left _ (List.mem_append_left _ (List.mem_of_getElem? (i := 1) rfl)))⟩
def J_X7_waysOf_188 (s4 : Int32) (g24 : Nat → Int32) (x10 : Int32) (s12 : Int32) (kk61 : Int32 → Int32 → (Nat → Int32) → (Nat → Int32) → (Nat → Int32) → Int32 → Option (Int32 × Int32 × (Nat → Int32) × (Nat → Int32) × (Nat → Int32))) (s29 : Int32) (g25 : Nat → Int32) (g26 : Nat → Int32) (u30 : Int32) : Option (Int32 × Int32 × (Nat → Int32) × (Nat → Int32) × (Nat → Int32)) := nm (20 + s4) (fun x31 => wrt g24 40 x31 x10 (fun g32 => nm (s12 + 1) (fun x33 => kk61 s29 x33 g32 g25 g26 u30)))
def J_X7_waysOf_182 (s11 : Int32) (s4 : Int32) (g24 : Nat → Int32) (x10 : Int32) (s12 : Int32) (kk61 : Int32 → Int32 → (Nat → Int32) → (Nat → Int32) → (Nat → Int32) → Int32 → Option (Int32 × Int32 × (Nat → Int32) × (Nat → Int32) × (Nat → Int32))) (g25 : Nat → Int32) (g26 : Nat → Int32) (k34 : Int32) : Option (Int32 × Int32 × (Nat → Int32) × (Nat → Int32) × (Nat → Int32)) := nm (s11 + 1) (fun x35 => J_X7_waysOf_188 s4 g24 x10 s12 kk61 x35 g25 g26 k34)
def J_X7_waysOf_120 (k22 : Int32) (s12 : Int32) (kk61 : Int32 → Int32 → (Nat → Int32) → (Nat → Int32) → (Nat → Int32) → Int32 → Option (Int32 × Int32 × (Nat → Int32) × (Nat → Int32) × (Nat → Int32))) (s11 : Int32) (t13 : Nat → Int32) (t14 : Nat → Int32) (t15 : Nat → Int32) (u16 : Int32) (s4 : Int32) (n0 : Nat) (v_gone : Int32) (p1 : Int32) (x10 : Int32) : Option (Int32 × Int32 × (Nat → Int32) × (Nat → Int32) × (Nat → Int32)) := (if k22 = 0 then nm (s12 + 1) (fun x38 => kk61 s11 x38 t13 t14 t15 u16) else nm (20 + s4) (fun x23 => wrt t13 40 x23 s12 (fun g24 => bd2 (F_X7_listen n0 v_gone g24 t14 t15) (fun g25 g26 => rd g24 40 6 (fun x27 => bd1 (F_X7_nextOf n0 g24 g25 g26 x27) (fun x28 => (if x28 = p1 then (if s11 = 0 then nm (1000 * s4) (fun x36 => nm (x36 + s12) (fun x37 => J_X7_waysOf_182 s11 s4 g24 x10 s12 kk61 g25 g26 x37)) else J_X7_waysOf_182 s11 s4 g24 x10 s12 kk61 g25 g26 u16) else J_X7_waysOf_188 s4 g24 x10 s12 kk61 s11 g25 g26 u16)))))))
def J_X7_waysOf_119 (s12 : Int32) (kk61 : Int32 → Int32 → (Nat → Int32) → (Nat → Int32) → (Nat → Int32) → Int32 → Option (Int32 × Int32 × (Nat → Int32) × (Nat → Int32) × (Nat → Int32))) (s11 : Int32) (t13 : Nat → Int32) (t14 : Nat → Int32) (t15 : Nat → Int32) (u16 : Int32) (s4 : Int32) (n0 : Nat) (v_gone : Int32) (p1 : Int32) (x10 : Int32) : Option (Int32 × Int32 × (Nat → Int32) × (Nat → Int32) × (Nat → Int32)) := J_X7_waysOf_120 0 s12 kk61 s11 t13 t14 t15 u16 s4 n0 v_gone p1 x10
def L_X7_waysOf_61 (s4 : Int32) (kk39 : Int32 → Int32 → (Nat → Int32) → (Nat → Int32) → (Nat → Int32) → Int32 → Option (Int32 × Int32 × (Nat → Int32) × (Nat → Int32) × (Nat → Int32))) (x10 : Int32) (n0 : Nat) (p2 : Int32) (v_gone : Int32) (p1 : Int32) : Nat → Int32 → Int32 → (Nat → Int32) → (Nat → Int32) → (Nat → Int32) → Int32 → Option (Int32 × Int32 × (Nat → Int32) × (Nat → Int32) × (Nat → Int32)) := lpp6 (fun s11 s12 t13 t14 t15 u16 kk61 => (if 144 ≤ s12 then nm (s4 + 1) (fun x17 => kk39 s11 x17 t13 t14 t15 u16) else dvn 12 (s12 - s12 / 12 * 12) (fun x18 => dvn 12 (x10 - x10 / 12 * 12) (fun x19 => nm (x18 - x19) (fun x20 => bd1 (F_X7_size n0 x20) (fun x21 => (if p2 < x21 then J_X7_waysOf_119 s12 kk61 s11 t13 t14 t15 u16 s4 n0 v_gone p1 x10 else dvn 12 (s12 / 12) (fun x39 => dvn 12 (x10 / 12) (fun x40 => nm (x39 - x40) (fun x41 => bd1 (F_X7_size n0 x41) (fun x42 => (if p2 < x42 then J_X7_waysOf_119 s12 kk61 s11 t13 t14 t15 u16 s4 n0 v_gone p1 x10 else bd1 (F_X7_whoIs n0 t13 s12) (fun x43 => (if x43 = ((-1)) then J_X7_waysOf_120 1 s12 kk61 s11 t13 t14 t15 u16 s4 n0 v_gone p1 x10 else J_X7_waysOf_119 s12 kk61 s11 t13 t14 t15 u16 s4 n0 v_gone p1 x10))))))))))))))
def L_X7_waysOf_39 (n0 : Nat) (p2 : Int32) (v_gone : Int32) (p1 : Int32) : Nat → Int32 → Int32 → (Nat → Int32) → (Nat → Int32) → (Nat → Int32) → Int32 → Option (Int32 × Int32 × (Nat → Int32) × (Nat → Int32) × (Nat → Int32)) := lpp6 (fun s3 s4 t5 t6 t7 u8 kk39 => rd t5 40 0 (fun x9 => (if x9 ≤ s4 then some (s3, u8, t5, t6, t7) else bd1 (F_X7_yard n0 t5 s4) (fun x10 => L_X7_waysOf_61 s4 kk39 x10 n0 p2 v_gone p1 n0 s3 0 t5 t6 t7 u8))))
def F_X7_waysOf (n0 : Nat) (v_gone : Int32) (v_firstMove : Int32) (f_d : Nat → Int32) (f_hears : Nat → Int32) (f_near : Nat → Int32) (p1 : Int32) (p2 : Int32) : Option (Int32 × Int32 × (Nat → Int32) × (Nat → Int32) × (Nat → Int32)) := bd2 (F_X7_listen n0 v_gone f_d f_hears f_near) (fun g1 g2 => (if p2 = 0 then rd f_d 40 6 (fun x44 => bd1 (F_X7_nextOf n0 f_d g1 g2 x44) (fun x45 => (if x45 = p1 then some ((1, 0, f_d, g1, g2) : Int32 × Int32 × (Nat → Int32) × (Nat → Int32) × (Nat → Int32)) else some ((0, 0, f_d, g1, g2) : Int32 × Int32 × (Nat → Int32) × (Nat → Int32) × (Nat → Int32))))) else L_X7_waysOf_39 n0 p2 v_gone p1 n0 0 0 f_d g1 g2 0))
set_option maxRecDepth 100000 in
set_option maxHeartbeats 4000000 in
theorem k_X7_waysOf (l : Launch) (dC : Nat → ClassId) (dI : Nat → Nat → Nat) (cI cB cO : ClassId) (n0 sz : Nat) (a_t : Nat) (a_d : Nat) (a_e : Nat) (a_kept : Nat) (a_found : Nat) (a_tape : Nat) (a_hears : Nat) (a_near : Nat) (a_firstDay : Nat) (a_daily : Nat) (a_heardNow : Nat) (a_bitsOf : Nat) (a_sizeOf : Nat) (a_number : Nat) (a_passing : Nat)   (v_isKept : Int32) (v_taped : Int32) (v_gone : Int32) (v_begin : Int32) (v_round : Int32) (v_leastFar : Int32) (v_leastWhere : Int32) (v_mostLed : Int32) (v_firstMove : Int32) (v_at : Int32) (v_sort : Int32) (v_from : Int32) (v_value : Int64) (v_fault : Int32) (f_d : Nat → Int32) (f_hears : Nat → Int32) (f_near : Nat → Int32) (p1 : Int32) (p2 : Int32)  {ro : Int32} {o0 : Int32} {o1 : Nat → Int32} {o2 : Nat → Int32} {o3 : Nat → Int32} (hF : F_X7_waysOf n0 v_gone v_firstMove f_d f_hears f_near p1 p2 = some (ro, o0, o1, o2, o3)) : Met l yX7_waysOf wsX7_waysOf rmX7_waysOf (va_Pc [.ref a_t, .int p1, .int p2] (gPre (dC, dI) (gT cI cB cO) sz [oX7 a_t a_d a_e a_kept v_isKept a_found a_tape v_taped v_gone a_hears a_near a_firstDay a_daily v_begin v_round v_leastFar v_leastWhere v_mostLed a_heardNow v_firstMove v_at v_sort v_from v_value v_fault a_bitsOf a_sizeOf a_number a_passing, aA cI a_d 40 f_d, aA cI a_hears 10 f_hears, aA cI a_near 10 f_near])) (gQi (dC, dI) (gT cI cB cO) sz [oX7 a_t a_d a_e a_kept v_isKept a_found a_tape v_taped v_gone a_hears a_near a_firstDay a_daily v_begin v_round v_leastFar v_leastWhere v_mostLed a_heardNow v_firstMove v_at v_sort v_from v_value v_fault a_bitsOf a_sizeOf a_number a_passing, aA cI a_d 40 f_d, aA cI a_hears 10 f_hears, aA cI a_near 10 f_near] ro [oX7 a_t a_d a_e a_kept v_isKept a_found a_tape v_taped v_gone a_hears a_near a_firstDay a_daily v_begin v_round v_leastFar v_leastWhere v_mostLed a_heardNow o0 v_at v_sort v_from v_value v_fault a_bitsOf a_sizeOf a_number a_passing, aA cI a_d 40 o1, aA cI a_hears 10 o2, aA cI a_near 10 o3]) 0 0 (va_A [oX7 a_t a_d a_e a_kept v_isKept a_found a_tape v_taped v_gone a_hears a_near a_firstDay a_daily v_begin v_round v_leastFar v_leastWhere v_mostLed a_heardNow v_firstMove v_at v_sort v_from v_value v_fault a_bitsOf a_sizeOf a_number a_passing, aA cI a_d 40 f_d, aA cI a_hears 10 f_hears, aA cI a_near 10 f_near] sz) := by
  refine g_metI (Out := Int32 × Int32 × (Nat → Int32) × (Nat → Int32) × (Nat → Int32)) (fun oo => oo.1) (fun oo => [oX7 a_t a_d a_e a_kept v_isKept a_found a_tape v_taped v_gone a_hears a_near a_firstDay a_daily v_begin v_round v_leastFar v_leastWhere v_mostLed a_heardNow oo.2.1 v_at v_sort v_from v_value v_fault a_bitsOf a_sizeOf a_number a_passing, aA cI a_d 40 oo.2.2.1, aA cI a_hears 10 oo.2.2.2.1, aA cI a_near 10 oo.2.2.2.2]) (ro, o0, o1, o2, o3) (own := RX7) (lv := [(0, .ref a_t), (1, .int p1), (2, .int p2)]) (by decide) rfl rfl (Nat.le_of_ble_eq_true rfl) rfl ?_
  intro p e s m args below meth c Q ls C hret hV hl
  obtain ⟨out, hout⟩ : ∃ z : Int32 × Int32 × (Nat → Int32) × (Nat → Int32) × (Nat → Int32), z = (ro, o0, o1, o2, o3) := ⟨_, rfl⟩
  rw [← hout] at hF hret
  obtain ⟨H0, hH0⟩ : ∃ z : Heap, z = s.heap := ⟨_, rfl⟩
  obtain ⟨A0, hA0⟩ : ∃ z : Nat → Prop, z = va_A [oX7 a_t a_d a_e a_kept v_isKept a_found a_tape v_taped v_gone a_hears a_near a_firstDay a_daily v_begin v_round v_leastFar v_leastWhere v_mostLed a_heardNow v_firstMove v_at v_sort v_from v_value v_fault a_bitsOf a_sizeOf a_number a_passing, aA cI a_d 40 f_d, aA cI a_hears 10 f_hears, aA cI a_near 10 f_near] s.heap.size := ⟨_, rfl⟩
  rw [← hA0] at hret hV
  rw [← hH0] at hret hV
  rw [← hH0]
  obtain ⟨H, locs, hH⟩ : ∃ (z : Heap) (y : List Loc), z = H0 ∧ y = [] := ⟨_, _, rfl, rfl⟩
  rw [← hH.1, ← hH.2]
  have hV : gV (dC, dI) (gT cI cB cO) A0 H0 s [oX7 a_t a_d a_e a_kept v_isKept a_found a_tape v_taped v_gone a_hears a_near a_firstDay a_daily v_begin v_round v_leastFar v_leastWhere v_mostLed a_heardNow v_firstMove v_at v_sort v_from v_value v_fault a_bitsOf a_sizeOf a_number a_passing, aA cI a_d 40 f_d, aA cI a_hears 10 f_hears, aA cI a_near 10 f_near] H locs := by rw [hH.1, hH.2]; exact hV
  unfold F_X7_waysOf at hF
  refine lv_aload_n C.1 C.2.1 dX7_waysOf_0 rfl (lv_at hl 0 rfl) ?_
  refine lv_iconst (v := 0) C.1 C.2.1 dX7_waysOf_1 rfl ?_
  refine g_put (ws' := [oX7 a_t a_d a_e a_kept v_isKept a_found a_tape v_taped v_gone a_hears a_near a_firstDay a_daily v_begin v_round v_leastFar v_leastWhere v_mostLed a_heardNow 0 v_at v_sort v_from v_value v_fault a_bitsOf a_sizeOf a_number a_passing, aA cI a_d 40 f_d, aA cI a_hears 10 f_hears, aA cI a_near 10 f_near]) C hV fpX7_waysOf_199 0 rfl rfl rfl (Nat.le_of_ble_eq_true rfl) rfl dX7_waysOf_2 (fun H locs hV => ?_)
  refine lv_aload_n C.1 C.2.1 dX7_waysOf_5 rfl (lv_at hl 0 rfl) ?_
  obtain ⟨g1, g2, hc, hF⟩ := bd2_s hF
  refine g_cVv (ws' := [oX7 a_t a_d a_e a_kept v_isKept a_found a_tape v_taped v_gone a_hears a_near a_firstDay a_daily v_begin v_round v_leastFar v_leastWhere v_mostLed a_heardNow 0 v_at v_sort v_from v_value v_fault a_bitsOf a_sizeOf a_number a_passing, aA cI a_d 40 f_d, aA cI a_hears 10 g1, aA cI a_near 10 g2]) (wr := []) C hV (k_X7_listen l dC dI cI cB cO n0 H.size a_t a_d a_e a_kept a_found a_tape a_hears a_near a_firstDay a_daily a_heardNow a_bitsOf a_sizeOf a_number a_passing v_isKept v_taped v_gone v_begin v_round v_leastFar v_leastWhere v_mostLed 0 v_at v_sort v_from v_value v_fault f_d f_hears f_near hc) mdX7_listen gX7_waysOf_X7_listen rfl rfl ⟨Nat.le_of_ble_eq_true rfl, Nat.le_of_ble_eq_true rfl⟩ [0, 1, 2, 3] [] [0, 1, 2, 3] rfl rfl rfl rfl rfl rfl rfl rfl rfl rfl hl.1 (Nat.le_of_ble_eq_true rfl) rfl dX7_waysOf_6 (fun H locs hV => ?_)
  refine lv_iload_n C.1 C.2.1 dX7_waysOf_9 rfl (lv_at hl 2 rfl) ?_
  refine g_if_ne (tgt := 34) C hF dX7_waysOf_10 rfl (fun hF => ?_) (fun hF => ?_)
  · refine lv_iconst (v := 0) C.1 C.2.1 dX7_waysOf_34 rfl ?_
    refine lv_istore_n (lv' := [(3, .int 0), (0, .ref a_t), (1, .int p1), (2, .int p2)]) C.1 C.2.1 dX7_waysOf_35 rfl hl (by decide) rfl (fun ls hl => ?_)
    refine lv_iconst (v := 0) C.1 C.2.1 dX7_waysOf_36 rfl ?_
    refine lv_istore (lv' := [(4, .int 0), (3, .int 0), (0, .ref a_t), (1, .int p1), (2, .int p2)]) C.1 C.2.1 dX7_waysOf_37 hl (by decide) rfl (fun ls hl => ?_)
    have hL39 : ∀ (n : Nat) (s3 : Int32) (s4 : Int32) (t5 : Nat → Int32) (t6 : Nat → Int32) (t7 : Nat → Int32) (u8 : Int32) (H : Heap) (locs : List Loc) (ls : Array Slot), gV (dC, dI) (gT cI cB cO) A0 H0 s [oX7 a_t a_d a_e a_kept v_isKept a_found a_tape v_taped v_gone a_hears a_near a_firstDay a_daily v_begin v_round v_leastFar v_leastWhere v_mostLed a_heardNow u8 v_at v_sort v_from v_value v_fault a_bitsOf a_sizeOf a_number a_passing, aA cI a_d 40 t5, aA cI a_hears 10 t6, aA cI a_near 10 t7] H locs → lv_has ls 8 [(0, .ref a_t), (1, .int p1), (2, .int p2), (3, .int s3), (4, .int s4)] → L_X7_waysOf_39 n0 p2 v_gone p1 n s3 s4 t5 t6 t7 u8 = some out → W p l e rmX7_waysOf s m args below meth c H locs 0 0 Q (F0 m 39 ls []) := by
      intro n
      induction n with
      | zero => intro s3 s4 t5 t6 t7 u8 H locs ls hV hl hF; exact lpp6_z hF
      | succ n ih39 =>
        intro s3 s4 t5 t6 t7 u8 H locs ls hV hl hF
        obtain ⟨kk39, hk39, hF⟩ := lpp6_g hF
        have hq39 : ∀ (s3 : Int32) (s4 : Int32) (t5 : Nat → Int32) (t6 : Nat → Int32) (t7 : Nat → Int32) (u8 : Int32), kk39 s3 s4 t5 t6 t7 u8 = some out → L_X7_waysOf_39 n0 p2 v_gone p1 n s3 s4 t5 t6 t7 u8 = some out := fun _ _ _ _ _ _ h => by rw [hk39] at h; exact h
        refine lv_iload C.1 C.2.1 dX7_waysOf_39 (lv_at hl 4 rfl) ?_
        refine lv_aload_n C.1 C.2.1 dX7_waysOf_41 rfl (lv_at hl 0 rfl) ?_
        refine g_get C hV flX7_waysOf_7 0 rfl rfl dX7_waysOf_42 ?_
        refine lv_iconst (v := 0) C.1 C.2.1 dX7_waysOf_45 rfl ?_
        refine g_iald C hV 1 rfl hF dX7_waysOf_46 (fun x9 hF => ?_)
        refine g_icmp_ge (tgt := 212) C hF dX7_waysOf_47 rfl (fun hF => ?_) (fun hF => ?_)
        · refine lv_iload_n C.1 C.2.1 dX7_waysOf_212 rfl (lv_at hl 3 rfl) ?_
          exact hret (s3, u8, t5, t6, t7) _ _ _ _ dX7_waysOf_213 hF hV
        refine lv_aload_n C.1 C.2.1 dX7_waysOf_50 rfl (lv_at hl 0 rfl) ?_
        refine lv_iload C.1 C.2.1 dX7_waysOf_51 (lv_at hl 4 rfl) ?_
        obtain ⟨x10, hc, hF⟩ := bd1_s hF
        refine g_cVi (ws' := [oX7 a_t a_d a_e a_kept v_isKept a_found a_tape v_taped v_gone a_hears a_near a_firstDay a_daily v_begin v_round v_leastFar v_leastWhere v_mostLed a_heardNow u8 v_at v_sort v_from v_value v_fault a_bitsOf a_sizeOf a_number a_passing, aA cI a_d 40 t5, aA cI a_hears 10 t6, aA cI a_near 10 t7]) (wr := [aA cI a_hears 10 t6, aA cI a_near 10 t7]) C hV (k_X7_yard l dC dI cI cB cO n0 H.size a_t a_d a_e a_kept a_found a_tape a_hears a_near a_firstDay a_daily a_heardNow a_bitsOf a_sizeOf a_number a_passing v_isKept v_taped v_gone v_begin v_round v_leastFar v_leastWhere v_mostLed u8 v_at v_sort v_from v_value v_fault t5 s4 hc) mdX7_yard gX7_waysOf_X7_yard rfl rfl ⟨Nat.le_of_ble_eq_true rfl, Nat.le_of_ble_eq_true rfl⟩ [0, 1] [2, 3] [2, 3, 0, 1] rfl rfl rfl rfl rfl rfl rfl rfl rfl rfl hl.1 (Nat.le_of_ble_eq_true rfl) rfl dX7_waysOf_53 (fun H locs hV => ?_)
        refine lv_istore (lv' := [(5, .int x10), (0, .ref a_t), (1, .int p1), (2, .int p2), (3, .int s3), (4, .int s4)]) C.1 C.2.1 dX7_waysOf_56 hl (by decide) rfl (fun ls hl => ?_)
        refine lv_iconst (v := 0) C.1 C.2.1 dX7_waysOf_58 rfl ?_
        refine lv_istore (lv' := [(6, .int 0), (5, .int x10), (0, .ref a_t), (1, .int p1), (2, .int p2), (3, .int s3), (4, .int s4)]) C.1 C.2.1 dX7_waysOf_59 hl (by decide) rfl (fun ls hl => ?_)
        have hL61 : ∀ (n : Nat) (s11 : Int32) (s12 : Int32) (t13 : Nat → Int32) (t14 : Nat → Int32) (t15 : Nat → Int32) (u16 : Int32) (H : Heap) (locs : List Loc) (ls : Array Slot), gV (dC, dI) (gT cI cB cO) A0 H0 s [oX7 a_t a_d a_e a_kept v_isKept a_found a_tape v_taped v_gone a_hears a_near a_firstDay a_daily v_begin v_round v_leastFar v_leastWhere v_mostLed a_heardNow u16 v_at v_sort v_from v_value v_fault a_bitsOf a_sizeOf a_number a_passing, aA cI a_d 40 t13, aA cI a_hears 10 t14, aA cI a_near 10 t15] H locs → lv_has ls 8 [(0, .ref a_t), (1, .int p1), (2, .int p2), (3, .int s11), (4, .int s4), (5, .int x10), (6, .int s12)] → L_X7_waysOf_61 s4 kk39 x10 n0 p2 v_gone p1 n s11 s12 t13 t14 t15 u16 = some out → W p l e rmX7_waysOf s m args below meth c H locs 0 0 Q (F0 m 61 ls []) := by
          intro n
          induction n with
          | zero => intro s11 s12 t13 t14 t15 u16 H locs ls hV hl hF; exact lpp6_z hF
          | succ n ih61 =>
            intro s11 s12 t13 t14 t15 u16 H locs ls hV hl hF
            obtain ⟨kk61, hk61, hF⟩ := lpp6_g hF
            have hq61 : ∀ (s11 : Int32) (s12 : Int32) (t13 : Nat → Int32) (t14 : Nat → Int32) (t15 : Nat → Int32) (u16 : Int32), kk61 s11 s12 t13 t14 t15 u16 = some out → L_X7_waysOf_61 s4 kk39 x10 n0 p2 v_gone p1 n s11 s12 t13 t14 t15 u16 = some out := fun _ _ _ _ _ _ h => by rw [hk61] at h; exact h
            refine lv_iload C.1 C.2.1 dX7_waysOf_61 (lv_at hl 6 rfl) ?_
            refine lv_sipush (v := 144) C.1 C.2.1 dX7_waysOf_63 rfl ?_
            refine g_icmp_ge (tgt := 206) C hF dX7_waysOf_66 rfl (fun hF => ?_) (fun hF => ?_)
            · refine g_iinc C hF dX7_waysOf_206 (d := 1) rfl hl (j := 4) rfl (by decide) (fun y => [(4, .int y), (0, .ref a_t), (1, .int p1), (2, .int p2), (3, .int s11), (5, .int x10), (6, .int s12)]) (fun _ => rfl) (fun x17 ls hF hl => ?_)
              refine lv_goto (tgt := 39) C.1 C.2.1 dX7_waysOf_209 rfl ?_
              exact ih39 s11 x17 t13 t14 t15 u16 H locs ls hV (lv_sub hl [1, 2, 3, 4, 0] rfl) (hq39 s11 x17 t13 t14 t15 u16 hF)
            refine lv_iload C.1 C.2.1 dX7_waysOf_69 (lv_at hl 6 rfl) ?_
            refine lv_bipush (v := 12) C.1 C.2.1 dX7_waysOf_71 rfl ?_
            refine g_irem C hF dX7_waysOf_73 (fun x18 hF => ?_)
            refine lv_iload C.1 C.2.1 dX7_waysOf_74 (lv_at hl 5 rfl) ?_
            refine lv_bipush (v := 12) C.1 C.2.1 dX7_waysOf_76 rfl ?_
            refine g_irem C hF dX7_waysOf_78 (fun x19 hF => ?_)
            refine g_isub C hF dX7_waysOf_79 (fun x20 hF => ?_)
            obtain ⟨x21, hc, hF⟩ := bd1_s hF
            refine g_cSi (ws' := [oX7 a_t a_d a_e a_kept v_isKept a_found a_tape v_taped v_gone a_hears a_near a_firstDay a_daily v_begin v_round v_leastFar v_leastWhere v_mostLed a_heardNow u16 v_at v_sort v_from v_value v_fault a_bitsOf a_sizeOf a_number a_passing, aA cI a_d 40 t13, aA cI a_hears 10 t14, aA cI a_near 10 t15]) (wr := [oX7 a_t a_d a_e a_kept v_isKept a_found a_tape v_taped v_gone a_hears a_near a_firstDay a_daily v_begin v_round v_leastFar v_leastWhere v_mostLed a_heardNow u16 v_at v_sort v_from v_value v_fault a_bitsOf a_sizeOf a_number a_passing, aA cI a_d 40 t13, aA cI a_hears 10 t14, aA cI a_near 10 t15]) C hV (k_X7_size l dC dI cI cB cO n0 H.size x20 hc) mdX7_size gX7_waysOf_X7_size rfl rfl ⟨Nat.le_of_ble_eq_true rfl, Nat.le_of_ble_eq_true rfl⟩ [] [0, 1, 2, 3] [0, 1, 2, 3] rfl rfl rfl rfl rfl rfl rfl rfl hl.1 (Nat.le_of_ble_eq_true rfl) rfl dX7_waysOf_80 (fun H locs hV => ?_)
            refine lv_iload_n C.1 C.2.1 dX7_waysOf_83 rfl (lv_at hl 2 rfl) ?_
            have hJ120 : ∀ (k22 : Int32) (H : Heap) (locs : List Loc) (ls : Array Slot), gV (dC, dI) (gT cI cB cO) A0 H0 s [oX7 a_t a_d a_e a_kept v_isKept a_found a_tape v_taped v_gone a_hears a_near a_firstDay a_daily v_begin v_round v_leastFar v_leastWhere v_mostLed a_heardNow u16 v_at v_sort v_from v_value v_fault a_bitsOf a_sizeOf a_number a_passing, aA cI a_d 40 t13, aA cI a_hears 10 t14, aA cI a_near 10 t15] H locs → lv_has ls 8 [(0, .ref a_t), (1, .int p1), (2, .int p2), (3, .int s11), (4, .int s4), (5, .int x10), (6, .int s12)] → J_X7_waysOf_120 k22 s12 kk61 s11 t13 t14 t15 u16 s4 n0 v_gone p1 x10 = some out → W p l e rmX7_waysOf s m args below meth c H locs 0 0 Q (F0 m 120 ls [.int k22]) := by
              intro k22 H locs ls hV hl hF
              unfold J_X7_waysOf_120 at hF
              refine lv_istore (lv' := [(7, .int k22), (0, .ref a_t), (1, .int p1), (2, .int p2), (3, .int s11), (4, .int s4), (5, .int x10), (6, .int s12)]) C.1 C.2.1 dX7_waysOf_120 hl (by decide) rfl (fun ls hl => ?_)
              refine lv_iload C.1 C.2.1 dX7_waysOf_122 (lv_at hl 0 rfl) ?_
              refine g_if_ne (tgt := 130) C hF dX7_waysOf_124 rfl (fun hF => ?_) (fun hF => ?_)
              · refine lv_aload_n C.1 C.2.1 dX7_waysOf_130 rfl (lv_at hl 1 rfl) ?_
                refine g_get C hV flX7_waysOf_7 0 rfl rfl dX7_waysOf_131 ?_
                refine lv_bipush (v := 20) C.1 C.2.1 dX7_waysOf_134 rfl ?_
                refine lv_iload C.1 C.2.1 dX7_waysOf_136 (lv_at hl 5 rfl) ?_
                refine g_iadd C hF dX7_waysOf_138 (fun x23 hF => ?_)
                refine lv_iload C.1 C.2.1 dX7_waysOf_139 (lv_at hl 7 rfl) ?_
                refine g_iast C hV 1 rfl hF (fun gq => [oX7 a_t a_d a_e a_kept v_isKept a_found a_tape v_taped v_gone a_hears a_near a_firstDay a_daily v_begin v_round v_leastFar v_leastWhere v_mostLed a_heardNow u16 v_at v_sort v_from v_value v_fault a_bitsOf a_sizeOf a_number a_passing, aA cI a_d 40 gq, aA cI a_hears 10 t14, aA cI a_near 10 t15]) (fun _ => rfl) dX7_waysOf_141 (fun g24 H locs hF hV => ?_)
                refine lv_aload_n C.1 C.2.1 dX7_waysOf_142 rfl (lv_at hl 1 rfl) ?_
                obtain ⟨g25, g26, hc, hF⟩ := bd2_s hF
                refine g_cVv (ws' := [oX7 a_t a_d a_e a_kept v_isKept a_found a_tape v_taped v_gone a_hears a_near a_firstDay a_daily v_begin v_round v_leastFar v_leastWhere v_mostLed a_heardNow u16 v_at v_sort v_from v_value v_fault a_bitsOf a_sizeOf a_number a_passing, aA cI a_d 40 g24, aA cI a_hears 10 g25, aA cI a_near 10 g26]) (wr := []) C hV (k_X7_listen l dC dI cI cB cO n0 H.size a_t a_d a_e a_kept a_found a_tape a_hears a_near a_firstDay a_daily a_heardNow a_bitsOf a_sizeOf a_number a_passing v_isKept v_taped v_gone v_begin v_round v_leastFar v_leastWhere v_mostLed u16 v_at v_sort v_from v_value v_fault g24 t14 t15 hc) mdX7_listen gX7_waysOf_X7_listen rfl rfl ⟨Nat.le_of_ble_eq_true rfl, Nat.le_of_ble_eq_true rfl⟩ [0, 1, 2, 3] [] [0, 1, 2, 3] rfl rfl rfl rfl rfl rfl rfl rfl rfl rfl hl.1 (Nat.le_of_ble_eq_true rfl) rfl dX7_waysOf_143 (fun H locs hV => ?_)
                refine lv_aload_n C.1 C.2.1 dX7_waysOf_146 rfl (lv_at hl 1 rfl) ?_
                refine lv_aload_n C.1 C.2.1 dX7_waysOf_147 rfl (lv_at hl 1 rfl) ?_
                refine g_get C hV flX7_waysOf_7 0 rfl rfl dX7_waysOf_148 ?_
                refine lv_bipush (v := 6) C.1 C.2.1 dX7_waysOf_151 rfl ?_
                refine g_iald C hV 1 rfl hF dX7_waysOf_153 (fun x27 hF => ?_)
                obtain ⟨x28, hc, hF⟩ := bd1_s hF
                refine g_cVi (ws' := [oX7 a_t a_d a_e a_kept v_isKept a_found a_tape v_taped v_gone a_hears a_near a_firstDay a_daily v_begin v_round v_leastFar v_leastWhere v_mostLed a_heardNow u16 v_at v_sort v_from v_value v_fault a_bitsOf a_sizeOf a_number a_passing, aA cI a_d 40 g24, aA cI a_hears 10 g25, aA cI a_near 10 g26]) (wr := []) C hV (k_X7_nextOf l dC dI cI cB cO n0 H.size a_t a_d a_e a_kept a_found a_tape a_hears a_near a_firstDay a_daily a_heardNow a_bitsOf a_sizeOf a_number a_passing v_isKept v_taped v_gone v_begin v_round v_leastFar v_leastWhere v_mostLed u16 v_at v_sort v_from v_value v_fault g24 g25 g26 x27 hc) mdX7_nextOf gX7_waysOf_X7_nextOf rfl rfl ⟨Nat.le_of_ble_eq_true rfl, Nat.le_of_ble_eq_true rfl⟩ [0, 1, 2, 3] [] [0, 1, 2, 3] rfl rfl rfl rfl rfl rfl rfl rfl rfl rfl hl.1 (Nat.le_of_ble_eq_true rfl) rfl dX7_waysOf_154 (fun H locs hV => ?_)
                refine lv_iload_n C.1 C.2.1 dX7_waysOf_157 rfl (lv_at hl 2 rfl) ?_
                have hJ188 : ∀ (s29 : Int32) (u30 : Int32) (H : Heap) (locs : List Loc) (ls : Array Slot), gV (dC, dI) (gT cI cB cO) A0 H0 s [oX7 a_t a_d a_e a_kept v_isKept a_found a_tape v_taped v_gone a_hears a_near a_firstDay a_daily v_begin v_round v_leastFar v_leastWhere v_mostLed a_heardNow u30 v_at v_sort v_from v_value v_fault a_bitsOf a_sizeOf a_number a_passing, aA cI a_d 40 g24, aA cI a_hears 10 g25, aA cI a_near 10 g26] H locs → lv_has ls 8 [(0, .ref a_t), (1, .int p1), (2, .int p2), (3, .int s29), (4, .int s4), (5, .int x10), (6, .int s12)] → J_X7_waysOf_188 s4 g24 x10 s12 kk61 s29 g25 g26 u30 = some out → W p l e rmX7_waysOf s m args below meth c H locs 0 0 Q (F0 m 188 ls []) := by
                  intro s29 u30 H locs ls hV hl hF
                  unfold J_X7_waysOf_188 at hF
                  refine lv_aload_n C.1 C.2.1 dX7_waysOf_188 rfl (lv_at hl 0 rfl) ?_
                  refine g_get C hV flX7_waysOf_7 0 rfl rfl dX7_waysOf_189 ?_
                  refine lv_bipush (v := 20) C.1 C.2.1 dX7_waysOf_192 rfl ?_
                  refine lv_iload C.1 C.2.1 dX7_waysOf_194 (lv_at hl 4 rfl) ?_
                  refine g_iadd C hF dX7_waysOf_196 (fun x31 hF => ?_)
                  refine lv_iload C.1 C.2.1 dX7_waysOf_197 (lv_at hl 5 rfl) ?_
                  refine g_iast C hV 1 rfl hF (fun gq => [oX7 a_t a_d a_e a_kept v_isKept a_found a_tape v_taped v_gone a_hears a_near a_firstDay a_daily v_begin v_round v_leastFar v_leastWhere v_mostLed a_heardNow u30 v_at v_sort v_from v_value v_fault a_bitsOf a_sizeOf a_number a_passing, aA cI a_d 40 gq, aA cI a_hears 10 g25, aA cI a_near 10 g26]) (fun _ => rfl) dX7_waysOf_199 (fun g32 H locs hF hV => ?_)
                  refine g_iinc C hF dX7_waysOf_200 (d := 1) rfl hl (j := 6) rfl (by decide) (fun y => [(6, .int y), (0, .ref a_t), (1, .int p1), (2, .int p2), (3, .int s29), (4, .int s4), (5, .int x10)]) (fun _ => rfl) (fun x33 ls hF hl => ?_)
                  refine lv_goto (tgt := 61) C.1 C.2.1 dX7_waysOf_203 rfl ?_
                  exact ih61 s29 x33 g32 g25 g26 u30 H locs ls hV (lv_sub hl [1, 2, 3, 4, 5, 6, 0] rfl) (hq61 s29 x33 g32 g25 g26 u30 hF)
                refine g_icmp_ne (tgt := 188) C hF dX7_waysOf_158 rfl (fun hF => ?_) (fun hF => ?_)
                · exact hJ188 s11 u16 H locs ls hV (lv_sub hl [1, 2, 3, 4, 5, 6, 7] rfl) hF
                refine lv_aload_n C.1 C.2.1 dX7_waysOf_161 rfl (lv_at hl 1 rfl) ?_
                refine lv_iload_n C.1 C.2.1 dX7_waysOf_162 rfl (lv_at hl 4 rfl) ?_
                have hJ182 : ∀ (k34 : Int32) (H : Heap) (locs : List Loc) (ls : Array Slot), gV (dC, dI) (gT cI cB cO) A0 H0 s [oX7 a_t a_d a_e a_kept v_isKept a_found a_tape v_taped v_gone a_hears a_near a_firstDay a_daily v_begin v_round v_leastFar v_leastWhere v_mostLed a_heardNow u16 v_at v_sort v_from v_value v_fault a_bitsOf a_sizeOf a_number a_passing, aA cI a_d 40 g24, aA cI a_hears 10 g25, aA cI a_near 10 g26] H locs → lv_has ls 8 [(0, .ref a_t), (1, .int p1), (2, .int p2), (3, .int s11), (4, .int s4), (5, .int x10), (6, .int s12)] → J_X7_waysOf_182 s11 s4 g24 x10 s12 kk61 g25 g26 k34 = some out → W p l e rmX7_waysOf s m args below meth c H locs 0 0 Q (F0 m 182 ls [.int k34, .ref a_t]) := by
                  intro k34 H locs ls hV hl hF
                  unfold J_X7_waysOf_182 at hF
                  refine g_put (ws' := [oX7 a_t a_d a_e a_kept v_isKept a_found a_tape v_taped v_gone a_hears a_near a_firstDay a_daily v_begin v_round v_leastFar v_leastWhere v_mostLed a_heardNow k34 v_at v_sort v_from v_value v_fault a_bitsOf a_sizeOf a_number a_passing, aA cI a_d 40 g24, aA cI a_hears 10 g25, aA cI a_near 10 g26]) C hV fpX7_waysOf_199 0 rfl rfl rfl (Nat.le_of_ble_eq_true rfl) rfl dX7_waysOf_182 (fun H locs hV => ?_)
                  refine g_iinc C hF dX7_waysOf_185 (d := 1) rfl hl (j := 3) rfl (by decide) (fun y => [(3, .int y), (0, .ref a_t), (1, .int p1), (2, .int p2), (4, .int s4), (5, .int x10), (6, .int s12)]) (fun _ => rfl) (fun x35 ls hF hl => ?_)
                  exact hJ188 x35 k34 H locs ls hV (lv_sub hl [1, 2, 3, 0, 4, 5, 6] rfl) hF
                refine g_if_ne (tgt := 178) C hF dX7_waysOf_163 rfl (fun hF => ?_) (fun hF => ?_)
                · refine lv_aload_n C.1 C.2.1 dX7_waysOf_178 rfl (lv_at hl 1 rfl) ?_
                  refine g_get C hV flX7_waysOf_199 0 rfl rfl dX7_waysOf_179 ?_
                  exact hJ182 u16 H locs ls hV (lv_sub hl [1, 2, 3, 4, 5, 6, 7] rfl) hF
                refine lv_sipush (v := 1000) C.1 C.2.1 dX7_waysOf_166 rfl ?_
                refine lv_iload C.1 C.2.1 dX7_waysOf_169 (lv_at hl 5 rfl) ?_
                refine g_imul C hF dX7_waysOf_171 (fun x36 hF => ?_)
                refine lv_iload C.1 C.2.1 dX7_waysOf_172 (lv_at hl 7 rfl) ?_
                refine g_iadd C hF dX7_waysOf_174 (fun x37 hF => ?_)
                refine lv_goto (tgt := 182) C.1 C.2.1 dX7_waysOf_175 rfl ?_
                exact hJ182 x37 H locs ls hV (lv_sub hl [1, 2, 3, 4, 5, 6, 7] rfl) hF
              refine lv_goto (tgt := 200) C.1 C.2.1 dX7_waysOf_127 rfl ?_
              refine g_iinc C hF dX7_waysOf_200 (d := 1) rfl hl (j := 7) rfl (by decide) (fun y => [(6, .int y), (7, .int k22), (0, .ref a_t), (1, .int p1), (2, .int p2), (3, .int s11), (4, .int s4), (5, .int x10)]) (fun _ => rfl) (fun x38 ls hF hl => ?_)
              refine lv_goto (tgt := 61) C.1 C.2.1 dX7_waysOf_203 rfl ?_
              exact ih61 s11 x38 t13 t14 t15 u16 H locs ls hV (lv_sub hl [2, 3, 4, 5, 6, 7, 0] rfl) (hq61 s11 x38 t13 t14 t15 u16 hF)
            have hJ119 : ∀  (H : Heap) (locs : List Loc) (ls : Array Slot), gV (dC, dI) (gT cI cB cO) A0 H0 s [oX7 a_t a_d a_e a_kept v_isKept a_found a_tape v_taped v_gone a_hears a_near a_firstDay a_daily v_begin v_round v_leastFar v_leastWhere v_mostLed a_heardNow u16 v_at v_sort v_from v_value v_fault a_bitsOf a_sizeOf a_number a_passing, aA cI a_d 40 t13, aA cI a_hears 10 t14, aA cI a_near 10 t15] H locs → lv_has ls 8 [(0, .ref a_t), (1, .int p1), (2, .int p2), (3, .int s11), (4, .int s4), (5, .int x10), (6, .int s12)] → J_X7_waysOf_119 s12 kk61 s11 t13 t14 t15 u16 s4 n0 v_gone p1 x10 = some out → W p l e rmX7_waysOf s m args below meth c H locs 0 0 Q (F0 m 119 ls []) := by
              intro  H locs ls hV hl hF
              unfold J_X7_waysOf_119 at hF
              refine lv_iconst (v := 0) C.1 C.2.1 dX7_waysOf_119 rfl ?_
              exact hJ120 0 H locs ls hV (lv_sub hl [0, 1, 2, 3, 4, 5, 6] rfl) hF
            refine g_icmp_gt (tgt := 119) C hF dX7_waysOf_84 rfl (fun hF => ?_) (fun hF => ?_)
            · exact hJ119  H locs ls hV (lv_sub hl [0, 1, 2, 3, 4, 5, 6] rfl) hF
            refine lv_iload C.1 C.2.1 dX7_waysOf_87 (lv_at hl 6 rfl) ?_
            refine lv_bipush (v := 12) C.1 C.2.1 dX7_waysOf_89 rfl ?_
            refine g_idiv C hF dX7_waysOf_91 (fun x39 hF => ?_)
            refine lv_iload C.1 C.2.1 dX7_waysOf_92 (lv_at hl 5 rfl) ?_
            refine lv_bipush (v := 12) C.1 C.2.1 dX7_waysOf_94 rfl ?_
            refine g_idiv C hF dX7_waysOf_96 (fun x40 hF => ?_)
            refine g_isub C hF dX7_waysOf_97 (fun x41 hF => ?_)
            obtain ⟨x42, hc, hF⟩ := bd1_s hF
            refine g_cSi (ws' := [oX7 a_t a_d a_e a_kept v_isKept a_found a_tape v_taped v_gone a_hears a_near a_firstDay a_daily v_begin v_round v_leastFar v_leastWhere v_mostLed a_heardNow u16 v_at v_sort v_from v_value v_fault a_bitsOf a_sizeOf a_number a_passing, aA cI a_d 40 t13, aA cI a_hears 10 t14, aA cI a_near 10 t15]) (wr := [oX7 a_t a_d a_e a_kept v_isKept a_found a_tape v_taped v_gone a_hears a_near a_firstDay a_daily v_begin v_round v_leastFar v_leastWhere v_mostLed a_heardNow u16 v_at v_sort v_from v_value v_fault a_bitsOf a_sizeOf a_number a_passing, aA cI a_d 40 t13, aA cI a_hears 10 t14, aA cI a_near 10 t15]) C hV (k_X7_size l dC dI cI cB cO n0 H.size x41 hc) mdX7_size gX7_waysOf_X7_size rfl rfl ⟨Nat.le_of_ble_eq_true rfl, Nat.le_of_ble_eq_true rfl⟩ [] [0, 1, 2, 3] [0, 1, 2, 3] rfl rfl rfl rfl rfl rfl rfl rfl hl.1 (Nat.le_of_ble_eq_true rfl) rfl dX7_waysOf_98 (fun H locs hV => ?_)
            refine lv_iload_n C.1 C.2.1 dX7_waysOf_101 rfl (lv_at hl 2 rfl) ?_
            refine g_icmp_gt (tgt := 119) C hF dX7_waysOf_102 rfl (fun hF => ?_) (fun hF => ?_)
            · exact hJ119  H locs ls hV (lv_sub hl [0, 1, 2, 3, 4, 5, 6] rfl) hF
            refine lv_aload_n C.1 C.2.1 dX7_waysOf_105 rfl (lv_at hl 0 rfl) ?_
            refine lv_iload C.1 C.2.1 dX7_waysOf_106 (lv_at hl 6 rfl) ?_
            obtain ⟨x43, hc, hF⟩ := bd1_s hF
            refine g_cVi (ws' := [oX7 a_t a_d a_e a_kept v_isKept a_found a_tape v_taped v_gone a_hears a_near a_firstDay a_daily v_begin v_round v_leastFar v_leastWhere v_mostLed a_heardNow u16 v_at v_sort v_from v_value v_fault a_bitsOf a_sizeOf a_number a_passing, aA cI a_d 40 t13, aA cI a_hears 10 t14, aA cI a_near 10 t15]) (wr := [aA cI a_hears 10 t14, aA cI a_near 10 t15]) C hV (k_X7_whoIs l dC dI cI cB cO n0 H.size a_t a_d a_e a_kept a_found a_tape a_hears a_near a_firstDay a_daily a_heardNow a_bitsOf a_sizeOf a_number a_passing v_isKept v_taped v_gone v_begin v_round v_leastFar v_leastWhere v_mostLed u16 v_at v_sort v_from v_value v_fault t13 s12 hc) mdX7_whoIs gX7_waysOf_X7_whoIs rfl rfl ⟨Nat.le_of_ble_eq_true rfl, Nat.le_of_ble_eq_true rfl⟩ [0, 1] [2, 3] [2, 3, 0, 1] rfl rfl rfl rfl rfl rfl rfl rfl rfl rfl hl.1 (Nat.le_of_ble_eq_true rfl) rfl dX7_waysOf_108 (fun H locs hV => ?_)
            refine lv_iconst (v := (-1)) C.1 C.2.1 dX7_waysOf_111 rfl ?_
            refine g_icmp_ne (tgt := 119) C hF dX7_waysOf_112 rfl (fun hF => ?_) (fun hF => ?_)
            · exact hJ119  H locs ls hV (lv_sub hl [0, 1, 2, 3, 4, 5, 6] rfl) hF
            refine lv_iconst (v := 1) C.1 C.2.1 dX7_waysOf_115 rfl ?_
            refine lv_goto (tgt := 120) C.1 C.2.1 dX7_waysOf_116 rfl ?_
            exact hJ120 1 H locs ls hV (lv_sub hl [0, 1, 2, 3, 4, 5, 6] rfl) hF
        exact hL61 n0 s3 0 t5 t6 t7 u8 H locs ls hV (lv_sub hl [2, 3, 4, 5, 6, 1, 0] rfl) hF
    exact hL39 n0 0 0 f_d g1 g2 0 H locs ls hV (lv_sub hl [2, 3, 4, 1, 0] rfl) hF
  refine lv_aload_n C.1 C.2.1 dX7_waysOf_13 rfl (lv_at hl 0 rfl) ?_
  refine lv_aload_n C.1 C.2.1 dX7_waysOf_14 rfl (lv_at hl 0 rfl) ?_
  refine g_get C hV flX7_waysOf_7 0 rfl rfl dX7_waysOf_15 ?_
  refine lv_bipush (v := 6) C.1 C.2.1 dX7_waysOf_18 rfl ?_
  refine g_iald C hV 1 rfl hF dX7_waysOf_20 (fun x44 hF => ?_)
  obtain ⟨x45, hc, hF⟩ := bd1_s hF
  refine g_cVi (ws' := [oX7 a_t a_d a_e a_kept v_isKept a_found a_tape v_taped v_gone a_hears a_near a_firstDay a_daily v_begin v_round v_leastFar v_leastWhere v_mostLed a_heardNow 0 v_at v_sort v_from v_value v_fault a_bitsOf a_sizeOf a_number a_passing, aA cI a_d 40 f_d, aA cI a_hears 10 g1, aA cI a_near 10 g2]) (wr := []) C hV (k_X7_nextOf l dC dI cI cB cO n0 H.size a_t a_d a_e a_kept a_found a_tape a_hears a_near a_firstDay a_daily a_heardNow a_bitsOf a_sizeOf a_number a_passing v_isKept v_taped v_gone v_begin v_round v_leastFar v_leastWhere v_mostLed 0 v_at v_sort v_from v_value v_fault f_d g1 g2 x44 hc) mdX7_nextOf gX7_waysOf_X7_nextOf rfl rfl ⟨Nat.le_of_ble_eq_true rfl, Nat.le_of_ble_eq_true rfl⟩ [0, 1, 2, 3] [] [0, 1, 2, 3] rfl rfl rfl rfl rfl rfl rfl rfl rfl rfl hl.1 (Nat.le_of_ble_eq_true rfl) rfl dX7_waysOf_21 (fun H locs hV => ?_)
  refine lv_iload_n C.1 C.2.1 dX7_waysOf_24 rfl (lv_at hl 1 rfl) ?_
  refine g_icmp_ne (tgt := 32) C hF dX7_waysOf_25 rfl (fun hF => ?_) (fun hF => ?_)
  · refine lv_iconst (v := 0) C.1 C.2.1 dX7_waysOf_32 rfl ?_
    exact hret ((0, 0, f_d, g1, g2) : Int32 × Int32 × (Nat → Int32) × (Nat → Int32) × (Nat → Int32)) _ _ _ _ dX7_waysOf_33 hF hV
  refine lv_iconst (v := 1) C.1 C.2.1 dX7_waysOf_28 rfl ?_
  refine lv_goto (tgt := 33) C.1 C.2.1 dX7_waysOf_29 rfl ?_
  exact hret ((1, 0, f_d, g1, g2) : Int32 × Int32 × (Nat → Int32) × (Nat → Int32) × (Nat → Int32)) _ _ _ _ dX7_waysOf_33 hF hV
abbrev rmX7_moves : Room := { frames := 5, cells := 0, slots := 0, locals := 119 }
theorem mdX7_moves : gMd yX7_moves wsX7_moves cX7_moves 3 (some .int) 2 := ⟨⟨_, rfl⟩, by decide +kernel⟩
theorem ctX7_moves_136 : Cond.constantLong RX7 136 2 ∈ wsX7_moves := List.mem_cons_of_mem _ (List.mem_append_left _ (List.mem_append_left _ (List.mem_of_getElem? (i := 0) rfl)))
def F_X7_moves (n0 : Nat) (v_gone : Int32) (v_firstMove : Int32) (f_d : Nat → Int32) (f_found : Nat → Int32) (f_hears : Nat → Int32) (f_near : Nat → Int32) (p1 : Int32) (p2 : Int32) : Option (Int32 × Int32 × (Nat → Int32) × (Nat → Int32) × (Nat → Int32) × (Nat → Int32)) := bd1 (F_X7_areTents n0 f_d p1) (fun x1 => (if x1 = 0 then bd2 (F_X7_finds n0 f_found 0) (fun x2 g3 => some (x2, v_firstMove, f_d, g3, f_hears, f_near)) else nm (p2.toInt64) (fun x4 => bd1 (F_X7_in n0 x4 0 2) (fun x5 => (if x5 = 0 then bd2 (F_X7_finds n0 f_found 0) (fun x6 g7 => some (x6, v_firstMove, f_d, g7, f_hears, f_near)) else bd5 (F_X7_waysOf n0 v_gone v_firstMove f_d f_hears f_near p1 p2) (fun x8 x9 g10 g11 g12 => some (x8, x9, g10, f_found, g11, g12)))))))
set_option maxRecDepth 100000 in
set_option maxHeartbeats 4000000 in
theorem k_X7_moves (l : Launch) (dC : Nat → ClassId) (dI : Nat → Nat → Nat) (cI cB cO : ClassId) (n0 sz : Nat) (a_t : Nat) (a_d : Nat) (a_e : Nat) (a_kept : Nat) (a_found : Nat) (a_tape : Nat) (a_hears : Nat) (a_near : Nat) (a_firstDay : Nat) (a_daily : Nat) (a_heardNow : Nat) (a_bitsOf : Nat) (a_sizeOf : Nat) (a_number : Nat) (a_passing : Nat)   (v_isKept : Int32) (v_taped : Int32) (v_gone : Int32) (v_begin : Int32) (v_round : Int32) (v_leastFar : Int32) (v_leastWhere : Int32) (v_mostLed : Int32) (v_firstMove : Int32) (v_at : Int32) (v_sort : Int32) (v_from : Int32) (v_value : Int64) (v_fault : Int32) (f_d : Nat → Int32) (f_found : Nat → Int32) (f_hears : Nat → Int32) (f_near : Nat → Int32) (p1 : Int32) (p2 : Int32)  {ro : Int32} {o0 : Int32} {o1 : Nat → Int32} {o2 : Nat → Int32} {o3 : Nat → Int32} {o4 : Nat → Int32} (hF : F_X7_moves n0 v_gone v_firstMove f_d f_found f_hears f_near p1 p2 = some (ro, o0, o1, o2, o3, o4)) : Met l yX7_moves wsX7_moves rmX7_moves (va_Pc [.ref a_t, .int p1, .int p2] (gPre (dC, dI) (gT cI cB cO) sz [oX7 a_t a_d a_e a_kept v_isKept a_found a_tape v_taped v_gone a_hears a_near a_firstDay a_daily v_begin v_round v_leastFar v_leastWhere v_mostLed a_heardNow v_firstMove v_at v_sort v_from v_value v_fault a_bitsOf a_sizeOf a_number a_passing, aA cI a_d 40 f_d, aA cI a_found 7 f_found, aA cI a_hears 10 f_hears, aA cI a_near 10 f_near])) (gQi (dC, dI) (gT cI cB cO) sz [oX7 a_t a_d a_e a_kept v_isKept a_found a_tape v_taped v_gone a_hears a_near a_firstDay a_daily v_begin v_round v_leastFar v_leastWhere v_mostLed a_heardNow v_firstMove v_at v_sort v_from v_value v_fault a_bitsOf a_sizeOf a_number a_passing, aA cI a_d 40 f_d, aA cI a_found 7 f_found, aA cI a_hears 10 f_hears, aA cI a_near 10 f_near] ro [oX7 a_t a_d a_e a_kept v_isKept a_found a_tape v_taped v_gone a_hears a_near a_firstDay a_daily v_begin v_round v_leastFar v_leastWhere v_mostLed a_heardNow o0 v_at v_sort v_from v_value v_fault a_bitsOf a_sizeOf a_number a_passing, aA cI a_d 40 o1, aA cI a_found 7 o2, aA cI a_hears 10 o3, aA cI a_near 10 o4]) 0 0 (va_A [oX7 a_t a_d a_e a_kept v_isKept a_found a_tape v_taped v_gone a_hears a_near a_firstDay a_daily v_begin v_round v_leastFar v_leastWhere v_mostLed a_heardNow v_firstMove v_at v_sort v_from v_value v_fault a_bitsOf a_sizeOf a_number a_passing, aA cI a_d 40 f_d, aA cI a_found 7 f_found, aA cI a_hears 10 f_hears, aA cI a_near 10 f_near] sz) := by
  refine g_metI (Out := Int32 × Int32 × (Nat → Int32) × (Nat → Int32) × (Nat → Int32) × (Nat → Int32)) (fun oo => oo.1) (fun oo => [oX7 a_t a_d a_e a_kept v_isKept a_found a_tape v_taped v_gone a_hears a_near a_firstDay a_daily v_begin v_round v_leastFar v_leastWhere v_mostLed a_heardNow oo.2.1 v_at v_sort v_from v_value v_fault a_bitsOf a_sizeOf a_number a_passing, aA cI a_d 40 oo.2.2.1, aA cI a_found 7 oo.2.2.2.1, aA cI a_hears 10 oo.2.2.2.2.1, aA cI a_near 10 oo.2.2.2.2.2]) (ro, o0, o1, o2, o3, o4) (own := RX7) (lv := [(0, .ref a_t), (1, .int p1), (2, .int p2)]) (by decide) rfl rfl (Nat.le_of_ble_eq_true rfl) rfl ?_
  intro p e s m args below meth c Q ls C hret hV hl
  obtain ⟨out, hout⟩ : ∃ z : Int32 × Int32 × (Nat → Int32) × (Nat → Int32) × (Nat → Int32) × (Nat → Int32), z = (ro, o0, o1, o2, o3, o4) := ⟨_, rfl⟩
  rw [← hout] at hF hret
  obtain ⟨H0, hH0⟩ : ∃ z : Heap, z = s.heap := ⟨_, rfl⟩
  obtain ⟨A0, hA0⟩ : ∃ z : Nat → Prop, z = va_A [oX7 a_t a_d a_e a_kept v_isKept a_found a_tape v_taped v_gone a_hears a_near a_firstDay a_daily v_begin v_round v_leastFar v_leastWhere v_mostLed a_heardNow v_firstMove v_at v_sort v_from v_value v_fault a_bitsOf a_sizeOf a_number a_passing, aA cI a_d 40 f_d, aA cI a_found 7 f_found, aA cI a_hears 10 f_hears, aA cI a_near 10 f_near] s.heap.size := ⟨_, rfl⟩
  rw [← hA0] at hret hV
  rw [← hH0] at hret hV
  rw [← hH0]
  obtain ⟨H, locs, hH⟩ : ∃ (z : Heap) (y : List Loc), z = H0 ∧ y = [] := ⟨_, _, rfl, rfl⟩
  rw [← hH.1, ← hH.2]
  have hV : gV (dC, dI) (gT cI cB cO) A0 H0 s [oX7 a_t a_d a_e a_kept v_isKept a_found a_tape v_taped v_gone a_hears a_near a_firstDay a_daily v_begin v_round v_leastFar v_leastWhere v_mostLed a_heardNow v_firstMove v_at v_sort v_from v_value v_fault a_bitsOf a_sizeOf a_number a_passing, aA cI a_d 40 f_d, aA cI a_found 7 f_found, aA cI a_hears 10 f_hears, aA cI a_near 10 f_near] H locs := by rw [hH.1, hH.2]; exact hV
  unfold F_X7_moves at hF
  refine lv_aload_n C.1 C.2.1 dX7_moves_0 rfl (lv_at hl 0 rfl) ?_
  refine lv_iload_n C.1 C.2.1 dX7_moves_1 rfl (lv_at hl 1 rfl) ?_
  obtain ⟨x1, hc, hF⟩ := bd1_s hF
  refine g_cVi (ws' := [oX7 a_t a_d a_e a_kept v_isKept a_found a_tape v_taped v_gone a_hears a_near a_firstDay a_daily v_begin v_round v_leastFar v_leastWhere v_mostLed a_heardNow v_firstMove v_at v_sort v_from v_value v_fault a_bitsOf a_sizeOf a_number a_passing, aA cI a_d 40 f_d, aA cI a_found 7 f_found, aA cI a_hears 10 f_hears, aA cI a_near 10 f_near]) (wr := [aA cI a_found 7 f_found, aA cI a_hears 10 f_hears, aA cI a_near 10 f_near]) C hV (k_X7_areTents l dC dI cI cB cO n0 H.size a_t a_d a_e a_kept a_found a_tape a_hears a_near a_firstDay a_daily a_heardNow a_bitsOf a_sizeOf a_number a_passing v_isKept v_taped v_gone v_begin v_round v_leastFar v_leastWhere v_mostLed v_firstMove v_at v_sort v_from v_value v_fault f_d p1 hc) mdX7_areTents gX7_moves_X7_areTents rfl rfl ⟨Nat.le_of_ble_eq_true rfl, Nat.le_of_ble_eq_true rfl⟩ [0, 1] [2, 3, 4] [3, 4, 0, 1, 2] rfl rfl rfl rfl rfl rfl rfl rfl rfl rfl hl.1 (Nat.le_of_ble_eq_true rfl) rfl dX7_moves_2 (fun H locs hV => ?_)
  refine g_if_eq (tgt := 29) C hF dX7_moves_5 rfl (fun hF => ?_) (fun hF => ?_)
  · refine lv_aload_n C.1 C.2.1 dX7_moves_29 rfl (lv_at hl 0 rfl) ?_
    refine lv_iconst (v := 0) C.1 C.2.1 dX7_moves_30 rfl ?_
    obtain ⟨x2, g3, hc, hF⟩ := bd2_s hF
    refine g_cVi (ws' := [oX7 a_t a_d a_e a_kept v_isKept a_found a_tape v_taped v_gone a_hears a_near a_firstDay a_daily v_begin v_round v_leastFar v_leastWhere v_mostLed a_heardNow v_firstMove v_at v_sort v_from v_value v_fault a_bitsOf a_sizeOf a_number a_passing, aA cI a_d 40 f_d, aA cI a_found 7 g3, aA cI a_hears 10 f_hears, aA cI a_near 10 f_near]) (wr := [aA cI a_d 40 f_d, aA cI a_hears 10 f_hears, aA cI a_near 10 f_near]) C hV (k_X7_finds l dC dI cI cB cO n0 H.size a_t a_d a_e a_kept a_found a_tape a_hears a_near a_firstDay a_daily a_heardNow a_bitsOf a_sizeOf a_number a_passing v_isKept v_taped v_gone v_begin v_round v_leastFar v_leastWhere v_mostLed v_firstMove v_at v_sort v_from v_value v_fault f_found 0 hc) mdX7_finds gX7_moves_X7_finds rfl rfl ⟨Nat.le_of_ble_eq_true rfl, Nat.le_of_ble_eq_true rfl⟩ [0, 2] [1, 3, 4] [3, 0, 4, 1, 2] rfl rfl rfl rfl rfl rfl rfl rfl rfl rfl hl.1 (Nat.le_of_ble_eq_true rfl) rfl dX7_moves_31 (fun H locs hV => ?_)
    exact hret (x2, v_firstMove, f_d, g3, f_hears, f_near) _ _ _ _ dX7_moves_34 hF hV
  refine lv_iload_n C.1 C.2.1 dX7_moves_8 rfl (lv_at hl 2 rfl) ?_
  refine g_i2l C hF dX7_moves_9 (fun x4 hF => ?_)
  refine lv_lconst (v := 0) C.1 C.2.1 dX7_moves_10 rfl ?_
  refine lv_ldc2 (v := 2) C.1 C.2.1 C.2.2.2.1 (C.2.2.2.2 _ ctX7_moves_136) dX7_moves_11 ?_
  obtain ⟨x5, hc, hF⟩ := bd1_s hF
  refine g_cSi (ws' := [oX7 a_t a_d a_e a_kept v_isKept a_found a_tape v_taped v_gone a_hears a_near a_firstDay a_daily v_begin v_round v_leastFar v_leastWhere v_mostLed a_heardNow v_firstMove v_at v_sort v_from v_value v_fault a_bitsOf a_sizeOf a_number a_passing, aA cI a_d 40 f_d, aA cI a_found 7 f_found, aA cI a_hears 10 f_hears, aA cI a_near 10 f_near]) (wr := [oX7 a_t a_d a_e a_kept v_isKept a_found a_tape v_taped v_gone a_hears a_near a_firstDay a_daily v_begin v_round v_leastFar v_leastWhere v_mostLed a_heardNow v_firstMove v_at v_sort v_from v_value v_fault a_bitsOf a_sizeOf a_number a_passing, aA cI a_d 40 f_d, aA cI a_found 7 f_found, aA cI a_hears 10 f_hears, aA cI a_near 10 f_near]) C hV (k_X7_in l dC dI cI cB cO n0 H.size x4 0 2 hc) mdX7_in gX7_moves_X7_in rfl rfl ⟨Nat.le_of_ble_eq_true rfl, Nat.le_of_ble_eq_true rfl⟩ [] [0, 1, 2, 3, 4] [0, 1, 2, 3, 4] rfl rfl rfl rfl rfl rfl rfl rfl hl.1 (Nat.le_of_ble_eq_true rfl) rfl dX7_moves_14 (fun H locs hV => ?_)
  refine g_if_eq (tgt := 29) C hF dX7_moves_17 rfl (fun hF => ?_) (fun hF => ?_)
  · refine lv_aload_n C.1 C.2.1 dX7_moves_29 rfl (lv_at hl 0 rfl) ?_
    refine lv_iconst (v := 0) C.1 C.2.1 dX7_moves_30 rfl ?_
    obtain ⟨x6, g7, hc, hF⟩ := bd2_s hF
    refine g_cVi (ws' := [oX7 a_t a_d a_e a_kept v_isKept a_found a_tape v_taped v_gone a_hears a_near a_firstDay a_daily v_begin v_round v_leastFar v_leastWhere v_mostLed a_heardNow v_firstMove v_at v_sort v_from v_value v_fault a_bitsOf a_sizeOf a_number a_passing, aA cI a_d 40 f_d, aA cI a_found 7 g7, aA cI a_hears 10 f_hears, aA cI a_near 10 f_near]) (wr := [aA cI a_d 40 f_d, aA cI a_hears 10 f_hears, aA cI a_near 10 f_near]) C hV (k_X7_finds l dC dI cI cB cO n0 H.size a_t a_d a_e a_kept a_found a_tape a_hears a_near a_firstDay a_daily a_heardNow a_bitsOf a_sizeOf a_number a_passing v_isKept v_taped v_gone v_begin v_round v_leastFar v_leastWhere v_mostLed v_firstMove v_at v_sort v_from v_value v_fault f_found 0 hc) mdX7_finds gX7_moves_X7_finds rfl rfl ⟨Nat.le_of_ble_eq_true rfl, Nat.le_of_ble_eq_true rfl⟩ [0, 2] [1, 3, 4] [3, 0, 4, 1, 2] rfl rfl rfl rfl rfl rfl rfl rfl rfl rfl hl.1 (Nat.le_of_ble_eq_true rfl) rfl dX7_moves_31 (fun H locs hV => ?_)
    exact hret (x6, v_firstMove, f_d, g7, f_hears, f_near) _ _ _ _ dX7_moves_34 hF hV
  refine lv_aload_n C.1 C.2.1 dX7_moves_20 rfl (lv_at hl 0 rfl) ?_
  refine lv_iload_n C.1 C.2.1 dX7_moves_21 rfl (lv_at hl 1 rfl) ?_
  refine lv_iload_n C.1 C.2.1 dX7_moves_22 rfl (lv_at hl 2 rfl) ?_
  obtain ⟨x8, x9, g10, g11, g12, hc, hF⟩ := bd5_s hF
  refine g_cVi (ws' := [oX7 a_t a_d a_e a_kept v_isKept a_found a_tape v_taped v_gone a_hears a_near a_firstDay a_daily v_begin v_round v_leastFar v_leastWhere v_mostLed a_heardNow x9 v_at v_sort v_from v_value v_fault a_bitsOf a_sizeOf a_number a_passing, aA cI a_d 40 g10, aA cI a_found 7 f_found, aA cI a_hears 10 g11, aA cI a_near 10 g12]) (wr := [aA cI a_found 7 f_found]) C hV (k_X7_waysOf l dC dI cI cB cO n0 H.size a_t a_d a_e a_kept a_found a_tape a_hears a_near a_firstDay a_daily a_heardNow a_bitsOf a_sizeOf a_number a_passing v_isKept v_taped v_gone v_begin v_round v_leastFar v_leastWhere v_mostLed v_firstMove v_at v_sort v_from v_value v_fault f_d f_hears f_near p1 p2 hc) mdX7_waysOf gX7_moves_X7_waysOf rfl rfl ⟨Nat.le_of_ble_eq_true rfl, Nat.le_of_ble_eq_true rfl⟩ [0, 1, 3, 4] [2] [1, 2, 0, 3, 4] rfl rfl rfl rfl rfl rfl rfl rfl rfl rfl hl.1 (Nat.le_of_ble_eq_true rfl) rfl dX7_moves_23 (fun H locs hV => ?_)
  refine lv_goto (tgt := 34) C.1 C.2.1 dX7_moves_26 rfl ?_
  exact hret (x8, x9, g10, f_found, g11, g12) _ _ _ _ dX7_moves_34 hF hV
abbrev rmX7_moved : Room := { frames := 5, cells := 0, slots := 0, locals := 119 }
theorem mdX7_moved : gMd yX7_moved wsX7_moved cX7_moved 3 (some .int) 2 := ⟨⟨_, rfl⟩, by decide +kernel⟩
theorem ctX7_moved_136 : Cond.constantLong RX7 136 2 ∈ wsX7_moved := List.mem_cons_of_mem _ (List.mem_append_left _ (List.mem_append_left _ (List.mem_of_getElem? (i := 0) rfl)))
theorem flX7_moved_199 : gFL wsX7_moved RX7 199 7 18 RX7 TX7 28 := ⟨rfl, fun w h => List.mem_cons_of_mem _ (List.mem_append_right _ (h)), Nat.le_of_ble_eq_true rfl, List.mem_cons_of_mem _ (List.mem_append_left _ (List.mem_append_left _ (List.mem_of_getElem? (i := 1) rfl)))⟩
def F_X7_moved (n0 : Nat) (v_gone : Int32) (v_firstMove : Int32) (f_d : Nat → Int32) (f_found : Nat → Int32) (f_hears : Nat → Int32) (f_near : Nat → Int32) (p1 : Int32) (p2 : Int32) : Option (Int32 × Int32 × (Nat → Int32) × (Nat → Int32) × (Nat → Int32) × (Nat → Int32)) := bd1 (F_X7_areTents n0 f_d p1) (fun x1 => (if x1 = 0 then bd2 (F_X7_finds n0 f_found 0) (fun x2 g3 => some (x2, v_firstMove, f_d, g3, f_hears, f_near)) else nm (p2.toInt64) (fun x4 => bd1 (F_X7_in n0 x4 0 2) (fun x5 => (if x5 = 0 then bd2 (F_X7_finds n0 f_found 0) (fun x13 g14 => some (x13, v_firstMove, f_d, g14, f_hears, f_near)) else bd5 (F_X7_waysOf n0 v_gone v_firstMove f_d f_hears f_near p1 p2) (fun x6 x7 g8 g9 g10 => (if x6 = 0 then bd2 (F_X7_finds n0 f_found 3) (fun x11 g12 => some (x11, x7, g8, g12, g9, g10)) else some (x7, x7, g8, f_found, g9, g10))))))))
set_option maxRecDepth 100000 in
set_option maxHeartbeats 4000000 in
theorem k_X7_moved (l : Launch) (dC : Nat → ClassId) (dI : Nat → Nat → Nat) (cI cB cO : ClassId) (n0 sz : Nat) (a_t : Nat) (a_d : Nat) (a_e : Nat) (a_kept : Nat) (a_found : Nat) (a_tape : Nat) (a_hears : Nat) (a_near : Nat) (a_firstDay : Nat) (a_daily : Nat) (a_heardNow : Nat) (a_bitsOf : Nat) (a_sizeOf : Nat) (a_number : Nat) (a_passing : Nat)   (v_isKept : Int32) (v_taped : Int32) (v_gone : Int32) (v_begin : Int32) (v_round : Int32) (v_leastFar : Int32) (v_leastWhere : Int32) (v_mostLed : Int32) (v_firstMove : Int32) (v_at : Int32) (v_sort : Int32) (v_from : Int32) (v_value : Int64) (v_fault : Int32) (f_d : Nat → Int32) (f_found : Nat → Int32) (f_hears : Nat → Int32) (f_near : Nat → Int32) (p1 : Int32) (p2 : Int32)  {ro : Int32} {o0 : Int32} {o1 : Nat → Int32} {o2 : Nat → Int32} {o3 : Nat → Int32} {o4 : Nat → Int32} (hF : F_X7_moved n0 v_gone v_firstMove f_d f_found f_hears f_near p1 p2 = some (ro, o0, o1, o2, o3, o4)) : Met l yX7_moved wsX7_moved rmX7_moved (va_Pc [.ref a_t, .int p1, .int p2] (gPre (dC, dI) (gT cI cB cO) sz [oX7 a_t a_d a_e a_kept v_isKept a_found a_tape v_taped v_gone a_hears a_near a_firstDay a_daily v_begin v_round v_leastFar v_leastWhere v_mostLed a_heardNow v_firstMove v_at v_sort v_from v_value v_fault a_bitsOf a_sizeOf a_number a_passing, aA cI a_d 40 f_d, aA cI a_found 7 f_found, aA cI a_hears 10 f_hears, aA cI a_near 10 f_near])) (gQi (dC, dI) (gT cI cB cO) sz [oX7 a_t a_d a_e a_kept v_isKept a_found a_tape v_taped v_gone a_hears a_near a_firstDay a_daily v_begin v_round v_leastFar v_leastWhere v_mostLed a_heardNow v_firstMove v_at v_sort v_from v_value v_fault a_bitsOf a_sizeOf a_number a_passing, aA cI a_d 40 f_d, aA cI a_found 7 f_found, aA cI a_hears 10 f_hears, aA cI a_near 10 f_near] ro [oX7 a_t a_d a_e a_kept v_isKept a_found a_tape v_taped v_gone a_hears a_near a_firstDay a_daily v_begin v_round v_leastFar v_leastWhere v_mostLed a_heardNow o0 v_at v_sort v_from v_value v_fault a_bitsOf a_sizeOf a_number a_passing, aA cI a_d 40 o1, aA cI a_found 7 o2, aA cI a_hears 10 o3, aA cI a_near 10 o4]) 0 0 (va_A [oX7 a_t a_d a_e a_kept v_isKept a_found a_tape v_taped v_gone a_hears a_near a_firstDay a_daily v_begin v_round v_leastFar v_leastWhere v_mostLed a_heardNow v_firstMove v_at v_sort v_from v_value v_fault a_bitsOf a_sizeOf a_number a_passing, aA cI a_d 40 f_d, aA cI a_found 7 f_found, aA cI a_hears 10 f_hears, aA cI a_near 10 f_near] sz) := by
  refine g_metI (Out := Int32 × Int32 × (Nat → Int32) × (Nat → Int32) × (Nat → Int32) × (Nat → Int32)) (fun oo => oo.1) (fun oo => [oX7 a_t a_d a_e a_kept v_isKept a_found a_tape v_taped v_gone a_hears a_near a_firstDay a_daily v_begin v_round v_leastFar v_leastWhere v_mostLed a_heardNow oo.2.1 v_at v_sort v_from v_value v_fault a_bitsOf a_sizeOf a_number a_passing, aA cI a_d 40 oo.2.2.1, aA cI a_found 7 oo.2.2.2.1, aA cI a_hears 10 oo.2.2.2.2.1, aA cI a_near 10 oo.2.2.2.2.2]) (ro, o0, o1, o2, o3, o4) (own := RX7) (lv := [(0, .ref a_t), (1, .int p1), (2, .int p2)]) (by decide) rfl rfl (Nat.le_of_ble_eq_true rfl) rfl ?_
  intro p e s m args below meth c Q ls C hret hV hl
  obtain ⟨out, hout⟩ : ∃ z : Int32 × Int32 × (Nat → Int32) × (Nat → Int32) × (Nat → Int32) × (Nat → Int32), z = (ro, o0, o1, o2, o3, o4) := ⟨_, rfl⟩
  rw [← hout] at hF hret
  obtain ⟨H0, hH0⟩ : ∃ z : Heap, z = s.heap := ⟨_, rfl⟩
  obtain ⟨A0, hA0⟩ : ∃ z : Nat → Prop, z = va_A [oX7 a_t a_d a_e a_kept v_isKept a_found a_tape v_taped v_gone a_hears a_near a_firstDay a_daily v_begin v_round v_leastFar v_leastWhere v_mostLed a_heardNow v_firstMove v_at v_sort v_from v_value v_fault a_bitsOf a_sizeOf a_number a_passing, aA cI a_d 40 f_d, aA cI a_found 7 f_found, aA cI a_hears 10 f_hears, aA cI a_near 10 f_near] s.heap.size := ⟨_, rfl⟩
  rw [← hA0] at hret hV
  rw [← hH0] at hret hV
  rw [← hH0]
  obtain ⟨H, locs, hH⟩ : ∃ (z : Heap) (y : List Loc), z = H0 ∧ y = [] := ⟨_, _, rfl, rfl⟩
  rw [← hH.1, ← hH.2]
  have hV : gV (dC, dI) (gT cI cB cO) A0 H0 s [oX7 a_t a_d a_e a_kept v_isKept a_found a_tape v_taped v_gone a_hears a_near a_firstDay a_daily v_begin v_round v_leastFar v_leastWhere v_mostLed a_heardNow v_firstMove v_at v_sort v_from v_value v_fault a_bitsOf a_sizeOf a_number a_passing, aA cI a_d 40 f_d, aA cI a_found 7 f_found, aA cI a_hears 10 f_hears, aA cI a_near 10 f_near] H locs := by rw [hH.1, hH.2]; exact hV
  unfold F_X7_moved at hF
  refine lv_aload_n C.1 C.2.1 dX7_moved_0 rfl (lv_at hl 0 rfl) ?_
  refine lv_iload_n C.1 C.2.1 dX7_moved_1 rfl (lv_at hl 1 rfl) ?_
  obtain ⟨x1, hc, hF⟩ := bd1_s hF
  refine g_cVi (ws' := [oX7 a_t a_d a_e a_kept v_isKept a_found a_tape v_taped v_gone a_hears a_near a_firstDay a_daily v_begin v_round v_leastFar v_leastWhere v_mostLed a_heardNow v_firstMove v_at v_sort v_from v_value v_fault a_bitsOf a_sizeOf a_number a_passing, aA cI a_d 40 f_d, aA cI a_found 7 f_found, aA cI a_hears 10 f_hears, aA cI a_near 10 f_near]) (wr := [aA cI a_found 7 f_found, aA cI a_hears 10 f_hears, aA cI a_near 10 f_near]) C hV (k_X7_areTents l dC dI cI cB cO n0 H.size a_t a_d a_e a_kept a_found a_tape a_hears a_near a_firstDay a_daily a_heardNow a_bitsOf a_sizeOf a_number a_passing v_isKept v_taped v_gone v_begin v_round v_leastFar v_leastWhere v_mostLed v_firstMove v_at v_sort v_from v_value v_fault f_d p1 hc) mdX7_areTents gX7_moved_X7_areTents rfl rfl ⟨Nat.le_of_ble_eq_true rfl, Nat.le_of_ble_eq_true rfl⟩ [0, 1] [2, 3, 4] [3, 4, 0, 1, 2] rfl rfl rfl rfl rfl rfl rfl rfl rfl rfl hl.1 (Nat.le_of_ble_eq_true rfl) rfl dX7_moved_2 (fun H locs hV => ?_)
  refine g_if_eq (tgt := 20) C hF dX7_moved_5 rfl (fun hF => ?_) (fun hF => ?_)
  · refine lv_aload_n C.1 C.2.1 dX7_moved_20 rfl (lv_at hl 0 rfl) ?_
    refine lv_iconst (v := 0) C.1 C.2.1 dX7_moved_21 rfl ?_
    obtain ⟨x2, g3, hc, hF⟩ := bd2_s hF
    refine g_cVi (ws' := [oX7 a_t a_d a_e a_kept v_isKept a_found a_tape v_taped v_gone a_hears a_near a_firstDay a_daily v_begin v_round v_leastFar v_leastWhere v_mostLed a_heardNow v_firstMove v_at v_sort v_from v_value v_fault a_bitsOf a_sizeOf a_number a_passing, aA cI a_d 40 f_d, aA cI a_found 7 g3, aA cI a_hears 10 f_hears, aA cI a_near 10 f_near]) (wr := [aA cI a_d 40 f_d, aA cI a_hears 10 f_hears, aA cI a_near 10 f_near]) C hV (k_X7_finds l dC dI cI cB cO n0 H.size a_t a_d a_e a_kept a_found a_tape a_hears a_near a_firstDay a_daily a_heardNow a_bitsOf a_sizeOf a_number a_passing v_isKept v_taped v_gone v_begin v_round v_leastFar v_leastWhere v_mostLed v_firstMove v_at v_sort v_from v_value v_fault f_found 0 hc) mdX7_finds gX7_moved_X7_finds rfl rfl ⟨Nat.le_of_ble_eq_true rfl, Nat.le_of_ble_eq_true rfl⟩ [0, 2] [1, 3, 4] [3, 0, 4, 1, 2] rfl rfl rfl rfl rfl rfl rfl rfl rfl rfl hl.1 (Nat.le_of_ble_eq_true rfl) rfl dX7_moved_22 (fun H locs hV => ?_)
    exact hret (x2, v_firstMove, f_d, g3, f_hears, f_near) _ _ _ _ dX7_moved_25 hF hV
  refine lv_iload_n C.1 C.2.1 dX7_moved_8 rfl (lv_at hl 2 rfl) ?_
  refine g_i2l C hF dX7_moved_9 (fun x4 hF => ?_)
  refine lv_lconst (v := 0) C.1 C.2.1 dX7_moved_10 rfl ?_
  refine lv_ldc2 (v := 2) C.1 C.2.1 C.2.2.2.1 (C.2.2.2.2 _ ctX7_moved_136) dX7_moved_11 ?_
  obtain ⟨x5, hc, hF⟩ := bd1_s hF
  refine g_cSi (ws' := [oX7 a_t a_d a_e a_kept v_isKept a_found a_tape v_taped v_gone a_hears a_near a_firstDay a_daily v_begin v_round v_leastFar v_leastWhere v_mostLed a_heardNow v_firstMove v_at v_sort v_from v_value v_fault a_bitsOf a_sizeOf a_number a_passing, aA cI a_d 40 f_d, aA cI a_found 7 f_found, aA cI a_hears 10 f_hears, aA cI a_near 10 f_near]) (wr := [oX7 a_t a_d a_e a_kept v_isKept a_found a_tape v_taped v_gone a_hears a_near a_firstDay a_daily v_begin v_round v_leastFar v_leastWhere v_mostLed a_heardNow v_firstMove v_at v_sort v_from v_value v_fault a_bitsOf a_sizeOf a_number a_passing, aA cI a_d 40 f_d, aA cI a_found 7 f_found, aA cI a_hears 10 f_hears, aA cI a_near 10 f_near]) C hV (k_X7_in l dC dI cI cB cO n0 H.size x4 0 2 hc) mdX7_in gX7_moved_X7_in rfl rfl ⟨Nat.le_of_ble_eq_true rfl, Nat.le_of_ble_eq_true rfl⟩ [] [0, 1, 2, 3, 4] [0, 1, 2, 3, 4] rfl rfl rfl rfl rfl rfl rfl rfl hl.1 (Nat.le_of_ble_eq_true rfl) rfl dX7_moved_14 (fun H locs hV => ?_)
  refine g_if_ne (tgt := 26) C hF dX7_moved_17 rfl (fun hF => ?_) (fun hF => ?_)
  · refine lv_aload_n C.1 C.2.1 dX7_moved_26 rfl (lv_at hl 0 rfl) ?_
    refine lv_iload_n C.1 C.2.1 dX7_moved_27 rfl (lv_at hl 1 rfl) ?_
    refine lv_iload_n C.1 C.2.1 dX7_moved_28 rfl (lv_at hl 2 rfl) ?_
    obtain ⟨x6, x7, g8, g9, g10, hc, hF⟩ := bd5_s hF
    refine g_cVi (ws' := [oX7 a_t a_d a_e a_kept v_isKept a_found a_tape v_taped v_gone a_hears a_near a_firstDay a_daily v_begin v_round v_leastFar v_leastWhere v_mostLed a_heardNow x7 v_at v_sort v_from v_value v_fault a_bitsOf a_sizeOf a_number a_passing, aA cI a_d 40 g8, aA cI a_found 7 f_found, aA cI a_hears 10 g9, aA cI a_near 10 g10]) (wr := [aA cI a_found 7 f_found]) C hV (k_X7_waysOf l dC dI cI cB cO n0 H.size a_t a_d a_e a_kept a_found a_tape a_hears a_near a_firstDay a_daily a_heardNow a_bitsOf a_sizeOf a_number a_passing v_isKept v_taped v_gone v_begin v_round v_leastFar v_leastWhere v_mostLed v_firstMove v_at v_sort v_from v_value v_fault f_d f_hears f_near p1 p2 hc) mdX7_waysOf gX7_moved_X7_waysOf rfl rfl ⟨Nat.le_of_ble_eq_true rfl, Nat.le_of_ble_eq_true rfl⟩ [0, 1, 3, 4] [2] [1, 2, 0, 3, 4] rfl rfl rfl rfl rfl rfl rfl rfl rfl rfl hl.1 (Nat.le_of_ble_eq_true rfl) rfl dX7_moved_29 (fun H locs hV => ?_)
    refine g_if_ne (tgt := 43) C hF dX7_moved_32 rfl (fun hF => ?_) (fun hF => ?_)
    · refine lv_aload_n C.1 C.2.1 dX7_moved_43 rfl (lv_at hl 0 rfl) ?_
      refine g_get C hV flX7_moved_199 0 rfl rfl dX7_moved_44 ?_
      exact hret (x7, x7, g8, f_found, g9, g10) _ _ _ _ dX7_moved_47 hF hV
    refine lv_aload_n C.1 C.2.1 dX7_moved_35 rfl (lv_at hl 0 rfl) ?_
    refine lv_iconst (v := 3) C.1 C.2.1 dX7_moved_36 rfl ?_
    obtain ⟨x11, g12, hc, hF⟩ := bd2_s hF
    refine g_cVi (ws' := [oX7 a_t a_d a_e a_kept v_isKept a_found a_tape v_taped v_gone a_hears a_near a_firstDay a_daily v_begin v_round v_leastFar v_leastWhere v_mostLed a_heardNow x7 v_at v_sort v_from v_value v_fault a_bitsOf a_sizeOf a_number a_passing, aA cI a_d 40 g8, aA cI a_found 7 g12, aA cI a_hears 10 g9, aA cI a_near 10 g10]) (wr := [aA cI a_d 40 g8, aA cI a_hears 10 g9, aA cI a_near 10 g10]) C hV (k_X7_finds l dC dI cI cB cO n0 H.size a_t a_d a_e a_kept a_found a_tape a_hears a_near a_firstDay a_daily a_heardNow a_bitsOf a_sizeOf a_number a_passing v_isKept v_taped v_gone v_begin v_round v_leastFar v_leastWhere v_mostLed x7 v_at v_sort v_from v_value v_fault f_found 3 hc) mdX7_finds gX7_moved_X7_finds rfl rfl ⟨Nat.le_of_ble_eq_true rfl, Nat.le_of_ble_eq_true rfl⟩ [0, 2] [1, 3, 4] [3, 0, 4, 1, 2] rfl rfl rfl rfl rfl rfl rfl rfl rfl rfl hl.1 (Nat.le_of_ble_eq_true rfl) rfl dX7_moved_37 (fun H locs hV => ?_)
    refine lv_goto (tgt := 47) C.1 C.2.1 dX7_moved_40 rfl ?_
    exact hret (x11, x7, g8, g12, g9, g10) _ _ _ _ dX7_moved_47 hF hV
  refine lv_aload_n C.1 C.2.1 dX7_moved_20 rfl (lv_at hl 0 rfl) ?_
  refine lv_iconst (v := 0) C.1 C.2.1 dX7_moved_21 rfl ?_
  obtain ⟨x13, g14, hc, hF⟩ := bd2_s hF
  refine g_cVi (ws' := [oX7 a_t a_d a_e a_kept v_isKept a_found a_tape v_taped v_gone a_hears a_near a_firstDay a_daily v_begin v_round v_leastFar v_leastWhere v_mostLed a_heardNow v_firstMove v_at v_sort v_from v_value v_fault a_bitsOf a_sizeOf a_number a_passing, aA cI a_d 40 f_d, aA cI a_found 7 g14, aA cI a_hears 10 f_hears, aA cI a_near 10 f_near]) (wr := [aA cI a_d 40 f_d, aA cI a_hears 10 f_hears, aA cI a_near 10 f_near]) C hV (k_X7_finds l dC dI cI cB cO n0 H.size a_t a_d a_e a_kept a_found a_tape a_hears a_near a_firstDay a_daily a_heardNow a_bitsOf a_sizeOf a_number a_passing v_isKept v_taped v_gone v_begin v_round v_leastFar v_leastWhere v_mostLed v_firstMove v_at v_sort v_from v_value v_fault f_found 0 hc) mdX7_finds gX7_moved_X7_finds rfl rfl ⟨Nat.le_of_ble_eq_true rfl, Nat.le_of_ble_eq_true rfl⟩ [0, 2] [1, 3, 4] [3, 0, 4, 1, 2] rfl rfl rfl rfl rfl rfl rfl rfl rfl rfl hl.1 (Nat.le_of_ble_eq_true rfl) rfl dX7_moved_22 (fun H locs hV => ?_)
  exact hret (x13, v_firstMove, f_d, g14, f_hears, f_near) _ _ _ _ dX7_moved_25 hF hV
abbrev rmX7_drawn : Room := { frames := 0, cells := 0, slots := 0, locals := 0 }
theorem mdX7_drawn : gMd yX7_drawn wsX7_drawn cX7_drawn 1 (some .int) 0 := ⟨⟨_, rfl⟩, by decide +kernel⟩
theorem flX7_drawn_7 : gFL wsX7_drawn RX7 7 7 0 RX7 TX7 28 := ⟨rfl, fun w h => List.mem_cons_of_mem _ (List.mem_append_right _ (h)), Nat.le_of_ble_eq_true rfl, List.mem_cons_of_mem _ (List.mem_append_left _ (List.mem_of_getElem? (i := 0) rfl))⟩
theorem ctX7_drawn_205 : Cond.constant RX7 205 1103515245 ∈ wsX7_drawn := List.mem_cons_of_mem _ (List.mem_append_left _ (List.mem_of_getElem? (i := 1) rfl))
def F_X7_drawn (n0 : Nat) (f_d : Nat → Int32) : Option (Int32 × (Nat → Int32)) := rd f_d 40 2 (fun x1 => nm (x1 * 1103515245) (fun x2 => nm (x2 + 12345) (fun x3 => wrt f_d 40 2 x3 (fun g4 => rd g4 40 2 (fun x5 => nm ((Int32.toUInt32 x5 >>> (Int32.toUInt32 8 &&& Int32.toUInt32 31)).toInt32) (fun x6 => some (x6, g4)))))))
set_option maxRecDepth 100000 in
set_option maxHeartbeats 4000000 in
theorem k_X7_drawn (l : Launch) (dC : Nat → ClassId) (dI : Nat → Nat → Nat) (cI cB cO : ClassId) (n0 sz : Nat) (a_t : Nat) (a_d : Nat) (a_e : Nat) (a_kept : Nat) (a_found : Nat) (a_tape : Nat) (a_hears : Nat) (a_near : Nat) (a_firstDay : Nat) (a_daily : Nat) (a_heardNow : Nat) (a_bitsOf : Nat) (a_sizeOf : Nat) (a_number : Nat) (a_passing : Nat)   (v_isKept : Int32) (v_taped : Int32) (v_gone : Int32) (v_begin : Int32) (v_round : Int32) (v_leastFar : Int32) (v_leastWhere : Int32) (v_mostLed : Int32) (v_firstMove : Int32) (v_at : Int32) (v_sort : Int32) (v_from : Int32) (v_value : Int64) (v_fault : Int32) (f_d : Nat → Int32)   {ro : Int32} {o0 : Nat → Int32} (hF : F_X7_drawn n0 f_d = some (ro, o0)) : Met l yX7_drawn wsX7_drawn rmX7_drawn (va_Pc [.ref a_t] (gPre (dC, dI) (gT cI cB cO) sz [oX7 a_t a_d a_e a_kept v_isKept a_found a_tape v_taped v_gone a_hears a_near a_firstDay a_daily v_begin v_round v_leastFar v_leastWhere v_mostLed a_heardNow v_firstMove v_at v_sort v_from v_value v_fault a_bitsOf a_sizeOf a_number a_passing, aA cI a_d 40 f_d])) (gQi (dC, dI) (gT cI cB cO) sz [oX7 a_t a_d a_e a_kept v_isKept a_found a_tape v_taped v_gone a_hears a_near a_firstDay a_daily v_begin v_round v_leastFar v_leastWhere v_mostLed a_heardNow v_firstMove v_at v_sort v_from v_value v_fault a_bitsOf a_sizeOf a_number a_passing, aA cI a_d 40 f_d] ro [oX7 a_t a_d a_e a_kept v_isKept a_found a_tape v_taped v_gone a_hears a_near a_firstDay a_daily v_begin v_round v_leastFar v_leastWhere v_mostLed a_heardNow v_firstMove v_at v_sort v_from v_value v_fault a_bitsOf a_sizeOf a_number a_passing, aA cI a_d 40 o0]) 0 0 (va_A [oX7 a_t a_d a_e a_kept v_isKept a_found a_tape v_taped v_gone a_hears a_near a_firstDay a_daily v_begin v_round v_leastFar v_leastWhere v_mostLed a_heardNow v_firstMove v_at v_sort v_from v_value v_fault a_bitsOf a_sizeOf a_number a_passing, aA cI a_d 40 f_d] sz) := by
  refine g_metI (Out := Int32 × (Nat → Int32)) (fun oo => oo.1) (fun oo => [oX7 a_t a_d a_e a_kept v_isKept a_found a_tape v_taped v_gone a_hears a_near a_firstDay a_daily v_begin v_round v_leastFar v_leastWhere v_mostLed a_heardNow v_firstMove v_at v_sort v_from v_value v_fault a_bitsOf a_sizeOf a_number a_passing, aA cI a_d 40 oo.2]) (ro, o0) (own := RX7) (lv := [(0, .ref a_t)]) (by decide) rfl rfl (Nat.le_of_ble_eq_true rfl) rfl ?_
  intro p e s m args below meth c Q ls C hret hV hl
  obtain ⟨out, hout⟩ : ∃ z : Int32 × (Nat → Int32), z = (ro, o0) := ⟨_, rfl⟩
  rw [← hout] at hF hret
  obtain ⟨H0, hH0⟩ : ∃ z : Heap, z = s.heap := ⟨_, rfl⟩
  obtain ⟨A0, hA0⟩ : ∃ z : Nat → Prop, z = va_A [oX7 a_t a_d a_e a_kept v_isKept a_found a_tape v_taped v_gone a_hears a_near a_firstDay a_daily v_begin v_round v_leastFar v_leastWhere v_mostLed a_heardNow v_firstMove v_at v_sort v_from v_value v_fault a_bitsOf a_sizeOf a_number a_passing, aA cI a_d 40 f_d] s.heap.size := ⟨_, rfl⟩
  rw [← hA0] at hret hV
  rw [← hH0] at hret hV
  rw [← hH0]
  obtain ⟨H, locs, hH⟩ : ∃ (z : Heap) (y : List Loc), z = H0 ∧ y = [] := ⟨_, _, rfl, rfl⟩
  rw [← hH.1, ← hH.2]
  have hV : gV (dC, dI) (gT cI cB cO) A0 H0 s [oX7 a_t a_d a_e a_kept v_isKept a_found a_tape v_taped v_gone a_hears a_near a_firstDay a_daily v_begin v_round v_leastFar v_leastWhere v_mostLed a_heardNow v_firstMove v_at v_sort v_from v_value v_fault a_bitsOf a_sizeOf a_number a_passing, aA cI a_d 40 f_d] H locs := by rw [hH.1, hH.2]; exact hV
  unfold F_X7_drawn at hF
  refine lv_aload_n C.1 C.2.1 dX7_drawn_0 rfl (lv_at hl 0 rfl) ?_
  refine g_get C hV flX7_drawn_7 0 rfl rfl dX7_drawn_1 ?_
  refine lv_iconst (v := 2) C.1 C.2.1 dX7_drawn_4 rfl ?_
  refine lv_aload_n C.1 C.2.1 dX7_drawn_5 rfl (lv_at hl 0 rfl) ?_
  refine g_get C hV flX7_drawn_7 0 rfl rfl dX7_drawn_6 ?_
  refine lv_iconst (v := 2) C.1 C.2.1 dX7_drawn_9 rfl ?_
  refine g_iald C hV 1 rfl hF dX7_drawn_10 (fun x1 hF => ?_)
  refine lv_ldc (v := 1103515245) C.1 C.2.1 C.2.2.2.1 (C.2.2.2.2 _ ctX7_drawn_205) dX7_drawn_11 ?_
  refine g_imul C hF dX7_drawn_13 (fun x2 hF => ?_)
  refine lv_sipush (v := 12345) C.1 C.2.1 dX7_drawn_14 rfl ?_
  refine g_iadd C hF dX7_drawn_17 (fun x3 hF => ?_)
  refine g_iast C hV 1 rfl hF (fun gq => [oX7 a_t a_d a_e a_kept v_isKept a_found a_tape v_taped v_gone a_hears a_near a_firstDay a_daily v_begin v_round v_leastFar v_leastWhere v_mostLed a_heardNow v_firstMove v_at v_sort v_from v_value v_fault a_bitsOf a_sizeOf a_number a_passing, aA cI a_d 40 gq]) (fun _ => rfl) dX7_drawn_18 (fun g4 H locs hF hV => ?_)
  refine lv_aload_n C.1 C.2.1 dX7_drawn_19 rfl (lv_at hl 0 rfl) ?_
  refine g_get C hV flX7_drawn_7 0 rfl rfl dX7_drawn_20 ?_
  refine lv_iconst (v := 2) C.1 C.2.1 dX7_drawn_23 rfl ?_
  refine g_iald C hV 1 rfl hF dX7_drawn_24 (fun x5 hF => ?_)
  refine lv_bipush (v := 8) C.1 C.2.1 dX7_drawn_25 rfl ?_
  refine g_iushr C hF dX7_drawn_27 (fun x6 hF => ?_)
  exact hret (x6, g4) _ _ _ _ dX7_drawn_28 hF hV
abbrev rmX7_goes : Room := { frames := 2, cells := 0, slots := 0, locals := 43 }
theorem mdX7_goes : gMd yX7_goes wsX7_goes cX7_goes 3 none 2 := ⟨⟨_, rfl⟩, by decide +kernel⟩
theorem flX7_goes_7 : gFL wsX7_goes RX7 7 7 0 RX7 TX7 28 := ⟨rfl, fun w h => List.mem_cons_of_mem _ (List.mem_append_right _ (h)), Nat.le_of_ble_eq_true rfl, List.mem_cons_of_mem _ (List.mem_append_left _ (List.mem_of_getElem? (i := 0) rfl))⟩
def F_X7_goes (n0 : Nat) (f_d : Nat → Int32) (p1 : Int32) (p2 : Int32) : Option ((Nat → Int32)) := nm (20 + p1) (fun x1 => bd1 (F_X7_whoIs n0 f_d p2) (fun x2 => (if x2 = ((-1)) then wrt f_d 40 x1 p2 (fun g6 => some g6) else nm (20 + p1) (fun x3 => rd f_d 40 x3 (fun x4 => wrt f_d 40 x1 x4 (fun g5 => some g5))))))
set_option maxRecDepth 100000 in
set_option maxHeartbeats 4000000 in
theorem k_X7_goes (l : Launch) (dC : Nat → ClassId) (dI : Nat → Nat → Nat) (cI cB cO : ClassId) (n0 sz : Nat) (a_t : Nat) (a_d : Nat) (a_e : Nat) (a_kept : Nat) (a_found : Nat) (a_tape : Nat) (a_hears : Nat) (a_near : Nat) (a_firstDay : Nat) (a_daily : Nat) (a_heardNow : Nat) (a_bitsOf : Nat) (a_sizeOf : Nat) (a_number : Nat) (a_passing : Nat)   (v_isKept : Int32) (v_taped : Int32) (v_gone : Int32) (v_begin : Int32) (v_round : Int32) (v_leastFar : Int32) (v_leastWhere : Int32) (v_mostLed : Int32) (v_firstMove : Int32) (v_at : Int32) (v_sort : Int32) (v_from : Int32) (v_value : Int64) (v_fault : Int32) (f_d : Nat → Int32) (p1 : Int32) (p2 : Int32)  {o0 : Nat → Int32} (hF : F_X7_goes n0 f_d p1 p2 = some o0) : Met l yX7_goes wsX7_goes rmX7_goes (va_Pc [.ref a_t, .int p1, .int p2] (gPre (dC, dI) (gT cI cB cO) sz [oX7 a_t a_d a_e a_kept v_isKept a_found a_tape v_taped v_gone a_hears a_near a_firstDay a_daily v_begin v_round v_leastFar v_leastWhere v_mostLed a_heardNow v_firstMove v_at v_sort v_from v_value v_fault a_bitsOf a_sizeOf a_number a_passing, aA cI a_d 40 f_d])) (gQv (dC, dI) (gT cI cB cO) sz [oX7 a_t a_d a_e a_kept v_isKept a_found a_tape v_taped v_gone a_hears a_near a_firstDay a_daily v_begin v_round v_leastFar v_leastWhere v_mostLed a_heardNow v_firstMove v_at v_sort v_from v_value v_fault a_bitsOf a_sizeOf a_number a_passing, aA cI a_d 40 f_d] [oX7 a_t a_d a_e a_kept v_isKept a_found a_tape v_taped v_gone a_hears a_near a_firstDay a_daily v_begin v_round v_leastFar v_leastWhere v_mostLed a_heardNow v_firstMove v_at v_sort v_from v_value v_fault a_bitsOf a_sizeOf a_number a_passing, aA cI a_d 40 o0]) 0 0 (va_A [oX7 a_t a_d a_e a_kept v_isKept a_found a_tape v_taped v_gone a_hears a_near a_firstDay a_daily v_begin v_round v_leastFar v_leastWhere v_mostLed a_heardNow v_firstMove v_at v_sort v_from v_value v_fault a_bitsOf a_sizeOf a_number a_passing, aA cI a_d 40 f_d] sz) := by
  refine g_metV (Out := (Nat → Int32)) (fun oo => [oX7 a_t a_d a_e a_kept v_isKept a_found a_tape v_taped v_gone a_hears a_near a_firstDay a_daily v_begin v_round v_leastFar v_leastWhere v_mostLed a_heardNow v_firstMove v_at v_sort v_from v_value v_fault a_bitsOf a_sizeOf a_number a_passing, aA cI a_d 40 oo]) o0 (own := RX7) (lv := [(0, .ref a_t), (1, .int p1), (2, .int p2)]) (by decide) rfl rfl (Nat.le_of_ble_eq_true rfl) rfl ?_
  intro p e s m args below meth c Q ls C hret hV hl
  obtain ⟨out, hout⟩ : ∃ z : (Nat → Int32), z = o0 := ⟨_, rfl⟩
  rw [← hout] at hF hret
  obtain ⟨H0, hH0⟩ : ∃ z : Heap, z = s.heap := ⟨_, rfl⟩
  obtain ⟨A0, hA0⟩ : ∃ z : Nat → Prop, z = va_A [oX7 a_t a_d a_e a_kept v_isKept a_found a_tape v_taped v_gone a_hears a_near a_firstDay a_daily v_begin v_round v_leastFar v_leastWhere v_mostLed a_heardNow v_firstMove v_at v_sort v_from v_value v_fault a_bitsOf a_sizeOf a_number a_passing, aA cI a_d 40 f_d] s.heap.size := ⟨_, rfl⟩
  rw [← hA0] at hret hV
  rw [← hH0] at hret hV
  rw [← hH0]
  obtain ⟨H, locs, hH⟩ : ∃ (z : Heap) (y : List Loc), z = H0 ∧ y = [] := ⟨_, _, rfl, rfl⟩
  rw [← hH.1, ← hH.2]
  have hV : gV (dC, dI) (gT cI cB cO) A0 H0 s [oX7 a_t a_d a_e a_kept v_isKept a_found a_tape v_taped v_gone a_hears a_near a_firstDay a_daily v_begin v_round v_leastFar v_leastWhere v_mostLed a_heardNow v_firstMove v_at v_sort v_from v_value v_fault a_bitsOf a_sizeOf a_number a_passing, aA cI a_d 40 f_d] H locs := by rw [hH.1, hH.2]; exact hV
  unfold F_X7_goes at hF
  refine lv_aload_n C.1 C.2.1 dX7_goes_0 rfl (lv_at hl 0 rfl) ?_
  refine g_get C hV flX7_goes_7 0 rfl rfl dX7_goes_1 ?_
  refine lv_bipush (v := 20) C.1 C.2.1 dX7_goes_4 rfl ?_
  refine lv_iload_n C.1 C.2.1 dX7_goes_6 rfl (lv_at hl 1 rfl) ?_
  refine g_iadd C hF dX7_goes_7 (fun x1 hF => ?_)
  refine lv_aload_n C.1 C.2.1 dX7_goes_8 rfl (lv_at hl 0 rfl) ?_
  refine lv_iload_n C.1 C.2.1 dX7_goes_9 rfl (lv_at hl 2 rfl) ?_
  obtain ⟨x2, hc, hF⟩ := bd1_s hF
  refine g_cVi (ws' := [oX7 a_t a_d a_e a_kept v_isKept a_found a_tape v_taped v_gone a_hears a_near a_firstDay a_daily v_begin v_round v_leastFar v_leastWhere v_mostLed a_heardNow v_firstMove v_at v_sort v_from v_value v_fault a_bitsOf a_sizeOf a_number a_passing, aA cI a_d 40 f_d]) (wr := []) C hV (k_X7_whoIs l dC dI cI cB cO n0 H.size a_t a_d a_e a_kept a_found a_tape a_hears a_near a_firstDay a_daily a_heardNow a_bitsOf a_sizeOf a_number a_passing v_isKept v_taped v_gone v_begin v_round v_leastFar v_leastWhere v_mostLed v_firstMove v_at v_sort v_from v_value v_fault f_d p2 hc) mdX7_whoIs gX7_goes_X7_whoIs rfl rfl ⟨Nat.le_of_ble_eq_true rfl, Nat.le_of_ble_eq_true rfl⟩ [0, 1] [] [0, 1] rfl rfl rfl rfl rfl rfl rfl rfl rfl rfl hl.1 (Nat.le_of_ble_eq_true rfl) rfl dX7_goes_10 (fun H locs hV => ?_)
  refine lv_iconst (v := (-1)) C.1 C.2.1 dX7_goes_13 rfl ?_
  refine g_icmp_ne (tgt := 21) C hF dX7_goes_14 rfl (fun hF => ?_) (fun hF => ?_)
  · refine lv_aload_n C.1 C.2.1 dX7_goes_21 rfl (lv_at hl 0 rfl) ?_
    refine g_get C hV flX7_goes_7 0 rfl rfl dX7_goes_22 ?_
    refine lv_bipush (v := 20) C.1 C.2.1 dX7_goes_25 rfl ?_
    refine lv_iload_n C.1 C.2.1 dX7_goes_27 rfl (lv_at hl 1 rfl) ?_
    refine g_iadd C hF dX7_goes_28 (fun x3 hF => ?_)
    refine g_iald C hV 1 rfl hF dX7_goes_29 (fun x4 hF => ?_)
    refine g_iast C hV 1 rfl hF (fun gq => [oX7 a_t a_d a_e a_kept v_isKept a_found a_tape v_taped v_gone a_hears a_near a_firstDay a_daily v_begin v_round v_leastFar v_leastWhere v_mostLed a_heardNow v_firstMove v_at v_sort v_from v_value v_fault a_bitsOf a_sizeOf a_number a_passing, aA cI a_d 40 gq]) (fun _ => rfl) dX7_goes_30 (fun g5 H locs hF hV => ?_)
    exact hret g5 _ _ _ _ dX7_goes_31 hF hV
  refine lv_iload_n C.1 C.2.1 dX7_goes_17 rfl (lv_at hl 2 rfl) ?_
  refine lv_goto (tgt := 30) C.1 C.2.1 dX7_goes_18 rfl ?_
  refine g_iast C hV 1 rfl hF (fun gq => [oX7 a_t a_d a_e a_kept v_isKept a_found a_tape v_taped v_gone a_hears a_near a_firstDay a_daily v_begin v_round v_leastFar v_leastWhere v_mostLed a_heardNow v_firstMove v_at v_sort v_from v_value v_fault a_bitsOf a_sizeOf a_number a_passing, aA cI a_d 40 gq]) (fun _ => rfl) dX7_goes_30 (fun g6 H locs hF hV => ?_)
  exact hret g6 _ _ _ _ dX7_goes_31 hF hV
abbrev rmX7_strew : Room := { frames := 4, cells := 0, slots := 0, locals := 92 }
theorem mdX7_strew : gMd yX7_strew wsX7_strew cX7_strew 4 (some .int) 1 := ⟨⟨_, rfl⟩, by decide +kernel⟩
theorem ctX7_strew_206 : Cond.constantLong RX7 206 12 ∈ wsX7_strew := List.mem_cons_of_mem _ (List.mem_append_left _ (List.mem_append_left _ (List.mem_of_getElem? (i := 0) rfl)))
theorem flX7_strew_7 : gFL wsX7_strew RX7 7 7 0 RX7 TX7 28 := ⟨rfl, fun w h => List.mem_cons_of_mem _ (List.mem_append_right _ (h)), Nat.le_of_ble_eq_true rfl, List.mem_cons_of_mem _ (List.mem_append_left _ (List.mem_append_left _ (List.mem_of_getElem? (i := 1) rfl)))⟩
def L_X7_strew_35 (p1 : Int32) (n0 : Nat) (v_gone : Int32) (f_hears : Nat → Int32) (f_near : Nat → Int32) (f_found : Nat → Int32) : Nat → Int32 → (Nat → Int32) → Option (Int32 × (Nat → Int32) × (Nat → Int32) × (Nat → Int32) × (Nat → Int32)) := lpp2 (fun s4 t5 kk35 => (if p1 ≤ s4 then bd2 (F_X7_listen n0 v_gone t5 f_hears f_near) (fun g6 g7 => bd1 (F_X7_pairs n0 t5 g6) (fun x8 => some (x8, t5, f_found, g6, g7))) else bd2 (F_X7_drawn n0 t5) (fun x9 g10 => rd g10 40 0 (fun x11 => dvn x11 (x9 - x9 / x11 * x11) (fun x12 => bd2 (F_X7_drawn n0 g10) (fun x13 g14 => dvn 144 (x13 - x13 / 144 * 144) (fun x15 => bd1 (F_X7_goes n0 g14 x12 x15) (fun g16 => nm (s4 + 1) (fun x17 => kk35 x17 g16)))))))))
def F_X7_strew (n0 : Nat) (v_gone : Int32) (f_d : Nat → Int32) (f_found : Nat → Int32) (f_hears : Nat → Int32) (f_near : Nat → Int32) (p1 : Int32) : Option (Int32 × (Nat → Int32) × (Nat → Int32) × (Nat → Int32) × (Nat → Int32)) := nm (p1.toInt64) (fun x1 => bd1 (F_X7_in n0 x1 1 12) (fun x2 => (if x2 = 0 then bd2 (F_X7_finds n0 f_found 0) (fun x20 g21 => some (x20, f_d, g21, f_hears, f_near)) else rd f_d 40 0 (fun x3 => (if x3 = 0 then bd2 (F_X7_finds n0 f_found 4) (fun x18 g19 => some (x18, f_d, g19, f_hears, f_near)) else L_X7_strew_35 p1 n0 v_gone f_hears f_near f_found n0 0 f_d)))))
set_option maxRecDepth 100000 in
set_option maxHeartbeats 4000000 in
theorem k_X7_strew (l : Launch) (dC : Nat → ClassId) (dI : Nat → Nat → Nat) (cI cB cO : ClassId) (n0 sz : Nat) (a_t : Nat) (a_d : Nat) (a_e : Nat) (a_kept : Nat) (a_found : Nat) (a_tape : Nat) (a_hears : Nat) (a_near : Nat) (a_firstDay : Nat) (a_daily : Nat) (a_heardNow : Nat) (a_bitsOf : Nat) (a_sizeOf : Nat) (a_number : Nat) (a_passing : Nat)   (v_isKept : Int32) (v_taped : Int32) (v_gone : Int32) (v_begin : Int32) (v_round : Int32) (v_leastFar : Int32) (v_leastWhere : Int32) (v_mostLed : Int32) (v_firstMove : Int32) (v_at : Int32) (v_sort : Int32) (v_from : Int32) (v_value : Int64) (v_fault : Int32) (f_d : Nat → Int32) (f_found : Nat → Int32) (f_hears : Nat → Int32) (f_near : Nat → Int32) (p1 : Int32)  {ro : Int32} {o0 : Nat → Int32} {o1 : Nat → Int32} {o2 : Nat → Int32} {o3 : Nat → Int32} (hF : F_X7_strew n0 v_gone f_d f_found f_hears f_near p1 = some (ro, o0, o1, o2, o3)) : Met l yX7_strew wsX7_strew rmX7_strew (va_Pc [.ref a_t, .int p1] (gPre (dC, dI) (gT cI cB cO) sz [oX7 a_t a_d a_e a_kept v_isKept a_found a_tape v_taped v_gone a_hears a_near a_firstDay a_daily v_begin v_round v_leastFar v_leastWhere v_mostLed a_heardNow v_firstMove v_at v_sort v_from v_value v_fault a_bitsOf a_sizeOf a_number a_passing, aA cI a_d 40 f_d, aA cI a_found 7 f_found, aA cI a_hears 10 f_hears, aA cI a_near 10 f_near])) (gQi (dC, dI) (gT cI cB cO) sz [oX7 a_t a_d a_e a_kept v_isKept a_found a_tape v_taped v_gone a_hears a_near a_firstDay a_daily v_begin v_round v_leastFar v_leastWhere v_mostLed a_heardNow v_firstMove v_at v_sort v_from v_value v_fault a_bitsOf a_sizeOf a_number a_passing, aA cI a_d 40 f_d, aA cI a_found 7 f_found, aA cI a_hears 10 f_hears, aA cI a_near 10 f_near] ro [oX7 a_t a_d a_e a_kept v_isKept a_found a_tape v_taped v_gone a_hears a_near a_firstDay a_daily v_begin v_round v_leastFar v_leastWhere v_mostLed a_heardNow v_firstMove v_at v_sort v_from v_value v_fault a_bitsOf a_sizeOf a_number a_passing, aA cI a_d 40 o0, aA cI a_found 7 o1, aA cI a_hears 10 o2, aA cI a_near 10 o3]) 0 0 (va_A [oX7 a_t a_d a_e a_kept v_isKept a_found a_tape v_taped v_gone a_hears a_near a_firstDay a_daily v_begin v_round v_leastFar v_leastWhere v_mostLed a_heardNow v_firstMove v_at v_sort v_from v_value v_fault a_bitsOf a_sizeOf a_number a_passing, aA cI a_d 40 f_d, aA cI a_found 7 f_found, aA cI a_hears 10 f_hears, aA cI a_near 10 f_near] sz) := by
  refine g_metI (Out := Int32 × (Nat → Int32) × (Nat → Int32) × (Nat → Int32) × (Nat → Int32)) (fun oo => oo.1) (fun oo => [oX7 a_t a_d a_e a_kept v_isKept a_found a_tape v_taped v_gone a_hears a_near a_firstDay a_daily v_begin v_round v_leastFar v_leastWhere v_mostLed a_heardNow v_firstMove v_at v_sort v_from v_value v_fault a_bitsOf a_sizeOf a_number a_passing, aA cI a_d 40 oo.2.1, aA cI a_found 7 oo.2.2.1, aA cI a_hears 10 oo.2.2.2.1, aA cI a_near 10 oo.2.2.2.2]) (ro, o0, o1, o2, o3) (own := RX7) (lv := [(0, .ref a_t), (1, .int p1)]) (by decide) rfl rfl (Nat.le_of_ble_eq_true rfl) rfl ?_
  intro p e s m args below meth c Q ls C hret hV hl
  obtain ⟨out, hout⟩ : ∃ z : Int32 × (Nat → Int32) × (Nat → Int32) × (Nat → Int32) × (Nat → Int32), z = (ro, o0, o1, o2, o3) := ⟨_, rfl⟩
  rw [← hout] at hF hret
  obtain ⟨H0, hH0⟩ : ∃ z : Heap, z = s.heap := ⟨_, rfl⟩
  obtain ⟨A0, hA0⟩ : ∃ z : Nat → Prop, z = va_A [oX7 a_t a_d a_e a_kept v_isKept a_found a_tape v_taped v_gone a_hears a_near a_firstDay a_daily v_begin v_round v_leastFar v_leastWhere v_mostLed a_heardNow v_firstMove v_at v_sort v_from v_value v_fault a_bitsOf a_sizeOf a_number a_passing, aA cI a_d 40 f_d, aA cI a_found 7 f_found, aA cI a_hears 10 f_hears, aA cI a_near 10 f_near] s.heap.size := ⟨_, rfl⟩
  rw [← hA0] at hret hV
  rw [← hH0] at hret hV
  rw [← hH0]
  obtain ⟨H, locs, hH⟩ : ∃ (z : Heap) (y : List Loc), z = H0 ∧ y = [] := ⟨_, _, rfl, rfl⟩
  rw [← hH.1, ← hH.2]
  have hV : gV (dC, dI) (gT cI cB cO) A0 H0 s [oX7 a_t a_d a_e a_kept v_isKept a_found a_tape v_taped v_gone a_hears a_near a_firstDay a_daily v_begin v_round v_leastFar v_leastWhere v_mostLed a_heardNow v_firstMove v_at v_sort v_from v_value v_fault a_bitsOf a_sizeOf a_number a_passing, aA cI a_d 40 f_d, aA cI a_found 7 f_found, aA cI a_hears 10 f_hears, aA cI a_near 10 f_near] H locs := by rw [hH.1, hH.2]; exact hV
  unfold F_X7_strew at hF
  refine lv_iload_n C.1 C.2.1 dX7_strew_0 rfl (lv_at hl 1 rfl) ?_
  refine g_i2l C hF dX7_strew_1 (fun x1 hF => ?_)
  refine lv_lconst (v := 1) C.1 C.2.1 dX7_strew_2 rfl ?_
  refine lv_ldc2 (v := 12) C.1 C.2.1 C.2.2.2.1 (C.2.2.2.2 _ ctX7_strew_206) dX7_strew_3 ?_
  obtain ⟨x2, hc, hF⟩ := bd1_s hF
  refine g_cSi (ws' := [oX7 a_t a_d a_e a_kept v_isKept a_found a_tape v_taped v_gone a_hears a_near a_firstDay a_daily v_begin v_round v_leastFar v_leastWhere v_mostLed a_heardNow v_firstMove v_at v_sort v_from v_value v_fault a_bitsOf a_sizeOf a_number a_passing, aA cI a_d 40 f_d, aA cI a_found 7 f_found, aA cI a_hears 10 f_hears, aA cI a_near 10 f_near]) (wr := [oX7 a_t a_d a_e a_kept v_isKept a_found a_tape v_taped v_gone a_hears a_near a_firstDay a_daily v_begin v_round v_leastFar v_leastWhere v_mostLed a_heardNow v_firstMove v_at v_sort v_from v_value v_fault a_bitsOf a_sizeOf a_number a_passing, aA cI a_d 40 f_d, aA cI a_found 7 f_found, aA cI a_hears 10 f_hears, aA cI a_near 10 f_near]) C hV (k_X7_in l dC dI cI cB cO n0 H.size x1 1 12 hc) mdX7_in gX7_strew_X7_in rfl rfl ⟨Nat.le_of_ble_eq_true rfl, Nat.le_of_ble_eq_true rfl⟩ [] [0, 1, 2, 3, 4] [0, 1, 2, 3, 4] rfl rfl rfl rfl rfl rfl rfl rfl hl.1 (Nat.le_of_ble_eq_true rfl) rfl dX7_strew_6 (fun H locs hV => ?_)
  refine g_if_ne (tgt := 18) C hF dX7_strew_9 rfl (fun hF => ?_) (fun hF => ?_)
  · refine lv_aload_n C.1 C.2.1 dX7_strew_18 rfl (lv_at hl 0 rfl) ?_
    refine g_get C hV flX7_strew_7 0 rfl rfl dX7_strew_19 ?_
    refine lv_iconst (v := 0) C.1 C.2.1 dX7_strew_22 rfl ?_
    refine g_iald C hV 1 rfl hF dX7_strew_23 (fun x3 hF => ?_)
    refine g_if_ne (tgt := 33) C hF dX7_strew_24 rfl (fun hF => ?_) (fun hF => ?_)
    · refine lv_iconst (v := 0) C.1 C.2.1 dX7_strew_33 rfl ?_
      refine lv_istore_n (lv' := [(2, .int 0), (0, .ref a_t), (1, .int p1)]) C.1 C.2.1 dX7_strew_34 rfl hl (by decide) rfl (fun ls hl => ?_)
      have hL35 : ∀ (n : Nat) (s4 : Int32) (t5 : Nat → Int32) (H : Heap) (locs : List Loc) (ls : Array Slot), gV (dC, dI) (gT cI cB cO) A0 H0 s [oX7 a_t a_d a_e a_kept v_isKept a_found a_tape v_taped v_gone a_hears a_near a_firstDay a_daily v_begin v_round v_leastFar v_leastWhere v_mostLed a_heardNow v_firstMove v_at v_sort v_from v_value v_fault a_bitsOf a_sizeOf a_number a_passing, aA cI a_d 40 t5, aA cI a_found 7 f_found, aA cI a_hears 10 f_hears, aA cI a_near 10 f_near] H locs → lv_has ls 4 [(0, .ref a_t), (1, .int p1), (2, .int s4)] → L_X7_strew_35 p1 n0 v_gone f_hears f_near f_found n s4 t5 = some out → W p l e rmX7_strew s m args below meth c H locs 0 0 Q (F0 m 35 ls []) := by
        intro n
        induction n with
        | zero => intro s4 t5 H locs ls hV hl hF; exact lpp2_z hF
        | succ n ih35 =>
          intro s4 t5 H locs ls hV hl hF
          obtain ⟨kk35, hk35, hF⟩ := lpp2_g hF
          have hq35 : ∀ (s4 : Int32) (t5 : Nat → Int32), kk35 s4 t5 = some out → L_X7_strew_35 p1 n0 v_gone f_hears f_near f_found n s4 t5 = some out := fun _ _ h => by rw [hk35] at h; exact h
          refine lv_iload_n C.1 C.2.1 dX7_strew_35 rfl (lv_at hl 2 rfl) ?_
          refine lv_iload_n C.1 C.2.1 dX7_strew_36 rfl (lv_at hl 1 rfl) ?_
          refine g_icmp_ge (tgt := 71) C hF dX7_strew_37 rfl (fun hF => ?_) (fun hF => ?_)
          · refine lv_aload_n C.1 C.2.1 dX7_strew_71 rfl (lv_at hl 0 rfl) ?_
            obtain ⟨g6, g7, hc, hF⟩ := bd2_s hF
            refine g_cVv (ws' := [oX7 a_t a_d a_e a_kept v_isKept a_found a_tape v_taped v_gone a_hears a_near a_firstDay a_daily v_begin v_round v_leastFar v_leastWhere v_mostLed a_heardNow v_firstMove v_at v_sort v_from v_value v_fault a_bitsOf a_sizeOf a_number a_passing, aA cI a_d 40 t5, aA cI a_found 7 f_found, aA cI a_hears 10 g6, aA cI a_near 10 g7]) (wr := [aA cI a_found 7 f_found]) C hV (k_X7_listen l dC dI cI cB cO n0 H.size a_t a_d a_e a_kept a_found a_tape a_hears a_near a_firstDay a_daily a_heardNow a_bitsOf a_sizeOf a_number a_passing v_isKept v_taped v_gone v_begin v_round v_leastFar v_leastWhere v_mostLed v_firstMove v_at v_sort v_from v_value v_fault t5 f_hears f_near hc) mdX7_listen gX7_strew_X7_listen rfl rfl ⟨Nat.le_of_ble_eq_true rfl, Nat.le_of_ble_eq_true rfl⟩ [0, 1, 3, 4] [2] [1, 2, 0, 3, 4] rfl rfl rfl rfl rfl rfl rfl rfl rfl rfl hl.1 (Nat.le_of_ble_eq_true rfl) rfl dX7_strew_72 (fun H locs hV => ?_)
            refine lv_aload_n C.1 C.2.1 dX7_strew_75 rfl (lv_at hl 0 rfl) ?_
            obtain ⟨x8, hc, hF⟩ := bd1_s hF
            refine g_cVi (ws' := [oX7 a_t a_d a_e a_kept v_isKept a_found a_tape v_taped v_gone a_hears a_near a_firstDay a_daily v_begin v_round v_leastFar v_leastWhere v_mostLed a_heardNow v_firstMove v_at v_sort v_from v_value v_fault a_bitsOf a_sizeOf a_number a_passing, aA cI a_d 40 t5, aA cI a_found 7 f_found, aA cI a_hears 10 g6, aA cI a_near 10 g7]) (wr := [aA cI a_found 7 f_found, aA cI a_near 10 g7]) C hV (k_X7_pairs l dC dI cI cB cO n0 H.size a_t a_d a_e a_kept a_found a_tape a_hears a_near a_firstDay a_daily a_heardNow a_bitsOf a_sizeOf a_number a_passing v_isKept v_taped v_gone v_begin v_round v_leastFar v_leastWhere v_mostLed v_firstMove v_at v_sort v_from v_value v_fault t5 g6 hc) mdX7_pairs gX7_strew_X7_pairs rfl rfl ⟨Nat.le_of_ble_eq_true rfl, Nat.le_of_ble_eq_true rfl⟩ [0, 1, 3] [2, 4] [2, 3, 0, 4, 1] rfl rfl rfl rfl rfl rfl rfl rfl rfl rfl hl.1 (Nat.le_of_ble_eq_true rfl) rfl dX7_strew_76 (fun H locs hV => ?_)
            exact hret (x8, t5, f_found, g6, g7) _ _ _ _ dX7_strew_79 hF hV
          refine lv_aload_n C.1 C.2.1 dX7_strew_40 rfl (lv_at hl 0 rfl) ?_
          obtain ⟨x9, g10, hc, hF⟩ := bd2_s hF
          refine g_cVi (ws' := [oX7 a_t a_d a_e a_kept v_isKept a_found a_tape v_taped v_gone a_hears a_near a_firstDay a_daily v_begin v_round v_leastFar v_leastWhere v_mostLed a_heardNow v_firstMove v_at v_sort v_from v_value v_fault a_bitsOf a_sizeOf a_number a_passing, aA cI a_d 40 g10, aA cI a_found 7 f_found, aA cI a_hears 10 f_hears, aA cI a_near 10 f_near]) (wr := [aA cI a_found 7 f_found, aA cI a_hears 10 f_hears, aA cI a_near 10 f_near]) C hV (k_X7_drawn l dC dI cI cB cO n0 H.size a_t a_d a_e a_kept a_found a_tape a_hears a_near a_firstDay a_daily a_heardNow a_bitsOf a_sizeOf a_number a_passing v_isKept v_taped v_gone v_begin v_round v_leastFar v_leastWhere v_mostLed v_firstMove v_at v_sort v_from v_value v_fault t5 hc) mdX7_drawn gX7_strew_X7_drawn rfl rfl ⟨Nat.le_of_ble_eq_true rfl, Nat.le_of_ble_eq_true rfl⟩ [0, 1] [2, 3, 4] [3, 4, 0, 1, 2] rfl rfl rfl rfl rfl rfl rfl rfl rfl rfl hl.1 (Nat.le_of_ble_eq_true rfl) rfl dX7_strew_41 (fun H locs hV => ?_)
          refine lv_aload_n C.1 C.2.1 dX7_strew_44 rfl (lv_at hl 0 rfl) ?_
          refine g_get C hV flX7_strew_7 0 rfl rfl dX7_strew_45 ?_
          refine lv_iconst (v := 0) C.1 C.2.1 dX7_strew_48 rfl ?_
          refine g_iald C hV 1 rfl hF dX7_strew_49 (fun x11 hF => ?_)
          refine g_irem C hF dX7_strew_50 (fun x12 hF => ?_)
          refine lv_istore_n (lv' := [(3, .int x12), (0, .ref a_t), (1, .int p1), (2, .int s4)]) C.1 C.2.1 dX7_strew_51 rfl hl (by decide) rfl (fun ls hl => ?_)
          refine lv_aload_n C.1 C.2.1 dX7_strew_52 rfl (lv_at hl 1 rfl) ?_
          refine lv_iload_n C.1 C.2.1 dX7_strew_53 rfl (lv_at hl 0 rfl) ?_
          refine lv_aload_n C.1 C.2.1 dX7_strew_54 rfl (lv_at hl 1 rfl) ?_
          obtain ⟨x13, g14, hc, hF⟩ := bd2_s hF
          refine g_cVi (ws' := [oX7 a_t a_d a_e a_kept v_isKept a_found a_tape v_taped v_gone a_hears a_near a_firstDay a_daily v_begin v_round v_leastFar v_leastWhere v_mostLed a_heardNow v_firstMove v_at v_sort v_from v_value v_fault a_bitsOf a_sizeOf a_number a_passing, aA cI a_d 40 g14, aA cI a_found 7 f_found, aA cI a_hears 10 f_hears, aA cI a_near 10 f_near]) (wr := [aA cI a_found 7 f_found, aA cI a_hears 10 f_hears, aA cI a_near 10 f_near]) C hV (k_X7_drawn l dC dI cI cB cO n0 H.size a_t a_d a_e a_kept a_found a_tape a_hears a_near a_firstDay a_daily a_heardNow a_bitsOf a_sizeOf a_number a_passing v_isKept v_taped v_gone v_begin v_round v_leastFar v_leastWhere v_mostLed v_firstMove v_at v_sort v_from v_value v_fault g10 hc) mdX7_drawn gX7_strew_X7_drawn rfl rfl ⟨Nat.le_of_ble_eq_true rfl, Nat.le_of_ble_eq_true rfl⟩ [0, 1] [2, 3, 4] [3, 4, 0, 1, 2] rfl rfl rfl rfl rfl rfl rfl rfl rfl rfl hl.1 (Nat.le_of_ble_eq_true rfl) rfl dX7_strew_55 (fun H locs hV => ?_)
          refine lv_sipush (v := 144) C.1 C.2.1 dX7_strew_58 rfl ?_
          refine g_irem C hF dX7_strew_61 (fun x15 hF => ?_)
          obtain ⟨g16, hc, hF⟩ := bd1_s hF
          refine g_cVv (ws' := [oX7 a_t a_d a_e a_kept v_isKept a_found a_tape v_taped v_gone a_hears a_near a_firstDay a_daily v_begin v_round v_leastFar v_leastWhere v_mostLed a_heardNow v_firstMove v_at v_sort v_from v_value v_fault a_bitsOf a_sizeOf a_number a_passing, aA cI a_d 40 g16, aA cI a_found 7 f_found, aA cI a_hears 10 f_hears, aA cI a_near 10 f_near]) (wr := [aA cI a_found 7 f_found, aA cI a_hears 10 f_hears, aA cI a_near 10 f_near]) C hV (k_X7_goes l dC dI cI cB cO n0 H.size a_t a_d a_e a_kept a_found a_tape a_hears a_near a_firstDay a_daily a_heardNow a_bitsOf a_sizeOf a_number a_passing v_isKept v_taped v_gone v_begin v_round v_leastFar v_leastWhere v_mostLed v_firstMove v_at v_sort v_from v_value v_fault g14 x12 x15 hc) mdX7_goes gX7_strew_X7_goes rfl rfl ⟨Nat.le_of_ble_eq_true rfl, Nat.le_of_ble_eq_true rfl⟩ [0, 1] [2, 3, 4] [3, 4, 0, 1, 2] rfl rfl rfl rfl rfl rfl rfl rfl rfl rfl hl.1 (Nat.le_of_ble_eq_true rfl) rfl dX7_strew_62 (fun H locs hV => ?_)
          refine g_iinc C hF dX7_strew_65 (d := 1) rfl hl (j := 3) rfl (by decide) (fun y => [(2, .int y), (3, .int x12), (0, .ref a_t), (1, .int p1)]) (fun _ => rfl) (fun x17 ls hF hl => ?_)
          refine lv_goto (tgt := 35) C.1 C.2.1 dX7_strew_68 rfl ?_
          exact ih35 x17 g16 H locs ls hV (lv_sub hl [2, 3, 0] rfl) (hq35 x17 g16 hF)
      exact hL35 n0 0 f_d H locs ls hV (lv_sub hl [1, 2, 0] rfl) hF
    refine lv_aload_n C.1 C.2.1 dX7_strew_27 rfl (lv_at hl 0 rfl) ?_
    refine lv_iconst (v := 4) C.1 C.2.1 dX7_strew_28 rfl ?_
    obtain ⟨x18, g19, hc, hF⟩ := bd2_s hF
    refine g_cVi (ws' := [oX7 a_t a_d a_e a_kept v_isKept a_found a_tape v_taped v_gone a_hears a_near a_firstDay a_daily v_begin v_round v_leastFar v_leastWhere v_mostLed a_heardNow v_firstMove v_at v_sort v_from v_value v_fault a_bitsOf a_sizeOf a_number a_passing, aA cI a_d 40 f_d, aA cI a_found 7 g19, aA cI a_hears 10 f_hears, aA cI a_near 10 f_near]) (wr := [aA cI a_d 40 f_d, aA cI a_hears 10 f_hears, aA cI a_near 10 f_near]) C hV (k_X7_finds l dC dI cI cB cO n0 H.size a_t a_d a_e a_kept a_found a_tape a_hears a_near a_firstDay a_daily a_heardNow a_bitsOf a_sizeOf a_number a_passing v_isKept v_taped v_gone v_begin v_round v_leastFar v_leastWhere v_mostLed v_firstMove v_at v_sort v_from v_value v_fault f_found 4 hc) mdX7_finds gX7_strew_X7_finds rfl rfl ⟨Nat.le_of_ble_eq_true rfl, Nat.le_of_ble_eq_true rfl⟩ [0, 2] [1, 3, 4] [3, 0, 4, 1, 2] rfl rfl rfl rfl rfl rfl rfl rfl rfl rfl hl.1 (Nat.le_of_ble_eq_true rfl) rfl dX7_strew_29 (fun H locs hV => ?_)
    exact hret (x18, f_d, g19, f_hears, f_near) _ _ _ _ dX7_strew_32 hF hV
  refine lv_aload_n C.1 C.2.1 dX7_strew_12 rfl (lv_at hl 0 rfl) ?_
  refine lv_iconst (v := 0) C.1 C.2.1 dX7_strew_13 rfl ?_
  obtain ⟨x20, g21, hc, hF⟩ := bd2_s hF
  refine g_cVi (ws' := [oX7 a_t a_d a_e a_kept v_isKept a_found a_tape v_taped v_gone a_hears a_near a_firstDay a_daily v_begin v_round v_leastFar v_leastWhere v_mostLed a_heardNow v_firstMove v_at v_sort v_from v_value v_fault a_bitsOf a_sizeOf a_number a_passing, aA cI a_d 40 f_d, aA cI a_found 7 g21, aA cI a_hears 10 f_hears, aA cI a_near 10 f_near]) (wr := [aA cI a_d 40 f_d, aA cI a_hears 10 f_hears, aA cI a_near 10 f_near]) C hV (k_X7_finds l dC dI cI cB cO n0 H.size a_t a_d a_e a_kept a_found a_tape a_hears a_near a_firstDay a_daily a_heardNow a_bitsOf a_sizeOf a_number a_passing v_isKept v_taped v_gone v_begin v_round v_leastFar v_leastWhere v_mostLed v_firstMove v_at v_sort v_from v_value v_fault f_found 0 hc) mdX7_finds gX7_strew_X7_finds rfl rfl ⟨Nat.le_of_ble_eq_true rfl, Nat.le_of_ble_eq_true rfl⟩ [0, 2] [1, 3, 4] [3, 0, 4, 1, 2] rfl rfl rfl rfl rfl rfl rfl rfl rfl rfl hl.1 (Nat.le_of_ble_eq_true rfl) rfl dX7_strew_14 (fun H locs hV => ?_)
  exact hret (x20, f_d, g21, f_hears, f_near) _ _ _ _ dX7_strew_17 hF hV
abbrev rmX7_camps : Room := { frames := 4, cells := 0, slots := 0, locals := 92 }
theorem mdX7_camps : gMd yX7_camps wsX7_camps cX7_camps 5 (some .int) 1 := ⟨⟨_, rfl⟩, by decide +kernel⟩
theorem ctX7_camps_206 : Cond.constantLong RX7 206 12 ∈ wsX7_camps := List.mem_cons_of_mem _ (List.mem_append_left _ (List.mem_append_left _ (List.mem_of_getElem? (i := 0) rfl)))
theorem flX7_camps_7 : gFL wsX7_camps RX7 7 7 0 RX7 TX7 28 := ⟨rfl, fun w h => List.mem_cons_of_mem _ (List.mem_append_right _ (h)), Nat.le_of_ble_eq_true rfl, List.mem_cons_of_mem _ (List.mem_append_left _ (List.mem_append_left _ (List.mem_of_getElem? (i := 1) rfl)))⟩
theorem flX7_camps_13 : gFL wsX7_camps RX7 13 7 1 RX7 TX7 28 := ⟨rfl, fun w h => List.mem_cons_of_mem _ (List.mem_append_right _ (h)), Nat.le_of_ble_eq_true rfl, List.mem_cons_of_mem _ (List.mem_append_left _ (List.mem_append_left _ (List.mem_of_getElem? (i := 2) rfl)))⟩
def L_X7_camps_56 (n0 : Nat) (v_gone : Int32) (t8 : Nat → Int32) (t9 : Nat → Int32) (s5 : Int32) (s6 : Int32) (kk48 : Int32 → Int32 → (Nat → Int32) → (Nat → Int32) → (Nat → Int32) → Option (Int32 × (Nat → Int32) × (Nat → Int32) × (Nat → Int32) × (Nat → Int32) × (Nat → Int32))) : Nat → Int32 → (Nat → Int32) → Option (Int32 × (Nat → Int32) × (Nat → Int32) × (Nat → Int32) × (Nat → Int32) × (Nat → Int32)) := lpp2 (fun s13 t14 kk56 => rd t14 40 0 (fun x15 => (if x15 ≤ s13 then bd2 (F_X7_listen n0 v_gone t14 t8 t9) (fun g16 g17 => bd1 (F_X7_pairs n0 t14 g16) (fun x18 => nm (s5 + x18) (fun x19 => nm (s6 + 1) (fun x20 => kk48 x19 x20 t14 g16 g17)))) else bd2 (F_X7_drawn n0 t14) (fun x21 g22 => dvn 144 (x21 - x21 / 144 * 144) (fun x23 => bd1 (F_X7_goes n0 g22 s13 x23) (fun g24 => nm (s13 + 1) (fun x25 => kk56 x25 g24)))))))
def L_X7_camps_48 (p1 : Int32) (n0 : Nat) (g4 : Nat → Int32) (f_found : Nat → Int32) (v_gone : Int32) : Nat → Int32 → Int32 → (Nat → Int32) → (Nat → Int32) → (Nat → Int32) → Option (Int32 × (Nat → Int32) × (Nat → Int32) × (Nat → Int32) × (Nat → Int32) × (Nat → Int32)) := lpp5 (fun s5 s6 t7 t8 t9 kk48 => (if p1 ≤ s6 then rd t7 40 2 (fun x10 => bd1 (F_X7_copies n0 40 40 g4 t7) (fun g11 => wrt g11 40 2 x10 (fun g12 => some (s5, g12, g4, f_found, t8, t9)))) else L_X7_camps_56 n0 v_gone t8 t9 s5 s6 kk48 n0 0 t7))
def F_X7_camps (n0 : Nat) (v_gone : Int32) (f_d : Nat → Int32) (f_e : Nat → Int32) (f_found : Nat → Int32) (f_hears : Nat → Int32) (f_near : Nat → Int32) (p1 : Int32) : Option (Int32 × (Nat → Int32) × (Nat → Int32) × (Nat → Int32) × (Nat → Int32) × (Nat → Int32)) := nm (p1.toInt64) (fun x1 => bd1 (F_X7_in n0 x1 1 12) (fun x2 => (if x2 = 0 then bd2 (F_X7_finds n0 f_found 0) (fun x28 g29 => some (x28, f_d, f_e, g29, f_hears, f_near)) else rd f_d 40 0 (fun x3 => (if x3 = 0 then bd2 (F_X7_finds n0 f_found 4) (fun x26 g27 => some (x26, f_d, f_e, g27, f_hears, f_near)) else bd1 (F_X7_copies n0 40 40 f_d f_e) (fun g4 => L_X7_camps_48 p1 n0 g4 f_found v_gone n0 0 0 f_d f_hears f_near))))))
set_option maxRecDepth 100000 in
set_option maxHeartbeats 4000000 in
theorem k_X7_camps (l : Launch) (dC : Nat → ClassId) (dI : Nat → Nat → Nat) (cI cB cO : ClassId) (n0 sz : Nat) (a_t : Nat) (a_d : Nat) (a_e : Nat) (a_kept : Nat) (a_found : Nat) (a_tape : Nat) (a_hears : Nat) (a_near : Nat) (a_firstDay : Nat) (a_daily : Nat) (a_heardNow : Nat) (a_bitsOf : Nat) (a_sizeOf : Nat) (a_number : Nat) (a_passing : Nat)   (v_isKept : Int32) (v_taped : Int32) (v_gone : Int32) (v_begin : Int32) (v_round : Int32) (v_leastFar : Int32) (v_leastWhere : Int32) (v_mostLed : Int32) (v_firstMove : Int32) (v_at : Int32) (v_sort : Int32) (v_from : Int32) (v_value : Int64) (v_fault : Int32) (f_d : Nat → Int32) (f_e : Nat → Int32) (f_found : Nat → Int32) (f_hears : Nat → Int32) (f_near : Nat → Int32) (p1 : Int32)  {ro : Int32} {o0 : Nat → Int32} {o1 : Nat → Int32} {o2 : Nat → Int32} {o3 : Nat → Int32} {o4 : Nat → Int32} (hF : F_X7_camps n0 v_gone f_d f_e f_found f_hears f_near p1 = some (ro, o0, o1, o2, o3, o4)) : Met l yX7_camps wsX7_camps rmX7_camps (va_Pc [.ref a_t, .int p1] (gPre (dC, dI) (gT cI cB cO) sz [oX7 a_t a_d a_e a_kept v_isKept a_found a_tape v_taped v_gone a_hears a_near a_firstDay a_daily v_begin v_round v_leastFar v_leastWhere v_mostLed a_heardNow v_firstMove v_at v_sort v_from v_value v_fault a_bitsOf a_sizeOf a_number a_passing, aA cI a_d 40 f_d, aA cI a_e 40 f_e, aA cI a_found 7 f_found, aA cI a_hears 10 f_hears, aA cI a_near 10 f_near])) (gQi (dC, dI) (gT cI cB cO) sz [oX7 a_t a_d a_e a_kept v_isKept a_found a_tape v_taped v_gone a_hears a_near a_firstDay a_daily v_begin v_round v_leastFar v_leastWhere v_mostLed a_heardNow v_firstMove v_at v_sort v_from v_value v_fault a_bitsOf a_sizeOf a_number a_passing, aA cI a_d 40 f_d, aA cI a_e 40 f_e, aA cI a_found 7 f_found, aA cI a_hears 10 f_hears, aA cI a_near 10 f_near] ro [oX7 a_t a_d a_e a_kept v_isKept a_found a_tape v_taped v_gone a_hears a_near a_firstDay a_daily v_begin v_round v_leastFar v_leastWhere v_mostLed a_heardNow v_firstMove v_at v_sort v_from v_value v_fault a_bitsOf a_sizeOf a_number a_passing, aA cI a_d 40 o0, aA cI a_e 40 o1, aA cI a_found 7 o2, aA cI a_hears 10 o3, aA cI a_near 10 o4]) 0 0 (va_A [oX7 a_t a_d a_e a_kept v_isKept a_found a_tape v_taped v_gone a_hears a_near a_firstDay a_daily v_begin v_round v_leastFar v_leastWhere v_mostLed a_heardNow v_firstMove v_at v_sort v_from v_value v_fault a_bitsOf a_sizeOf a_number a_passing, aA cI a_d 40 f_d, aA cI a_e 40 f_e, aA cI a_found 7 f_found, aA cI a_hears 10 f_hears, aA cI a_near 10 f_near] sz) := by
  refine g_metI (Out := Int32 × (Nat → Int32) × (Nat → Int32) × (Nat → Int32) × (Nat → Int32) × (Nat → Int32)) (fun oo => oo.1) (fun oo => [oX7 a_t a_d a_e a_kept v_isKept a_found a_tape v_taped v_gone a_hears a_near a_firstDay a_daily v_begin v_round v_leastFar v_leastWhere v_mostLed a_heardNow v_firstMove v_at v_sort v_from v_value v_fault a_bitsOf a_sizeOf a_number a_passing, aA cI a_d 40 oo.2.1, aA cI a_e 40 oo.2.2.1, aA cI a_found 7 oo.2.2.2.1, aA cI a_hears 10 oo.2.2.2.2.1, aA cI a_near 10 oo.2.2.2.2.2]) (ro, o0, o1, o2, o3, o4) (own := RX7) (lv := [(0, .ref a_t), (1, .int p1)]) (by decide) rfl rfl (Nat.le_of_ble_eq_true rfl) rfl ?_
  intro p e s m args below meth c Q ls C hret hV hl
  obtain ⟨out, hout⟩ : ∃ z : Int32 × (Nat → Int32) × (Nat → Int32) × (Nat → Int32) × (Nat → Int32) × (Nat → Int32), z = (ro, o0, o1, o2, o3, o4) := ⟨_, rfl⟩
  rw [← hout] at hF hret
  obtain ⟨H0, hH0⟩ : ∃ z : Heap, z = s.heap := ⟨_, rfl⟩
  obtain ⟨A0, hA0⟩ : ∃ z : Nat → Prop, z = va_A [oX7 a_t a_d a_e a_kept v_isKept a_found a_tape v_taped v_gone a_hears a_near a_firstDay a_daily v_begin v_round v_leastFar v_leastWhere v_mostLed a_heardNow v_firstMove v_at v_sort v_from v_value v_fault a_bitsOf a_sizeOf a_number a_passing, aA cI a_d 40 f_d, aA cI a_e 40 f_e, aA cI a_found 7 f_found, aA cI a_hears 10 f_hears, aA cI a_near 10 f_near] s.heap.size := ⟨_, rfl⟩
  rw [← hA0] at hret hV
  rw [← hH0] at hret hV
  rw [← hH0]
  obtain ⟨H, locs, hH⟩ : ∃ (z : Heap) (y : List Loc), z = H0 ∧ y = [] := ⟨_, _, rfl, rfl⟩
  rw [← hH.1, ← hH.2]
  have hV : gV (dC, dI) (gT cI cB cO) A0 H0 s [oX7 a_t a_d a_e a_kept v_isKept a_found a_tape v_taped v_gone a_hears a_near a_firstDay a_daily v_begin v_round v_leastFar v_leastWhere v_mostLed a_heardNow v_firstMove v_at v_sort v_from v_value v_fault a_bitsOf a_sizeOf a_number a_passing, aA cI a_d 40 f_d, aA cI a_e 40 f_e, aA cI a_found 7 f_found, aA cI a_hears 10 f_hears, aA cI a_near 10 f_near] H locs := by rw [hH.1, hH.2]; exact hV
  unfold F_X7_camps at hF
  refine lv_iload_n C.1 C.2.1 dX7_camps_0 rfl (lv_at hl 1 rfl) ?_
  refine g_i2l C hF dX7_camps_1 (fun x1 hF => ?_)
  refine lv_lconst (v := 1) C.1 C.2.1 dX7_camps_2 rfl ?_
  refine lv_ldc2 (v := 12) C.1 C.2.1 C.2.2.2.1 (C.2.2.2.2 _ ctX7_camps_206) dX7_camps_3 ?_
  obtain ⟨x2, hc, hF⟩ := bd1_s hF
  refine g_cSi (ws' := [oX7 a_t a_d a_e a_kept v_isKept a_found a_tape v_taped v_gone a_hears a_near a_firstDay a_daily v_begin v_round v_leastFar v_leastWhere v_mostLed a_heardNow v_firstMove v_at v_sort v_from v_value v_fault a_bitsOf a_sizeOf a_number a_passing, aA cI a_d 40 f_d, aA cI a_e 40 f_e, aA cI a_found 7 f_found, aA cI a_hears 10 f_hears, aA cI a_near 10 f_near]) (wr := [oX7 a_t a_d a_e a_kept v_isKept a_found a_tape v_taped v_gone a_hears a_near a_firstDay a_daily v_begin v_round v_leastFar v_leastWhere v_mostLed a_heardNow v_firstMove v_at v_sort v_from v_value v_fault a_bitsOf a_sizeOf a_number a_passing, aA cI a_d 40 f_d, aA cI a_e 40 f_e, aA cI a_found 7 f_found, aA cI a_hears 10 f_hears, aA cI a_near 10 f_near]) C hV (k_X7_in l dC dI cI cB cO n0 H.size x1 1 12 hc) mdX7_in gX7_camps_X7_in rfl rfl ⟨Nat.le_of_ble_eq_true rfl, Nat.le_of_ble_eq_true rfl⟩ [] [0, 1, 2, 3, 4, 5] [0, 1, 2, 3, 4, 5] rfl rfl rfl rfl rfl rfl rfl rfl hl.1 (Nat.le_of_ble_eq_true rfl) rfl dX7_camps_6 (fun H locs hV => ?_)
  refine g_if_ne (tgt := 18) C hF dX7_camps_9 rfl (fun hF => ?_) (fun hF => ?_)
  · refine lv_aload_n C.1 C.2.1 dX7_camps_18 rfl (lv_at hl 0 rfl) ?_
    refine g_get C hV flX7_camps_7 0 rfl rfl dX7_camps_19 ?_
    refine lv_iconst (v := 0) C.1 C.2.1 dX7_camps_22 rfl ?_
    refine g_iald C hV 1 rfl hF dX7_camps_23 (fun x3 hF => ?_)
    refine g_if_ne (tgt := 33) C hF dX7_camps_24 rfl (fun hF => ?_) (fun hF => ?_)
    · refine lv_aload_n C.1 C.2.1 dX7_camps_33 rfl (lv_at hl 0 rfl) ?_
      refine g_get C hV flX7_camps_7 0 rfl rfl dX7_camps_34 ?_
      refine lv_aload_n C.1 C.2.1 dX7_camps_37 rfl (lv_at hl 0 rfl) ?_
      refine g_get C hV flX7_camps_13 0 rfl rfl dX7_camps_38 ?_
      obtain ⟨g4, hc, hF⟩ := bd1_s hF
      refine g_cSv (ws' := [oX7 a_t a_d a_e a_kept v_isKept a_found a_tape v_taped v_gone a_hears a_near a_firstDay a_daily v_begin v_round v_leastFar v_leastWhere v_mostLed a_heardNow v_firstMove v_at v_sort v_from v_value v_fault a_bitsOf a_sizeOf a_number a_passing, aA cI a_d 40 f_d, aA cI a_e 40 g4, aA cI a_found 7 f_found, aA cI a_hears 10 f_hears, aA cI a_near 10 f_near]) (wr := [oX7 a_t a_d a_e a_kept v_isKept a_found a_tape v_taped v_gone a_hears a_near a_firstDay a_daily v_begin v_round v_leastFar v_leastWhere v_mostLed a_heardNow v_firstMove v_at v_sort v_from v_value v_fault a_bitsOf a_sizeOf a_number a_passing, aA cI a_found 7 f_found, aA cI a_hears 10 f_hears, aA cI a_near 10 f_near]) C hV (k_X7_copies l dC dI cI cB cO n0 H.size a_d a_e 40 40 f_d f_e hc) mdX7_copies gX7_camps_X7_copies rfl rfl ⟨Nat.le_of_ble_eq_true rfl, Nat.le_of_ble_eq_true rfl⟩ [1, 2] [0, 3, 4, 5] [0, 4, 5, 1, 2, 3] rfl rfl rfl rfl rfl rfl rfl rfl hl.1 (Nat.le_of_ble_eq_true rfl) rfl dX7_camps_41 (fun H locs hV => ?_)
      refine lv_iconst (v := 0) C.1 C.2.1 dX7_camps_44 rfl ?_
      refine lv_istore_n (lv' := [(2, .int 0), (0, .ref a_t), (1, .int p1)]) C.1 C.2.1 dX7_camps_45 rfl hl (by decide) rfl (fun ls hl => ?_)
      refine lv_iconst (v := 0) C.1 C.2.1 dX7_camps_46 rfl ?_
      refine lv_istore_n (lv' := [(3, .int 0), (2, .int 0), (0, .ref a_t), (1, .int p1)]) C.1 C.2.1 dX7_camps_47 rfl hl (by decide) rfl (fun ls hl => ?_)
      have hL48 : ∀ (n : Nat) (s5 : Int32) (s6 : Int32) (t7 : Nat → Int32) (t8 : Nat → Int32) (t9 : Nat → Int32) (H : Heap) (locs : List Loc) (ls : Array Slot), gV (dC, dI) (gT cI cB cO) A0 H0 s [oX7 a_t a_d a_e a_kept v_isKept a_found a_tape v_taped v_gone a_hears a_near a_firstDay a_daily v_begin v_round v_leastFar v_leastWhere v_mostLed a_heardNow v_firstMove v_at v_sort v_from v_value v_fault a_bitsOf a_sizeOf a_number a_passing, aA cI a_d 40 t7, aA cI a_e 40 g4, aA cI a_found 7 f_found, aA cI a_hears 10 t8, aA cI a_near 10 t9] H locs → lv_has ls 5 [(0, .ref a_t), (1, .int p1), (2, .int s5), (3, .int s6)] → L_X7_camps_48 p1 n0 g4 f_found v_gone n s5 s6 t7 t8 t9 = some out → W p l e rmX7_camps s m args below meth c H locs 0 0 Q (F0 m 48 ls []) := by
        intro n
        induction n with
        | zero => intro s5 s6 t7 t8 t9 H locs ls hV hl hF; exact lpp5_z hF
        | succ n ih48 =>
          intro s5 s6 t7 t8 t9 H locs ls hV hl hF
          obtain ⟨kk48, hk48, hF⟩ := lpp5_g hF
          have hq48 : ∀ (s5 : Int32) (s6 : Int32) (t7 : Nat → Int32) (t8 : Nat → Int32) (t9 : Nat → Int32), kk48 s5 s6 t7 t8 t9 = some out → L_X7_camps_48 p1 n0 g4 f_found v_gone n s5 s6 t7 t8 t9 = some out := fun _ _ _ _ _ h => by rw [hk48] at h; exact h
          refine lv_iload_n C.1 C.2.1 dX7_camps_48 rfl (lv_at hl 3 rfl) ?_
          refine lv_iload_n C.1 C.2.1 dX7_camps_49 rfl (lv_at hl 1 rfl) ?_
          refine g_icmp_ge (tgt := 104) C hF dX7_camps_50 rfl (fun hF => ?_) (fun hF => ?_)
          · refine lv_aload_n C.1 C.2.1 dX7_camps_104 rfl (lv_at hl 0 rfl) ?_
            refine g_get C hV flX7_camps_7 0 rfl rfl dX7_camps_105 ?_
            refine lv_iconst (v := 2) C.1 C.2.1 dX7_camps_108 rfl ?_
            refine g_iald C hV 1 rfl hF dX7_camps_109 (fun x10 hF => ?_)
            refine lv_istore_n (lv' := [(3, .int x10), (0, .ref a_t), (1, .int p1), (2, .int s5)]) C.1 C.2.1 dX7_camps_110 rfl hl (by decide) rfl (fun ls hl => ?_)
            refine lv_aload_n C.1 C.2.1 dX7_camps_111 rfl (lv_at hl 1 rfl) ?_
            refine g_get C hV flX7_camps_13 0 rfl rfl dX7_camps_112 ?_
            refine lv_aload_n C.1 C.2.1 dX7_camps_115 rfl (lv_at hl 1 rfl) ?_
            refine g_get C hV flX7_camps_7 0 rfl rfl dX7_camps_116 ?_
            obtain ⟨g11, hc, hF⟩ := bd1_s hF
            refine g_cSv (ws' := [oX7 a_t a_d a_e a_kept v_isKept a_found a_tape v_taped v_gone a_hears a_near a_firstDay a_daily v_begin v_round v_leastFar v_leastWhere v_mostLed a_heardNow v_firstMove v_at v_sort v_from v_value v_fault a_bitsOf a_sizeOf a_number a_passing, aA cI a_d 40 g11, aA cI a_e 40 g4, aA cI a_found 7 f_found, aA cI a_hears 10 t8, aA cI a_near 10 t9]) (wr := [oX7 a_t a_d a_e a_kept v_isKept a_found a_tape v_taped v_gone a_hears a_near a_firstDay a_daily v_begin v_round v_leastFar v_leastWhere v_mostLed a_heardNow v_firstMove v_at v_sort v_from v_value v_fault a_bitsOf a_sizeOf a_number a_passing, aA cI a_found 7 f_found, aA cI a_hears 10 t8, aA cI a_near 10 t9]) C hV (k_X7_copies l dC dI cI cB cO n0 H.size a_e a_d 40 40 g4 t7 hc) mdX7_copies gX7_camps_X7_copies rfl rfl ⟨Nat.le_of_ble_eq_true rfl, Nat.le_of_ble_eq_true rfl⟩ [2, 1] [0, 3, 4, 5] [0, 5, 4, 1, 2, 3] rfl rfl rfl rfl rfl rfl rfl rfl hl.1 (Nat.le_of_ble_eq_true rfl) rfl dX7_camps_119 (fun H locs hV => ?_)
            refine lv_aload_n C.1 C.2.1 dX7_camps_122 rfl (lv_at hl 1 rfl) ?_
            refine g_get C hV flX7_camps_7 0 rfl rfl dX7_camps_123 ?_
            refine lv_iconst (v := 2) C.1 C.2.1 dX7_camps_126 rfl ?_
            refine lv_iload_n C.1 C.2.1 dX7_camps_127 rfl (lv_at hl 0 rfl) ?_
            refine g_iast C hV 1 rfl hF (fun gq => [oX7 a_t a_d a_e a_kept v_isKept a_found a_tape v_taped v_gone a_hears a_near a_firstDay a_daily v_begin v_round v_leastFar v_leastWhere v_mostLed a_heardNow v_firstMove v_at v_sort v_from v_value v_fault a_bitsOf a_sizeOf a_number a_passing, aA cI a_d 40 gq, aA cI a_e 40 g4, aA cI a_found 7 f_found, aA cI a_hears 10 t8, aA cI a_near 10 t9]) (fun _ => rfl) dX7_camps_128 (fun g12 H locs hF hV => ?_)
            refine lv_iload_n C.1 C.2.1 dX7_camps_129 rfl (lv_at hl 3 rfl) ?_
            exact hret (s5, g12, g4, f_found, t8, t9) _ _ _ _ dX7_camps_130 hF hV
          refine lv_iconst (v := 0) C.1 C.2.1 dX7_camps_53 rfl ?_
          refine lv_istore (lv' := [(4, .int 0), (0, .ref a_t), (1, .int p1), (2, .int s5), (3, .int s6)]) C.1 C.2.1 dX7_camps_54 hl (by decide) rfl (fun ls hl => ?_)
          have hL56 : ∀ (n : Nat) (s13 : Int32) (t14 : Nat → Int32) (H : Heap) (locs : List Loc) (ls : Array Slot), gV (dC, dI) (gT cI cB cO) A0 H0 s [oX7 a_t a_d a_e a_kept v_isKept a_found a_tape v_taped v_gone a_hears a_near a_firstDay a_daily v_begin v_round v_leastFar v_leastWhere v_mostLed a_heardNow v_firstMove v_at v_sort v_from v_value v_fault a_bitsOf a_sizeOf a_number a_passing, aA cI a_d 40 t14, aA cI a_e 40 g4, aA cI a_found 7 f_found, aA cI a_hears 10 t8, aA cI a_near 10 t9] H locs → lv_has ls 5 [(0, .ref a_t), (1, .int p1), (2, .int s5), (3, .int s6), (4, .int s13)] → L_X7_camps_56 n0 v_gone t8 t9 s5 s6 kk48 n s13 t14 = some out → W p l e rmX7_camps s m args below meth c H locs 0 0 Q (F0 m 56 ls []) := by
            intro n
            induction n with
            | zero => intro s13 t14 H locs ls hV hl hF; exact lpp2_z hF
            | succ n ih56 =>
              intro s13 t14 H locs ls hV hl hF
              obtain ⟨kk56, hk56, hF⟩ := lpp2_g hF
              have hq56 : ∀ (s13 : Int32) (t14 : Nat → Int32), kk56 s13 t14 = some out → L_X7_camps_56 n0 v_gone t8 t9 s5 s6 kk48 n s13 t14 = some out := fun _ _ h => by rw [hk56] at h; exact h
              refine lv_iload C.1 C.2.1 dX7_camps_56 (lv_at hl 4 rfl) ?_
              refine lv_aload_n C.1 C.2.1 dX7_camps_58 rfl (lv_at hl 0 rfl) ?_
              refine g_get C hV flX7_camps_7 0 rfl rfl dX7_camps_59 ?_
              refine lv_iconst (v := 0) C.1 C.2.1 dX7_camps_62 rfl ?_
              refine g_iald C hV 1 rfl hF dX7_camps_63 (fun x15 hF => ?_)
              refine g_icmp_ge (tgt := 87) C hF dX7_camps_64 rfl (fun hF => ?_) (fun hF => ?_)
              · refine lv_aload_n C.1 C.2.1 dX7_camps_87 rfl (lv_at hl 0 rfl) ?_
                obtain ⟨g16, g17, hc, hF⟩ := bd2_s hF
                refine g_cVv (ws' := [oX7 a_t a_d a_e a_kept v_isKept a_found a_tape v_taped v_gone a_hears a_near a_firstDay a_daily v_begin v_round v_leastFar v_leastWhere v_mostLed a_heardNow v_firstMove v_at v_sort v_from v_value v_fault a_bitsOf a_sizeOf a_number a_passing, aA cI a_d 40 t14, aA cI a_e 40 g4, aA cI a_found 7 f_found, aA cI a_hears 10 g16, aA cI a_near 10 g17]) (wr := [aA cI a_e 40 g4, aA cI a_found 7 f_found]) C hV (k_X7_listen l dC dI cI cB cO n0 H.size a_t a_d a_e a_kept a_found a_tape a_hears a_near a_firstDay a_daily a_heardNow a_bitsOf a_sizeOf a_number a_passing v_isKept v_taped v_gone v_begin v_round v_leastFar v_leastWhere v_mostLed v_firstMove v_at v_sort v_from v_value v_fault t14 t8 t9 hc) mdX7_listen gX7_camps_X7_listen rfl rfl ⟨Nat.le_of_ble_eq_true rfl, Nat.le_of_ble_eq_true rfl⟩ [0, 1, 4, 5] [2, 3] [2, 3, 0, 1, 4, 5] rfl rfl rfl rfl rfl rfl rfl rfl rfl rfl hl.1 (Nat.le_of_ble_eq_true rfl) rfl dX7_camps_88 (fun H locs hV => ?_)
                refine lv_iload_n C.1 C.2.1 dX7_camps_91 rfl (lv_at hl 2 rfl) ?_
                refine lv_aload_n C.1 C.2.1 dX7_camps_92 rfl (lv_at hl 0 rfl) ?_
                obtain ⟨x18, hc, hF⟩ := bd1_s hF
                refine g_cVi (ws' := [oX7 a_t a_d a_e a_kept v_isKept a_found a_tape v_taped v_gone a_hears a_near a_firstDay a_daily v_begin v_round v_leastFar v_leastWhere v_mostLed a_heardNow v_firstMove v_at v_sort v_from v_value v_fault a_bitsOf a_sizeOf a_number a_passing, aA cI a_d 40 t14, aA cI a_e 40 g4, aA cI a_found 7 f_found, aA cI a_hears 10 g16, aA cI a_near 10 g17]) (wr := [aA cI a_e 40 g4, aA cI a_found 7 f_found, aA cI a_near 10 g17]) C hV (k_X7_pairs l dC dI cI cB cO n0 H.size a_t a_d a_e a_kept a_found a_tape a_hears a_near a_firstDay a_daily a_heardNow a_bitsOf a_sizeOf a_number a_passing v_isKept v_taped v_gone v_begin v_round v_leastFar v_leastWhere v_mostLed v_firstMove v_at v_sort v_from v_value v_fault t14 g16 hc) mdX7_pairs gX7_camps_X7_pairs rfl rfl ⟨Nat.le_of_ble_eq_true rfl, Nat.le_of_ble_eq_true rfl⟩ [0, 1, 4] [2, 3, 5] [3, 4, 0, 1, 5, 2] rfl rfl rfl rfl rfl rfl rfl rfl rfl rfl hl.1 (Nat.le_of_ble_eq_true rfl) rfl dX7_camps_93 (fun H locs hV => ?_)
                refine g_iadd C hF dX7_camps_96 (fun x19 hF => ?_)
                refine lv_istore_n (lv' := [(2, .int x19), (0, .ref a_t), (1, .int p1), (3, .int s6), (4, .int s13)]) C.1 C.2.1 dX7_camps_97 rfl hl (by decide) rfl (fun ls hl => ?_)
                refine g_iinc C hF dX7_camps_98 (d := 1) rfl hl (j := 3) rfl (by decide) (fun y => [(3, .int y), (2, .int x19), (0, .ref a_t), (1, .int p1), (4, .int s13)]) (fun _ => rfl) (fun x20 ls hF hl => ?_)
                refine lv_goto (tgt := 48) C.1 C.2.1 dX7_camps_101 rfl ?_
                exact ih48 x19 x20 t14 g16 g17 H locs ls hV (lv_sub hl [2, 3, 1, 0] rfl) (hq48 x19 x20 t14 g16 g17 hF)
              refine lv_aload_n C.1 C.2.1 dX7_camps_67 rfl (lv_at hl 0 rfl) ?_
              refine lv_iload C.1 C.2.1 dX7_camps_68 (lv_at hl 4 rfl) ?_
              refine lv_aload_n C.1 C.2.1 dX7_camps_70 rfl (lv_at hl 0 rfl) ?_
              obtain ⟨x21, g22, hc, hF⟩ := bd2_s hF
              refine g_cVi (ws' := [oX7 a_t a_d a_e a_kept v_isKept a_found a_tape v_taped v_gone a_hears a_near a_firstDay a_daily v_begin v_round v_leastFar v_leastWhere v_mostLed a_heardNow v_firstMove v_at v_sort v_from v_value v_fault a_bitsOf a_sizeOf a_number a_passing, aA cI a_d 40 g22, aA cI a_e 40 g4, aA cI a_found 7 f_found, aA cI a_hears 10 t8, aA cI a_near 10 t9]) (wr := [aA cI a_e 40 g4, aA cI a_found 7 f_found, aA cI a_hears 10 t8, aA cI a_near 10 t9]) C hV (k_X7_drawn l dC dI cI cB cO n0 H.size a_t a_d a_e a_kept a_found a_tape a_hears a_near a_firstDay a_daily a_heardNow a_bitsOf a_sizeOf a_number a_passing v_isKept v_taped v_gone v_begin v_round v_leastFar v_leastWhere v_mostLed v_firstMove v_at v_sort v_from v_value v_fault t14 hc) mdX7_drawn gX7_camps_X7_drawn rfl rfl ⟨Nat.le_of_ble_eq_true rfl, Nat.le_of_ble_eq_true rfl⟩ [0, 1] [2, 3, 4, 5] [4, 5, 0, 1, 2, 3] rfl rfl rfl rfl rfl rfl rfl rfl rfl rfl hl.1 (Nat.le_of_ble_eq_true rfl) rfl dX7_camps_71 (fun H locs hV => ?_)
              refine lv_sipush (v := 144) C.1 C.2.1 dX7_camps_74 rfl ?_
              refine g_irem C hF dX7_camps_77 (fun x23 hF => ?_)
              obtain ⟨g24, hc, hF⟩ := bd1_s hF
              refine g_cVv (ws' := [oX7 a_t a_d a_e a_kept v_isKept a_found a_tape v_taped v_gone a_hears a_near a_firstDay a_daily v_begin v_round v_leastFar v_leastWhere v_mostLed a_heardNow v_firstMove v_at v_sort v_from v_value v_fault a_bitsOf a_sizeOf a_number a_passing, aA cI a_d 40 g24, aA cI a_e 40 g4, aA cI a_found 7 f_found, aA cI a_hears 10 t8, aA cI a_near 10 t9]) (wr := [aA cI a_e 40 g4, aA cI a_found 7 f_found, aA cI a_hears 10 t8, aA cI a_near 10 t9]) C hV (k_X7_goes l dC dI cI cB cO n0 H.size a_t a_d a_e a_kept a_found a_tape a_hears a_near a_firstDay a_daily a_heardNow a_bitsOf a_sizeOf a_number a_passing v_isKept v_taped v_gone v_begin v_round v_leastFar v_leastWhere v_mostLed v_firstMove v_at v_sort v_from v_value v_fault g22 s13 x23 hc) mdX7_goes gX7_camps_X7_goes rfl rfl ⟨Nat.le_of_ble_eq_true rfl, Nat.le_of_ble_eq_true rfl⟩ [0, 1] [2, 3, 4, 5] [4, 5, 0, 1, 2, 3] rfl rfl rfl rfl rfl rfl rfl rfl rfl rfl hl.1 (Nat.le_of_ble_eq_true rfl) rfl dX7_camps_78 (fun H locs hV => ?_)
              refine g_iinc C hF dX7_camps_81 (d := 1) rfl hl (j := 4) rfl (by decide) (fun y => [(4, .int y), (0, .ref a_t), (1, .int p1), (2, .int s5), (3, .int s6)]) (fun _ => rfl) (fun x25 ls hF hl => ?_)
              refine lv_goto (tgt := 56) C.1 C.2.1 dX7_camps_84 rfl ?_
              exact ih56 x25 g24 H locs ls hV (lv_sub hl [1, 2, 3, 4, 0] rfl) (hq56 x25 g24 hF)
          exact hL56 n0 0 t7 H locs ls hV (lv_sub hl [1, 2, 3, 4, 0] rfl) hF
      exact hL48 n0 0 0 f_d f_hears f_near H locs ls hV (lv_sub hl [2, 3, 1, 0] rfl) hF
    refine lv_aload_n C.1 C.2.1 dX7_camps_27 rfl (lv_at hl 0 rfl) ?_
    refine lv_iconst (v := 4) C.1 C.2.1 dX7_camps_28 rfl ?_
    obtain ⟨x26, g27, hc, hF⟩ := bd2_s hF
    refine g_cVi (ws' := [oX7 a_t a_d a_e a_kept v_isKept a_found a_tape v_taped v_gone a_hears a_near a_firstDay a_daily v_begin v_round v_leastFar v_leastWhere v_mostLed a_heardNow v_firstMove v_at v_sort v_from v_value v_fault a_bitsOf a_sizeOf a_number a_passing, aA cI a_d 40 f_d, aA cI a_e 40 f_e, aA cI a_found 7 g27, aA cI a_hears 10 f_hears, aA cI a_near 10 f_near]) (wr := [aA cI a_d 40 f_d, aA cI a_e 40 f_e, aA cI a_hears 10 f_hears, aA cI a_near 10 f_near]) C hV (k_X7_finds l dC dI cI cB cO n0 H.size a_t a_d a_e a_kept a_found a_tape a_hears a_near a_firstDay a_daily a_heardNow a_bitsOf a_sizeOf a_number a_passing v_isKept v_taped v_gone v_begin v_round v_leastFar v_leastWhere v_mostLed v_firstMove v_at v_sort v_from v_value v_fault f_found 4 hc) mdX7_finds gX7_camps_X7_finds rfl rfl ⟨Nat.le_of_ble_eq_true rfl, Nat.le_of_ble_eq_true rfl⟩ [0, 3] [1, 2, 4, 5] [4, 0, 1, 5, 2, 3] rfl rfl rfl rfl rfl rfl rfl rfl rfl rfl hl.1 (Nat.le_of_ble_eq_true rfl) rfl dX7_camps_29 (fun H locs hV => ?_)
    exact hret (x26, f_d, f_e, g27, f_hears, f_near) _ _ _ _ dX7_camps_32 hF hV
  refine lv_aload_n C.1 C.2.1 dX7_camps_12 rfl (lv_at hl 0 rfl) ?_
  refine lv_iconst (v := 0) C.1 C.2.1 dX7_camps_13 rfl ?_
  obtain ⟨x28, g29, hc, hF⟩ := bd2_s hF
  refine g_cVi (ws' := [oX7 a_t a_d a_e a_kept v_isKept a_found a_tape v_taped v_gone a_hears a_near a_firstDay a_daily v_begin v_round v_leastFar v_leastWhere v_mostLed a_heardNow v_firstMove v_at v_sort v_from v_value v_fault a_bitsOf a_sizeOf a_number a_passing, aA cI a_d 40 f_d, aA cI a_e 40 f_e, aA cI a_found 7 g29, aA cI a_hears 10 f_hears, aA cI a_near 10 f_near]) (wr := [aA cI a_d 40 f_d, aA cI a_e 40 f_e, aA cI a_hears 10 f_hears, aA cI a_near 10 f_near]) C hV (k_X7_finds l dC dI cI cB cO n0 H.size a_t a_d a_e a_kept a_found a_tape a_hears a_near a_firstDay a_daily a_heardNow a_bitsOf a_sizeOf a_number a_passing v_isKept v_taped v_gone v_begin v_round v_leastFar v_leastWhere v_mostLed v_firstMove v_at v_sort v_from v_value v_fault f_found 0 hc) mdX7_finds gX7_camps_X7_finds rfl rfl ⟨Nat.le_of_ble_eq_true rfl, Nat.le_of_ble_eq_true rfl⟩ [0, 3] [1, 2, 4, 5] [4, 0, 1, 5, 2, 3] rfl rfl rfl rfl rfl rfl rfl rfl rfl rfl hl.1 (Nat.le_of_ble_eq_true rfl) rfl dX7_camps_14 (fun H locs hV => ?_)
  exact hret (x28, f_d, f_e, g29, f_hears, f_near) _ _ _ _ dX7_camps_17 hF hV
abbrev rmX7_seed : Room := { frames := 0, cells := 0, slots := 0, locals := 0 }
theorem mdX7_seed : gMd yX7_seed wsX7_seed cX7_seed 3 (some .int) 1 := ⟨⟨_, rfl⟩, by decide +kernel⟩
theorem flX7_seed_7 : gFL wsX7_seed RX7 7 7 0 RX7 TX7 28 := ⟨rfl, fun w h => List.mem_cons_of_mem _ (List.mem_append_right _ (h)), Nat.le_of_ble_eq_true rfl, List.mem_cons_of_mem _ (List.mem_append_left _ (List.mem_of_getElem? (i := 0) rfl))⟩
def F_X7_seed (n0 : Nat) (f_d : Nat → Int32) (p1 : Int32) : Option (Int32 × (Nat → Int32)) := rd f_d 40 2 (fun x1 => wrt f_d 40 2 p1 (fun g2 => some (x1, g2)))
set_option maxRecDepth 100000 in
set_option maxHeartbeats 4000000 in
theorem k_X7_seed (l : Launch) (dC : Nat → ClassId) (dI : Nat → Nat → Nat) (cI cB cO : ClassId) (n0 sz : Nat) (a_t : Nat) (a_d : Nat) (a_e : Nat) (a_kept : Nat) (a_found : Nat) (a_tape : Nat) (a_hears : Nat) (a_near : Nat) (a_firstDay : Nat) (a_daily : Nat) (a_heardNow : Nat) (a_bitsOf : Nat) (a_sizeOf : Nat) (a_number : Nat) (a_passing : Nat)   (v_isKept : Int32) (v_taped : Int32) (v_gone : Int32) (v_begin : Int32) (v_round : Int32) (v_leastFar : Int32) (v_leastWhere : Int32) (v_mostLed : Int32) (v_firstMove : Int32) (v_at : Int32) (v_sort : Int32) (v_from : Int32) (v_value : Int64) (v_fault : Int32) (f_d : Nat → Int32) (p1 : Int32)  {ro : Int32} {o0 : Nat → Int32} (hF : F_X7_seed n0 f_d p1 = some (ro, o0)) : Met l yX7_seed wsX7_seed rmX7_seed (va_Pc [.ref a_t, .int p1] (gPre (dC, dI) (gT cI cB cO) sz [oX7 a_t a_d a_e a_kept v_isKept a_found a_tape v_taped v_gone a_hears a_near a_firstDay a_daily v_begin v_round v_leastFar v_leastWhere v_mostLed a_heardNow v_firstMove v_at v_sort v_from v_value v_fault a_bitsOf a_sizeOf a_number a_passing, aA cI a_d 40 f_d])) (gQi (dC, dI) (gT cI cB cO) sz [oX7 a_t a_d a_e a_kept v_isKept a_found a_tape v_taped v_gone a_hears a_near a_firstDay a_daily v_begin v_round v_leastFar v_leastWhere v_mostLed a_heardNow v_firstMove v_at v_sort v_from v_value v_fault a_bitsOf a_sizeOf a_number a_passing, aA cI a_d 40 f_d] ro [oX7 a_t a_d a_e a_kept v_isKept a_found a_tape v_taped v_gone a_hears a_near a_firstDay a_daily v_begin v_round v_leastFar v_leastWhere v_mostLed a_heardNow v_firstMove v_at v_sort v_from v_value v_fault a_bitsOf a_sizeOf a_number a_passing, aA cI a_d 40 o0]) 0 0 (va_A [oX7 a_t a_d a_e a_kept v_isKept a_found a_tape v_taped v_gone a_hears a_near a_firstDay a_daily v_begin v_round v_leastFar v_leastWhere v_mostLed a_heardNow v_firstMove v_at v_sort v_from v_value v_fault a_bitsOf a_sizeOf a_number a_passing, aA cI a_d 40 f_d] sz) := by
  refine g_metI (Out := Int32 × (Nat → Int32)) (fun oo => oo.1) (fun oo => [oX7 a_t a_d a_e a_kept v_isKept a_found a_tape v_taped v_gone a_hears a_near a_firstDay a_daily v_begin v_round v_leastFar v_leastWhere v_mostLed a_heardNow v_firstMove v_at v_sort v_from v_value v_fault a_bitsOf a_sizeOf a_number a_passing, aA cI a_d 40 oo.2]) (ro, o0) (own := RX7) (lv := [(0, .ref a_t), (1, .int p1)]) (by decide) rfl rfl (Nat.le_of_ble_eq_true rfl) rfl ?_
  intro p e s m args below meth c Q ls C hret hV hl
  obtain ⟨out, hout⟩ : ∃ z : Int32 × (Nat → Int32), z = (ro, o0) := ⟨_, rfl⟩
  rw [← hout] at hF hret
  obtain ⟨H0, hH0⟩ : ∃ z : Heap, z = s.heap := ⟨_, rfl⟩
  obtain ⟨A0, hA0⟩ : ∃ z : Nat → Prop, z = va_A [oX7 a_t a_d a_e a_kept v_isKept a_found a_tape v_taped v_gone a_hears a_near a_firstDay a_daily v_begin v_round v_leastFar v_leastWhere v_mostLed a_heardNow v_firstMove v_at v_sort v_from v_value v_fault a_bitsOf a_sizeOf a_number a_passing, aA cI a_d 40 f_d] s.heap.size := ⟨_, rfl⟩
  rw [← hA0] at hret hV
  rw [← hH0] at hret hV
  rw [← hH0]
  obtain ⟨H, locs, hH⟩ : ∃ (z : Heap) (y : List Loc), z = H0 ∧ y = [] := ⟨_, _, rfl, rfl⟩
  rw [← hH.1, ← hH.2]
  have hV : gV (dC, dI) (gT cI cB cO) A0 H0 s [oX7 a_t a_d a_e a_kept v_isKept a_found a_tape v_taped v_gone a_hears a_near a_firstDay a_daily v_begin v_round v_leastFar v_leastWhere v_mostLed a_heardNow v_firstMove v_at v_sort v_from v_value v_fault a_bitsOf a_sizeOf a_number a_passing, aA cI a_d 40 f_d] H locs := by rw [hH.1, hH.2]; exact hV
  unfold F_X7_seed at hF
  refine lv_aload_n C.1 C.2.1 dX7_seed_0 rfl (lv_at hl 0 rfl) ?_
  refine g_get C hV flX7_seed_7 0 rfl rfl dX7_seed_1 ?_
  refine lv_iconst (v := 2) C.1 C.2.1 dX7_seed_4 rfl ?_
  refine g_iald C hV 1 rfl hF dX7_seed_5 (fun x1 hF => ?_)
  refine lv_istore_n (lv' := [(2, .int x1), (0, .ref a_t), (1, .int p1)]) C.1 C.2.1 dX7_seed_6 rfl hl (by decide) rfl (fun ls hl => ?_)
  refine lv_aload_n C.1 C.2.1 dX7_seed_7 rfl (lv_at hl 1 rfl) ?_
  refine g_get C hV flX7_seed_7 0 rfl rfl dX7_seed_8 ?_
  refine lv_iconst (v := 2) C.1 C.2.1 dX7_seed_11 rfl ?_
  refine lv_iload_n C.1 C.2.1 dX7_seed_12 rfl (lv_at hl 2 rfl) ?_
  refine g_iast C hV 1 rfl hF (fun gq => [oX7 a_t a_d a_e a_kept v_isKept a_found a_tape v_taped v_gone a_hears a_near a_firstDay a_daily v_begin v_round v_leastFar v_leastWhere v_mostLed a_heardNow v_firstMove v_at v_sort v_from v_value v_fault a_bitsOf a_sizeOf a_number a_passing, aA cI a_d 40 gq]) (fun _ => rfl) dX7_seed_13 (fun g2 H locs hF hV => ?_)
  refine lv_iload_n C.1 C.2.1 dX7_seed_14 rfl (lv_at hl 0 rfl) ?_
  exact hret (x1, g2) _ _ _ _ dX7_seed_15 hF hV
abbrev rmX7_feed : Room := { frames := 1, cells := 0, slots := 0, locals := 25 }
theorem mdX7_feed : gMd yX7_feed wsX7_feed cX7_feed 4 (some .int) 2 := ⟨⟨_, rfl⟩, by decide +kernel⟩
theorem ctX7_feed_214 : Cond.constantLong RX7 214 4 ∈ wsX7_feed := List.mem_cons_of_mem _ (List.mem_append_left _ (List.mem_of_getElem? (i := 0) rfl))
theorem flX7_feed_216 : gFL wsX7_feed RX7 216 7 6 RX7 TX7 28 := ⟨rfl, fun w h => List.mem_cons_of_mem _ (List.mem_append_right _ (h)), Nat.le_of_ble_eq_true rfl, List.mem_cons_of_mem _ (List.mem_append_left _ (List.mem_of_getElem? (i := 1) rfl))⟩
theorem flX7_feed_22 : gFL wsX7_feed RX7 22 7 5 RX7 TX7 28 := ⟨rfl, fun w h => List.mem_cons_of_mem _ (List.mem_append_right _ (h)), Nat.le_of_ble_eq_true rfl, List.mem_cons_of_mem _ (List.mem_append_left _ (List.mem_of_getElem? (i := 2) rfl))⟩
theorem fpX7_feed_216 : gFP wsX7_feed RX7 216 7 6 RX7 TX7 28 .int := ⟨flX7_feed_216, ⟨tyX7, tyX7_ok⟩, nmX7, rfl, by decide +kernel⟩
def L_X7_feed_39 (f_found : Nat → Int32) (p1 : Int32) : Nat → Int32 → (Nat → Int32) → Int32 → Option (Int32 × Int32 × (Nat → Int32) × (Nat → Int32)) := lpp3 (fun s5 t6 u7 kk39 => (if s5 < 0 then some (u7, u7, f_found, t6) else nm (8 * s5) (fun x8 => nm (p1 >>> (x8 &&& 31)) (fun x9 => nm (x9.toInt8.toInt32) (fun x10 => wrt t6 120 u7 (vp_nar .byte x10) (fun g11 => nm (u7 + 1) (fun x12 => nm (s5 + (-1)) (fun x13 => kk39 x13 g11 x12))))))))
def F_X7_feed (n0 : Nat) (v_taped : Int32) (f_found : Nat → Int32) (f_tape : Nat → Int32) (p1 : Int32) (p2 : Int32) : Option (Int32 × Int32 × (Nat → Int32) × (Nat → Int32)) := nm (p2.toInt64) (fun x1 => bd1 (F_X7_in n0 x1 1 4) (fun x2 => (if x2 = 0 then bd2 (F_X7_finds n0 f_found 0) (fun x16 g17 => some (x16, v_taped, g17, f_tape)) else nm (v_taped + p2) (fun x3 => (if x3 ≤ 120 then nm (p2 - 1) (fun x4 => L_X7_feed_39 f_found p1 n0 x4 f_tape v_taped) else bd2 (F_X7_finds n0 f_found 1) (fun x14 g15 => some (x14, v_taped, g15, f_tape)))))))
set_option maxRecDepth 100000 in
set_option maxHeartbeats 4000000 in
theorem k_X7_feed (l : Launch) (dC : Nat → ClassId) (dI : Nat → Nat → Nat) (cI cB cO : ClassId) (n0 sz : Nat) (a_t : Nat) (a_d : Nat) (a_e : Nat) (a_kept : Nat) (a_found : Nat) (a_tape : Nat) (a_hears : Nat) (a_near : Nat) (a_firstDay : Nat) (a_daily : Nat) (a_heardNow : Nat) (a_bitsOf : Nat) (a_sizeOf : Nat) (a_number : Nat) (a_passing : Nat)   (v_isKept : Int32) (v_taped : Int32) (v_gone : Int32) (v_begin : Int32) (v_round : Int32) (v_leastFar : Int32) (v_leastWhere : Int32) (v_mostLed : Int32) (v_firstMove : Int32) (v_at : Int32) (v_sort : Int32) (v_from : Int32) (v_value : Int64) (v_fault : Int32) (f_found : Nat → Int32) (f_tape : Nat → Int32) (p1 : Int32) (p2 : Int32)  {ro : Int32} {o0 : Int32} {o1 : Nat → Int32} {o2 : Nat → Int32} (hF : F_X7_feed n0 v_taped f_found f_tape p1 p2 = some (ro, o0, o1, o2)) : Met l yX7_feed wsX7_feed rmX7_feed (va_Pc [.ref a_t, .int p1, .int p2] (gPre (dC, dI) (gT cI cB cO) sz [oX7 a_t a_d a_e a_kept v_isKept a_found a_tape v_taped v_gone a_hears a_near a_firstDay a_daily v_begin v_round v_leastFar v_leastWhere v_mostLed a_heardNow v_firstMove v_at v_sort v_from v_value v_fault a_bitsOf a_sizeOf a_number a_passing, aA cI a_found 7 f_found, aA cB a_tape 120 f_tape])) (gQi (dC, dI) (gT cI cB cO) sz [oX7 a_t a_d a_e a_kept v_isKept a_found a_tape v_taped v_gone a_hears a_near a_firstDay a_daily v_begin v_round v_leastFar v_leastWhere v_mostLed a_heardNow v_firstMove v_at v_sort v_from v_value v_fault a_bitsOf a_sizeOf a_number a_passing, aA cI a_found 7 f_found, aA cB a_tape 120 f_tape] ro [oX7 a_t a_d a_e a_kept v_isKept a_found a_tape o0 v_gone a_hears a_near a_firstDay a_daily v_begin v_round v_leastFar v_leastWhere v_mostLed a_heardNow v_firstMove v_at v_sort v_from v_value v_fault a_bitsOf a_sizeOf a_number a_passing, aA cI a_found 7 o1, aA cB a_tape 120 o2]) 0 0 (va_A [oX7 a_t a_d a_e a_kept v_isKept a_found a_tape v_taped v_gone a_hears a_near a_firstDay a_daily v_begin v_round v_leastFar v_leastWhere v_mostLed a_heardNow v_firstMove v_at v_sort v_from v_value v_fault a_bitsOf a_sizeOf a_number a_passing, aA cI a_found 7 f_found, aA cB a_tape 120 f_tape] sz) := by
  refine g_metI (Out := Int32 × Int32 × (Nat → Int32) × (Nat → Int32)) (fun oo => oo.1) (fun oo => [oX7 a_t a_d a_e a_kept v_isKept a_found a_tape oo.2.1 v_gone a_hears a_near a_firstDay a_daily v_begin v_round v_leastFar v_leastWhere v_mostLed a_heardNow v_firstMove v_at v_sort v_from v_value v_fault a_bitsOf a_sizeOf a_number a_passing, aA cI a_found 7 oo.2.2.1, aA cB a_tape 120 oo.2.2.2]) (ro, o0, o1, o2) (own := RX7) (lv := [(0, .ref a_t), (1, .int p1), (2, .int p2)]) (by decide) rfl rfl (Nat.le_of_ble_eq_true rfl) rfl ?_
  intro p e s m args below meth c Q ls C hret hV hl
  obtain ⟨out, hout⟩ : ∃ z : Int32 × Int32 × (Nat → Int32) × (Nat → Int32), z = (ro, o0, o1, o2) := ⟨_, rfl⟩
  rw [← hout] at hF hret
  obtain ⟨H0, hH0⟩ : ∃ z : Heap, z = s.heap := ⟨_, rfl⟩
  obtain ⟨A0, hA0⟩ : ∃ z : Nat → Prop, z = va_A [oX7 a_t a_d a_e a_kept v_isKept a_found a_tape v_taped v_gone a_hears a_near a_firstDay a_daily v_begin v_round v_leastFar v_leastWhere v_mostLed a_heardNow v_firstMove v_at v_sort v_from v_value v_fault a_bitsOf a_sizeOf a_number a_passing, aA cI a_found 7 f_found, aA cB a_tape 120 f_tape] s.heap.size := ⟨_, rfl⟩
  rw [← hA0] at hret hV
  rw [← hH0] at hret hV
  rw [← hH0]
  obtain ⟨H, locs, hH⟩ : ∃ (z : Heap) (y : List Loc), z = H0 ∧ y = [] := ⟨_, _, rfl, rfl⟩
  rw [← hH.1, ← hH.2]
  have hV : gV (dC, dI) (gT cI cB cO) A0 H0 s [oX7 a_t a_d a_e a_kept v_isKept a_found a_tape v_taped v_gone a_hears a_near a_firstDay a_daily v_begin v_round v_leastFar v_leastWhere v_mostLed a_heardNow v_firstMove v_at v_sort v_from v_value v_fault a_bitsOf a_sizeOf a_number a_passing, aA cI a_found 7 f_found, aA cB a_tape 120 f_tape] H locs := by rw [hH.1, hH.2]; exact hV
  unfold F_X7_feed at hF
  refine lv_iload_n C.1 C.2.1 dX7_feed_0 rfl (lv_at hl 2 rfl) ?_
  refine g_i2l C hF dX7_feed_1 (fun x1 hF => ?_)
  refine lv_lconst (v := 1) C.1 C.2.1 dX7_feed_2 rfl ?_
  refine lv_ldc2 (v := 4) C.1 C.2.1 C.2.2.2.1 (C.2.2.2.2 _ ctX7_feed_214) dX7_feed_3 ?_
  obtain ⟨x2, hc, hF⟩ := bd1_s hF
  refine g_cSi (ws' := [oX7 a_t a_d a_e a_kept v_isKept a_found a_tape v_taped v_gone a_hears a_near a_firstDay a_daily v_begin v_round v_leastFar v_leastWhere v_mostLed a_heardNow v_firstMove v_at v_sort v_from v_value v_fault a_bitsOf a_sizeOf a_number a_passing, aA cI a_found 7 f_found, aA cB a_tape 120 f_tape]) (wr := [oX7 a_t a_d a_e a_kept v_isKept a_found a_tape v_taped v_gone a_hears a_near a_firstDay a_daily v_begin v_round v_leastFar v_leastWhere v_mostLed a_heardNow v_firstMove v_at v_sort v_from v_value v_fault a_bitsOf a_sizeOf a_number a_passing, aA cI a_found 7 f_found, aA cB a_tape 120 f_tape]) C hV (k_X7_in l dC dI cI cB cO n0 H.size x1 1 4 hc) mdX7_in gX7_feed_X7_in rfl rfl ⟨Nat.le_of_ble_eq_true rfl, Nat.le_of_ble_eq_true rfl⟩ [] [0, 1, 2] [0, 1, 2] rfl rfl rfl rfl rfl rfl rfl rfl hl.1 (Nat.le_of_ble_eq_true rfl) rfl dX7_feed_6 (fun H locs hV => ?_)
  refine g_if_ne (tgt := 18) C hF dX7_feed_9 rfl (fun hF => ?_) (fun hF => ?_)
  · refine lv_aload_n C.1 C.2.1 dX7_feed_18 rfl (lv_at hl 0 rfl) ?_
    refine g_get C hV flX7_feed_216 0 rfl rfl dX7_feed_19 ?_
    refine lv_iload_n C.1 C.2.1 dX7_feed_22 rfl (lv_at hl 2 rfl) ?_
    refine g_iadd C hF dX7_feed_23 (fun x3 hF => ?_)
    refine lv_bipush (v := 120) C.1 C.2.1 dX7_feed_24 rfl ?_
    refine g_icmp_le (tgt := 35) C hF dX7_feed_26 rfl (fun hF => ?_) (fun hF => ?_)
    · refine lv_iload_n C.1 C.2.1 dX7_feed_35 rfl (lv_at hl 2 rfl) ?_
      refine lv_iconst (v := 1) C.1 C.2.1 dX7_feed_36 rfl ?_
      refine g_isub C hF dX7_feed_37 (fun x4 hF => ?_)
      refine lv_istore_n (lv' := [(3, .int x4), (0, .ref a_t), (1, .int p1), (2, .int p2)]) C.1 C.2.1 dX7_feed_38 rfl hl (by decide) rfl (fun ls hl => ?_)
      have hL39 : ∀ (n : Nat) (s5 : Int32) (t6 : Nat → Int32) (u7 : Int32) (H : Heap) (locs : List Loc) (ls : Array Slot), gV (dC, dI) (gT cI cB cO) A0 H0 s [oX7 a_t a_d a_e a_kept v_isKept a_found a_tape u7 v_gone a_hears a_near a_firstDay a_daily v_begin v_round v_leastFar v_leastWhere v_mostLed a_heardNow v_firstMove v_at v_sort v_from v_value v_fault a_bitsOf a_sizeOf a_number a_passing, aA cI a_found 7 f_found, aA cB a_tape 120 t6] H locs → lv_has ls 4 [(0, .ref a_t), (1, .int p1), (3, .int s5)] → L_X7_feed_39 f_found p1 n s5 t6 u7 = some out → W p l e rmX7_feed s m args below meth c H locs 0 0 Q (F0 m 39 ls []) := by
        intro n
        induction n with
        | zero => intro s5 t6 u7 H locs ls hV hl hF; exact lpp3_z hF
        | succ n ih39 =>
          intro s5 t6 u7 H locs ls hV hl hF
          obtain ⟨kk39, hk39, hF⟩ := lpp3_g hF
          have hq39 : ∀ (s5 : Int32) (t6 : Nat → Int32) (u7 : Int32), kk39 s5 t6 u7 = some out → L_X7_feed_39 f_found p1 n s5 t6 u7 = some out := fun _ _ _ h => by rw [hk39] at h; exact h
          refine lv_iload_n C.1 C.2.1 dX7_feed_39 rfl (lv_at hl 2 rfl) ?_
          refine g_if_lt (tgt := 75) C hF dX7_feed_40 rfl (fun hF => ?_) (fun hF => ?_)
          · refine lv_aload_n C.1 C.2.1 dX7_feed_75 rfl (lv_at hl 0 rfl) ?_
            refine g_get C hV flX7_feed_216 0 rfl rfl dX7_feed_76 ?_
            exact hret (u7, u7, f_found, t6) _ _ _ _ dX7_feed_79 hF hV
          refine lv_aload_n C.1 C.2.1 dX7_feed_43 rfl (lv_at hl 0 rfl) ?_
          refine g_get C hV flX7_feed_22 0 rfl rfl dX7_feed_44 ?_
          refine lv_aload_n C.1 C.2.1 dX7_feed_47 rfl (lv_at hl 0 rfl) ?_
          refine g_get C hV flX7_feed_216 0 rfl rfl dX7_feed_48 ?_
          refine lv_iload_n C.1 C.2.1 dX7_feed_51 rfl (lv_at hl 1 rfl) ?_
          refine lv_bipush (v := 8) C.1 C.2.1 dX7_feed_52 rfl ?_
          refine lv_iload_n C.1 C.2.1 dX7_feed_54 rfl (lv_at hl 2 rfl) ?_
          refine g_imul C hF dX7_feed_55 (fun x8 hF => ?_)
          refine g_ishr C hF dX7_feed_56 (fun x9 hF => ?_)
          refine g_i2b C hF dX7_feed_57 (fun x10 hF => ?_)
          refine g_bast C hV 2 rfl hF (fun gq => [oX7 a_t a_d a_e a_kept v_isKept a_found a_tape u7 v_gone a_hears a_near a_firstDay a_daily v_begin v_round v_leastFar v_leastWhere v_mostLed a_heardNow v_firstMove v_at v_sort v_from v_value v_fault a_bitsOf a_sizeOf a_number a_passing, aA cI a_found 7 f_found, aA cB a_tape 120 gq]) (fun _ => rfl) dX7_feed_58 (fun g11 H locs hF hV => ?_)
          refine lv_aload_n C.1 C.2.1 dX7_feed_59 rfl (lv_at hl 0 rfl) ?_
          refine lv_dup C.1 C.2.1 dX7_feed_60 rfl ?_
          refine g_get C hV flX7_feed_216 0 rfl rfl dX7_feed_61 ?_
          refine lv_iconst (v := 1) C.1 C.2.1 dX7_feed_64 rfl ?_
          refine g_iadd C hF dX7_feed_65 (fun x12 hF => ?_)
          refine g_put (ws' := [oX7 a_t a_d a_e a_kept v_isKept a_found a_tape x12 v_gone a_hears a_near a_firstDay a_daily v_begin v_round v_leastFar v_leastWhere v_mostLed a_heardNow v_firstMove v_at v_sort v_from v_value v_fault a_bitsOf a_sizeOf a_number a_passing, aA cI a_found 7 f_found, aA cB a_tape 120 g11]) C hV fpX7_feed_216 0 rfl rfl rfl (Nat.le_of_ble_eq_true rfl) rfl dX7_feed_66 (fun H locs hV => ?_)
          refine g_iinc C hF dX7_feed_69 (d := (-1)) rfl hl (j := 2) rfl (by decide) (fun y => [(3, .int y), (0, .ref a_t), (1, .int p1)]) (fun _ => rfl) (fun x13 ls hF hl => ?_)
          refine lv_goto (tgt := 39) C.1 C.2.1 dX7_feed_72 rfl ?_
          exact ih39 x13 g11 x12 H locs ls hV (lv_sub hl [1, 2, 0] rfl) (hq39 x13 g11 x12 hF)
      exact hL39 n0 x4 f_tape v_taped H locs ls hV (lv_sub hl [1, 2, 0] rfl) hF
    refine lv_aload_n C.1 C.2.1 dX7_feed_29 rfl (lv_at hl 0 rfl) ?_
    refine lv_iconst (v := 1) C.1 C.2.1 dX7_feed_30 rfl ?_
    obtain ⟨x14, g15, hc, hF⟩ := bd2_s hF
    refine g_cVi (ws' := [oX7 a_t a_d a_e a_kept v_isKept a_found a_tape v_taped v_gone a_hears a_near a_firstDay a_daily v_begin v_round v_leastFar v_leastWhere v_mostLed a_heardNow v_firstMove v_at v_sort v_from v_value v_fault a_bitsOf a_sizeOf a_number a_passing, aA cI a_found 7 g15, aA cB a_tape 120 f_tape]) (wr := [aA cB a_tape 120 f_tape]) C hV (k_X7_finds l dC dI cI cB cO n0 H.size a_t a_d a_e a_kept a_found a_tape a_hears a_near a_firstDay a_daily a_heardNow a_bitsOf a_sizeOf a_number a_passing v_isKept v_taped v_gone v_begin v_round v_leastFar v_leastWhere v_mostLed v_firstMove v_at v_sort v_from v_value v_fault f_found 1 hc) mdX7_finds gX7_feed_X7_finds rfl rfl ⟨Nat.le_of_ble_eq_true rfl, Nat.le_of_ble_eq_true rfl⟩ [0, 1] [2] [1, 2, 0] rfl rfl rfl rfl rfl rfl rfl rfl rfl rfl hl.1 (Nat.le_of_ble_eq_true rfl) rfl dX7_feed_31 (fun H locs hV => ?_)
    exact hret (x14, v_taped, g15, f_tape) _ _ _ _ dX7_feed_34 hF hV
  refine lv_aload_n C.1 C.2.1 dX7_feed_12 rfl (lv_at hl 0 rfl) ?_
  refine lv_iconst (v := 0) C.1 C.2.1 dX7_feed_13 rfl ?_
  obtain ⟨x16, g17, hc, hF⟩ := bd2_s hF
  refine g_cVi (ws' := [oX7 a_t a_d a_e a_kept v_isKept a_found a_tape v_taped v_gone a_hears a_near a_firstDay a_daily v_begin v_round v_leastFar v_leastWhere v_mostLed a_heardNow v_firstMove v_at v_sort v_from v_value v_fault a_bitsOf a_sizeOf a_number a_passing, aA cI a_found 7 g17, aA cB a_tape 120 f_tape]) (wr := [aA cB a_tape 120 f_tape]) C hV (k_X7_finds l dC dI cI cB cO n0 H.size a_t a_d a_e a_kept a_found a_tape a_hears a_near a_firstDay a_daily a_heardNow a_bitsOf a_sizeOf a_number a_passing v_isKept v_taped v_gone v_begin v_round v_leastFar v_leastWhere v_mostLed v_firstMove v_at v_sort v_from v_value v_fault f_found 0 hc) mdX7_finds gX7_feed_X7_finds rfl rfl ⟨Nat.le_of_ble_eq_true rfl, Nat.le_of_ble_eq_true rfl⟩ [0, 1] [2] [1, 2, 0] rfl rfl rfl rfl rfl rfl rfl rfl rfl rfl hl.1 (Nat.le_of_ble_eq_true rfl) rfl dX7_feed_14 (fun H locs hV => ?_)
  exact hret (x16, v_taped, g17, f_tape) _ _ _ _ dX7_feed_17 hF hV
abbrev rmX7_wipe : Room := { frames := 0, cells := 0, slots := 0, locals := 0 }
theorem mdX7_wipe : gMd yX7_wipe wsX7_wipe cX7_wipe 2 (some .int) 0 := ⟨⟨_, rfl⟩, by decide +kernel⟩
theorem flX7_wipe_216 : gFL wsX7_wipe RX7 216 7 6 RX7 TX7 28 := ⟨rfl, fun w h => List.mem_cons_of_mem _ (List.mem_append_right _ (h)), Nat.le_of_ble_eq_true rfl, List.mem_cons_of_mem _ (List.mem_append_left _ (List.mem_of_getElem? (i := 0) rfl))⟩
theorem fpX7_wipe_216 : gFP wsX7_wipe RX7 216 7 6 RX7 TX7 28 .int := ⟨flX7_wipe_216, ⟨tyX7, tyX7_ok⟩, nmX7, rfl, by decide +kernel⟩
def F_X7_wipe (n0 : Nat) (v_taped : Int32) : Option (Int32 × Int32) := some (v_taped, 0)
set_option maxRecDepth 100000 in
set_option maxHeartbeats 4000000 in
theorem k_X7_wipe (l : Launch) (dC : Nat → ClassId) (dI : Nat → Nat → Nat) (cI cB cO : ClassId) (n0 sz : Nat) (a_t : Nat) (a_d : Nat) (a_e : Nat) (a_kept : Nat) (a_found : Nat) (a_tape : Nat) (a_hears : Nat) (a_near : Nat) (a_firstDay : Nat) (a_daily : Nat) (a_heardNow : Nat) (a_bitsOf : Nat) (a_sizeOf : Nat) (a_number : Nat) (a_passing : Nat)   (v_isKept : Int32) (v_taped : Int32) (v_gone : Int32) (v_begin : Int32) (v_round : Int32) (v_leastFar : Int32) (v_leastWhere : Int32) (v_mostLed : Int32) (v_firstMove : Int32) (v_at : Int32) (v_sort : Int32) (v_from : Int32) (v_value : Int64) (v_fault : Int32)   {ro : Int32} {o0 : Int32} (hF : F_X7_wipe n0 v_taped = some (ro, o0)) : Met l yX7_wipe wsX7_wipe rmX7_wipe (va_Pc [.ref a_t] (gPre (dC, dI) (gT cI cB cO) sz [oX7 a_t a_d a_e a_kept v_isKept a_found a_tape v_taped v_gone a_hears a_near a_firstDay a_daily v_begin v_round v_leastFar v_leastWhere v_mostLed a_heardNow v_firstMove v_at v_sort v_from v_value v_fault a_bitsOf a_sizeOf a_number a_passing])) (gQi (dC, dI) (gT cI cB cO) sz [oX7 a_t a_d a_e a_kept v_isKept a_found a_tape v_taped v_gone a_hears a_near a_firstDay a_daily v_begin v_round v_leastFar v_leastWhere v_mostLed a_heardNow v_firstMove v_at v_sort v_from v_value v_fault a_bitsOf a_sizeOf a_number a_passing] ro [oX7 a_t a_d a_e a_kept v_isKept a_found a_tape o0 v_gone a_hears a_near a_firstDay a_daily v_begin v_round v_leastFar v_leastWhere v_mostLed a_heardNow v_firstMove v_at v_sort v_from v_value v_fault a_bitsOf a_sizeOf a_number a_passing]) 0 0 (va_A [oX7 a_t a_d a_e a_kept v_isKept a_found a_tape v_taped v_gone a_hears a_near a_firstDay a_daily v_begin v_round v_leastFar v_leastWhere v_mostLed a_heardNow v_firstMove v_at v_sort v_from v_value v_fault a_bitsOf a_sizeOf a_number a_passing] sz) := by
  refine g_metI (Out := Int32 × Int32) (fun oo => oo.1) (fun oo => [oX7 a_t a_d a_e a_kept v_isKept a_found a_tape oo.2 v_gone a_hears a_near a_firstDay a_daily v_begin v_round v_leastFar v_leastWhere v_mostLed a_heardNow v_firstMove v_at v_sort v_from v_value v_fault a_bitsOf a_sizeOf a_number a_passing]) (ro, o0) (own := RX7) (lv := [(0, .ref a_t)]) (by decide) rfl rfl (Nat.le_of_ble_eq_true rfl) rfl ?_
  intro p e s m args below meth c Q ls C hret hV hl
  obtain ⟨out, hout⟩ : ∃ z : Int32 × Int32, z = (ro, o0) := ⟨_, rfl⟩
  rw [← hout] at hF hret
  obtain ⟨H0, hH0⟩ : ∃ z : Heap, z = s.heap := ⟨_, rfl⟩
  obtain ⟨A0, hA0⟩ : ∃ z : Nat → Prop, z = va_A [oX7 a_t a_d a_e a_kept v_isKept a_found a_tape v_taped v_gone a_hears a_near a_firstDay a_daily v_begin v_round v_leastFar v_leastWhere v_mostLed a_heardNow v_firstMove v_at v_sort v_from v_value v_fault a_bitsOf a_sizeOf a_number a_passing] s.heap.size := ⟨_, rfl⟩
  rw [← hA0] at hret hV
  rw [← hH0] at hret hV
  rw [← hH0]
  obtain ⟨H, locs, hH⟩ : ∃ (z : Heap) (y : List Loc), z = H0 ∧ y = [] := ⟨_, _, rfl, rfl⟩
  rw [← hH.1, ← hH.2]
  have hV : gV (dC, dI) (gT cI cB cO) A0 H0 s [oX7 a_t a_d a_e a_kept v_isKept a_found a_tape v_taped v_gone a_hears a_near a_firstDay a_daily v_begin v_round v_leastFar v_leastWhere v_mostLed a_heardNow v_firstMove v_at v_sort v_from v_value v_fault a_bitsOf a_sizeOf a_number a_passing] H locs := by rw [hH.1, hH.2]; exact hV
  unfold F_X7_wipe at hF
  refine lv_aload_n C.1 C.2.1 dX7_wipe_0 rfl (lv_at hl 0 rfl) ?_
  refine g_get C hV flX7_wipe_216 0 rfl rfl dX7_wipe_1 ?_
  refine lv_istore_n (lv' := [(1, .int v_taped), (0, .ref a_t)]) C.1 C.2.1 dX7_wipe_4 rfl hl (by decide) rfl (fun ls hl => ?_)
  refine lv_aload_n C.1 C.2.1 dX7_wipe_5 rfl (lv_at hl 1 rfl) ?_
  refine lv_iconst (v := 0) C.1 C.2.1 dX7_wipe_6 rfl ?_
  refine g_put (ws' := [oX7 a_t a_d a_e a_kept v_isKept a_found a_tape 0 v_gone a_hears a_near a_firstDay a_daily v_begin v_round v_leastFar v_leastWhere v_mostLed a_heardNow v_firstMove v_at v_sort v_from v_value v_fault a_bitsOf a_sizeOf a_number a_passing]) C hV fpX7_wipe_216 0 rfl rfl rfl (Nat.le_of_ble_eq_true rfl) rfl dX7_wipe_7 (fun H locs hV => ?_)
  refine lv_iload_n C.1 C.2.1 dX7_wipe_10 rfl (lv_at hl 0 rfl) ?_
  exact hret (v_taped, 0) _ _ _ _ dX7_wipe_11 hF hV
abbrev rmX7_letter : Room := { frames := 0, cells := 0, slots := 0, locals := 0 }
theorem mdX7_letter : gMd yX7_letter wsX7_letter cX7_letter 1 (some .int) 1 := ⟨⟨_, rfl⟩, by decide +kernel⟩
def F_X7_letter (n0 : Nat) (p1 : Int32) : Option (Int32) := (if p1 < 97 then some (0 : Int32) else (if 122 < p1 then some (0 : Int32) else nm (p1 - 97) (fun x1 => nm (x1 + 1) (fun x2 => some x2))))
set_option maxRecDepth 100000 in
set_option maxHeartbeats 4000000 in
theorem k_X7_letter (l : Launch) (dC : Nat → ClassId) (dI : Nat → Nat → Nat) (cI cB cO : ClassId) (n0 sz : Nat)     (p1 : Int32)  {ro : Int32} (hF : F_X7_letter n0 p1 = some ro) : Met l yX7_letter wsX7_letter rmX7_letter (va_Pc [.int p1] (gPre (dC, dI) (gT cI cB cO) sz [])) (gQi (dC, dI) (gT cI cB cO) sz [] ro []) 0 0 (va_A [] sz) := by
  refine g_metI (Out := Int32) (fun oo => oo) (fun oo => []) ro (own := RX7) (lv := [(0, .int p1)]) (by decide) rfl rfl (Nat.le_of_ble_eq_true rfl) rfl ?_
  intro p e s m args below meth c Q ls C hret hV hl
  obtain ⟨out, hout⟩ : ∃ z : Int32, z = ro := ⟨_, rfl⟩
  rw [← hout] at hF hret
  obtain ⟨H0, hH0⟩ : ∃ z : Heap, z = s.heap := ⟨_, rfl⟩
  obtain ⟨A0, hA0⟩ : ∃ z : Nat → Prop, z = va_A [] s.heap.size := ⟨_, rfl⟩
  rw [← hA0] at hret hV
  rw [← hH0] at hret hV
  rw [← hH0]
  obtain ⟨H, locs, hH⟩ : ∃ (z : Heap) (y : List Loc), z = H0 ∧ y = [] := ⟨_, _, rfl, rfl⟩
  rw [← hH.1, ← hH.2]
  have hV : gV (dC, dI) (gT cI cB cO) A0 H0 s [] H locs := by rw [hH.1, hH.2]; exact hV
  unfold F_X7_letter at hF
  refine lv_iload_n C.1 C.2.1 dX7_letter_0 rfl (lv_at hl 0 rfl) ?_
  refine lv_bipush (v := 97) C.1 C.2.1 dX7_letter_1 rfl ?_
  refine g_icmp_lt (tgt := 21) C hF dX7_letter_3 rfl (fun hF => ?_) (fun hF => ?_)
  · refine lv_iconst (v := 0) C.1 C.2.1 dX7_letter_21 rfl ?_
    exact hret (0 : Int32) _ _ _ _ dX7_letter_22 hF hV
  refine lv_iload_n C.1 C.2.1 dX7_letter_6 rfl (lv_at hl 0 rfl) ?_
  refine lv_bipush (v := 122) C.1 C.2.1 dX7_letter_7 rfl ?_
  refine g_icmp_gt (tgt := 21) C hF dX7_letter_9 rfl (fun hF => ?_) (fun hF => ?_)
  · refine lv_iconst (v := 0) C.1 C.2.1 dX7_letter_21 rfl ?_
    exact hret (0 : Int32) _ _ _ _ dX7_letter_22 hF hV
  refine lv_iload_n C.1 C.2.1 dX7_letter_12 rfl (lv_at hl 0 rfl) ?_
  refine lv_bipush (v := 97) C.1 C.2.1 dX7_letter_13 rfl ?_
  refine g_isub C hF dX7_letter_15 (fun x1 hF => ?_)
  refine lv_iconst (v := 1) C.1 C.2.1 dX7_letter_16 rfl ?_
  refine g_iadd C hF dX7_letter_17 (fun x2 hF => ?_)
  refine lv_goto (tgt := 22) C.1 C.2.1 dX7_letter_18 rfl ?_
  exact hret x2 _ _ _ _ dX7_letter_22 hF hV
abbrev rmX7_isDigit : Room := { frames := 0, cells := 0, slots := 0, locals := 0 }
theorem mdX7_isDigit : gMd yX7_isDigit wsX7_isDigit cX7_isDigit 1 (some .boolean) 1 := ⟨⟨_, rfl⟩, by decide +kernel⟩
def F_X7_isDigit (n0 : Nat) (p1 : Int32) : Option (Int32) := (if p1 < 48 then some (0 : Int32) else (if 57 < p1 then some (0 : Int32) else some (1 : Int32)))
set_option maxRecDepth 100000 in
set_option maxHeartbeats 4000000 in
theorem k_X7_isDigit (l : Launch) (dC : Nat → ClassId) (dI : Nat → Nat → Nat) (cI cB cO : ClassId) (n0 sz : Nat)     (p1 : Int32)  {ro : Int32} (hF : F_X7_isDigit n0 p1 = some ro) : Met l yX7_isDigit wsX7_isDigit rmX7_isDigit (va_Pc [.int p1] (gPre (dC, dI) (gT cI cB cO) sz [])) (gQi (dC, dI) (gT cI cB cO) sz [] ro []) 0 0 (va_A [] sz) := by
  refine g_metZ (Out := Int32) (fun oo => oo) (fun oo => []) ro (own := RX7) (lv := [(0, .int p1)]) (by decide) rfl rfl (Nat.le_of_ble_eq_true rfl) rfl ?_
  intro p e s m args below meth c Q ls C hret hV hl
  obtain ⟨out, hout⟩ : ∃ z : Int32, z = ro := ⟨_, rfl⟩
  rw [← hout] at hF hret
  obtain ⟨H0, hH0⟩ : ∃ z : Heap, z = s.heap := ⟨_, rfl⟩
  obtain ⟨A0, hA0⟩ : ∃ z : Nat → Prop, z = va_A [] s.heap.size := ⟨_, rfl⟩
  rw [← hA0] at hret hV
  rw [← hH0] at hret hV
  rw [← hH0]
  obtain ⟨H, locs, hH⟩ : ∃ (z : Heap) (y : List Loc), z = H0 ∧ y = [] := ⟨_, _, rfl, rfl⟩
  rw [← hH.1, ← hH.2]
  have hV : gV (dC, dI) (gT cI cB cO) A0 H0 s [] H locs := by rw [hH.1, hH.2]; exact hV
  unfold F_X7_isDigit at hF
  refine lv_iload_n C.1 C.2.1 dX7_isDigit_0 rfl (lv_at hl 0 rfl) ?_
  refine lv_bipush (v := 48) C.1 C.2.1 dX7_isDigit_1 rfl ?_
  refine g_icmp_lt (tgt := 16) C hF dX7_isDigit_3 rfl (fun hF => ?_) (fun hF => ?_)
  · refine lv_iconst (v := 0) C.1 C.2.1 dX7_isDigit_16 rfl ?_
    exact hret (0 : Int32) _ _ _ _ dX7_isDigit_17 hF (Or.inl rfl) hV
  refine lv_iload_n C.1 C.2.1 dX7_isDigit_6 rfl (lv_at hl 0 rfl) ?_
  refine lv_bipush (v := 57) C.1 C.2.1 dX7_isDigit_7 rfl ?_
  refine g_icmp_gt (tgt := 16) C hF dX7_isDigit_9 rfl (fun hF => ?_) (fun hF => ?_)
  · refine lv_iconst (v := 0) C.1 C.2.1 dX7_isDigit_16 rfl ?_
    exact hret (0 : Int32) _ _ _ _ dX7_isDigit_17 hF (Or.inl rfl) hV
  refine lv_iconst (v := 1) C.1 C.2.1 dX7_isDigit_12 rfl ?_
  refine lv_goto (tgt := 17) C.1 C.2.1 dX7_isDigit_13 rfl ?_
  exact hret (1 : Int32) _ _ _ _ dX7_isDigit_17 hF (Or.inr rfl) hV
abbrev rmX7_byteAt : Room := { frames := 0, cells := 0, slots := 0, locals := 0 }
theorem mdX7_byteAt : gMd yX7_byteAt wsX7_byteAt cX7_byteAt 2 (some .int) 1 := ⟨⟨_, rfl⟩, by decide +kernel⟩
theorem flX7_byteAt_216 : gFL wsX7_byteAt RX7 216 7 6 RX7 TX7 28 := ⟨rfl, fun w h => List.mem_cons_of_mem _ (List.mem_append_right _ (h)), Nat.le_of_ble_eq_true rfl, List.mem_cons_of_mem _ (List.mem_append_left _ (List.mem_of_getElem? (i := 0) rfl))⟩
theorem flX7_byteAt_22 : gFL wsX7_byteAt RX7 22 7 5 RX7 TX7 28 := ⟨rfl, fun w h => List.mem_cons_of_mem _ (List.mem_append_right _ (h)), Nat.le_of_ble_eq_true rfl, List.mem_cons_of_mem _ (List.mem_append_left _ (List.mem_of_getElem? (i := 1) rfl))⟩
def F_X7_byteAt (n0 : Nat) (v_taped : Int32) (f_tape : Nat → Int32) (p1 : Int32) : Option (Int32) := (if v_taped ≤ p1 then some ((-1)) else rd f_tape 120 p1 (fun x1 => some x1))
set_option maxRecDepth 100000 in
set_option maxHeartbeats 4000000 in
theorem k_X7_byteAt (l : Launch) (dC : Nat → ClassId) (dI : Nat → Nat → Nat) (cI cB cO : ClassId) (n0 sz : Nat) (a_t : Nat) (a_d : Nat) (a_e : Nat) (a_kept : Nat) (a_found : Nat) (a_tape : Nat) (a_hears : Nat) (a_near : Nat) (a_firstDay : Nat) (a_daily : Nat) (a_heardNow : Nat) (a_bitsOf : Nat) (a_sizeOf : Nat) (a_number : Nat) (a_passing : Nat)   (v_isKept : Int32) (v_taped : Int32) (v_gone : Int32) (v_begin : Int32) (v_round : Int32) (v_leastFar : Int32) (v_leastWhere : Int32) (v_mostLed : Int32) (v_firstMove : Int32) (v_at : Int32) (v_sort : Int32) (v_from : Int32) (v_value : Int64) (v_fault : Int32) (f_tape : Nat → Int32) (p1 : Int32)  {ro : Int32} (hF : F_X7_byteAt n0 v_taped f_tape p1 = some ro) : Met l yX7_byteAt wsX7_byteAt rmX7_byteAt (va_Pc [.ref a_t, .int p1] (gPre (dC, dI) (gT cI cB cO) sz [oX7 a_t a_d a_e a_kept v_isKept a_found a_tape v_taped v_gone a_hears a_near a_firstDay a_daily v_begin v_round v_leastFar v_leastWhere v_mostLed a_heardNow v_firstMove v_at v_sort v_from v_value v_fault a_bitsOf a_sizeOf a_number a_passing, aA cB a_tape 120 f_tape])) (gQi (dC, dI) (gT cI cB cO) sz [oX7 a_t a_d a_e a_kept v_isKept a_found a_tape v_taped v_gone a_hears a_near a_firstDay a_daily v_begin v_round v_leastFar v_leastWhere v_mostLed a_heardNow v_firstMove v_at v_sort v_from v_value v_fault a_bitsOf a_sizeOf a_number a_passing, aA cB a_tape 120 f_tape] ro [oX7 a_t a_d a_e a_kept v_isKept a_found a_tape v_taped v_gone a_hears a_near a_firstDay a_daily v_begin v_round v_leastFar v_leastWhere v_mostLed a_heardNow v_firstMove v_at v_sort v_from v_value v_fault a_bitsOf a_sizeOf a_number a_passing, aA cB a_tape 120 f_tape]) 0 0 (va_A [oX7 a_t a_d a_e a_kept v_isKept a_found a_tape v_taped v_gone a_hears a_near a_firstDay a_daily v_begin v_round v_leastFar v_leastWhere v_mostLed a_heardNow v_firstMove v_at v_sort v_from v_value v_fault a_bitsOf a_sizeOf a_number a_passing, aA cB a_tape 120 f_tape] sz) := by
  refine g_metI (Out := Int32) (fun oo => oo) (fun oo => [oX7 a_t a_d a_e a_kept v_isKept a_found a_tape v_taped v_gone a_hears a_near a_firstDay a_daily v_begin v_round v_leastFar v_leastWhere v_mostLed a_heardNow v_firstMove v_at v_sort v_from v_value v_fault a_bitsOf a_sizeOf a_number a_passing, aA cB a_tape 120 f_tape]) ro (own := RX7) (lv := [(0, .ref a_t), (1, .int p1)]) (by decide) rfl rfl (Nat.le_of_ble_eq_true rfl) rfl ?_
  intro p e s m args below meth c Q ls C hret hV hl
  obtain ⟨out, hout⟩ : ∃ z : Int32, z = ro := ⟨_, rfl⟩
  rw [← hout] at hF hret
  obtain ⟨H0, hH0⟩ : ∃ z : Heap, z = s.heap := ⟨_, rfl⟩
  obtain ⟨A0, hA0⟩ : ∃ z : Nat → Prop, z = va_A [oX7 a_t a_d a_e a_kept v_isKept a_found a_tape v_taped v_gone a_hears a_near a_firstDay a_daily v_begin v_round v_leastFar v_leastWhere v_mostLed a_heardNow v_firstMove v_at v_sort v_from v_value v_fault a_bitsOf a_sizeOf a_number a_passing, aA cB a_tape 120 f_tape] s.heap.size := ⟨_, rfl⟩
  rw [← hA0] at hret hV
  rw [← hH0] at hret hV
  rw [← hH0]
  obtain ⟨H, locs, hH⟩ : ∃ (z : Heap) (y : List Loc), z = H0 ∧ y = [] := ⟨_, _, rfl, rfl⟩
  rw [← hH.1, ← hH.2]
  have hV : gV (dC, dI) (gT cI cB cO) A0 H0 s [oX7 a_t a_d a_e a_kept v_isKept a_found a_tape v_taped v_gone a_hears a_near a_firstDay a_daily v_begin v_round v_leastFar v_leastWhere v_mostLed a_heardNow v_firstMove v_at v_sort v_from v_value v_fault a_bitsOf a_sizeOf a_number a_passing, aA cB a_tape 120 f_tape] H locs := by rw [hH.1, hH.2]; exact hV
  unfold F_X7_byteAt at hF
  refine lv_iload_n C.1 C.2.1 dX7_byteAt_0 rfl (lv_at hl 1 rfl) ?_
  refine lv_aload_n C.1 C.2.1 dX7_byteAt_1 rfl (lv_at hl 0 rfl) ?_
  refine g_get C hV flX7_byteAt_216 0 rfl rfl dX7_byteAt_2 ?_
  refine g_icmp_ge (tgt := 17) C hF dX7_byteAt_5 rfl (fun hF => ?_) (fun hF => ?_)
  · refine lv_iconst (v := (-1)) C.1 C.2.1 dX7_byteAt_17 rfl ?_
    exact hret ((-1)) _ _ _ _ dX7_byteAt_18 hF hV
  refine lv_aload_n C.1 C.2.1 dX7_byteAt_8 rfl (lv_at hl 0 rfl) ?_
  refine g_get C hV flX7_byteAt_22 0 rfl rfl dX7_byteAt_9 ?_
  refine lv_iload_n C.1 C.2.1 dX7_byteAt_12 rfl (lv_at hl 1 rfl) ?_
  refine g_bald C hV 1 rfl hF dX7_byteAt_13 (fun x1 hF => ?_)
  refine lv_goto (tgt := 18) C.1 C.2.1 dX7_byteAt_14 rfl ?_
  exact hret x1 _ _ _ _ dX7_byteAt_18 hF hV
abbrev rmX7_next : Room := { frames := 1, cells := 0, slots := 0, locals := 21 }
theorem mdX7_next : gMd yX7_next wsX7_next cX7_next 2 none 0 := ⟨⟨_, rfl⟩, by decide +kernel⟩
theorem flX7_next_219 : gFL wsX7_next RX7 219 7 19 RX7 TX7 28 := ⟨rfl, fun w h => List.mem_cons_of_mem _ (List.mem_append_right _ (h)), Nat.le_of_ble_eq_true rfl, List.mem_cons_of_mem _ (List.mem_append_left _ (List.mem_of_getElem? (i := 0) rfl))⟩
theorem flX7_next_225 : gFL wsX7_next RX7 225 7 21 RX7 TX7 28 := ⟨rfl, fun w h => List.mem_cons_of_mem _ (List.mem_append_right _ (h)), Nat.le_of_ble_eq_true rfl, List.mem_cons_of_mem _ (List.mem_append_left _ (List.mem_of_getElem? (i := 1) rfl))⟩
theorem fpX7_next_225 : gFP wsX7_next RX7 225 7 21 RX7 TX7 28 .int := ⟨flX7_next_225, ⟨tyX7, tyX7_ok⟩, nmX7, rfl, by decide +kernel⟩
theorem flX7_next_228 : gFL wsX7_next RX7 228 7 22 RX7 TX7 28 := ⟨rfl, fun w h => List.mem_cons_of_mem _ (List.mem_append_right _ (h)), Nat.le_of_ble_eq_true rfl, List.mem_cons_of_mem _ (List.mem_append_left _ (List.mem_of_getElem? (i := 2) rfl))⟩
theorem fpX7_next_228 : gFP wsX7_next RX7 228 7 22 RX7 TX7 28 .long := ⟨flX7_next_228, ⟨tyX7, tyX7_ok⟩, nmX7, rfl, by decide +kernel⟩
theorem flX7_next_216 : gFL wsX7_next RX7 216 7 6 RX7 TX7 28 := ⟨rfl, fun w h => List.mem_cons_of_mem _ (List.mem_append_right _ (h)), Nat.le_of_ble_eq_true rfl, List.mem_cons_of_mem _ (List.mem_append_left _ (List.mem_of_getElem? (i := 3) rfl))⟩
theorem flX7_next_232 : gFL wsX7_next RX7 232 7 20 RX7 TX7 28 := ⟨rfl, fun w h => List.mem_cons_of_mem _ (List.mem_append_right _ (h)), Nat.le_of_ble_eq_true rfl, List.mem_cons_of_mem _ (List.mem_append_left _ (List.mem_of_getElem? (i := 4) rfl))⟩
theorem fpX7_next_232 : gFP wsX7_next RX7 232 7 20 RX7 TX7 28 .int := ⟨flX7_next_232, ⟨tyX7, tyX7_ok⟩, nmX7, rfl, by decide +kernel⟩
theorem ctX7_next_245 : Cond.constantLong RX7 245 999 ∈ wsX7_next := List.mem_cons_of_mem _ (List.mem_append_left _ (List.mem_of_getElem? (i := 7) rfl))
theorem fpX7_next_219 : gFP wsX7_next RX7 219 7 19 RX7 TX7 28 .int := ⟨flX7_next_219, ⟨tyX7, tyX7_ok⟩, nmX7, rfl, by decide +kernel⟩
theorem ctX7_next_247 : Cond.constantLong RX7 247 10 ∈ wsX7_next := List.mem_cons_of_mem _ (List.mem_append_left _ (List.mem_of_getElem? (i := 8) rfl))
theorem ctX7_next_249 : Cond.constantLong RX7 249 48 ∈ wsX7_next := List.mem_cons_of_mem _ (List.mem_append_left _ (List.mem_of_getElem? (i := 9) rfl))
theorem ctX7_next_238 : Cond.constantLong RX7 238 100000000000000000 ∈ wsX7_next := List.mem_cons_of_mem _ (List.mem_append_left _ (List.mem_of_getElem? (i := 5) rfl))
theorem ctX7_next_240 : Cond.constantLong RX7 240 27 ∈ wsX7_next := List.mem_cons_of_mem _ (List.mem_append_left _ (List.mem_of_getElem? (i := 6) rfl))
def J_X7_next_240 (u6 : Int32) (kk185 : Int32 → Int64 → Option (Int32 × Int32 × Int32 × Int64)) (k11 : Int64) : Option (Int32 × Int32 × Int32 × Int64) := nm (u6 + 1) (fun x12 => kk185 x12 k11)
def L_X7_next_185 (n0 : Nat) (v_taped : Int32) (f_tape : Nat → Int32) (u1 : Int32) : Nat → Int32 → Int64 → Option (Int32 × Int32 × Int32 × Int64) := lpp2 (fun u6 u7 kk185 => bd1 (F_X7_byteAt n0 v_taped f_tape u6) (fun x8 => bd1 (F_X7_isDigit n0 x8) (fun x9 => (if x9 = 0 then some (u6, 2, u1, u7) else nm (lg_cmp u7 999) (fun x10 => (if x10 ≤ 0 then nm (u7 * 10) (fun x13 => bd1 (F_X7_byteAt n0 v_taped f_tape u6) (fun x14 => nm (x14.toInt64) (fun x15 => nm (x13 + x15) (fun x16 => nm (x16 - 48) (fun x17 => J_X7_next_240 u6 kk185 x17))))) else J_X7_next_240 u6 kk185 u7))))))
def J_X7_next_157 (u18 : Int32) (kk103 : Int32 → Int64 → Option (Int32 × Int32 × Int32 × Int64)) (k23 : Int64) : Option (Int32 × Int32 × Int32 × Int64) := nm (u18 + 1) (fun x24 => kk103 x24 k23)
def L_X7_next_103 (n0 : Nat) (v_taped : Int32) (f_tape : Nat → Int32) (u1 : Int32) : Nat → Int32 → Int64 → Option (Int32 × Int32 × Int32 × Int64) := lpp2 (fun u18 u19 kk103 => bd1 (F_X7_byteAt n0 v_taped f_tape u18) (fun x20 => bd1 (F_X7_letter n0 x20) (fun x21 => (if x21 ≤ 0 then some (u18, 1, u1, u19) else nm (lg_cmp u19 100000000000000000) (fun x22 => (if x22 ≤ 0 then nm (u19 * 27) (fun x25 => bd1 (F_X7_byteAt n0 v_taped f_tape u18) (fun x26 => bd1 (F_X7_letter n0 x26) (fun x27 => nm (x27.toInt64) (fun x28 => nm (x25 + x28) (fun x29 => J_X7_next_157 u18 kk103 x29))))) else J_X7_next_157 u18 kk103 u19))))))
def L_X7_next_0 (n0 : Nat) (v_taped : Int32) (f_tape : Nat → Int32) : Nat → Int32 → Option (Int32 × Int32 × Int32 × Int64) := lpp1 (fun u1 kk0 => bd1 (F_X7_byteAt n0 v_taped f_tape u1) (fun x2 => (if x2 = 32 then nm (u1 + 1) (fun x31 => kk0 x31) else bd1 (F_X7_byteAt n0 v_taped f_tape u1) (fun x3 => (if u1 = v_taped then some (u1, 0, u1, 0) else (if x3 = 59 then nm (u1 + 1) (fun x30 => some (x30, 3, u1, 0)) else bd1 (F_X7_letter n0 x3) (fun x4 => (if x4 ≤ 0 then bd1 (F_X7_isDigit n0 x3) (fun x5 => (if x5 = 0 then some (u1, 4, u1, 0) else L_X7_next_185 n0 v_taped f_tape u1 n0 u1 0)) else L_X7_next_103 n0 v_taped f_tape u1 n0 u1 0))))))))
def F_X7_next (n0 : Nat) (v_taped : Int32) (v_at : Int32) (v_sort : Int32) (v_from : Int32) (v_value : Int64) (f_tape : Nat → Int32) : Option (Int32 × Int32 × Int32 × Int64) := L_X7_next_0 n0 v_taped f_tape n0 v_at
set_option maxRecDepth 100000 in
set_option maxHeartbeats 4000000 in
theorem k_X7_next (l : Launch) (dC : Nat → ClassId) (dI : Nat → Nat → Nat) (cI cB cO : ClassId) (n0 sz : Nat) (a_t : Nat) (a_d : Nat) (a_e : Nat) (a_kept : Nat) (a_found : Nat) (a_tape : Nat) (a_hears : Nat) (a_near : Nat) (a_firstDay : Nat) (a_daily : Nat) (a_heardNow : Nat) (a_bitsOf : Nat) (a_sizeOf : Nat) (a_number : Nat) (a_passing : Nat)   (v_isKept : Int32) (v_taped : Int32) (v_gone : Int32) (v_begin : Int32) (v_round : Int32) (v_leastFar : Int32) (v_leastWhere : Int32) (v_mostLed : Int32) (v_firstMove : Int32) (v_at : Int32) (v_sort : Int32) (v_from : Int32) (v_value : Int64) (v_fault : Int32) (f_tape : Nat → Int32)   {o0 : Int32} {o1 : Int32} {o2 : Int32} {o3 : Int64} (hF : F_X7_next n0 v_taped v_at v_sort v_from v_value f_tape = some (o0, o1, o2, o3)) : Met l yX7_next wsX7_next rmX7_next (va_Pc [.ref a_t] (gPre (dC, dI) (gT cI cB cO) sz [oX7 a_t a_d a_e a_kept v_isKept a_found a_tape v_taped v_gone a_hears a_near a_firstDay a_daily v_begin v_round v_leastFar v_leastWhere v_mostLed a_heardNow v_firstMove v_at v_sort v_from v_value v_fault a_bitsOf a_sizeOf a_number a_passing, aA cB a_tape 120 f_tape])) (gQv (dC, dI) (gT cI cB cO) sz [oX7 a_t a_d a_e a_kept v_isKept a_found a_tape v_taped v_gone a_hears a_near a_firstDay a_daily v_begin v_round v_leastFar v_leastWhere v_mostLed a_heardNow v_firstMove v_at v_sort v_from v_value v_fault a_bitsOf a_sizeOf a_number a_passing, aA cB a_tape 120 f_tape] [oX7 a_t a_d a_e a_kept v_isKept a_found a_tape v_taped v_gone a_hears a_near a_firstDay a_daily v_begin v_round v_leastFar v_leastWhere v_mostLed a_heardNow v_firstMove o0 o1 o2 o3 v_fault a_bitsOf a_sizeOf a_number a_passing, aA cB a_tape 120 f_tape]) 0 0 (va_A [oX7 a_t a_d a_e a_kept v_isKept a_found a_tape v_taped v_gone a_hears a_near a_firstDay a_daily v_begin v_round v_leastFar v_leastWhere v_mostLed a_heardNow v_firstMove v_at v_sort v_from v_value v_fault a_bitsOf a_sizeOf a_number a_passing, aA cB a_tape 120 f_tape] sz) := by
  refine g_metV (Out := Int32 × Int32 × Int32 × Int64) (fun oo => [oX7 a_t a_d a_e a_kept v_isKept a_found a_tape v_taped v_gone a_hears a_near a_firstDay a_daily v_begin v_round v_leastFar v_leastWhere v_mostLed a_heardNow v_firstMove oo.1 oo.2.1 oo.2.2.1 oo.2.2.2 v_fault a_bitsOf a_sizeOf a_number a_passing, aA cB a_tape 120 f_tape]) (o0, o1, o2, o3) (own := RX7) (lv := [(0, .ref a_t)]) (by decide) rfl rfl (Nat.le_of_ble_eq_true rfl) rfl ?_
  intro p e s m args below meth c Q ls C hret hV hl
  obtain ⟨out, hout⟩ : ∃ z : Int32 × Int32 × Int32 × Int64, z = (o0, o1, o2, o3) := ⟨_, rfl⟩
  rw [← hout] at hF hret
  obtain ⟨H0, hH0⟩ : ∃ z : Heap, z = s.heap := ⟨_, rfl⟩
  obtain ⟨A0, hA0⟩ : ∃ z : Nat → Prop, z = va_A [oX7 a_t a_d a_e a_kept v_isKept a_found a_tape v_taped v_gone a_hears a_near a_firstDay a_daily v_begin v_round v_leastFar v_leastWhere v_mostLed a_heardNow v_firstMove v_at v_sort v_from v_value v_fault a_bitsOf a_sizeOf a_number a_passing, aA cB a_tape 120 f_tape] s.heap.size := ⟨_, rfl⟩
  rw [← hA0] at hret hV
  rw [← hH0] at hret hV
  rw [← hH0]
  obtain ⟨H, locs, hH⟩ : ∃ (z : Heap) (y : List Loc), z = H0 ∧ y = [] := ⟨_, _, rfl, rfl⟩
  rw [← hH.1, ← hH.2]
  have hV : gV (dC, dI) (gT cI cB cO) A0 H0 s [oX7 a_t a_d a_e a_kept v_isKept a_found a_tape v_taped v_gone a_hears a_near a_firstDay a_daily v_begin v_round v_leastFar v_leastWhere v_mostLed a_heardNow v_firstMove v_at v_sort v_from v_value v_fault a_bitsOf a_sizeOf a_number a_passing, aA cB a_tape 120 f_tape] H locs := by rw [hH.1, hH.2]; exact hV
  unfold F_X7_next at hF
  have hL0 : ∀ (n : Nat) (u1 : Int32) (H : Heap) (locs : List Loc) (ls : Array Slot), gV (dC, dI) (gT cI cB cO) A0 H0 s [oX7 a_t a_d a_e a_kept v_isKept a_found a_tape v_taped v_gone a_hears a_near a_firstDay a_daily v_begin v_round v_leastFar v_leastWhere v_mostLed a_heardNow v_firstMove u1 v_sort v_from v_value v_fault a_bitsOf a_sizeOf a_number a_passing, aA cB a_tape 120 f_tape] H locs → lv_has ls 2 [(0, .ref a_t)] → L_X7_next_0 n0 v_taped f_tape n u1 = some out → W p l e rmX7_next s m args below meth c H locs 0 0 Q (F0 m 0 ls []) := by
    intro n
    induction n with
    | zero => intro u1 H locs ls hV hl hF; exact lpp1_z hF
    | succ n ih0 =>
      intro u1 H locs ls hV hl hF
      obtain ⟨kk0, hk0, hF⟩ := lpp1_g hF
      have hq0 : ∀ (u1 : Int32), kk0 u1 = some out → L_X7_next_0 n0 v_taped f_tape n u1 = some out := fun _ h => by rw [hk0] at h; exact h
      refine lv_aload_n C.1 C.2.1 dX7_next_0 rfl (lv_at hl 0 rfl) ?_
      refine lv_aload_n C.1 C.2.1 dX7_next_1 rfl (lv_at hl 0 rfl) ?_
      refine g_get C hV flX7_next_219 0 rfl rfl dX7_next_2 ?_
      obtain ⟨x2, hc, hF⟩ := bd1_s hF
      refine g_cVi (ws' := [oX7 a_t a_d a_e a_kept v_isKept a_found a_tape v_taped v_gone a_hears a_near a_firstDay a_daily v_begin v_round v_leastFar v_leastWhere v_mostLed a_heardNow v_firstMove u1 v_sort v_from v_value v_fault a_bitsOf a_sizeOf a_number a_passing, aA cB a_tape 120 f_tape]) (wr := []) C hV (k_X7_byteAt l dC dI cI cB cO n0 H.size a_t a_d a_e a_kept a_found a_tape a_hears a_near a_firstDay a_daily a_heardNow a_bitsOf a_sizeOf a_number a_passing v_isKept v_taped v_gone v_begin v_round v_leastFar v_leastWhere v_mostLed v_firstMove u1 v_sort v_from v_value v_fault f_tape u1 hc) mdX7_byteAt gX7_next_X7_byteAt rfl rfl ⟨Nat.le_of_ble_eq_true rfl, Nat.le_of_ble_eq_true rfl⟩ [0, 1] [] [0, 1] rfl rfl rfl rfl rfl rfl rfl rfl rfl rfl hl.1 (Nat.le_of_ble_eq_true rfl) rfl dX7_next_5 (fun H locs hV => ?_)
      refine lv_bipush (v := 32) C.1 C.2.1 dX7_next_8 rfl ?_
      refine g_icmp_ne (tgt := 26) C hF dX7_next_10 rfl (fun hF => ?_) (fun hF => ?_)
      · refine lv_aload_n C.1 C.2.1 dX7_next_26 rfl (lv_at hl 0 rfl) ?_
        refine lv_aload_n C.1 C.2.1 dX7_next_27 rfl (lv_at hl 0 rfl) ?_
        refine g_get C hV flX7_next_219 0 rfl rfl dX7_next_28 ?_
        refine g_put (ws' := [oX7 a_t a_d a_e a_kept v_isKept a_found a_tape v_taped v_gone a_hears a_near a_firstDay a_daily v_begin v_round v_leastFar v_leastWhere v_mostLed a_heardNow v_firstMove u1 v_sort u1 v_value v_fault a_bitsOf a_sizeOf a_number a_passing, aA cB a_tape 120 f_tape]) C hV fpX7_next_225 0 rfl rfl rfl (Nat.le_of_ble_eq_true rfl) rfl dX7_next_31 (fun H locs hV => ?_)
        refine lv_aload_n C.1 C.2.1 dX7_next_34 rfl (lv_at hl 0 rfl) ?_
        refine lv_lconst (v := 0) C.1 C.2.1 dX7_next_35 rfl ?_
        refine g_put (ws' := [oX7 a_t a_d a_e a_kept v_isKept a_found a_tape v_taped v_gone a_hears a_near a_firstDay a_daily v_begin v_round v_leastFar v_leastWhere v_mostLed a_heardNow v_firstMove u1 v_sort u1 0 v_fault a_bitsOf a_sizeOf a_number a_passing, aA cB a_tape 120 f_tape]) C hV fpX7_next_228 0 rfl rfl rfl (Nat.le_of_ble_eq_true rfl) rfl dX7_next_36 (fun H locs hV => ?_)
        refine lv_aload_n C.1 C.2.1 dX7_next_39 rfl (lv_at hl 0 rfl) ?_
        refine lv_aload_n C.1 C.2.1 dX7_next_40 rfl (lv_at hl 0 rfl) ?_
        refine g_get C hV flX7_next_219 0 rfl rfl dX7_next_41 ?_
        obtain ⟨x3, hc, hF⟩ := bd1_s hF
        refine g_cVi (ws' := [oX7 a_t a_d a_e a_kept v_isKept a_found a_tape v_taped v_gone a_hears a_near a_firstDay a_daily v_begin v_round v_leastFar v_leastWhere v_mostLed a_heardNow v_firstMove u1 v_sort u1 0 v_fault a_bitsOf a_sizeOf a_number a_passing, aA cB a_tape 120 f_tape]) (wr := []) C hV (k_X7_byteAt l dC dI cI cB cO n0 H.size a_t a_d a_e a_kept a_found a_tape a_hears a_near a_firstDay a_daily a_heardNow a_bitsOf a_sizeOf a_number a_passing v_isKept v_taped v_gone v_begin v_round v_leastFar v_leastWhere v_mostLed v_firstMove u1 v_sort u1 0 v_fault f_tape u1 hc) mdX7_byteAt gX7_next_X7_byteAt rfl rfl ⟨Nat.le_of_ble_eq_true rfl, Nat.le_of_ble_eq_true rfl⟩ [0, 1] [] [0, 1] rfl rfl rfl rfl rfl rfl rfl rfl rfl rfl hl.1 (Nat.le_of_ble_eq_true rfl) rfl dX7_next_44 (fun H locs hV => ?_)
        refine lv_istore_n (lv' := [(1, .int x3), (0, .ref a_t)]) C.1 C.2.1 dX7_next_47 rfl hl (by decide) rfl (fun ls hl => ?_)
        refine lv_aload_n C.1 C.2.1 dX7_next_48 rfl (lv_at hl 1 rfl) ?_
        refine g_get C hV flX7_next_219 0 rfl rfl dX7_next_49 ?_
        refine lv_aload_n C.1 C.2.1 dX7_next_52 rfl (lv_at hl 1 rfl) ?_
        refine g_get C hV flX7_next_216 0 rfl rfl dX7_next_53 ?_
        refine g_icmp_ne (tgt := 67) C hF dX7_next_56 rfl (fun hF => ?_) (fun hF => ?_)
        · refine lv_iload_n C.1 C.2.1 dX7_next_67 rfl (lv_at hl 0 rfl) ?_
          refine lv_bipush (v := 59) C.1 C.2.1 dX7_next_68 rfl ?_
          refine g_icmp_ne (tgt := 91) C hF dX7_next_70 rfl (fun hF => ?_) (fun hF => ?_)
          · refine lv_iload_n C.1 C.2.1 dX7_next_91 rfl (lv_at hl 0 rfl) ?_
            obtain ⟨x4, hc, hF⟩ := bd1_s hF
            refine g_cSi (ws' := [oX7 a_t a_d a_e a_kept v_isKept a_found a_tape v_taped v_gone a_hears a_near a_firstDay a_daily v_begin v_round v_leastFar v_leastWhere v_mostLed a_heardNow v_firstMove u1 v_sort u1 0 v_fault a_bitsOf a_sizeOf a_number a_passing, aA cB a_tape 120 f_tape]) (wr := [oX7 a_t a_d a_e a_kept v_isKept a_found a_tape v_taped v_gone a_hears a_near a_firstDay a_daily v_begin v_round v_leastFar v_leastWhere v_mostLed a_heardNow v_firstMove u1 v_sort u1 0 v_fault a_bitsOf a_sizeOf a_number a_passing, aA cB a_tape 120 f_tape]) C hV (k_X7_letter l dC dI cI cB cO n0 H.size x3 hc) mdX7_letter gX7_next_X7_letter rfl rfl ⟨Nat.le_of_ble_eq_true rfl, Nat.le_of_ble_eq_true rfl⟩ [] [0, 1] [0, 1] rfl rfl rfl rfl rfl rfl rfl rfl hl.1 (Nat.le_of_ble_eq_true rfl) rfl dX7_next_92 (fun H locs hV => ?_)
            refine g_if_le (tgt := 173) C hF dX7_next_95 rfl (fun hF => ?_) (fun hF => ?_)
            · refine lv_iload_n C.1 C.2.1 dX7_next_173 rfl (lv_at hl 0 rfl) ?_
              obtain ⟨x5, hc, hF⟩ := bd1_s hF
              refine g_cSi (ws' := [oX7 a_t a_d a_e a_kept v_isKept a_found a_tape v_taped v_gone a_hears a_near a_firstDay a_daily v_begin v_round v_leastFar v_leastWhere v_mostLed a_heardNow v_firstMove u1 v_sort u1 0 v_fault a_bitsOf a_sizeOf a_number a_passing, aA cB a_tape 120 f_tape]) (wr := [oX7 a_t a_d a_e a_kept v_isKept a_found a_tape v_taped v_gone a_hears a_near a_firstDay a_daily v_begin v_round v_leastFar v_leastWhere v_mostLed a_heardNow v_firstMove u1 v_sort u1 0 v_fault a_bitsOf a_sizeOf a_number a_passing, aA cB a_tape 120 f_tape]) C hV (k_X7_isDigit l dC dI cI cB cO n0 H.size x3 hc) mdX7_isDigit gX7_next_X7_isDigit rfl rfl ⟨Nat.le_of_ble_eq_true rfl, Nat.le_of_ble_eq_true rfl⟩ [] [0, 1] [0, 1] rfl rfl rfl rfl rfl rfl rfl rfl hl.1 (Nat.le_of_ble_eq_true rfl) rfl dX7_next_174 (fun H locs hV => ?_)
              refine g_if_eq (tgt := 256) C hF dX7_next_177 rfl (fun hF => ?_) (fun hF => ?_)
              · refine lv_aload_n C.1 C.2.1 dX7_next_256 rfl (lv_at hl 1 rfl) ?_
                refine lv_iconst (v := 4) C.1 C.2.1 dX7_next_257 rfl ?_
                refine g_put (ws' := [oX7 a_t a_d a_e a_kept v_isKept a_found a_tape v_taped v_gone a_hears a_near a_firstDay a_daily v_begin v_round v_leastFar v_leastWhere v_mostLed a_heardNow v_firstMove u1 4 u1 0 v_fault a_bitsOf a_sizeOf a_number a_passing, aA cB a_tape 120 f_tape]) C hV fpX7_next_232 0 rfl rfl rfl (Nat.le_of_ble_eq_true rfl) rfl dX7_next_258 (fun H locs hV => ?_)
                exact hret (u1, 4, u1, 0) _ _ _ _ dX7_next_261 hF hV
              refine lv_aload_n C.1 C.2.1 dX7_next_180 rfl (lv_at hl 1 rfl) ?_
              refine lv_iconst (v := 2) C.1 C.2.1 dX7_next_181 rfl ?_
              refine g_put (ws' := [oX7 a_t a_d a_e a_kept v_isKept a_found a_tape v_taped v_gone a_hears a_near a_firstDay a_daily v_begin v_round v_leastFar v_leastWhere v_mostLed a_heardNow v_firstMove u1 2 u1 0 v_fault a_bitsOf a_sizeOf a_number a_passing, aA cB a_tape 120 f_tape]) C hV fpX7_next_232 0 rfl rfl rfl (Nat.le_of_ble_eq_true rfl) rfl dX7_next_182 (fun H locs hV => ?_)
              have hL185 : ∀ (n : Nat) (u6 : Int32) (u7 : Int64) (H : Heap) (locs : List Loc) (ls : Array Slot), gV (dC, dI) (gT cI cB cO) A0 H0 s [oX7 a_t a_d a_e a_kept v_isKept a_found a_tape v_taped v_gone a_hears a_near a_firstDay a_daily v_begin v_round v_leastFar v_leastWhere v_mostLed a_heardNow v_firstMove u6 2 u1 u7 v_fault a_bitsOf a_sizeOf a_number a_passing, aA cB a_tape 120 f_tape] H locs → lv_has ls 2 [(0, .ref a_t)] → L_X7_next_185 n0 v_taped f_tape u1 n u6 u7 = some out → W p l e rmX7_next s m args below meth c H locs 0 0 Q (F0 m 185 ls []) := by
                intro n
                induction n with
                | zero => intro u6 u7 H locs ls hV hl hF; exact lpp2_z hF
                | succ n ih185 =>
                  intro u6 u7 H locs ls hV hl hF
                  obtain ⟨kk185, hk185, hF⟩ := lpp2_g hF
                  have hq185 : ∀ (u6 : Int32) (u7 : Int64), kk185 u6 u7 = some out → L_X7_next_185 n0 v_taped f_tape u1 n u6 u7 = some out := fun _ _ h => by rw [hk185] at h; exact h
                  refine lv_aload_n C.1 C.2.1 dX7_next_185 rfl (lv_at hl 0 rfl) ?_
                  refine lv_aload_n C.1 C.2.1 dX7_next_186 rfl (lv_at hl 0 rfl) ?_
                  refine g_get C hV flX7_next_219 0 rfl rfl dX7_next_187 ?_
                  obtain ⟨x8, hc, hF⟩ := bd1_s hF
                  refine g_cVi (ws' := [oX7 a_t a_d a_e a_kept v_isKept a_found a_tape v_taped v_gone a_hears a_near a_firstDay a_daily v_begin v_round v_leastFar v_leastWhere v_mostLed a_heardNow v_firstMove u6 2 u1 u7 v_fault a_bitsOf a_sizeOf a_number a_passing, aA cB a_tape 120 f_tape]) (wr := []) C hV (k_X7_byteAt l dC dI cI cB cO n0 H.size a_t a_d a_e a_kept a_found a_tape a_hears a_near a_firstDay a_daily a_heardNow a_bitsOf a_sizeOf a_number a_passing v_isKept v_taped v_gone v_begin v_round v_leastFar v_leastWhere v_mostLed v_firstMove u6 2 u1 u7 v_fault f_tape u6 hc) mdX7_byteAt gX7_next_X7_byteAt rfl rfl ⟨Nat.le_of_ble_eq_true rfl, Nat.le_of_ble_eq_true rfl⟩ [0, 1] [] [0, 1] rfl rfl rfl rfl rfl rfl rfl rfl rfl rfl hl.1 (Nat.le_of_ble_eq_true rfl) rfl dX7_next_190 (fun H locs hV => ?_)
                  obtain ⟨x9, hc, hF⟩ := bd1_s hF
                  refine g_cSi (ws' := [oX7 a_t a_d a_e a_kept v_isKept a_found a_tape v_taped v_gone a_hears a_near a_firstDay a_daily v_begin v_round v_leastFar v_leastWhere v_mostLed a_heardNow v_firstMove u6 2 u1 u7 v_fault a_bitsOf a_sizeOf a_number a_passing, aA cB a_tape 120 f_tape]) (wr := [oX7 a_t a_d a_e a_kept v_isKept a_found a_tape v_taped v_gone a_hears a_near a_firstDay a_daily v_begin v_round v_leastFar v_leastWhere v_mostLed a_heardNow v_firstMove u6 2 u1 u7 v_fault a_bitsOf a_sizeOf a_number a_passing, aA cB a_tape 120 f_tape]) C hV (k_X7_isDigit l dC dI cI cB cO n0 H.size x8 hc) mdX7_isDigit gX7_next_X7_isDigit rfl rfl ⟨Nat.le_of_ble_eq_true rfl, Nat.le_of_ble_eq_true rfl⟩ [] [0, 1] [0, 1] rfl rfl rfl rfl rfl rfl rfl rfl hl.1 (Nat.le_of_ble_eq_true rfl) rfl dX7_next_193 (fun H locs hV => ?_)
                  refine g_if_eq (tgt := 261) C hF dX7_next_196 rfl (fun hF => ?_) (fun hF => ?_)
                  · exact hret (u6, 2, u1, u7) _ _ _ _ dX7_next_261 hF hV
                  refine lv_aload_n C.1 C.2.1 dX7_next_199 rfl (lv_at hl 0 rfl) ?_
                  refine lv_aload_n C.1 C.2.1 dX7_next_200 rfl (lv_at hl 0 rfl) ?_
                  refine g_get C hV flX7_next_228 0 rfl rfl dX7_next_201 ?_
                  refine lv_ldc2 (v := 999) C.1 C.2.1 C.2.2.2.1 (C.2.2.2.2 _ ctX7_next_245) dX7_next_204 ?_
                  refine g_lcmp C hF dX7_next_207 (fun x10 hF => ?_)
                  have hJ240 : ∀ (k11 : Int64) (H : Heap) (locs : List Loc) (ls : Array Slot), gV (dC, dI) (gT cI cB cO) A0 H0 s [oX7 a_t a_d a_e a_kept v_isKept a_found a_tape v_taped v_gone a_hears a_near a_firstDay a_daily v_begin v_round v_leastFar v_leastWhere v_mostLed a_heardNow v_firstMove u6 2 u1 u7 v_fault a_bitsOf a_sizeOf a_number a_passing, aA cB a_tape 120 f_tape] H locs → lv_has ls 2 [(0, .ref a_t)] → J_X7_next_240 u6 kk185 k11 = some out → W p l e rmX7_next s m args below meth c H locs 0 0 Q (F0 m 240 ls [.long k11, .ref a_t]) := by
                    intro k11 H locs ls hV hl hF
                    unfold J_X7_next_240 at hF
                    refine g_put (ws' := [oX7 a_t a_d a_e a_kept v_isKept a_found a_tape v_taped v_gone a_hears a_near a_firstDay a_daily v_begin v_round v_leastFar v_leastWhere v_mostLed a_heardNow v_firstMove u6 2 u1 k11 v_fault a_bitsOf a_sizeOf a_number a_passing, aA cB a_tape 120 f_tape]) C hV fpX7_next_228 0 rfl rfl rfl (Nat.le_of_ble_eq_true rfl) rfl dX7_next_240 (fun H locs hV => ?_)
                    refine lv_aload_n C.1 C.2.1 dX7_next_243 rfl (lv_at hl 0 rfl) ?_
                    refine lv_dup C.1 C.2.1 dX7_next_244 rfl ?_
                    refine g_get C hV flX7_next_219 0 rfl rfl dX7_next_245 ?_
                    refine lv_iconst (v := 1) C.1 C.2.1 dX7_next_248 rfl ?_
                    refine g_iadd C hF dX7_next_249 (fun x12 hF => ?_)
                    refine g_put (ws' := [oX7 a_t a_d a_e a_kept v_isKept a_found a_tape v_taped v_gone a_hears a_near a_firstDay a_daily v_begin v_round v_leastFar v_leastWhere v_mostLed a_heardNow v_firstMove x12 2 u1 k11 v_fault a_bitsOf a_sizeOf a_number a_passing, aA cB a_tape 120 f_tape]) C hV fpX7_next_219 0 rfl rfl rfl (Nat.le_of_ble_eq_true rfl) rfl dX7_next_250 (fun H locs hV => ?_)
                    refine lv_goto (tgt := 185) C.1 C.2.1 dX7_next_253 rfl ?_
                    exact ih185 x12 k11 H locs ls hV (lv_sub hl [0] rfl) (hq185 x12 k11 hF)
                  refine g_if_le (tgt := 218) C hF dX7_next_208 rfl (fun hF => ?_) (fun hF => ?_)
                  · refine lv_aload_n C.1 C.2.1 dX7_next_218 rfl (lv_at hl 0 rfl) ?_
                    refine g_get C hV flX7_next_228 0 rfl rfl dX7_next_219 ?_
                    refine lv_ldc2 (v := 10) C.1 C.2.1 C.2.2.2.1 (C.2.2.2.2 _ ctX7_next_247) dX7_next_222 ?_
                    refine g_lmul C hF dX7_next_225 (fun x13 hF => ?_)
                    refine lv_aload_n C.1 C.2.1 dX7_next_226 rfl (lv_at hl 0 rfl) ?_
                    refine lv_aload_n C.1 C.2.1 dX7_next_227 rfl (lv_at hl 0 rfl) ?_
                    refine g_get C hV flX7_next_219 0 rfl rfl dX7_next_228 ?_
                    obtain ⟨x14, hc, hF⟩ := bd1_s hF
                    refine g_cVi (ws' := [oX7 a_t a_d a_e a_kept v_isKept a_found a_tape v_taped v_gone a_hears a_near a_firstDay a_daily v_begin v_round v_leastFar v_leastWhere v_mostLed a_heardNow v_firstMove u6 2 u1 u7 v_fault a_bitsOf a_sizeOf a_number a_passing, aA cB a_tape 120 f_tape]) (wr := []) C hV (k_X7_byteAt l dC dI cI cB cO n0 H.size a_t a_d a_e a_kept a_found a_tape a_hears a_near a_firstDay a_daily a_heardNow a_bitsOf a_sizeOf a_number a_passing v_isKept v_taped v_gone v_begin v_round v_leastFar v_leastWhere v_mostLed v_firstMove u6 2 u1 u7 v_fault f_tape u6 hc) mdX7_byteAt gX7_next_X7_byteAt rfl rfl ⟨Nat.le_of_ble_eq_true rfl, Nat.le_of_ble_eq_true rfl⟩ [0, 1] [] [0, 1] rfl rfl rfl rfl rfl rfl rfl rfl rfl rfl hl.1 (Nat.le_of_ble_eq_true rfl) rfl dX7_next_231 (fun H locs hV => ?_)
                    refine g_i2l C hF dX7_next_234 (fun x15 hF => ?_)
                    refine g_ladd C hF dX7_next_235 (fun x16 hF => ?_)
                    refine lv_ldc2 (v := 48) C.1 C.2.1 C.2.2.2.1 (C.2.2.2.2 _ ctX7_next_249) dX7_next_236 ?_
                    refine g_lsub C hF dX7_next_239 (fun x17 hF => ?_)
                    exact hJ240 x17 H locs ls hV (lv_sub hl [0] rfl) hF
                  refine lv_aload_n C.1 C.2.1 dX7_next_211 rfl (lv_at hl 0 rfl) ?_
                  refine g_get C hV flX7_next_228 0 rfl rfl dX7_next_212 ?_
                  refine lv_goto (tgt := 240) C.1 C.2.1 dX7_next_215 rfl ?_
                  exact hJ240 u7 H locs ls hV (lv_sub hl [0] rfl) hF
              exact hL185 n0 u1 0 H locs ls hV (lv_sub hl [1] rfl) hF
            refine lv_aload_n C.1 C.2.1 dX7_next_98 rfl (lv_at hl 1 rfl) ?_
            refine lv_iconst (v := 1) C.1 C.2.1 dX7_next_99 rfl ?_
            refine g_put (ws' := [oX7 a_t a_d a_e a_kept v_isKept a_found a_tape v_taped v_gone a_hears a_near a_firstDay a_daily v_begin v_round v_leastFar v_leastWhere v_mostLed a_heardNow v_firstMove u1 1 u1 0 v_fault a_bitsOf a_sizeOf a_number a_passing, aA cB a_tape 120 f_tape]) C hV fpX7_next_232 0 rfl rfl rfl (Nat.le_of_ble_eq_true rfl) rfl dX7_next_100 (fun H locs hV => ?_)
            have hL103 : ∀ (n : Nat) (u18 : Int32) (u19 : Int64) (H : Heap) (locs : List Loc) (ls : Array Slot), gV (dC, dI) (gT cI cB cO) A0 H0 s [oX7 a_t a_d a_e a_kept v_isKept a_found a_tape v_taped v_gone a_hears a_near a_firstDay a_daily v_begin v_round v_leastFar v_leastWhere v_mostLed a_heardNow v_firstMove u18 1 u1 u19 v_fault a_bitsOf a_sizeOf a_number a_passing, aA cB a_tape 120 f_tape] H locs → lv_has ls 2 [(0, .ref a_t)] → L_X7_next_103 n0 v_taped f_tape u1 n u18 u19 = some out → W p l e rmX7_next s m args below meth c H locs 0 0 Q (F0 m 103 ls []) := by
              intro n
              induction n with
              | zero => intro u18 u19 H locs ls hV hl hF; exact lpp2_z hF
              | succ n ih103 =>
                intro u18 u19 H locs ls hV hl hF
                obtain ⟨kk103, hk103, hF⟩ := lpp2_g hF
                have hq103 : ∀ (u18 : Int32) (u19 : Int64), kk103 u18 u19 = some out → L_X7_next_103 n0 v_taped f_tape u1 n u18 u19 = some out := fun _ _ h => by rw [hk103] at h; exact h
                refine lv_aload_n C.1 C.2.1 dX7_next_103 rfl (lv_at hl 0 rfl) ?_
                refine lv_aload_n C.1 C.2.1 dX7_next_104 rfl (lv_at hl 0 rfl) ?_
                refine g_get C hV flX7_next_219 0 rfl rfl dX7_next_105 ?_
                obtain ⟨x20, hc, hF⟩ := bd1_s hF
                refine g_cVi (ws' := [oX7 a_t a_d a_e a_kept v_isKept a_found a_tape v_taped v_gone a_hears a_near a_firstDay a_daily v_begin v_round v_leastFar v_leastWhere v_mostLed a_heardNow v_firstMove u18 1 u1 u19 v_fault a_bitsOf a_sizeOf a_number a_passing, aA cB a_tape 120 f_tape]) (wr := []) C hV (k_X7_byteAt l dC dI cI cB cO n0 H.size a_t a_d a_e a_kept a_found a_tape a_hears a_near a_firstDay a_daily a_heardNow a_bitsOf a_sizeOf a_number a_passing v_isKept v_taped v_gone v_begin v_round v_leastFar v_leastWhere v_mostLed v_firstMove u18 1 u1 u19 v_fault f_tape u18 hc) mdX7_byteAt gX7_next_X7_byteAt rfl rfl ⟨Nat.le_of_ble_eq_true rfl, Nat.le_of_ble_eq_true rfl⟩ [0, 1] [] [0, 1] rfl rfl rfl rfl rfl rfl rfl rfl rfl rfl hl.1 (Nat.le_of_ble_eq_true rfl) rfl dX7_next_108 (fun H locs hV => ?_)
                obtain ⟨x21, hc, hF⟩ := bd1_s hF
                refine g_cSi (ws' := [oX7 a_t a_d a_e a_kept v_isKept a_found a_tape v_taped v_gone a_hears a_near a_firstDay a_daily v_begin v_round v_leastFar v_leastWhere v_mostLed a_heardNow v_firstMove u18 1 u1 u19 v_fault a_bitsOf a_sizeOf a_number a_passing, aA cB a_tape 120 f_tape]) (wr := [oX7 a_t a_d a_e a_kept v_isKept a_found a_tape v_taped v_gone a_hears a_near a_firstDay a_daily v_begin v_round v_leastFar v_leastWhere v_mostLed a_heardNow v_firstMove u18 1 u1 u19 v_fault a_bitsOf a_sizeOf a_number a_passing, aA cB a_tape 120 f_tape]) C hV (k_X7_letter l dC dI cI cB cO n0 H.size x20 hc) mdX7_letter gX7_next_X7_letter rfl rfl ⟨Nat.le_of_ble_eq_true rfl, Nat.le_of_ble_eq_true rfl⟩ [] [0, 1] [0, 1] rfl rfl rfl rfl rfl rfl rfl rfl hl.1 (Nat.le_of_ble_eq_true rfl) rfl dX7_next_111 (fun H locs hV => ?_)
                refine g_if_le (tgt := 261) C hF dX7_next_114 rfl (fun hF => ?_) (fun hF => ?_)
                · exact hret (u18, 1, u1, u19) _ _ _ _ dX7_next_261 hF hV
                refine lv_aload_n C.1 C.2.1 dX7_next_117 rfl (lv_at hl 0 rfl) ?_
                refine lv_aload_n C.1 C.2.1 dX7_next_118 rfl (lv_at hl 0 rfl) ?_
                refine g_get C hV flX7_next_228 0 rfl rfl dX7_next_119 ?_
                refine lv_ldc2 (v := 100000000000000000) C.1 C.2.1 C.2.2.2.1 (C.2.2.2.2 _ ctX7_next_238) dX7_next_122 ?_
                refine g_lcmp C hF dX7_next_125 (fun x22 hF => ?_)
                have hJ157 : ∀ (k23 : Int64) (H : Heap) (locs : List Loc) (ls : Array Slot), gV (dC, dI) (gT cI cB cO) A0 H0 s [oX7 a_t a_d a_e a_kept v_isKept a_found a_tape v_taped v_gone a_hears a_near a_firstDay a_daily v_begin v_round v_leastFar v_leastWhere v_mostLed a_heardNow v_firstMove u18 1 u1 u19 v_fault a_bitsOf a_sizeOf a_number a_passing, aA cB a_tape 120 f_tape] H locs → lv_has ls 2 [(0, .ref a_t)] → J_X7_next_157 u18 kk103 k23 = some out → W p l e rmX7_next s m args below meth c H locs 0 0 Q (F0 m 157 ls [.long k23, .ref a_t]) := by
                  intro k23 H locs ls hV hl hF
                  unfold J_X7_next_157 at hF
                  refine g_put (ws' := [oX7 a_t a_d a_e a_kept v_isKept a_found a_tape v_taped v_gone a_hears a_near a_firstDay a_daily v_begin v_round v_leastFar v_leastWhere v_mostLed a_heardNow v_firstMove u18 1 u1 k23 v_fault a_bitsOf a_sizeOf a_number a_passing, aA cB a_tape 120 f_tape]) C hV fpX7_next_228 0 rfl rfl rfl (Nat.le_of_ble_eq_true rfl) rfl dX7_next_157 (fun H locs hV => ?_)
                  refine lv_aload_n C.1 C.2.1 dX7_next_160 rfl (lv_at hl 0 rfl) ?_
                  refine lv_dup C.1 C.2.1 dX7_next_161 rfl ?_
                  refine g_get C hV flX7_next_219 0 rfl rfl dX7_next_162 ?_
                  refine lv_iconst (v := 1) C.1 C.2.1 dX7_next_165 rfl ?_
                  refine g_iadd C hF dX7_next_166 (fun x24 hF => ?_)
                  refine g_put (ws' := [oX7 a_t a_d a_e a_kept v_isKept a_found a_tape v_taped v_gone a_hears a_near a_firstDay a_daily v_begin v_round v_leastFar v_leastWhere v_mostLed a_heardNow v_firstMove x24 1 u1 k23 v_fault a_bitsOf a_sizeOf a_number a_passing, aA cB a_tape 120 f_tape]) C hV fpX7_next_219 0 rfl rfl rfl (Nat.le_of_ble_eq_true rfl) rfl dX7_next_167 (fun H locs hV => ?_)
                  refine lv_goto (tgt := 103) C.1 C.2.1 dX7_next_170 rfl ?_
                  exact ih103 x24 k23 H locs ls hV (lv_sub hl [0] rfl) (hq103 x24 k23 hF)
                refine g_if_le (tgt := 136) C hF dX7_next_126 rfl (fun hF => ?_) (fun hF => ?_)
                · refine lv_aload_n C.1 C.2.1 dX7_next_136 rfl (lv_at hl 0 rfl) ?_
                  refine g_get C hV flX7_next_228 0 rfl rfl dX7_next_137 ?_
                  refine lv_ldc2 (v := 27) C.1 C.2.1 C.2.2.2.1 (C.2.2.2.2 _ ctX7_next_240) dX7_next_140 ?_
                  refine g_lmul C hF dX7_next_143 (fun x25 hF => ?_)
                  refine lv_aload_n C.1 C.2.1 dX7_next_144 rfl (lv_at hl 0 rfl) ?_
                  refine lv_aload_n C.1 C.2.1 dX7_next_145 rfl (lv_at hl 0 rfl) ?_
                  refine g_get C hV flX7_next_219 0 rfl rfl dX7_next_146 ?_
                  obtain ⟨x26, hc, hF⟩ := bd1_s hF
                  refine g_cVi (ws' := [oX7 a_t a_d a_e a_kept v_isKept a_found a_tape v_taped v_gone a_hears a_near a_firstDay a_daily v_begin v_round v_leastFar v_leastWhere v_mostLed a_heardNow v_firstMove u18 1 u1 u19 v_fault a_bitsOf a_sizeOf a_number a_passing, aA cB a_tape 120 f_tape]) (wr := []) C hV (k_X7_byteAt l dC dI cI cB cO n0 H.size a_t a_d a_e a_kept a_found a_tape a_hears a_near a_firstDay a_daily a_heardNow a_bitsOf a_sizeOf a_number a_passing v_isKept v_taped v_gone v_begin v_round v_leastFar v_leastWhere v_mostLed v_firstMove u18 1 u1 u19 v_fault f_tape u18 hc) mdX7_byteAt gX7_next_X7_byteAt rfl rfl ⟨Nat.le_of_ble_eq_true rfl, Nat.le_of_ble_eq_true rfl⟩ [0, 1] [] [0, 1] rfl rfl rfl rfl rfl rfl rfl rfl rfl rfl hl.1 (Nat.le_of_ble_eq_true rfl) rfl dX7_next_149 (fun H locs hV => ?_)
                  obtain ⟨x27, hc, hF⟩ := bd1_s hF
                  refine g_cSi (ws' := [oX7 a_t a_d a_e a_kept v_isKept a_found a_tape v_taped v_gone a_hears a_near a_firstDay a_daily v_begin v_round v_leastFar v_leastWhere v_mostLed a_heardNow v_firstMove u18 1 u1 u19 v_fault a_bitsOf a_sizeOf a_number a_passing, aA cB a_tape 120 f_tape]) (wr := [oX7 a_t a_d a_e a_kept v_isKept a_found a_tape v_taped v_gone a_hears a_near a_firstDay a_daily v_begin v_round v_leastFar v_leastWhere v_mostLed a_heardNow v_firstMove u18 1 u1 u19 v_fault a_bitsOf a_sizeOf a_number a_passing, aA cB a_tape 120 f_tape]) C hV (k_X7_letter l dC dI cI cB cO n0 H.size x26 hc) mdX7_letter gX7_next_X7_letter rfl rfl ⟨Nat.le_of_ble_eq_true rfl, Nat.le_of_ble_eq_true rfl⟩ [] [0, 1] [0, 1] rfl rfl rfl rfl rfl rfl rfl rfl hl.1 (Nat.le_of_ble_eq_true rfl) rfl dX7_next_152 (fun H locs hV => ?_)
                  refine g_i2l C hF dX7_next_155 (fun x28 hF => ?_)
                  refine g_ladd C hF dX7_next_156 (fun x29 hF => ?_)
                  exact hJ157 x29 H locs ls hV (lv_sub hl [0] rfl) hF
                refine lv_aload_n C.1 C.2.1 dX7_next_129 rfl (lv_at hl 0 rfl) ?_
                refine g_get C hV flX7_next_228 0 rfl rfl dX7_next_130 ?_
                refine lv_goto (tgt := 157) C.1 C.2.1 dX7_next_133 rfl ?_
                exact hJ157 u19 H locs ls hV (lv_sub hl [0] rfl) hF
            exact hL103 n0 u1 0 H locs ls hV (lv_sub hl [1] rfl) hF
          refine lv_aload_n C.1 C.2.1 dX7_next_73 rfl (lv_at hl 1 rfl) ?_
          refine lv_iconst (v := 3) C.1 C.2.1 dX7_next_74 rfl ?_
          refine g_put (ws' := [oX7 a_t a_d a_e a_kept v_isKept a_found a_tape v_taped v_gone a_hears a_near a_firstDay a_daily v_begin v_round v_leastFar v_leastWhere v_mostLed a_heardNow v_firstMove u1 3 u1 0 v_fault a_bitsOf a_sizeOf a_number a_passing, aA cB a_tape 120 f_tape]) C hV fpX7_next_232 0 rfl rfl rfl (Nat.le_of_ble_eq_true rfl) rfl dX7_next_75 (fun H locs hV => ?_)
          refine lv_aload_n C.1 C.2.1 dX7_next_78 rfl (lv_at hl 1 rfl) ?_
          refine lv_dup C.1 C.2.1 dX7_next_79 rfl ?_
          refine g_get C hV flX7_next_219 0 rfl rfl dX7_next_80 ?_
          refine lv_iconst (v := 1) C.1 C.2.1 dX7_next_83 rfl ?_
          refine g_iadd C hF dX7_next_84 (fun x30 hF => ?_)
          refine g_put (ws' := [oX7 a_t a_d a_e a_kept v_isKept a_found a_tape v_taped v_gone a_hears a_near a_firstDay a_daily v_begin v_round v_leastFar v_leastWhere v_mostLed a_heardNow v_firstMove x30 3 u1 0 v_fault a_bitsOf a_sizeOf a_number a_passing, aA cB a_tape 120 f_tape]) C hV fpX7_next_219 0 rfl rfl rfl (Nat.le_of_ble_eq_true rfl) rfl dX7_next_85 (fun H locs hV => ?_)
          refine lv_goto (tgt := 261) C.1 C.2.1 dX7_next_88 rfl ?_
          exact hret (x30, 3, u1, 0) _ _ _ _ dX7_next_261 hF hV
        refine lv_aload_n C.1 C.2.1 dX7_next_59 rfl (lv_at hl 1 rfl) ?_
        refine lv_iconst (v := 0) C.1 C.2.1 dX7_next_60 rfl ?_
        refine g_put (ws' := [oX7 a_t a_d a_e a_kept v_isKept a_found a_tape v_taped v_gone a_hears a_near a_firstDay a_daily v_begin v_round v_leastFar v_leastWhere v_mostLed a_heardNow v_firstMove u1 0 u1 0 v_fault a_bitsOf a_sizeOf a_number a_passing, aA cB a_tape 120 f_tape]) C hV fpX7_next_232 0 rfl rfl rfl (Nat.le_of_ble_eq_true rfl) rfl dX7_next_61 (fun H locs hV => ?_)
        refine lv_goto (tgt := 261) C.1 C.2.1 dX7_next_64 rfl ?_
        exact hret (u1, 0, u1, 0) _ _ _ _ dX7_next_261 hF hV
      refine lv_aload_n C.1 C.2.1 dX7_next_13 rfl (lv_at hl 0 rfl) ?_
      refine lv_dup C.1 C.2.1 dX7_next_14 rfl ?_
      refine g_get C hV flX7_next_219 0 rfl rfl dX7_next_15 ?_
      refine lv_iconst (v := 1) C.1 C.2.1 dX7_next_18 rfl ?_
      refine g_iadd C hF dX7_next_19 (fun x31 hF => ?_)
      refine g_put (ws' := [oX7 a_t a_d a_e a_kept v_isKept a_found a_tape v_taped v_gone a_hears a_near a_firstDay a_daily v_begin v_round v_leastFar v_leastWhere v_mostLed a_heardNow v_firstMove x31 v_sort v_from v_value v_fault a_bitsOf a_sizeOf a_number a_passing, aA cB a_tape 120 f_tape]) C hV fpX7_next_219 0 rfl rfl rfl (Nat.le_of_ble_eq_true rfl) rfl dX7_next_20 (fun H locs hV => ?_)
      refine lv_goto (tgt := 0) C.1 C.2.1 dX7_next_23 rfl ?_
      exact ih0 x31 H locs ls hV (lv_sub hl [0] rfl) (hq0 x31 hF)
  exact hL0 n0 v_at H locs ls hV (lv_sub hl [0] rfl) hF
