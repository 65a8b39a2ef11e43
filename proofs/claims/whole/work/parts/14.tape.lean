abbrev rmX2_isMissing : Room := { frames := 0, cells := 0, slots := 0, locals := 0 }
theorem mdX2_isMissing : gMd yX2_isMissing wsX2_isMissing cX2_isMissing 1 (some .boolean) 0 := ⟨⟨_, rfl⟩, by decide +kernel⟩
theorem flX2_isMissing_15 : gFL wsX2_isMissing RX2 15 2 1 RX2 TX2 3 := ⟨rfl, fun w h => List.mem_cons_of_mem _ (List.mem_append_right _ (h)), Nat.le_of_ble_eq_true rfl, List.mem_cons_of_mem _ (List.mem_append_left _ (List.mem_of_getElem? (i := 0) rfl))⟩
def F_X2_isMissing (n0 : Nat) (v_bits : Int32) : Option (Int32) := (if v_bits = 0 then some (1 : Int32) else some (0 : Int32))
set_option maxRecDepth 100000 in
set_option maxHeartbeats 4000000 in
theorem k_X2_isMissing (l : Launch) (dC : Nat → ClassId) (dI : Nat → Nat → Nat) (cI cB cO : ClassId) (n0 sz : Nat) (a_t : Nat) (a_numbers : Nat)   (v_bits : Int32) (v_size : Int32)   {ro : Int32} (hF : F_X2_isMissing n0 v_bits = some ro) : Met l yX2_isMissing wsX2_isMissing rmX2_isMissing (va_Pc [.ref a_t] (gPre (dC, dI) (gT cI cB cO) sz [oX2 a_t a_numbers v_bits v_size])) (gQi (dC, dI) (gT cI cB cO) sz [oX2 a_t a_numbers v_bits v_size] ro [oX2 a_t a_numbers v_bits v_size]) 0 0 (va_A [oX2 a_t a_numbers v_bits v_size] sz) := by
  refine g_metZ (Out := Int32) (fun oo => oo) (fun oo => [oX2 a_t a_numbers v_bits v_size]) ro (own := RX2) (lv := [(0, .ref a_t)]) (by decide) rfl rfl (Nat.le_of_ble_eq_true rfl) rfl ?_
  intro p e s m args below meth c Q ls C hret hV hl
  obtain ⟨out, hout⟩ : ∃ z : Int32, z = ro := ⟨_, rfl⟩
  rw [← hout] at hF hret
  obtain ⟨H0, hH0⟩ : ∃ z : Heap, z = s.heap := ⟨_, rfl⟩
  obtain ⟨A0, hA0⟩ : ∃ z : Nat → Prop, z = va_A [oX2 a_t a_numbers v_bits v_size] s.heap.size := ⟨_, rfl⟩
  rw [← hA0] at hret hV
  rw [← hH0] at hret hV
  rw [← hH0]
  obtain ⟨H, locs, hH⟩ : ∃ (z : Heap) (y : List Loc), z = H0 ∧ y = [] := ⟨_, _, rfl, rfl⟩
  rw [← hH.1, ← hH.2]
  have hV : gV (dC, dI) (gT cI cB cO) A0 H0 s [oX2 a_t a_numbers v_bits v_size] H locs := by rw [hH.1, hH.2]; exact hV
  unfold F_X2_isMissing at hF
  refine lv_aload_n C.1 C.2.1 dX2_isMissing_0 rfl (lv_at hl 0 rfl) ?_
  refine g_get C hV flX2_isMissing_15 0 rfl rfl dX2_isMissing_1 ?_
  refine g_if_ne (tgt := 11) C hF dX2_isMissing_4 rfl (fun hF => ?_) (fun hF => ?_)
  · refine lv_iconst (v := 0) C.1 C.2.1 dX2_isMissing_11 rfl ?_
    exact hret (0 : Int32) _ _ _ _ dX2_isMissing_12 hF (Or.inl rfl) hV
  refine lv_iconst (v := 1) C.1 C.2.1 dX2_isMissing_7 rfl ?_
  refine lv_goto (tgt := 12) C.1 C.2.1 dX2_isMissing_8 rfl ?_
  exact hret (1 : Int32) _ _ _ _ dX2_isMissing_12 hF (Or.inr rfl) hV
abbrev rmX2_layOut : Room := { frames := 1, cells := 0, slots := 0, locals := 23 }
theorem mdX2_layOut : gMd yX2_layOut wsX2_layOut cX2_layOut 3 none 2 := ⟨⟨_, rfl⟩, by decide +kernel⟩
theorem flX2_layOut_15 : gFL wsX2_layOut RX2 15 2 1 RX2 TX2 3 := ⟨rfl, fun w h => List.mem_cons_of_mem _ (List.mem_append_right _ (h)), Nat.le_of_ble_eq_true rfl, List.mem_cons_of_mem _ (List.mem_append_left _ (List.mem_of_getElem? (i := 0) rfl))⟩
theorem fpX2_layOut_15 : gFP wsX2_layOut RX2 15 2 1 RX2 TX2 3 .int := ⟨flX2_layOut_15, ⟨tyX2, tyX2_ok⟩, nmX2, rfl, by decide +kernel⟩
theorem flX2_layOut_19 : gFL wsX2_layOut RX2 19 2 2 RX2 TX2 3 := ⟨rfl, fun w h => List.mem_cons_of_mem _ (List.mem_append_right _ (h)), Nat.le_of_ble_eq_true rfl, List.mem_cons_of_mem _ (List.mem_append_left _ (List.mem_of_getElem? (i := 1) rfl))⟩
theorem fpX2_layOut_19 : gFP wsX2_layOut RX2 19 2 2 RX2 TX2 3 .int := ⟨flX2_layOut_19, ⟨tyX2, tyX2_ok⟩, nmX2, rfl, by decide +kernel⟩
theorem flX2_layOut_9 : gFL wsX2_layOut RX2 9 2 0 RX2 TX2 3 := ⟨rfl, fun w h => List.mem_cons_of_mem _ (List.mem_append_right _ (h)), Nat.le_of_ble_eq_true rfl, List.mem_cons_of_mem _ (List.mem_append_left _ (List.mem_of_getElem? (i := 2) rfl))⟩
def F_X2_layOut (n0 : Nat) (v_bits : Int32) (v_size : Int32) (f_numbers : Nat → Int32) (p1 : Int32) (p2 : Int32) : Option (Int32 × Int32 × (Nat → Int32)) := (if p1 = 0 then bd1 (F_J7_fill_53178 n0 40 f_numbers 0) (fun g2 => some (p1, 0, g2)) else bd1 (F_J7_fill_53178 n0 40 f_numbers 0) (fun g1 => some (p1, p2, g1)))
set_option maxRecDepth 100000 in
set_option maxHeartbeats 4000000 in
theorem k_X2_layOut (l : Launch) (dC : Nat → ClassId) (dI : Nat → Nat → Nat) (cI cB cO : ClassId) (n0 sz : Nat) (a_t : Nat) (a_numbers : Nat)   (v_bits : Int32) (v_size : Int32) (f_numbers : Nat → Int32) (p1 : Int32) (p2 : Int32)  {o0 : Int32} {o1 : Int32} {o2 : Nat → Int32} (hF : F_X2_layOut n0 v_bits v_size f_numbers p1 p2 = some (o0, o1, o2)) : Met l yX2_layOut wsX2_layOut rmX2_layOut (va_Pc [.ref a_t, .int p1, .int p2] (gPre (dC, dI) (gT cI cB cO) sz [oX2 a_t a_numbers v_bits v_size, aA cI a_numbers 40 f_numbers])) (gQv (dC, dI) (gT cI cB cO) sz [oX2 a_t a_numbers v_bits v_size, aA cI a_numbers 40 f_numbers] [oX2 a_t a_numbers o0 o1, aA cI a_numbers 40 o2]) 0 0 (va_A [oX2 a_t a_numbers v_bits v_size, aA cI a_numbers 40 f_numbers] sz) := by
  refine g_metV (Out := Int32 × Int32 × (Nat → Int32)) (fun oo => [oX2 a_t a_numbers oo.1 oo.2.1, aA cI a_numbers 40 oo.2.2]) (o0, o1, o2) (own := RX2) (lv := [(0, .ref a_t), (1, .int p1), (2, .int p2)]) (by decide) rfl rfl (Nat.le_of_ble_eq_true rfl) rfl ?_
  intro p e s m args below meth c Q ls C hret hV hl
  obtain ⟨out, hout⟩ : ∃ z : Int32 × Int32 × (Nat → Int32), z = (o0, o1, o2) := ⟨_, rfl⟩
  rw [← hout] at hF hret
  obtain ⟨H0, hH0⟩ : ∃ z : Heap, z = s.heap := ⟨_, rfl⟩
  obtain ⟨A0, hA0⟩ : ∃ z : Nat → Prop, z = va_A [oX2 a_t a_numbers v_bits v_size, aA cI a_numbers 40 f_numbers] s.heap.size := ⟨_, rfl⟩
  rw [← hA0] at hret hV
  rw [← hH0] at hret hV
  rw [← hH0]
  obtain ⟨H, locs, hH⟩ : ∃ (z : Heap) (y : List Loc), z = H0 ∧ y = [] := ⟨_, _, rfl, rfl⟩
  rw [← hH.1, ← hH.2]
  have hV : gV (dC, dI) (gT cI cB cO) A0 H0 s [oX2 a_t a_numbers v_bits v_size, aA cI a_numbers 40 f_numbers] H locs := by rw [hH.1, hH.2]; exact hV
  unfold F_X2_layOut at hF
  refine lv_aload_n C.1 C.2.1 dX2_layOut_0 rfl (lv_at hl 0 rfl) ?_
  refine lv_iload_n C.1 C.2.1 dX2_layOut_1 rfl (lv_at hl 1 rfl) ?_
  refine g_put (ws' := [oX2 a_t a_numbers p1 v_size, aA cI a_numbers 40 f_numbers]) C hV fpX2_layOut_15 0 rfl rfl rfl (Nat.le_of_ble_eq_true rfl) rfl dX2_layOut_2 (fun H locs hV => ?_)
  refine lv_aload_n C.1 C.2.1 dX2_layOut_5 rfl (lv_at hl 0 rfl) ?_
  refine lv_iload_n C.1 C.2.1 dX2_layOut_6 rfl (lv_at hl 1 rfl) ?_
  refine g_if_ne (tgt := 14) C hF dX2_layOut_7 rfl (fun hF => ?_) (fun hF => ?_)
  · refine lv_iload_n C.1 C.2.1 dX2_layOut_14 rfl (lv_at hl 2 rfl) ?_
    refine g_put (ws' := [oX2 a_t a_numbers p1 p2, aA cI a_numbers 40 f_numbers]) C hV fpX2_layOut_19 0 rfl rfl rfl (Nat.le_of_ble_eq_true rfl) rfl dX2_layOut_15 (fun H locs hV => ?_)
    refine lv_aload_n C.1 C.2.1 dX2_layOut_18 rfl (lv_at hl 0 rfl) ?_
    refine g_get C hV flX2_layOut_9 0 rfl rfl dX2_layOut_19 ?_
    refine lv_iconst (v := 0) C.1 C.2.1 dX2_layOut_22 rfl ?_
    obtain ⟨g1, hc, hF⟩ := bd1_s hF
    refine g_cSv (ws' := [oX2 a_t a_numbers p1 p2, aA cI a_numbers 40 g1]) (wr := [oX2 a_t a_numbers p1 p2]) C hV (k_J7_fill_53178 l dC dI cI cB cO n0 H.size a_numbers 40 f_numbers 0 hc) mdJ7_fill_53178 gX2_layOut_J7_fill_53178 rfl rfl ⟨Nat.le_of_ble_eq_true rfl, Nat.le_of_ble_eq_true rfl⟩ [1] [0] [0, 1] rfl rfl rfl rfl rfl rfl rfl rfl hl.1 (Nat.le_of_ble_eq_true rfl) rfl dX2_layOut_23 (fun H locs hV => ?_)
    exact hret (p1, p2, g1) _ _ _ _ dX2_layOut_26 hF hV
  refine lv_iconst (v := 0) C.1 C.2.1 dX2_layOut_10 rfl ?_
  refine lv_goto (tgt := 15) C.1 C.2.1 dX2_layOut_11 rfl ?_
  refine g_put (ws' := [oX2 a_t a_numbers p1 0, aA cI a_numbers 40 f_numbers]) C hV fpX2_layOut_19 0 rfl rfl rfl (Nat.le_of_ble_eq_true rfl) rfl dX2_layOut_15 (fun H locs hV => ?_)
  refine lv_aload_n C.1 C.2.1 dX2_layOut_18 rfl (lv_at hl 0 rfl) ?_
  refine g_get C hV flX2_layOut_9 0 rfl rfl dX2_layOut_19 ?_
  refine lv_iconst (v := 0) C.1 C.2.1 dX2_layOut_22 rfl ?_
  obtain ⟨g2, hc, hF⟩ := bd1_s hF
  refine g_cSv (ws' := [oX2 a_t a_numbers p1 0, aA cI a_numbers 40 g2]) (wr := [oX2 a_t a_numbers p1 0]) C hV (k_J7_fill_53178 l dC dI cI cB cO n0 H.size a_numbers 40 f_numbers 0 hc) mdJ7_fill_53178 gX2_layOut_J7_fill_53178 rfl rfl ⟨Nat.le_of_ble_eq_true rfl, Nat.le_of_ble_eq_true rfl⟩ [1] [0] [0, 1] rfl rfl rfl rfl rfl rfl rfl rfl hl.1 (Nat.le_of_ble_eq_true rfl) rfl dX2_layOut_23 (fun H locs hV => ?_)
  exact hret (p1, 0, g2) _ _ _ _ dX2_layOut_26 hF hV
abbrev rmX2_hasFrom : Room := { frames := 0, cells := 0, slots := 0, locals := 0 }
theorem mdX2_hasFrom : gMd yX2_hasFrom wsX2_hasFrom cX2_hasFrom 3 (some .boolean) 2 := ⟨⟨_, rfl⟩, by decide +kernel⟩
theorem flX2_hasFrom_19 : gFL wsX2_hasFrom RX2 19 2 2 RX2 TX2 3 := ⟨rfl, fun w h => List.mem_cons_of_mem _ (List.mem_append_right _ (h)), Nat.le_of_ble_eq_true rfl, List.mem_cons_of_mem _ (List.mem_append_left _ (List.mem_of_getElem? (i := 0) rfl))⟩
def F_X2_hasFrom (n0 : Nat) (v_size : Int32) (p1 : Int32) (p2 : Int32) : Option (Int32) := (if p1 < 0 then some (0 : Int32) else (if p2 < 0 then some (0 : Int32) else nm (v_size - p1) (fun x1 => (if x1 < p2 then some (0 : Int32) else some (1 : Int32)))))
set_option maxRecDepth 100000 in
set_option maxHeartbeats 4000000 in
theorem k_X2_hasFrom (l : Launch) (dC : Nat → ClassId) (dI : Nat → Nat → Nat) (cI cB cO : ClassId) (n0 sz : Nat) (a_t : Nat) (a_numbers : Nat)   (v_bits : Int32) (v_size : Int32) (p1 : Int32) (p2 : Int32)  {ro : Int32} (hF : F_X2_hasFrom n0 v_size p1 p2 = some ro) : Met l yX2_hasFrom wsX2_hasFrom rmX2_hasFrom (va_Pc [.ref a_t, .int p1, .int p2] (gPre (dC, dI) (gT cI cB cO) sz [oX2 a_t a_numbers v_bits v_size])) (gQi (dC, dI) (gT cI cB cO) sz [oX2 a_t a_numbers v_bits v_size] ro [oX2 a_t a_numbers v_bits v_size]) 0 0 (va_A [oX2 a_t a_numbers v_bits v_size] sz) := by
  refine g_metZ (Out := Int32) (fun oo => oo) (fun oo => [oX2 a_t a_numbers v_bits v_size]) ro (own := RX2) (lv := [(0, .ref a_t), (1, .int p1), (2, .int p2)]) (by decide) rfl rfl (Nat.le_of_ble_eq_true rfl) rfl ?_
  intro p e s m args below meth c Q ls C hret hV hl
  obtain ⟨out, hout⟩ : ∃ z : Int32, z = ro := ⟨_, rfl⟩
  rw [← hout] at hF hret
  obtain ⟨H0, hH0⟩ : ∃ z : Heap, z = s.heap := ⟨_, rfl⟩
  obtain ⟨A0, hA0⟩ : ∃ z : Nat → Prop, z = va_A [oX2 a_t a_numbers v_bits v_size] s.heap.size := ⟨_, rfl⟩
  rw [← hA0] at hret hV
  rw [← hH0] at hret hV
  rw [← hH0]
  obtain ⟨H, locs, hH⟩ : ∃ (z : Heap) (y : List Loc), z = H0 ∧ y = [] := ⟨_, _, rfl, rfl⟩
  rw [← hH.1, ← hH.2]
  have hV : gV (dC, dI) (gT cI cB cO) A0 H0 s [oX2 a_t a_numbers v_bits v_size] H locs := by rw [hH.1, hH.2]; exact hV
  unfold F_X2_hasFrom at hF
  refine lv_iload_n C.1 C.2.1 dX2_hasFrom_0 rfl (lv_at hl 1 rfl) ?_
  refine g_if_lt (tgt := 22) C hF dX2_hasFrom_1 rfl (fun hF => ?_) (fun hF => ?_)
  · refine lv_iconst (v := 0) C.1 C.2.1 dX2_hasFrom_22 rfl ?_
    exact hret (0 : Int32) _ _ _ _ dX2_hasFrom_23 hF (Or.inl rfl) hV
  refine lv_iload_n C.1 C.2.1 dX2_hasFrom_4 rfl (lv_at hl 2 rfl) ?_
  refine g_if_lt (tgt := 22) C hF dX2_hasFrom_5 rfl (fun hF => ?_) (fun hF => ?_)
  · refine lv_iconst (v := 0) C.1 C.2.1 dX2_hasFrom_22 rfl ?_
    exact hret (0 : Int32) _ _ _ _ dX2_hasFrom_23 hF (Or.inl rfl) hV
  refine lv_iload_n C.1 C.2.1 dX2_hasFrom_8 rfl (lv_at hl 2 rfl) ?_
  refine lv_aload_n C.1 C.2.1 dX2_hasFrom_9 rfl (lv_at hl 0 rfl) ?_
  refine g_get C hV flX2_hasFrom_19 0 rfl rfl dX2_hasFrom_10 ?_
  refine lv_iload_n C.1 C.2.1 dX2_hasFrom_13 rfl (lv_at hl 1 rfl) ?_
  refine g_isub C hF dX2_hasFrom_14 (fun x1 hF => ?_)
  refine g_icmp_gt (tgt := 22) C hF dX2_hasFrom_15 rfl (fun hF => ?_) (fun hF => ?_)
  · refine lv_iconst (v := 0) C.1 C.2.1 dX2_hasFrom_22 rfl ?_
    exact hret (0 : Int32) _ _ _ _ dX2_hasFrom_23 hF (Or.inl rfl) hV
  refine lv_iconst (v := 1) C.1 C.2.1 dX2_hasFrom_18 rfl ?_
  refine lv_goto (tgt := 23) C.1 C.2.1 dX2_hasFrom_19 rfl ?_
  exact hret (1 : Int32) _ _ _ _ dX2_hasFrom_23 hF (Or.inr rfl) hV
abbrev rmX2_set : Room := { frames := 0, cells := 0, slots := 0, locals := 0 }
theorem mdX2_set : gMd yX2_set wsX2_set cX2_set 3 none 2 := ⟨⟨_, rfl⟩, by decide +kernel⟩
theorem flX2_set_19 : gFL wsX2_set RX2 19 2 2 RX2 TX2 3 := ⟨rfl, fun w h => List.mem_cons_of_mem _ (List.mem_append_right _ (h)), Nat.le_of_ble_eq_true rfl, List.mem_cons_of_mem _ (List.mem_append_left _ (List.mem_of_getElem? (i := 0) rfl))⟩
theorem flX2_set_15 : gFL wsX2_set RX2 15 2 1 RX2 TX2 3 := ⟨rfl, fun w h => List.mem_cons_of_mem _ (List.mem_append_right _ (h)), Nat.le_of_ble_eq_true rfl, List.mem_cons_of_mem _ (List.mem_append_left _ (List.mem_of_getElem? (i := 1) rfl))⟩
theorem flX2_set_9 : gFL wsX2_set RX2 9 2 0 RX2 TX2 3 := ⟨rfl, fun w h => List.mem_cons_of_mem _ (List.mem_append_right _ (h)), Nat.le_of_ble_eq_true rfl, List.mem_cons_of_mem _ (List.mem_append_left _ (List.mem_of_getElem? (i := 2) rfl))⟩
def F_X2_set (n0 : Nat) (v_bits : Int32) (v_size : Int32) (f_numbers : Nat → Int32) (p1 : Int32) (p2 : Int32) : Option ((Nat → Int32)) := (if p1 < 0 then some f_numbers else (if v_size ≤ p1 then some f_numbers else (if p1 < 40 then (if v_bits = 8 then nm (p2.toInt8.toInt32) (fun x4 => wrt f_numbers 40 p1 x4 (fun g5 => some g5)) else (if v_bits = 16 then nm (p2.toInt16.toInt32) (fun x2 => wrt f_numbers 40 p1 x2 (fun g3 => some g3)) else wrt f_numbers 40 p1 p2 (fun g1 => some g1))) else some f_numbers)))
set_option maxRecDepth 100000 in
set_option maxHeartbeats 4000000 in
theorem k_X2_set (l : Launch) (dC : Nat → ClassId) (dI : Nat → Nat → Nat) (cI cB cO : ClassId) (n0 sz : Nat) (a_t : Nat) (a_numbers : Nat)   (v_bits : Int32) (v_size : Int32) (f_numbers : Nat → Int32) (p1 : Int32) (p2 : Int32)  {o0 : Nat → Int32} (hF : F_X2_set n0 v_bits v_size f_numbers p1 p2 = some o0) : Met l yX2_set wsX2_set rmX2_set (va_Pc [.ref a_t, .int p1, .int p2] (gPre (dC, dI) (gT cI cB cO) sz [oX2 a_t a_numbers v_bits v_size, aA cI a_numbers 40 f_numbers])) (gQv (dC, dI) (gT cI cB cO) sz [oX2 a_t a_numbers v_bits v_size, aA cI a_numbers 40 f_numbers] [oX2 a_t a_numbers v_bits v_size, aA cI a_numbers 40 o0]) 0 0 (va_A [oX2 a_t a_numbers v_bits v_size, aA cI a_numbers 40 f_numbers] sz) := by
  refine g_metV (Out := (Nat → Int32)) (fun oo => [oX2 a_t a_numbers v_bits v_size, aA cI a_numbers 40 oo]) o0 (own := RX2) (lv := [(0, .ref a_t), (1, .int p1), (2, .int p2)]) (by decide) rfl rfl (Nat.le_of_ble_eq_true rfl) rfl ?_
  intro p e s m args below meth c Q ls C hret hV hl
  obtain ⟨out, hout⟩ : ∃ z : (Nat → Int32), z = o0 := ⟨_, rfl⟩
  rw [← hout] at hF hret
  obtain ⟨H0, hH0⟩ : ∃ z : Heap, z = s.heap := ⟨_, rfl⟩
  obtain ⟨A0, hA0⟩ : ∃ z : Nat → Prop, z = va_A [oX2 a_t a_numbers v_bits v_size, aA cI a_numbers 40 f_numbers] s.heap.size := ⟨_, rfl⟩
  rw [← hA0] at hret hV
  rw [← hH0] at hret hV
  rw [← hH0]
  obtain ⟨H, locs, hH⟩ : ∃ (z : Heap) (y : List Loc), z = H0 ∧ y = [] := ⟨_, _, rfl, rfl⟩
  rw [← hH.1, ← hH.2]
  have hV : gV (dC, dI) (gT cI cB cO) A0 H0 s [oX2 a_t a_numbers v_bits v_size, aA cI a_numbers 40 f_numbers] H locs := by rw [hH.1, hH.2]; exact hV
  unfold F_X2_set at hF
  refine lv_iload_n C.1 C.2.1 dX2_set_0 rfl (lv_at hl 1 rfl) ?_
  refine g_if_lt (tgt := 18) C hF dX2_set_1 rfl (fun hF => ?_) (fun hF => ?_)
  · exact hret f_numbers _ _ _ _ dX2_set_18 hF hV
  refine lv_iload_n C.1 C.2.1 dX2_set_4 rfl (lv_at hl 1 rfl) ?_
  refine lv_aload_n C.1 C.2.1 dX2_set_5 rfl (lv_at hl 0 rfl) ?_
  refine g_get C hV flX2_set_19 0 rfl rfl dX2_set_6 ?_
  refine g_icmp_ge (tgt := 18) C hF dX2_set_9 rfl (fun hF => ?_) (fun hF => ?_)
  · exact hret f_numbers _ _ _ _ dX2_set_18 hF hV
  refine lv_iload_n C.1 C.2.1 dX2_set_12 rfl (lv_at hl 1 rfl) ?_
  refine lv_bipush (v := 40) C.1 C.2.1 dX2_set_13 rfl ?_
  refine g_icmp_lt (tgt := 19) C hF dX2_set_15 rfl (fun hF => ?_) (fun hF => ?_)
  · refine lv_aload_n C.1 C.2.1 dX2_set_19 rfl (lv_at hl 0 rfl) ?_
    refine g_get C hV flX2_set_15 0 rfl rfl dX2_set_20 ?_
    refine lv_bipush (v := 8) C.1 C.2.1 dX2_set_23 rfl ?_
    refine g_icmp_ne (tgt := 39) C hF dX2_set_25 rfl (fun hF => ?_) (fun hF => ?_)
    · refine lv_aload_n C.1 C.2.1 dX2_set_39 rfl (lv_at hl 0 rfl) ?_
      refine g_get C hV flX2_set_15 0 rfl rfl dX2_set_40 ?_
      refine lv_bipush (v := 16) C.1 C.2.1 dX2_set_43 rfl ?_
      refine g_icmp_ne (tgt := 59) C hF dX2_set_45 rfl (fun hF => ?_) (fun hF => ?_)
      · refine lv_aload_n C.1 C.2.1 dX2_set_59 rfl (lv_at hl 0 rfl) ?_
        refine g_get C hV flX2_set_9 0 rfl rfl dX2_set_60 ?_
        refine lv_iload_n C.1 C.2.1 dX2_set_63 rfl (lv_at hl 1 rfl) ?_
        refine lv_iload_n C.1 C.2.1 dX2_set_64 rfl (lv_at hl 2 rfl) ?_
        refine g_iast C hV 1 rfl hF (fun gq => [oX2 a_t a_numbers v_bits v_size, aA cI a_numbers 40 gq]) (fun _ => rfl) dX2_set_65 (fun g1 H locs hF hV => ?_)
        exact hret g1 _ _ _ _ dX2_set_66 hF hV
      refine lv_aload_n C.1 C.2.1 dX2_set_48 rfl (lv_at hl 0 rfl) ?_
      refine g_get C hV flX2_set_9 0 rfl rfl dX2_set_49 ?_
      refine lv_iload_n C.1 C.2.1 dX2_set_52 rfl (lv_at hl 1 rfl) ?_
      refine lv_iload_n C.1 C.2.1 dX2_set_53 rfl (lv_at hl 2 rfl) ?_
      refine g_i2s C hF dX2_set_54 (fun x2 hF => ?_)
      refine g_iast C hV 1 rfl hF (fun gq => [oX2 a_t a_numbers v_bits v_size, aA cI a_numbers 40 gq]) (fun _ => rfl) dX2_set_55 (fun g3 H locs hF hV => ?_)
      refine lv_goto (tgt := 66) C.1 C.2.1 dX2_set_56 rfl ?_
      exact hret g3 _ _ _ _ dX2_set_66 hF hV
    refine lv_aload_n C.1 C.2.1 dX2_set_28 rfl (lv_at hl 0 rfl) ?_
    refine g_get C hV flX2_set_9 0 rfl rfl dX2_set_29 ?_
    refine lv_iload_n C.1 C.2.1 dX2_set_32 rfl (lv_at hl 1 rfl) ?_
    refine lv_iload_n C.1 C.2.1 dX2_set_33 rfl (lv_at hl 2 rfl) ?_
    refine g_i2b C hF dX2_set_34 (fun x4 hF => ?_)
    refine g_iast C hV 1 rfl hF (fun gq => [oX2 a_t a_numbers v_bits v_size, aA cI a_numbers 40 gq]) (fun _ => rfl) dX2_set_35 (fun g5 H locs hF hV => ?_)
    refine lv_goto (tgt := 66) C.1 C.2.1 dX2_set_36 rfl ?_
    exact hret g5 _ _ _ _ dX2_set_66 hF hV
  exact hret f_numbers _ _ _ _ dX2_set_18 hF hV
abbrev rmX3_put : Room := { frames := 0, cells := 0, slots := 0, locals := 0 }
theorem mdX3_put : gMd yX3_put wsX3_put cX3_put 4 none 2 := ⟨⟨_, rfl⟩, by decide +kernel⟩
theorem flX3_put_15 : gFL wsX3_put RX3 15 3 0 RX3 TX3 6 := ⟨rfl, fun w h => List.mem_cons_of_mem _ (List.mem_append_right _ (h)), Nat.le_of_ble_eq_true rfl, List.mem_cons_of_mem _ (List.mem_append_left _ (List.mem_of_getElem? (i := 0) rfl))⟩
theorem flX3_put_9 : gFL wsX3_put RX3 9 3 1 RX3 TX3 6 := ⟨rfl, fun w h => List.mem_cons_of_mem _ (List.mem_append_right _ (h)), Nat.le_of_ble_eq_true rfl, List.mem_cons_of_mem _ (List.mem_append_left _ (List.mem_of_getElem? (i := 1) rfl))⟩
theorem fpX3_put_15 : gFP wsX3_put RX3 15 3 0 RX3 TX3 6 .int := ⟨flX3_put_15, ⟨tyX3, tyX3_ok⟩, nmX3, rfl, by decide +kernel⟩
def L_X3_put_4 (p1 : Int32) : Nat → Int32 → (Nat → Int32) → Int32 → Option (Int32 × (Nat → Int32)) := lpp3 (fun s2 t3 u4 kk4 => (if s2 < 0 then some (u4, t3) else (if 120 ≤ u4 then some (u4, t3) else nm (8 * s2) (fun x5 => nm (p1 >>> (x5 &&& 31)) (fun x6 => nm (x6 &&& 255) (fun x7 => wrt t3 120 u4 x7 (fun g8 => nm (u4 + 1) (fun x9 => nm (s2 + (-1)) (fun x10 => kk4 x10 g8 x9)))))))))
def F_X3_put (n0 : Nat) (v_size : Int32) (f_bytes : Nat → Int32) (p1 : Int32) (p2 : Int32) : Option (Int32 × (Nat → Int32)) := nm (p2 - 1) (fun x1 => L_X3_put_4 p1 n0 x1 f_bytes v_size)
set_option maxRecDepth 100000 in
set_option maxHeartbeats 4000000 in
theorem k_X3_put (l : Launch) (dC : Nat → ClassId) (dI : Nat → Nat → Nat) (cI cB cO : ClassId) (n0 sz : Nat) (a_t : Nat) (a_bytes : Nat)   (v_size : Int32) (v_start : Int32) (v_behind : Int32) (v_sort : Int32) (v_number : Int32) (f_bytes : Nat → Int32) (p1 : Int32) (p2 : Int32)  {o0 : Int32} {o1 : Nat → Int32} (hF : F_X3_put n0 v_size f_bytes p1 p2 = some (o0, o1)) : Met l yX3_put wsX3_put rmX3_put (va_Pc [.ref a_t, .int p1, .int p2] (gPre (dC, dI) (gT cI cB cO) sz [oX3 a_t v_size a_bytes v_start v_behind v_sort v_number, aA cI a_bytes 120 f_bytes])) (gQv (dC, dI) (gT cI cB cO) sz [oX3 a_t v_size a_bytes v_start v_behind v_sort v_number, aA cI a_bytes 120 f_bytes] [oX3 a_t o0 a_bytes v_start v_behind v_sort v_number, aA cI a_bytes 120 o1]) 0 0 (va_A [oX3 a_t v_size a_bytes v_start v_behind v_sort v_number, aA cI a_bytes 120 f_bytes] sz) := by
  refine g_metV (Out := Int32 × (Nat → Int32)) (fun oo => [oX3 a_t oo.1 a_bytes v_start v_behind v_sort v_number, aA cI a_bytes 120 oo.2]) (o0, o1) (own := RX3) (lv := [(0, .ref a_t), (1, .int p1), (2, .int p2)]) (by decide) rfl rfl (Nat.le_of_ble_eq_true rfl) rfl ?_
  intro p e s m args below meth c Q ls C hret hV hl
  obtain ⟨out, hout⟩ : ∃ z : Int32 × (Nat → Int32), z = (o0, o1) := ⟨_, rfl⟩
  rw [← hout] at hF hret
  obtain ⟨H0, hH0⟩ : ∃ z : Heap, z = s.heap := ⟨_, rfl⟩
  obtain ⟨A0, hA0⟩ : ∃ z : Nat → Prop, z = va_A [oX3 a_t v_size a_bytes v_start v_behind v_sort v_number, aA cI a_bytes 120 f_bytes] s.heap.size := ⟨_, rfl⟩
  rw [← hA0] at hret hV
  rw [← hH0] at hret hV
  rw [← hH0]
  obtain ⟨H, locs, hH⟩ : ∃ (z : Heap) (y : List Loc), z = H0 ∧ y = [] := ⟨_, _, rfl, rfl⟩
  rw [← hH.1, ← hH.2]
  have hV : gV (dC, dI) (gT cI cB cO) A0 H0 s [oX3 a_t v_size a_bytes v_start v_behind v_sort v_number, aA cI a_bytes 120 f_bytes] H locs := by rw [hH.1, hH.2]; exact hV
  unfold F_X3_put at hF
  refine lv_iload_n C.1 C.2.1 dX3_put_0 rfl (lv_at hl 2 rfl) ?_
  refine lv_iconst (v := 1) C.1 C.2.1 dX3_put_1 rfl ?_
  refine g_isub C hF dX3_put_2 (fun x1 hF => ?_)
  refine lv_istore_n (lv' := [(3, .int x1), (0, .ref a_t), (1, .int p1), (2, .int p2)]) C.1 C.2.1 dX3_put_3 rfl hl (by decide) rfl (fun ls hl => ?_)
  have hL4 : ∀ (n : Nat) (s2 : Int32) (t3 : Nat → Int32) (u4 : Int32) (H : Heap) (locs : List Loc) (ls : Array Slot), gV (dC, dI) (gT cI cB cO) A0 H0 s [oX3 a_t u4 a_bytes v_start v_behind v_sort v_number, aA cI a_bytes 120 t3] H locs → lv_has ls 4 [(0, .ref a_t), (1, .int p1), (3, .int s2)] → L_X3_put_4 p1 n s2 t3 u4 = some out → W p l e rmX3_put s m args below meth c H locs 0 0 Q (F0 m 4 ls []) := by
    intro n
    induction n with
    | zero => intro s2 t3 u4 H locs ls hV hl hF; exact lpp3_z hF
    | succ n ih4 =>
      intro s2 t3 u4 H locs ls hV hl hF
      obtain ⟨kk4, hk4, hF⟩ := lpp3_g hF
      have hq4 : ∀ (s2 : Int32) (t3 : Nat → Int32) (u4 : Int32), kk4 s2 t3 u4 = some out → L_X3_put_4 p1 n s2 t3 u4 = some out := fun _ _ _ h => by rw [hk4] at h; exact h
      refine lv_iload_n C.1 C.2.1 dX3_put_4 rfl (lv_at hl 2 rfl) ?_
      refine g_if_lt (tgt := 52) C hF dX3_put_5 rfl (fun hF => ?_) (fun hF => ?_)
      · exact hret (u4, t3) _ _ _ _ dX3_put_52 hF hV
      refine lv_aload_n C.1 C.2.1 dX3_put_8 rfl (lv_at hl 0 rfl) ?_
      refine g_get C hV flX3_put_15 0 rfl rfl dX3_put_9 ?_
      refine lv_bipush (v := 120) C.1 C.2.1 dX3_put_12 rfl ?_
      refine g_icmp_ge (tgt := 52) C hF dX3_put_14 rfl (fun hF => ?_) (fun hF => ?_)
      · exact hret (u4, t3) _ _ _ _ dX3_put_52 hF hV
      refine lv_aload_n C.1 C.2.1 dX3_put_17 rfl (lv_at hl 0 rfl) ?_
      refine g_get C hV flX3_put_9 0 rfl rfl dX3_put_18 ?_
      refine lv_aload_n C.1 C.2.1 dX3_put_21 rfl (lv_at hl 0 rfl) ?_
      refine g_get C hV flX3_put_15 0 rfl rfl dX3_put_22 ?_
      refine lv_iload_n C.1 C.2.1 dX3_put_25 rfl (lv_at hl 1 rfl) ?_
      refine lv_bipush (v := 8) C.1 C.2.1 dX3_put_26 rfl ?_
      refine lv_iload_n C.1 C.2.1 dX3_put_28 rfl (lv_at hl 2 rfl) ?_
      refine g_imul C hF dX3_put_29 (fun x5 hF => ?_)
      refine g_ishr C hF dX3_put_30 (fun x6 hF => ?_)
      refine lv_sipush (v := 255) C.1 C.2.1 dX3_put_31 rfl ?_
      refine g_iand C hF dX3_put_34 (fun x7 hF => ?_)
      refine g_iast C hV 1 rfl hF (fun gq => [oX3 a_t u4 a_bytes v_start v_behind v_sort v_number, aA cI a_bytes 120 gq]) (fun _ => rfl) dX3_put_35 (fun g8 H locs hF hV => ?_)
      refine lv_aload_n C.1 C.2.1 dX3_put_36 rfl (lv_at hl 0 rfl) ?_
      refine lv_dup C.1 C.2.1 dX3_put_37 rfl ?_
      refine g_get C hV flX3_put_15 0 rfl rfl dX3_put_38 ?_
      refine lv_iconst (v := 1) C.1 C.2.1 dX3_put_41 rfl ?_
      refine g_iadd C hF dX3_put_42 (fun x9 hF => ?_)
      refine g_put (ws' := [oX3 a_t x9 a_bytes v_start v_behind v_sort v_number, aA cI a_bytes 120 g8]) C hV fpX3_put_15 0 rfl rfl rfl (Nat.le_of_ble_eq_true rfl) rfl dX3_put_43 (fun H locs hV => ?_)
      refine g_iinc C hF dX3_put_46 (d := (-1)) rfl hl (j := 2) rfl (by decide) (fun y => [(3, .int y), (0, .ref a_t), (1, .int p1)]) (fun _ => rfl) (fun x10 ls hF hl => ?_)
      refine lv_goto (tgt := 4) C.1 C.2.1 dX3_put_49 rfl ?_
      exact ih4 x10 g8 x9 H locs ls hV (lv_sub hl [1, 2, 0] rfl) (hq4 x10 g8 x9 hF)
  exact hL4 n0 x1 f_bytes v_size H locs ls hV (lv_sub hl [1, 2, 0] rfl) hF
abbrev rmX3_isSideNumber : Room := { frames := 0, cells := 0, slots := 0, locals := 0 }
theorem mdX3_isSideNumber : gMd yX3_isSideNumber wsX3_isSideNumber cX3_isSideNumber 1 (some .boolean) 0 := ⟨⟨_, rfl⟩, by decide +kernel⟩
theorem flX3_isSideNumber_32 : gFL wsX3_isSideNumber RX3 32 3 4 RX3 TX3 6 := ⟨rfl, fun w h => List.mem_cons_of_mem _ (List.mem_append_right _ (h)), Nat.le_of_ble_eq_true rfl, List.mem_cons_of_mem _ (List.mem_append_left _ (List.mem_of_getElem? (i := 0) rfl))⟩
theorem flX3_isSideNumber_70 : gFL wsX3_isSideNumber RX3 70 3 5 RX3 TX3 6 := ⟨rfl, fun w h => List.mem_cons_of_mem _ (List.mem_append_right _ (h)), Nat.le_of_ble_eq_true rfl, List.mem_cons_of_mem _ (List.mem_append_left _ (List.mem_of_getElem? (i := 1) rfl))⟩
def F_X3_isSideNumber (n0 : Nat) (v_sort : Int32) (v_number : Int32) : Option (Int32) := (if v_sort = 2 then (if 12 ≤ v_number then some (0 : Int32) else some (1 : Int32)) else some (0 : Int32))
set_option maxRecDepth 100000 in
set_option maxHeartbeats 4000000 in
theorem k_X3_isSideNumber (l : Launch) (dC : Nat → ClassId) (dI : Nat → Nat → Nat) (cI cB cO : ClassId) (n0 sz : Nat) (a_t : Nat) (a_bytes : Nat)   (v_size : Int32) (v_start : Int32) (v_behind : Int32) (v_sort : Int32) (v_number : Int32)   {ro : Int32} (hF : F_X3_isSideNumber n0 v_sort v_number = some ro) : Met l yX3_isSideNumber wsX3_isSideNumber rmX3_isSideNumber (va_Pc [.ref a_t] (gPre (dC, dI) (gT cI cB cO) sz [oX3 a_t v_size a_bytes v_start v_behind v_sort v_number])) (gQi (dC, dI) (gT cI cB cO) sz [oX3 a_t v_size a_bytes v_start v_behind v_sort v_number] ro [oX3 a_t v_size a_bytes v_start v_behind v_sort v_number]) 0 0 (va_A [oX3 a_t v_size a_bytes v_start v_behind v_sort v_number] sz) := by
  refine g_metZ (Out := Int32) (fun oo => oo) (fun oo => [oX3 a_t v_size a_bytes v_start v_behind v_sort v_number]) ro (own := RX3) (lv := [(0, .ref a_t)]) (by decide) rfl rfl (Nat.le_of_ble_eq_true rfl) rfl ?_
  intro p e s m args below meth c Q ls C hret hV hl
  obtain ⟨out, hout⟩ : ∃ z : Int32, z = ro := ⟨_, rfl⟩
  rw [← hout] at hF hret
  obtain ⟨H0, hH0⟩ : ∃ z : Heap, z = s.heap := ⟨_, rfl⟩
  obtain ⟨A0, hA0⟩ : ∃ z : Nat → Prop, z = va_A [oX3 a_t v_size a_bytes v_start v_behind v_sort v_number] s.heap.size := ⟨_, rfl⟩
  rw [← hA0] at hret hV
  rw [← hH0] at hret hV
  rw [← hH0]
  obtain ⟨H, locs, hH⟩ : ∃ (z : Heap) (y : List Loc), z = H0 ∧ y = [] := ⟨_, _, rfl, rfl⟩
  rw [← hH.1, ← hH.2]
  have hV : gV (dC, dI) (gT cI cB cO) A0 H0 s [oX3 a_t v_size a_bytes v_start v_behind v_sort v_number] H locs := by rw [hH.1, hH.2]; exact hV
  unfold F_X3_isSideNumber at hF
  refine lv_aload_n C.1 C.2.1 dX3_isSideNumber_0 rfl (lv_at hl 0 rfl) ?_
  refine g_get C hV flX3_isSideNumber_32 0 rfl rfl dX3_isSideNumber_1 ?_
  refine lv_iconst (v := 2) C.1 C.2.1 dX3_isSideNumber_4 rfl ?_
  refine g_icmp_ne (tgt := 21) C hF dX3_isSideNumber_5 rfl (fun hF => ?_) (fun hF => ?_)
  · refine lv_iconst (v := 0) C.1 C.2.1 dX3_isSideNumber_21 rfl ?_
    exact hret (0 : Int32) _ _ _ _ dX3_isSideNumber_22 hF (Or.inl rfl) hV
  refine lv_aload_n C.1 C.2.1 dX3_isSideNumber_8 rfl (lv_at hl 0 rfl) ?_
  refine g_get C hV flX3_isSideNumber_70 0 rfl rfl dX3_isSideNumber_9 ?_
  refine lv_bipush (v := 12) C.1 C.2.1 dX3_isSideNumber_12 rfl ?_
  refine g_icmp_ge (tgt := 21) C hF dX3_isSideNumber_14 rfl (fun hF => ?_) (fun hF => ?_)
  · refine lv_iconst (v := 0) C.1 C.2.1 dX3_isSideNumber_21 rfl ?_
    exact hret (0 : Int32) _ _ _ _ dX3_isSideNumber_22 hF (Or.inl rfl) hV
  refine lv_iconst (v := 1) C.1 C.2.1 dX3_isSideNumber_17 rfl ?_
  refine lv_goto (tgt := 22) C.1 C.2.1 dX3_isSideNumber_18 rfl ?_
  exact hret (1 : Int32) _ _ _ _ dX3_isSideNumber_22 hF (Or.inr rfl) hV
abbrev rmX3_sortAt : Room := { frames := 0, cells := 0, slots := 0, locals := 0 }
theorem mdX3_sortAt : gMd yX3_sortAt wsX3_sortAt cX3_sortAt 3 (some .int) 1 := ⟨⟨_, rfl⟩, by decide +kernel⟩
theorem flX3_sortAt_15 : gFL wsX3_sortAt RX3 15 3 0 RX3 TX3 6 := ⟨rfl, fun w h => List.mem_cons_of_mem _ (List.mem_append_right _ (h)), Nat.le_of_ble_eq_true rfl, List.mem_cons_of_mem _ (List.mem_append_left _ (List.mem_of_getElem? (i := 0) rfl))⟩
theorem flX3_sortAt_9 : gFL wsX3_sortAt RX3 9 3 1 RX3 TX3 6 := ⟨rfl, fun w h => List.mem_cons_of_mem _ (List.mem_append_right _ (h)), Nat.le_of_ble_eq_true rfl, List.mem_cons_of_mem _ (List.mem_append_left _ (List.mem_of_getElem? (i := 1) rfl))⟩
def J_X3_sortAt_55 (x1 : Int32) : Option (Int32) := (if x1 = 59 then some (3 : Int32) else (if x1 = 32 then some (4 : Int32) else some (5 : Int32)))
def J_X3_sortAt_41 (x1 : Int32) : Option (Int32) := (if x1 < 48 then J_X3_sortAt_55 x1 else (if 57 < x1 then J_X3_sortAt_55 x1 else some (2 : Int32)))
def F_X3_sortAt (n0 : Nat) (v_size : Int32) (f_bytes : Nat → Int32) (p1 : Int32) : Option (Int32) := (if p1 < 0 then some (0 : Int32) else (if v_size ≤ p1 then some (0 : Int32) else (if p1 < 120 then rd f_bytes 120 p1 (fun x1 => (if x1 < 97 then J_X3_sortAt_41 x1 else (if 122 < x1 then J_X3_sortAt_41 x1 else some (1 : Int32)))) else some (0 : Int32))))
set_option maxRecDepth 100000 in
set_option maxHeartbeats 4000000 in
theorem k_X3_sortAt (l : Launch) (dC : Nat → ClassId) (dI : Nat → Nat → Nat) (cI cB cO : ClassId) (n0 sz : Nat) (a_t : Nat) (a_bytes : Nat)   (v_size : Int32) (v_start : Int32) (v_behind : Int32) (v_sort : Int32) (v_number : Int32) (f_bytes : Nat → Int32) (p1 : Int32)  {ro : Int32} (hF : F_X3_sortAt n0 v_size f_bytes p1 = some ro) : Met l yX3_sortAt wsX3_sortAt rmX3_sortAt (va_Pc [.ref a_t, .int p1] (gPre (dC, dI) (gT cI cB cO) sz [oX3 a_t v_size a_bytes v_start v_behind v_sort v_number, aA cI a_bytes 120 f_bytes])) (gQi (dC, dI) (gT cI cB cO) sz [oX3 a_t v_size a_bytes v_start v_behind v_sort v_number, aA cI a_bytes 120 f_bytes] ro [oX3 a_t v_size a_bytes v_start v_behind v_sort v_number, aA cI a_bytes 120 f_bytes]) 0 0 (va_A [oX3 a_t v_size a_bytes v_start v_behind v_sort v_number, aA cI a_bytes 120 f_bytes] sz) := by
  refine g_metI (Out := Int32) (fun oo => oo) (fun oo => [oX3 a_t v_size a_bytes v_start v_behind v_sort v_number, aA cI a_bytes 120 f_bytes]) ro (own := RX3) (lv := [(0, .ref a_t), (1, .int p1)]) (by decide) rfl rfl (Nat.le_of_ble_eq_true rfl) rfl ?_
  intro p e s m args below meth c Q ls C hret hV hl
  obtain ⟨out, hout⟩ : ∃ z : Int32, z = ro := ⟨_, rfl⟩
  rw [← hout] at hF hret
  obtain ⟨H0, hH0⟩ : ∃ z : Heap, z = s.heap := ⟨_, rfl⟩
  obtain ⟨A0, hA0⟩ : ∃ z : Nat → Prop, z = va_A [oX3 a_t v_size a_bytes v_start v_behind v_sort v_number, aA cI a_bytes 120 f_bytes] s.heap.size := ⟨_, rfl⟩
  rw [← hA0] at hret hV
  rw [← hH0] at hret hV
  rw [← hH0]
  obtain ⟨H, locs, hH⟩ : ∃ (z : Heap) (y : List Loc), z = H0 ∧ y = [] := ⟨_, _, rfl, rfl⟩
  rw [← hH.1, ← hH.2]
  have hV : gV (dC, dI) (gT cI cB cO) A0 H0 s [oX3 a_t v_size a_bytes v_start v_behind v_sort v_number, aA cI a_bytes 120 f_bytes] H locs := by rw [hH.1, hH.2]; exact hV
  unfold F_X3_sortAt at hF
  refine lv_iload_n C.1 C.2.1 dX3_sortAt_0 rfl (lv_at hl 1 rfl) ?_
  refine g_if_lt (tgt := 18) C hF dX3_sortAt_1 rfl (fun hF => ?_) (fun hF => ?_)
  · refine lv_iconst (v := 0) C.1 C.2.1 dX3_sortAt_18 rfl ?_
    exact hret (0 : Int32) _ _ _ _ dX3_sortAt_19 hF hV
  refine lv_iload_n C.1 C.2.1 dX3_sortAt_4 rfl (lv_at hl 1 rfl) ?_
  refine lv_aload_n C.1 C.2.1 dX3_sortAt_5 rfl (lv_at hl 0 rfl) ?_
  refine g_get C hV flX3_sortAt_15 0 rfl rfl dX3_sortAt_6 ?_
  refine g_icmp_ge (tgt := 18) C hF dX3_sortAt_9 rfl (fun hF => ?_) (fun hF => ?_)
  · refine lv_iconst (v := 0) C.1 C.2.1 dX3_sortAt_18 rfl ?_
    exact hret (0 : Int32) _ _ _ _ dX3_sortAt_19 hF hV
  refine lv_iload_n C.1 C.2.1 dX3_sortAt_12 rfl (lv_at hl 1 rfl) ?_
  refine lv_bipush (v := 120) C.1 C.2.1 dX3_sortAt_13 rfl ?_
  refine g_icmp_lt (tgt := 20) C hF dX3_sortAt_15 rfl (fun hF => ?_) (fun hF => ?_)
  · refine lv_aload_n C.1 C.2.1 dX3_sortAt_20 rfl (lv_at hl 0 rfl) ?_
    refine g_get C hV flX3_sortAt_9 0 rfl rfl dX3_sortAt_21 ?_
    refine lv_iload_n C.1 C.2.1 dX3_sortAt_24 rfl (lv_at hl 1 rfl) ?_
    refine g_iald C hV 1 rfl hF dX3_sortAt_25 (fun x1 hF => ?_)
    refine lv_istore_n (lv' := [(2, .int x1), (0, .ref a_t), (1, .int p1)]) C.1 C.2.1 dX3_sortAt_26 rfl hl (by decide) rfl (fun ls hl => ?_)
    refine lv_iload_n C.1 C.2.1 dX3_sortAt_27 rfl (lv_at hl 0 rfl) ?_
    refine lv_bipush (v := 97) C.1 C.2.1 dX3_sortAt_28 rfl ?_
    have hJ41 : ∀  (H : Heap) (locs : List Loc) (ls : Array Slot), gV (dC, dI) (gT cI cB cO) A0 H0 s [oX3 a_t v_size a_bytes v_start v_behind v_sort v_number, aA cI a_bytes 120 f_bytes] H locs → lv_has ls 3 [(2, .int x1)] → J_X3_sortAt_41 x1 = some out → W p l e rmX3_sortAt s m args below meth c H locs 0 0 Q (F0 m 41 ls []) := by
      intro  H locs ls hV hl hF
      unfold J_X3_sortAt_41 at hF
      refine lv_iload_n C.1 C.2.1 dX3_sortAt_41 rfl (lv_at hl 0 rfl) ?_
      refine lv_bipush (v := 48) C.1 C.2.1 dX3_sortAt_42 rfl ?_
      have hJ55 : ∀  (H : Heap) (locs : List Loc) (ls : Array Slot), gV (dC, dI) (gT cI cB cO) A0 H0 s [oX3 a_t v_size a_bytes v_start v_behind v_sort v_number, aA cI a_bytes 120 f_bytes] H locs → lv_has ls 3 [(2, .int x1)] → J_X3_sortAt_55 x1 = some out → W p l e rmX3_sortAt s m args below meth c H locs 0 0 Q (F0 m 55 ls []) := by
        intro  H locs ls hV hl hF
        unfold J_X3_sortAt_55 at hF
        refine lv_iload_n C.1 C.2.1 dX3_sortAt_55 rfl (lv_at hl 0 rfl) ?_
        refine lv_bipush (v := 59) C.1 C.2.1 dX3_sortAt_56 rfl ?_
        refine g_icmp_ne (tgt := 65) C hF dX3_sortAt_58 rfl (fun hF => ?_) (fun hF => ?_)
        · refine lv_iload_n C.1 C.2.1 dX3_sortAt_65 rfl (lv_at hl 0 rfl) ?_
          refine lv_bipush (v := 32) C.1 C.2.1 dX3_sortAt_66 rfl ?_
          refine g_icmp_ne (tgt := 75) C hF dX3_sortAt_68 rfl (fun hF => ?_) (fun hF => ?_)
          · refine lv_iconst (v := 5) C.1 C.2.1 dX3_sortAt_75 rfl ?_
            exact hret (5 : Int32) _ _ _ _ dX3_sortAt_76 hF hV
          refine lv_iconst (v := 4) C.1 C.2.1 dX3_sortAt_71 rfl ?_
          refine lv_goto (tgt := 76) C.1 C.2.1 dX3_sortAt_72 rfl ?_
          exact hret (4 : Int32) _ _ _ _ dX3_sortAt_76 hF hV
        refine lv_iconst (v := 3) C.1 C.2.1 dX3_sortAt_61 rfl ?_
        refine lv_goto (tgt := 76) C.1 C.2.1 dX3_sortAt_62 rfl ?_
        exact hret (3 : Int32) _ _ _ _ dX3_sortAt_76 hF hV
      refine g_icmp_lt (tgt := 55) C hF dX3_sortAt_44 rfl (fun hF => ?_) (fun hF => ?_)
      · exact hJ55  H locs ls hV (lv_sub hl [0] rfl) hF
      refine lv_iload_n C.1 C.2.1 dX3_sortAt_47 rfl (lv_at hl 0 rfl) ?_
      refine lv_bipush (v := 57) C.1 C.2.1 dX3_sortAt_48 rfl ?_
      refine g_icmp_gt (tgt := 55) C hF dX3_sortAt_50 rfl (fun hF => ?_) (fun hF => ?_)
      · exact hJ55  H locs ls hV (lv_sub hl [0] rfl) hF
      refine lv_iconst (v := 2) C.1 C.2.1 dX3_sortAt_53 rfl ?_
      exact hret (2 : Int32) _ _ _ _ dX3_sortAt_54 hF hV
    refine g_icmp_lt (tgt := 41) C hF dX3_sortAt_30 rfl (fun hF => ?_) (fun hF => ?_)
    · exact hJ41  H locs ls hV (lv_sub hl [0] rfl) hF
    refine lv_iload_n C.1 C.2.1 dX3_sortAt_33 rfl (lv_at hl 0 rfl) ?_
    refine lv_bipush (v := 122) C.1 C.2.1 dX3_sortAt_34 rfl ?_
    refine g_icmp_gt (tgt := 41) C hF dX3_sortAt_36 rfl (fun hF => ?_) (fun hF => ?_)
    · exact hJ41  H locs ls hV (lv_sub hl [0] rfl) hF
    refine lv_iconst (v := 1) C.1 C.2.1 dX3_sortAt_39 rfl ?_
    exact hret (1 : Int32) _ _ _ _ dX3_sortAt_40 hF hV
  refine lv_iconst (v := 0) C.1 C.2.1 dX3_sortAt_18 rfl ?_
  exact hret (0 : Int32) _ _ _ _ dX3_sortAt_19 hF hV
abbrev rmX3_grown : Room := { frames := 0, cells := 0, slots := 0, locals := 0 }
theorem mdX3_grown : gMd yX3_grown wsX3_grown cX3_grown 2 (some .int) 2 := ⟨⟨_, rfl⟩, by decide +kernel⟩
def F_X3_grown (n0 : Nat) (p1 : Int32) (p2 : Int32) : Option (Int32) := (if p1 < 1000 then nm (10 * p1) (fun x1 => nm (x1 + p2) (fun x2 => some x2)) else some (1000 : Int32))
set_option maxRecDepth 100000 in
set_option maxHeartbeats 4000000 in
theorem k_X3_grown (l : Launch) (dC : Nat → ClassId) (dI : Nat → Nat → Nat) (cI cB cO : ClassId) (n0 sz : Nat)     (p1 : Int32) (p2 : Int32)  {ro : Int32} (hF : F_X3_grown n0 p1 p2 = some ro) : Met l yX3_grown wsX3_grown rmX3_grown (va_Pc [.int p1, .int p2] (gPre (dC, dI) (gT cI cB cO) sz [])) (gQi (dC, dI) (gT cI cB cO) sz [] ro []) 0 0 (va_A [] sz) := by
  refine g_metI (Out := Int32) (fun oo => oo) (fun oo => []) ro (own := RX3) (lv := [(0, .int p1), (1, .int p2)]) (by decide) rfl rfl (Nat.le_of_ble_eq_true rfl) rfl ?_
  intro p e s m args below meth c Q ls C hret hV hl
  obtain ⟨out, hout⟩ : ∃ z : Int32, z = ro := ⟨_, rfl⟩
  rw [← hout] at hF hret
  obtain ⟨H0, hH0⟩ : ∃ z : Heap, z = s.heap := ⟨_, rfl⟩
  obtain ⟨A0, hA0⟩ : ∃ z : Nat → Prop, z = va_A [] s.heap.size := ⟨_, rfl⟩
  rw [← hA0] at hret hV
  rw [← hH0] at hret hV
  rw [← hH0]
  obtain ⟨H, locs, hH⟩ : ∃ (z : Heap) (y : List Loc), z = H0 ∧ y = [] := ⟨_, _, rfl, rfl⟩
  rw [← hH.1, ← hH.2]
  have hV : gV (dC, dI) (gT cI cB cO) A0 H0 s [] H locs := by rw [hH.1, hH.2]; exact hV
  unfold F_X3_grown at hF
  refine lv_iload_n C.1 C.2.1 dX3_grown_0 rfl (lv_at hl 0 rfl) ?_
  refine lv_sipush (v := 1000) C.1 C.2.1 dX3_grown_1 rfl ?_
  refine g_icmp_lt (tgt := 13) C hF dX3_grown_4 rfl (fun hF => ?_) (fun hF => ?_)
  · refine lv_bipush (v := 10) C.1 C.2.1 dX3_grown_13 rfl ?_
    refine lv_iload_n C.1 C.2.1 dX3_grown_15 rfl (lv_at hl 0 rfl) ?_
    refine g_imul C hF dX3_grown_16 (fun x1 hF => ?_)
    refine lv_iload_n C.1 C.2.1 dX3_grown_17 rfl (lv_at hl 1 rfl) ?_
    refine g_iadd C hF dX3_grown_18 (fun x2 hF => ?_)
    exact hret x2 _ _ _ _ dX3_grown_19 hF hV
  refine lv_sipush (v := 1000) C.1 C.2.1 dX3_grown_7 rfl ?_
  refine lv_goto (tgt := 19) C.1 C.2.1 dX3_grown_10 rfl ?_
  exact hret (1000 : Int32) _ _ _ _ dX3_grown_19 hF hV
abbrev rmX3_step : Room := { frames := 1, cells := 0, slots := 0, locals := 22 }
theorem mdX3_step : gMd yX3_step wsX3_step cX3_step 1 none 0 := ⟨⟨_, rfl⟩, by decide +kernel⟩
theorem flX3_step_19 : gFL wsX3_step RX3 19 3 3 RX3 TX3 6 := ⟨rfl, fun w h => List.mem_cons_of_mem _ (List.mem_append_right _ (h)), Nat.le_of_ble_eq_true rfl, List.mem_cons_of_mem _ (List.mem_append_left _ (List.mem_of_getElem? (i := 0) rfl))⟩
theorem flX3_step_15 : gFL wsX3_step RX3 15 3 0 RX3 TX3 6 := ⟨rfl, fun w h => List.mem_cons_of_mem _ (List.mem_append_right _ (h)), Nat.le_of_ble_eq_true rfl, List.mem_cons_of_mem _ (List.mem_append_left _ (List.mem_of_getElem? (i := 1) rfl))⟩
theorem flX3_step_29 : gFL wsX3_step RX3 29 3 2 RX3 TX3 6 := ⟨rfl, fun w h => List.mem_cons_of_mem _ (List.mem_append_right _ (h)), Nat.le_of_ble_eq_true rfl, List.mem_cons_of_mem _ (List.mem_append_left _ (List.mem_of_getElem? (i := 2) rfl))⟩
theorem fpX3_step_29 : gFP wsX3_step RX3 29 3 2 RX3 TX3 6 .int := ⟨flX3_step_29, ⟨tyX3, tyX3_ok⟩, nmX3, rfl, by decide +kernel⟩
theorem flX3_step_32 : gFL wsX3_step RX3 32 3 4 RX3 TX3 6 := ⟨rfl, fun w h => List.mem_cons_of_mem _ (List.mem_append_right _ (h)), Nat.le_of_ble_eq_true rfl, List.mem_cons_of_mem _ (List.mem_append_left _ (List.mem_of_getElem? (i := 3) rfl))⟩
theorem fpX3_step_32 : gFP wsX3_step RX3 32 3 4 RX3 TX3 6 .int := ⟨flX3_step_32, ⟨tyX3, tyX3_ok⟩, nmX3, rfl, by decide +kernel⟩
theorem flX3_step_70 : gFL wsX3_step RX3 70 3 5 RX3 TX3 6 := ⟨rfl, fun w h => List.mem_cons_of_mem _ (List.mem_append_right _ (h)), Nat.le_of_ble_eq_true rfl, List.mem_cons_of_mem _ (List.mem_append_left _ (List.mem_of_getElem? (i := 4) rfl))⟩
theorem fpX3_step_70 : gFP wsX3_step RX3 70 3 5 RX3 TX3 6 .int := ⟨flX3_step_70, ⟨tyX3, tyX3_ok⟩, nmX3, rfl, by decide +kernel⟩
theorem fpX3_step_19 : gFP wsX3_step RX3 19 3 3 RX3 TX3 6 .int := ⟨flX3_step_19, ⟨tyX3, tyX3_ok⟩, nmX3, rfl, by decide +kernel⟩
theorem flX3_step_9 : gFL wsX3_step RX3 9 3 1 RX3 TX3 6 := ⟨rfl, fun w h => List.mem_cons_of_mem _ (List.mem_append_right _ (h)), Nat.le_of_ble_eq_true rfl, List.mem_cons_of_mem _ (List.mem_append_left _ (List.mem_of_getElem? (i := 5) rfl))⟩
def J_X3_step_127 (u3 : Int32) (x2 : Int32) (u1 : Int32) (u6 : Int32) (kk61 : Int32 → Int32 → Option (Int32 × Int32 × Int32 × Int32)) : Option (Int32 × Int32 × Int32 × Int32) := nm (u3 + 1) (fun x7 => (if x2 = 3 then some (u1, x7, x2, u6) else kk61 x7 u6))
def L_X3_step_61 (v_size : Int32) (u1 : Int32) (x2 : Int32) (n0 : Nat) (f_bytes : Nat → Int32) : Nat → Int32 → Int32 → Option (Int32 × Int32 × Int32 × Int32) := lpp2 (fun u3 u4 kk61 => (if v_size ≤ u3 then some (u1, u3, x2, u4) else (if 120 ≤ u3 then some (u1, u3, x2, u4) else bd1 (F_X3_sortAt n0 v_size f_bytes u3) (fun x5 => (if x5 = x2 then (if x2 = 2 then rd f_bytes 120 u3 (fun x8 => nm (x8 - 48) (fun x9 => bd1 (F_X3_grown n0 u4 x9) (fun x10 => J_X3_step_127 u3 x2 u1 x10 kk61))) else J_X3_step_127 u3 x2 u1 u4 kk61) else some (u1, u3, x2, u4))))))
def J_X3_step_36 (n0 : Nat) (v_size : Int32) (f_bytes : Nat → Int32) (u1 : Int32) : Option (Int32 × Int32 × Int32 × Int32) := bd1 (F_X3_sortAt n0 v_size f_bytes u1) (fun x2 => L_X3_step_61 v_size u1 x2 n0 f_bytes n0 u1 0)
def L_X3_step_0 (v_size : Int32) (n0 : Nat) (f_bytes : Nat → Int32) : Nat → Int32 → Option (Int32 × Int32 × Int32 × Int32) := lpp1 (fun u1 kk0 => (if v_size ≤ u1 then J_X3_step_36 n0 v_size f_bytes u1 else bd1 (F_X3_sortAt n0 v_size f_bytes u1) (fun x11 => (if x11 = 4 then nm (u1 + 1) (fun x12 => kk0 x12) else J_X3_step_36 n0 v_size f_bytes u1))))
def F_X3_step (n0 : Nat) (v_size : Int32) (v_start : Int32) (v_behind : Int32) (v_sort : Int32) (v_number : Int32) (f_bytes : Nat → Int32) : Option (Int32 × Int32 × Int32 × Int32) := L_X3_step_0 v_size n0 f_bytes n0 v_behind
set_option maxRecDepth 100000 in
set_option maxHeartbeats 4000000 in
theorem k_X3_step (l : Launch) (dC : Nat → ClassId) (dI : Nat → Nat → Nat) (cI cB cO : ClassId) (n0 sz : Nat) (a_t : Nat) (a_bytes : Nat)   (v_size : Int32) (v_start : Int32) (v_behind : Int32) (v_sort : Int32) (v_number : Int32) (f_bytes : Nat → Int32)   {o0 : Int32} {o1 : Int32} {o2 : Int32} {o3 : Int32} (hF : F_X3_step n0 v_size v_start v_behind v_sort v_number f_bytes = some (o0, o1, o2, o3)) : Met l yX3_step wsX3_step rmX3_step (va_Pc [.ref a_t] (gPre (dC, dI) (gT cI cB cO) sz [oX3 a_t v_size a_bytes v_start v_behind v_sort v_number, aA cI a_bytes 120 f_bytes])) (gQv (dC, dI) (gT cI cB cO) sz [oX3 a_t v_size a_bytes v_start v_behind v_sort v_number, aA cI a_bytes 120 f_bytes] [oX3 a_t v_size a_bytes o0 o1 o2 o3, aA cI a_bytes 120 f_bytes]) 0 0 (va_A [oX3 a_t v_size a_bytes v_start v_behind v_sort v_number, aA cI a_bytes 120 f_bytes] sz) := by
  refine g_metV (Out := Int32 × Int32 × Int32 × Int32) (fun oo => [oX3 a_t v_size a_bytes oo.1 oo.2.1 oo.2.2.1 oo.2.2.2, aA cI a_bytes 120 f_bytes]) (o0, o1, o2, o3) (own := RX3) (lv := [(0, .ref a_t)]) (by decide) rfl rfl (Nat.le_of_ble_eq_true rfl) rfl ?_
  intro p e s m args below meth c Q ls C hret hV hl
  obtain ⟨out, hout⟩ : ∃ z : Int32 × Int32 × Int32 × Int32, z = (o0, o1, o2, o3) := ⟨_, rfl⟩
  rw [← hout] at hF hret
  obtain ⟨H0, hH0⟩ : ∃ z : Heap, z = s.heap := ⟨_, rfl⟩
  obtain ⟨A0, hA0⟩ : ∃ z : Nat → Prop, z = va_A [oX3 a_t v_size a_bytes v_start v_behind v_sort v_number, aA cI a_bytes 120 f_bytes] s.heap.size := ⟨_, rfl⟩
  rw [← hA0] at hret hV
  rw [← hH0] at hret hV
  rw [← hH0]
  obtain ⟨H, locs, hH⟩ : ∃ (z : Heap) (y : List Loc), z = H0 ∧ y = [] := ⟨_, _, rfl, rfl⟩
  rw [← hH.1, ← hH.2]
  have hV : gV (dC, dI) (gT cI cB cO) A0 H0 s [oX3 a_t v_size a_bytes v_start v_behind v_sort v_number, aA cI a_bytes 120 f_bytes] H locs := by rw [hH.1, hH.2]; exact hV
  unfold F_X3_step at hF
  have hL0 : ∀ (n : Nat) (u1 : Int32) (H : Heap) (locs : List Loc) (ls : Array Slot), gV (dC, dI) (gT cI cB cO) A0 H0 s [oX3 a_t v_size a_bytes v_start u1 v_sort v_number, aA cI a_bytes 120 f_bytes] H locs → lv_has ls 1 [(0, .ref a_t)] → L_X3_step_0 v_size n0 f_bytes n u1 = some out → W p l e rmX3_step s m args below meth c H locs 0 0 Q (F0 m 0 ls []) := by
    intro n
    induction n with
    | zero => intro u1 H locs ls hV hl hF; exact lpp1_z hF
    | succ n ih0 =>
      intro u1 H locs ls hV hl hF
      obtain ⟨kk0, hk0, hF⟩ := lpp1_g hF
      have hq0 : ∀ (u1 : Int32), kk0 u1 = some out → L_X3_step_0 v_size n0 f_bytes n u1 = some out := fun _ h => by rw [hk0] at h; exact h
      refine lv_aload_n C.1 C.2.1 dX3_step_0 rfl (lv_at hl 0 rfl) ?_
      refine g_get C hV flX3_step_19 0 rfl rfl dX3_step_1 ?_
      refine lv_aload_n C.1 C.2.1 dX3_step_4 rfl (lv_at hl 0 rfl) ?_
      refine g_get C hV flX3_step_15 0 rfl rfl dX3_step_5 ?_
      have hJ36 : ∀  (H : Heap) (locs : List Loc) (ls : Array Slot), gV (dC, dI) (gT cI cB cO) A0 H0 s [oX3 a_t v_size a_bytes v_start u1 v_sort v_number, aA cI a_bytes 120 f_bytes] H locs → lv_has ls 1 [(0, .ref a_t)] → J_X3_step_36 n0 v_size f_bytes u1 = some out → W p l e rmX3_step s m args below meth c H locs 0 0 Q (F0 m 36 ls []) := by
        intro  H locs ls hV hl hF
        unfold J_X3_step_36 at hF
        refine lv_aload_n C.1 C.2.1 dX3_step_36 rfl (lv_at hl 0 rfl) ?_
        refine lv_aload_n C.1 C.2.1 dX3_step_37 rfl (lv_at hl 0 rfl) ?_
        refine g_get C hV flX3_step_19 0 rfl rfl dX3_step_38 ?_
        refine g_put (ws' := [oX3 a_t v_size a_bytes u1 u1 v_sort v_number, aA cI a_bytes 120 f_bytes]) C hV fpX3_step_29 0 rfl rfl rfl (Nat.le_of_ble_eq_true rfl) rfl dX3_step_41 (fun H locs hV => ?_)
        refine lv_aload_n C.1 C.2.1 dX3_step_44 rfl (lv_at hl 0 rfl) ?_
        refine lv_aload_n C.1 C.2.1 dX3_step_45 rfl (lv_at hl 0 rfl) ?_
        refine lv_aload_n C.1 C.2.1 dX3_step_46 rfl (lv_at hl 0 rfl) ?_
        refine g_get C hV flX3_step_29 0 rfl rfl dX3_step_47 ?_
        obtain ⟨x2, hc, hF⟩ := bd1_s hF
        refine g_cVi (ws' := [oX3 a_t v_size a_bytes u1 u1 v_sort v_number, aA cI a_bytes 120 f_bytes]) (wr := []) C hV (k_X3_sortAt l dC dI cI cB cO n0 H.size a_t a_bytes v_size u1 u1 v_sort v_number f_bytes u1 hc) mdX3_sortAt gX3_step_X3_sortAt rfl rfl ⟨Nat.le_of_ble_eq_true rfl, Nat.le_of_ble_eq_true rfl⟩ [0, 1] [] [0, 1] rfl rfl rfl rfl rfl rfl rfl rfl rfl rfl hl.1 (Nat.le_of_ble_eq_true rfl) rfl dX3_step_50 (fun H locs hV => ?_)
        refine g_put (ws' := [oX3 a_t v_size a_bytes u1 u1 x2 v_number, aA cI a_bytes 120 f_bytes]) C hV fpX3_step_32 0 rfl rfl rfl (Nat.le_of_ble_eq_true rfl) rfl dX3_step_53 (fun H locs hV => ?_)
        refine lv_aload_n C.1 C.2.1 dX3_step_56 rfl (lv_at hl 0 rfl) ?_
        refine lv_iconst (v := 0) C.1 C.2.1 dX3_step_57 rfl ?_
        refine g_put (ws' := [oX3 a_t v_size a_bytes u1 u1 x2 0, aA cI a_bytes 120 f_bytes]) C hV fpX3_step_70 0 rfl rfl rfl (Nat.le_of_ble_eq_true rfl) rfl dX3_step_58 (fun H locs hV => ?_)
        have hL61 : ∀ (n : Nat) (u3 : Int32) (u4 : Int32) (H : Heap) (locs : List Loc) (ls : Array Slot), gV (dC, dI) (gT cI cB cO) A0 H0 s [oX3 a_t v_size a_bytes u1 u3 x2 u4, aA cI a_bytes 120 f_bytes] H locs → lv_has ls 1 [(0, .ref a_t)] → L_X3_step_61 v_size u1 x2 n0 f_bytes n u3 u4 = some out → W p l e rmX3_step s m args below meth c H locs 0 0 Q (F0 m 61 ls []) := by
          intro n
          induction n with
          | zero => intro u3 u4 H locs ls hV hl hF; exact lpp2_z hF
          | succ n ih61 =>
            intro u3 u4 H locs ls hV hl hF
            obtain ⟨kk61, hk61, hF⟩ := lpp2_g hF
            have hq61 : ∀ (u3 : Int32) (u4 : Int32), kk61 u3 u4 = some out → L_X3_step_61 v_size u1 x2 n0 f_bytes n u3 u4 = some out := fun _ _ h => by rw [hk61] at h; exact h
            refine lv_aload_n C.1 C.2.1 dX3_step_61 rfl (lv_at hl 0 rfl) ?_
            refine g_get C hV flX3_step_19 0 rfl rfl dX3_step_62 ?_
            refine lv_aload_n C.1 C.2.1 dX3_step_65 rfl (lv_at hl 0 rfl) ?_
            refine g_get C hV flX3_step_15 0 rfl rfl dX3_step_66 ?_
            refine g_icmp_ge (tgt := 146) C hF dX3_step_69 rfl (fun hF => ?_) (fun hF => ?_)
            · exact hret (u1, u3, x2, u4) _ _ _ _ dX3_step_146 hF hV
            refine lv_aload_n C.1 C.2.1 dX3_step_72 rfl (lv_at hl 0 rfl) ?_
            refine g_get C hV flX3_step_19 0 rfl rfl dX3_step_73 ?_
            refine lv_bipush (v := 120) C.1 C.2.1 dX3_step_76 rfl ?_
            refine g_icmp_ge (tgt := 146) C hF dX3_step_78 rfl (fun hF => ?_) (fun hF => ?_)
            · exact hret (u1, u3, x2, u4) _ _ _ _ dX3_step_146 hF hV
            refine lv_aload_n C.1 C.2.1 dX3_step_81 rfl (lv_at hl 0 rfl) ?_
            refine lv_aload_n C.1 C.2.1 dX3_step_82 rfl (lv_at hl 0 rfl) ?_
            refine g_get C hV flX3_step_19 0 rfl rfl dX3_step_83 ?_
            obtain ⟨x5, hc, hF⟩ := bd1_s hF
            refine g_cVi (ws' := [oX3 a_t v_size a_bytes u1 u3 x2 u4, aA cI a_bytes 120 f_bytes]) (wr := []) C hV (k_X3_sortAt l dC dI cI cB cO n0 H.size a_t a_bytes v_size u1 u3 x2 u4 f_bytes u3 hc) mdX3_sortAt gX3_step_X3_sortAt rfl rfl ⟨Nat.le_of_ble_eq_true rfl, Nat.le_of_ble_eq_true rfl⟩ [0, 1] [] [0, 1] rfl rfl rfl rfl rfl rfl rfl rfl rfl rfl hl.1 (Nat.le_of_ble_eq_true rfl) rfl dX3_step_86 (fun H locs hV => ?_)
            refine lv_aload_n C.1 C.2.1 dX3_step_89 rfl (lv_at hl 0 rfl) ?_
            refine g_get C hV flX3_step_32 0 rfl rfl dX3_step_90 ?_
            refine g_icmp_ne (tgt := 146) C hF dX3_step_93 rfl (fun hF => ?_) (fun hF => ?_)
            · exact hret (u1, u3, x2, u4) _ _ _ _ dX3_step_146 hF hV
            refine lv_aload_n C.1 C.2.1 dX3_step_96 rfl (lv_at hl 0 rfl) ?_
            refine g_get C hV flX3_step_32 0 rfl rfl dX3_step_97 ?_
            refine lv_iconst (v := 2) C.1 C.2.1 dX3_step_100 rfl ?_
            have hJ127 : ∀ (u6 : Int32) (H : Heap) (locs : List Loc) (ls : Array Slot), gV (dC, dI) (gT cI cB cO) A0 H0 s [oX3 a_t v_size a_bytes u1 u3 x2 u6, aA cI a_bytes 120 f_bytes] H locs → lv_has ls 1 [(0, .ref a_t)] → J_X3_step_127 u3 x2 u1 u6 kk61 = some out → W p l e rmX3_step s m args below meth c H locs 0 0 Q (F0 m 127 ls []) := by
              intro u6 H locs ls hV hl hF
              unfold J_X3_step_127 at hF
              refine lv_aload_n C.1 C.2.1 dX3_step_127 rfl (lv_at hl 0 rfl) ?_
              refine lv_dup C.1 C.2.1 dX3_step_128 rfl ?_
              refine g_get C hV flX3_step_19 0 rfl rfl dX3_step_129 ?_
              refine lv_iconst (v := 1) C.1 C.2.1 dX3_step_132 rfl ?_
              refine g_iadd C hF dX3_step_133 (fun x7 hF => ?_)
              refine g_put (ws' := [oX3 a_t v_size a_bytes u1 x7 x2 u6, aA cI a_bytes 120 f_bytes]) C hV fpX3_step_19 0 rfl rfl rfl (Nat.le_of_ble_eq_true rfl) rfl dX3_step_134 (fun H locs hV => ?_)
              refine lv_aload_n C.1 C.2.1 dX3_step_137 rfl (lv_at hl 0 rfl) ?_
              refine g_get C hV flX3_step_32 0 rfl rfl dX3_step_138 ?_
              refine lv_iconst (v := 3) C.1 C.2.1 dX3_step_141 rfl ?_
              refine g_icmp_ne (tgt := 61) C hF dX3_step_142 rfl (fun hF => ?_) (fun hF => ?_)
              · exact ih61 x7 u6 H locs ls hV (lv_sub hl [0] rfl) (hq61 x7 u6 hF)
              exact hret (u1, x7, x2, u6) _ _ _ _ dX3_step_145 hF hV
            refine g_icmp_ne (tgt := 127) C hF dX3_step_101 rfl (fun hF => ?_) (fun hF => ?_)
            · exact hJ127 u4 H locs ls hV (lv_sub hl [0] rfl) hF
            refine lv_aload_n C.1 C.2.1 dX3_step_104 rfl (lv_at hl 0 rfl) ?_
            refine lv_aload_n C.1 C.2.1 dX3_step_105 rfl (lv_at hl 0 rfl) ?_
            refine g_get C hV flX3_step_70 0 rfl rfl dX3_step_106 ?_
            refine lv_aload_n C.1 C.2.1 dX3_step_109 rfl (lv_at hl 0 rfl) ?_
            refine g_get C hV flX3_step_9 0 rfl rfl dX3_step_110 ?_
            refine lv_aload_n C.1 C.2.1 dX3_step_113 rfl (lv_at hl 0 rfl) ?_
            refine g_get C hV flX3_step_19 0 rfl rfl dX3_step_114 ?_
            refine g_iald C hV 1 rfl hF dX3_step_117 (fun x8 hF => ?_)
            refine lv_bipush (v := 48) C.1 C.2.1 dX3_step_118 rfl ?_
            refine g_isub C hF dX3_step_120 (fun x9 hF => ?_)
            obtain ⟨x10, hc, hF⟩ := bd1_s hF
            refine g_cSi (ws' := [oX3 a_t v_size a_bytes u1 u3 x2 u4, aA cI a_bytes 120 f_bytes]) (wr := [oX3 a_t v_size a_bytes u1 u3 x2 u4, aA cI a_bytes 120 f_bytes]) C hV (k_X3_grown l dC dI cI cB cO n0 H.size u4 x9 hc) mdX3_grown gX3_step_X3_grown rfl rfl ⟨Nat.le_of_ble_eq_true rfl, Nat.le_of_ble_eq_true rfl⟩ [] [0, 1] [0, 1] rfl rfl rfl rfl rfl rfl rfl rfl hl.1 (Nat.le_of_ble_eq_true rfl) rfl dX3_step_121 (fun H locs hV => ?_)
            refine g_put (ws' := [oX3 a_t v_size a_bytes u1 u3 x2 x10, aA cI a_bytes 120 f_bytes]) C hV fpX3_step_70 0 rfl rfl rfl (Nat.le_of_ble_eq_true rfl) rfl dX3_step_124 (fun H locs hV => ?_)
            exact hJ127 x10 H locs ls hV (lv_sub hl [0] rfl) hF
        exact hL61 n0 u1 0 H locs ls hV (lv_sub hl [0] rfl) hF
      refine g_icmp_ge (tgt := 36) C hF dX3_step_8 rfl (fun hF => ?_) (fun hF => ?_)
      · exact hJ36  H locs ls hV (lv_sub hl [0] rfl) hF
      refine lv_aload_n C.1 C.2.1 dX3_step_11 rfl (lv_at hl 0 rfl) ?_
      refine lv_aload_n C.1 C.2.1 dX3_step_12 rfl (lv_at hl 0 rfl) ?_
      refine g_get C hV flX3_step_19 0 rfl rfl dX3_step_13 ?_
      obtain ⟨x11, hc, hF⟩ := bd1_s hF
      refine g_cVi (ws' := [oX3 a_t v_size a_bytes v_start u1 v_sort v_number, aA cI a_bytes 120 f_bytes]) (wr := []) C hV (k_X3_sortAt l dC dI cI cB cO n0 H.size a_t a_bytes v_size v_start u1 v_sort v_number f_bytes u1 hc) mdX3_sortAt gX3_step_X3_sortAt rfl rfl ⟨Nat.le_of_ble_eq_true rfl, Nat.le_of_ble_eq_true rfl⟩ [0, 1] [] [0, 1] rfl rfl rfl rfl rfl rfl rfl rfl rfl rfl hl.1 (Nat.le_of_ble_eq_true rfl) rfl dX3_step_16 (fun H locs hV => ?_)
      refine lv_iconst (v := 4) C.1 C.2.1 dX3_step_19 rfl ?_
      refine g_icmp_ne (tgt := 36) C hF dX3_step_20 rfl (fun hF => ?_) (fun hF => ?_)
      · exact hJ36  H locs ls hV (lv_sub hl [0] rfl) hF
      refine lv_aload_n C.1 C.2.1 dX3_step_23 rfl (lv_at hl 0 rfl) ?_
      refine lv_dup C.1 C.2.1 dX3_step_24 rfl ?_
      refine g_get C hV flX3_step_19 0 rfl rfl dX3_step_25 ?_
      refine lv_iconst (v := 1) C.1 C.2.1 dX3_step_28 rfl ?_
      refine g_iadd C hF dX3_step_29 (fun x12 hF => ?_)
      refine g_put (ws' := [oX3 a_t v_size a_bytes v_start x12 v_sort v_number, aA cI a_bytes 120 f_bytes]) C hV fpX3_step_19 0 rfl rfl rfl (Nat.le_of_ble_eq_true rfl) rfl dX3_step_30 (fun H locs hV => ?_)
      refine lv_goto (tgt := 0) C.1 C.2.1 dX3_step_33 rfl ?_
      exact ih0 x12 H locs ls hV (lv_sub hl [0] rfl) (hq0 x12 hF)
  exact hL0 n0 v_behind H locs ls hV (lv_sub hl [0] rfl) hF
