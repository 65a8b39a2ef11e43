abbrev rmX0_become : Room := { frames := 1, cells := 0, slots := 0, locals := 60 }
theorem mdX0_become : gMd yX0_become wsX0_become cX0_become 2 none 1 := ⟨⟨_, rfl⟩, by decide +kernel⟩
theorem flX0_become_9 : gFL wsX0_become RX0 9 0 0 RX0 TX0 10 := ⟨rfl, fun w h => List.mem_cons_of_mem _ (List.mem_append_right _ (h)), Nat.le_of_ble_eq_true rfl, List.mem_cons_of_mem _ (List.mem_append_left _ (List.mem_of_getElem? (i := 0) rfl))⟩
theorem cyX0_become_35 : gCpy wsX0_become RX0 35 := ⟨List.mem_cons_of_mem _ (List.mem_append_left _ (List.mem_of_getElem? (i := 1) rfl)), List.mem_cons_of_mem _ (List.mem_append_left _ (List.mem_of_getElem? (i := 2) rfl)), List.mem_cons_of_mem _ (List.mem_append_left _ (List.mem_of_getElem? (i := 3) rfl)), List.mem_cons_of_mem _ (List.mem_append_left _ (List.mem_of_getElem? (i := 4) rfl))⟩
theorem flX0_become_15 : gFL wsX0_become RX0 15 0 1 RX0 TX0 10 := ⟨rfl, fun w h => List.mem_cons_of_mem _ (List.mem_append_right _ (h)), Nat.le_of_ble_eq_true rfl, List.mem_cons_of_mem _ (List.mem_append_left _ (List.mem_of_getElem? (i := 5) rfl))⟩
theorem flX0_become_18 : gFL wsX0_become RX0 18 0 2 RX0 TX0 10 := ⟨rfl, fun w h => List.mem_cons_of_mem _ (List.mem_append_right _ (h)), Nat.le_of_ble_eq_true rfl, List.mem_cons_of_mem _ (List.mem_append_left _ (List.mem_of_getElem? (i := 6) rfl))⟩
theorem flX0_become_41 : gFL wsX0_become RX0 41 0 3 RX0 TX0 10 := ⟨rfl, fun w h => List.mem_cons_of_mem _ (List.mem_append_right _ (h)), Nat.le_of_ble_eq_true rfl, List.mem_cons_of_mem _ (List.mem_append_left _ (List.mem_of_getElem? (i := 7) rfl))⟩
theorem fpX0_become_41 : gFP wsX0_become RX0 41 0 3 RX0 TX0 10 .int := ⟨flX0_become_41, ⟨tyX0, tyX0_ok⟩, nmX0, rfl, by decide +kernel⟩
theorem flX0_become_44 : gFL wsX0_become RX0 44 0 4 RX0 TX0 10 := ⟨rfl, fun w h => List.mem_cons_of_mem _ (List.mem_append_right _ (h)), Nat.le_of_ble_eq_true rfl, List.mem_cons_of_mem _ (List.mem_append_left _ (List.mem_of_getElem? (i := 8) rfl))⟩
theorem fpX0_become_44 : gFP wsX0_become RX0 44 0 4 RX0 TX0 10 .int := ⟨flX0_become_44, ⟨tyX0, tyX0_ok⟩, nmX0, rfl, by decide +kernel⟩
theorem flX0_become_47 : gFL wsX0_become RX0 47 0 5 RX0 TX0 10 := ⟨rfl, fun w h => List.mem_cons_of_mem _ (List.mem_append_right _ (h)), Nat.le_of_ble_eq_true rfl, List.mem_cons_of_mem _ (List.mem_append_left _ (List.mem_of_getElem? (i := 9) rfl))⟩
theorem fpX0_become_47 : gFP wsX0_become RX0 47 0 5 RX0 TX0 10 .int := ⟨flX0_become_47, ⟨tyX0, tyX0_ok⟩, nmX0, rfl, by decide +kernel⟩
theorem flX0_become_50 : gFL wsX0_become RX0 50 0 6 RX0 TX0 10 := ⟨rfl, fun w h => List.mem_cons_of_mem _ (List.mem_append_right _ (h)), Nat.le_of_ble_eq_true rfl, List.mem_cons_of_mem _ (List.mem_append_left _ (List.mem_of_getElem? (i := 10) rfl))⟩
theorem fpX0_become_50 : gFP wsX0_become RX0 50 0 6 RX0 TX0 10 .int := ⟨flX0_become_50, ⟨tyX0, tyX0_ok⟩, nmX0, rfl, by decide +kernel⟩
theorem flX0_become_21 : gFL wsX0_become RX0 21 0 7 RX0 TX0 10 := ⟨rfl, fun w h => List.mem_cons_of_mem _ (List.mem_append_right _ (h)), Nat.le_of_ble_eq_true rfl, List.mem_cons_of_mem _ (List.mem_append_left _ (List.mem_of_getElem? (i := 11) rfl))⟩
theorem fpX0_become_21 : gFP wsX0_become RX0 21 0 7 RX0 TX0 10 .boolean := ⟨flX0_become_21, ⟨tyX0, tyX0_ok⟩, nmX0, rfl, by decide +kernel⟩
theorem flX0_become_53 : gFL wsX0_become RX0 53 0 8 RX0 TX0 10 := ⟨rfl, fun w h => List.mem_cons_of_mem _ (List.mem_append_right _ (h)), Nat.le_of_ble_eq_true rfl, List.mem_cons_of_mem _ (List.mem_append_left _ (List.mem_of_getElem? (i := 12) rfl))⟩
theorem fpX0_become_53 : gFP wsX0_become RX0 53 0 8 RX0 TX0 10 .int := ⟨flX0_become_53, ⟨tyX0, tyX0_ok⟩, nmX0, rfl, by decide +kernel⟩
theorem flX0_become_25 : gFL wsX0_become RX0 25 0 9 RX0 TX0 10 := ⟨rfl, fun w h => List.mem_cons_of_mem _ (List.mem_append_right _ (h)), Nat.le_of_ble_eq_true rfl, List.mem_cons_of_mem _ (List.mem_append_left _ (List.mem_of_getElem? (i := 13) rfl))⟩
theorem fpX0_become_25 : gFP wsX0_become RX0 25 0 9 RX0 TX0 10 .int := ⟨flX0_become_25, ⟨tyX0, tyX0_ok⟩, nmX0, rfl, by decide +kernel⟩
def F_X0_become (n0 : Nat) (v_tents : Int32) (v_said : Int32) (v_wall : Int32) (v_bridge : Int32) (v_counted : Int32) (v_day : Int32) (v_z : Int32) (f_kinds : Nat → Int32) (f_spots : Nat → Int32) (f_yards : Nat → Int32) (v_a1_tents : Int32) (v_a1_said : Int32) (v_a1_wall : Int32) (v_a1_bridge : Int32) (v_a1_counted : Int32) (v_a1_day : Int32) (v_a1_z : Int32) (f_a1_kinds : Nat → Int32) (f_a1_spots : Nat → Int32) (f_a1_yards : Nat → Int32) : Option (Int32 × Int32 × Int32 × Int32 × Int32 × Int32 × Int32 × (Nat → Int32) × (Nat → Int32) × (Nat → Int32)) := cpyi f_a1_kinds 10 0 f_kinds 10 0 10 (fun g1 => cpyi f_a1_yards 10 0 f_yards 10 0 10 (fun g2 => cpyi f_a1_spots 10 0 f_spots 10 0 10 (fun g3 => bz v_a1_counted (some (v_a1_tents, v_a1_said, v_a1_wall, v_a1_bridge, v_a1_counted, v_a1_day, v_a1_z, g1, g3, g2)))))
set_option maxRecDepth 100000 in
set_option maxHeartbeats 4000000 in
theorem k_X0_become (l : Launch) (dC : Nat → ClassId) (dI : Nat → Nat → Nat) (cI cB cO : ClassId) (n0 sz : Nat) (a_t : Nat) (a_kinds : Nat) (a_yards : Nat) (a_spots : Nat) (a_a1 : Nat) (a_a1_kinds : Nat) (a_a1_yards : Nat) (a_a1_spots : Nat)   (v_tents : Int32) (v_said : Int32) (v_wall : Int32) (v_bridge : Int32) (v_counted : Int32) (v_day : Int32) (v_z : Int32) (f_kinds : Nat → Int32) (f_spots : Nat → Int32) (f_yards : Nat → Int32) (v_a1_tents : Int32) (v_a1_said : Int32) (v_a1_wall : Int32) (v_a1_bridge : Int32) (v_a1_counted : Int32) (v_a1_day : Int32) (v_a1_z : Int32) (f_a1_kinds : Nat → Int32) (f_a1_spots : Nat → Int32) (f_a1_yards : Nat → Int32)   {o0 : Int32} {o1 : Int32} {o2 : Int32} {o3 : Int32} {o4 : Int32} {o5 : Int32} {o6 : Int32} {o7 : Nat → Int32} {o8 : Nat → Int32} {o9 : Nat → Int32} (hF : F_X0_become n0 v_tents v_said v_wall v_bridge v_counted v_day v_z f_kinds f_spots f_yards v_a1_tents v_a1_said v_a1_wall v_a1_bridge v_a1_counted v_a1_day v_a1_z f_a1_kinds f_a1_spots f_a1_yards = some (o0, o1, o2, o3, o4, o5, o6, o7, o8, o9)) : Met l yX0_become wsX0_become rmX0_become (va_Pc [.ref a_t, .ref a_a1] (gPre (dC, dI) (gT cI cB cO) sz [oX0 a_t a_kinds a_yards a_spots v_tents v_said v_wall v_bridge v_counted v_day v_z, aA cI a_kinds 10 f_kinds, aA cI a_spots 10 f_spots, aA cI a_yards 10 f_yards, oX0 a_a1 a_a1_kinds a_a1_yards a_a1_spots v_a1_tents v_a1_said v_a1_wall v_a1_bridge v_a1_counted v_a1_day v_a1_z, aA cI a_a1_kinds 10 f_a1_kinds, aA cI a_a1_spots 10 f_a1_spots, aA cI a_a1_yards 10 f_a1_yards])) (gQv (dC, dI) (gT cI cB cO) sz [oX0 a_t a_kinds a_yards a_spots v_tents v_said v_wall v_bridge v_counted v_day v_z, aA cI a_kinds 10 f_kinds, aA cI a_spots 10 f_spots, aA cI a_yards 10 f_yards, oX0 a_a1 a_a1_kinds a_a1_yards a_a1_spots v_a1_tents v_a1_said v_a1_wall v_a1_bridge v_a1_counted v_a1_day v_a1_z, aA cI a_a1_kinds 10 f_a1_kinds, aA cI a_a1_spots 10 f_a1_spots, aA cI a_a1_yards 10 f_a1_yards] [oX0 a_t a_kinds a_yards a_spots o0 o1 o2 o3 o4 o5 o6, aA cI a_kinds 10 o7, aA cI a_spots 10 o8, aA cI a_yards 10 o9, oX0 a_a1 a_a1_kinds a_a1_yards a_a1_spots v_a1_tents v_a1_said v_a1_wall v_a1_bridge v_a1_counted v_a1_day v_a1_z, aA cI a_a1_kinds 10 f_a1_kinds, aA cI a_a1_spots 10 f_a1_spots, aA cI a_a1_yards 10 f_a1_yards]) 0 0 (va_A [oX0 a_t a_kinds a_yards a_spots v_tents v_said v_wall v_bridge v_counted v_day v_z, aA cI a_kinds 10 f_kinds, aA cI a_spots 10 f_spots, aA cI a_yards 10 f_yards, oX0 a_a1 a_a1_kinds a_a1_yards a_a1_spots v_a1_tents v_a1_said v_a1_wall v_a1_bridge v_a1_counted v_a1_day v_a1_z, aA cI a_a1_kinds 10 f_a1_kinds, aA cI a_a1_spots 10 f_a1_spots, aA cI a_a1_yards 10 f_a1_yards] sz) := by
  refine g_metV (Out := Int32 × Int32 × Int32 × Int32 × Int32 × Int32 × Int32 × (Nat → Int32) × (Nat → Int32) × (Nat → Int32)) (fun oo => [oX0 a_t a_kinds a_yards a_spots oo.1 oo.2.1 oo.2.2.1 oo.2.2.2.1 oo.2.2.2.2.1 oo.2.2.2.2.2.1 oo.2.2.2.2.2.2.1, aA cI a_kinds 10 oo.2.2.2.2.2.2.2.1, aA cI a_spots 10 oo.2.2.2.2.2.2.2.2.1, aA cI a_yards 10 oo.2.2.2.2.2.2.2.2.2, oX0 a_a1 a_a1_kinds a_a1_yards a_a1_spots v_a1_tents v_a1_said v_a1_wall v_a1_bridge v_a1_counted v_a1_day v_a1_z, aA cI a_a1_kinds 10 f_a1_kinds, aA cI a_a1_spots 10 f_a1_spots, aA cI a_a1_yards 10 f_a1_yards]) (o0, o1, o2, o3, o4, o5, o6, o7, o8, o9) (own := RX0) (lv := [(0, .ref a_t), (1, .ref a_a1)]) (by decide) rfl rfl (Nat.le_of_ble_eq_true rfl) rfl ?_
  intro p e s m args below meth c Q ls C hret hV hl
  obtain ⟨out, hout⟩ : ∃ z : Int32 × Int32 × Int32 × Int32 × Int32 × Int32 × Int32 × (Nat → Int32) × (Nat → Int32) × (Nat → Int32), z = (o0, o1, o2, o3, o4, o5, o6, o7, o8, o9) := ⟨_, rfl⟩
  rw [← hout] at hF hret
  obtain ⟨H0, hH0⟩ : ∃ z : Heap, z = s.heap := ⟨_, rfl⟩
  obtain ⟨A0, hA0⟩ : ∃ z : Nat → Prop, z = va_A [oX0 a_t a_kinds a_yards a_spots v_tents v_said v_wall v_bridge v_counted v_day v_z, aA cI a_kinds 10 f_kinds, aA cI a_spots 10 f_spots, aA cI a_yards 10 f_yards, oX0 a_a1 a_a1_kinds a_a1_yards a_a1_spots v_a1_tents v_a1_said v_a1_wall v_a1_bridge v_a1_counted v_a1_day v_a1_z, aA cI a_a1_kinds 10 f_a1_kinds, aA cI a_a1_spots 10 f_a1_spots, aA cI a_a1_yards 10 f_a1_yards] s.heap.size := ⟨_, rfl⟩
  rw [← hA0] at hret hV
  rw [← hH0] at hret hV
  rw [← hH0]
  obtain ⟨H, locs, hH⟩ : ∃ (z : Heap) (y : List Loc), z = H0 ∧ y = [] := ⟨_, _, rfl, rfl⟩
  rw [← hH.1, ← hH.2]
  have hV : gV (dC, dI) (gT cI cB cO) A0 H0 s [oX0 a_t a_kinds a_yards a_spots v_tents v_said v_wall v_bridge v_counted v_day v_z, aA cI a_kinds 10 f_kinds, aA cI a_spots 10 f_spots, aA cI a_yards 10 f_yards, oX0 a_a1 a_a1_kinds a_a1_yards a_a1_spots v_a1_tents v_a1_said v_a1_wall v_a1_bridge v_a1_counted v_a1_day v_a1_z, aA cI a_a1_kinds 10 f_a1_kinds, aA cI a_a1_spots 10 f_a1_spots, aA cI a_a1_yards 10 f_a1_yards] H locs := by rw [hH.1, hH.2]; exact hV
  unfold F_X0_become at hF
  refine lv_aload_n C.1 C.2.1 dX0_become_0 rfl (lv_at hl 1 rfl) ?_
  refine g_get C hV flX0_become_9 4 rfl rfl dX0_become_1 ?_
  refine lv_iconst (v := 0) C.1 C.2.1 dX0_become_4 rfl ?_
  refine lv_aload_n C.1 C.2.1 dX0_become_5 rfl (lv_at hl 0 rfl) ?_
  refine g_get C hV flX0_become_9 0 rfl rfl dX0_become_6 ?_
  refine lv_iconst (v := 0) C.1 C.2.1 dX0_become_9 rfl ?_
  refine lv_bipush (v := 10) C.1 C.2.1 dX0_become_10 rfl ?_
  refine g_copy C hl hV cyX0_become_35 5 1 rfl rfl (Nat.le_of_ble_eq_true rfl) (Nat.le_of_ble_eq_true rfl) hF (fun gq => [oX0 a_t a_kinds a_yards a_spots v_tents v_said v_wall v_bridge v_counted v_day v_z, aA cI a_kinds 10 gq, aA cI a_spots 10 f_spots, aA cI a_yards 10 f_yards, oX0 a_a1 a_a1_kinds a_a1_yards a_a1_spots v_a1_tents v_a1_said v_a1_wall v_a1_bridge v_a1_counted v_a1_day v_a1_z, aA cI a_a1_kinds 10 f_a1_kinds, aA cI a_a1_spots 10 f_a1_spots, aA cI a_a1_yards 10 f_a1_yards]) (fun _ => rfl) dX0_become_12 (fun g1 H locs hF hV => ?_)
  refine lv_aload_n C.1 C.2.1 dX0_become_15 rfl (lv_at hl 1 rfl) ?_
  refine g_get C hV flX0_become_15 4 rfl rfl dX0_become_16 ?_
  refine lv_iconst (v := 0) C.1 C.2.1 dX0_become_19 rfl ?_
  refine lv_aload_n C.1 C.2.1 dX0_become_20 rfl (lv_at hl 0 rfl) ?_
  refine g_get C hV flX0_become_15 0 rfl rfl dX0_become_21 ?_
  refine lv_iconst (v := 0) C.1 C.2.1 dX0_become_24 rfl ?_
  refine lv_bipush (v := 10) C.1 C.2.1 dX0_become_25 rfl ?_
  refine g_copy C hl hV cyX0_become_35 7 3 rfl rfl (Nat.le_of_ble_eq_true rfl) (Nat.le_of_ble_eq_true rfl) hF (fun gq => [oX0 a_t a_kinds a_yards a_spots v_tents v_said v_wall v_bridge v_counted v_day v_z, aA cI a_kinds 10 g1, aA cI a_spots 10 f_spots, aA cI a_yards 10 gq, oX0 a_a1 a_a1_kinds a_a1_yards a_a1_spots v_a1_tents v_a1_said v_a1_wall v_a1_bridge v_a1_counted v_a1_day v_a1_z, aA cI a_a1_kinds 10 f_a1_kinds, aA cI a_a1_spots 10 f_a1_spots, aA cI a_a1_yards 10 f_a1_yards]) (fun _ => rfl) dX0_become_27 (fun g2 H locs hF hV => ?_)
  refine lv_aload_n C.1 C.2.1 dX0_become_30 rfl (lv_at hl 1 rfl) ?_
  refine g_get C hV flX0_become_18 4 rfl rfl dX0_become_31 ?_
  refine lv_iconst (v := 0) C.1 C.2.1 dX0_become_34 rfl ?_
  refine lv_aload_n C.1 C.2.1 dX0_become_35 rfl (lv_at hl 0 rfl) ?_
  refine g_get C hV flX0_become_18 0 rfl rfl dX0_become_36 ?_
  refine lv_iconst (v := 0) C.1 C.2.1 dX0_become_39 rfl ?_
  refine lv_bipush (v := 10) C.1 C.2.1 dX0_become_40 rfl ?_
  refine g_copy C hl hV cyX0_become_35 6 2 rfl rfl (Nat.le_of_ble_eq_true rfl) (Nat.le_of_ble_eq_true rfl) hF (fun gq => [oX0 a_t a_kinds a_yards a_spots v_tents v_said v_wall v_bridge v_counted v_day v_z, aA cI a_kinds 10 g1, aA cI a_spots 10 gq, aA cI a_yards 10 g2, oX0 a_a1 a_a1_kinds a_a1_yards a_a1_spots v_a1_tents v_a1_said v_a1_wall v_a1_bridge v_a1_counted v_a1_day v_a1_z, aA cI a_a1_kinds 10 f_a1_kinds, aA cI a_a1_spots 10 f_a1_spots, aA cI a_a1_yards 10 f_a1_yards]) (fun _ => rfl) dX0_become_42 (fun g3 H locs hF hV => ?_)
  refine lv_aload_n C.1 C.2.1 dX0_become_45 rfl (lv_at hl 0 rfl) ?_
  refine lv_aload_n C.1 C.2.1 dX0_become_46 rfl (lv_at hl 1 rfl) ?_
  refine g_get C hV flX0_become_41 4 rfl rfl dX0_become_47 ?_
  refine g_put (ws' := [oX0 a_t a_kinds a_yards a_spots v_a1_tents v_said v_wall v_bridge v_counted v_day v_z, aA cI a_kinds 10 g1, aA cI a_spots 10 g3, aA cI a_yards 10 g2, oX0 a_a1 a_a1_kinds a_a1_yards a_a1_spots v_a1_tents v_a1_said v_a1_wall v_a1_bridge v_a1_counted v_a1_day v_a1_z, aA cI a_a1_kinds 10 f_a1_kinds, aA cI a_a1_spots 10 f_a1_spots, aA cI a_a1_yards 10 f_a1_yards]) C hV fpX0_become_41 0 rfl rfl rfl (Nat.le_of_ble_eq_true rfl) rfl dX0_become_50 (fun H locs hV => ?_)
  refine lv_aload_n C.1 C.2.1 dX0_become_53 rfl (lv_at hl 0 rfl) ?_
  refine lv_aload_n C.1 C.2.1 dX0_become_54 rfl (lv_at hl 1 rfl) ?_
  refine g_get C hV flX0_become_44 4 rfl rfl dX0_become_55 ?_
  refine g_put (ws' := [oX0 a_t a_kinds a_yards a_spots v_a1_tents v_a1_said v_wall v_bridge v_counted v_day v_z, aA cI a_kinds 10 g1, aA cI a_spots 10 g3, aA cI a_yards 10 g2, oX0 a_a1 a_a1_kinds a_a1_yards a_a1_spots v_a1_tents v_a1_said v_a1_wall v_a1_bridge v_a1_counted v_a1_day v_a1_z, aA cI a_a1_kinds 10 f_a1_kinds, aA cI a_a1_spots 10 f_a1_spots, aA cI a_a1_yards 10 f_a1_yards]) C hV fpX0_become_44 0 rfl rfl rfl (Nat.le_of_ble_eq_true rfl) rfl dX0_become_58 (fun H locs hV => ?_)
  refine lv_aload_n C.1 C.2.1 dX0_become_61 rfl (lv_at hl 0 rfl) ?_
  refine lv_aload_n C.1 C.2.1 dX0_become_62 rfl (lv_at hl 1 rfl) ?_
  refine g_get C hV flX0_become_47 4 rfl rfl dX0_become_63 ?_
  refine g_put (ws' := [oX0 a_t a_kinds a_yards a_spots v_a1_tents v_a1_said v_a1_wall v_bridge v_counted v_day v_z, aA cI a_kinds 10 g1, aA cI a_spots 10 g3, aA cI a_yards 10 g2, oX0 a_a1 a_a1_kinds a_a1_yards a_a1_spots v_a1_tents v_a1_said v_a1_wall v_a1_bridge v_a1_counted v_a1_day v_a1_z, aA cI a_a1_kinds 10 f_a1_kinds, aA cI a_a1_spots 10 f_a1_spots, aA cI a_a1_yards 10 f_a1_yards]) C hV fpX0_become_47 0 rfl rfl rfl (Nat.le_of_ble_eq_true rfl) rfl dX0_become_66 (fun H locs hV => ?_)
  refine lv_aload_n C.1 C.2.1 dX0_become_69 rfl (lv_at hl 0 rfl) ?_
  refine lv_aload_n C.1 C.2.1 dX0_become_70 rfl (lv_at hl 1 rfl) ?_
  refine g_get C hV flX0_become_50 4 rfl rfl dX0_become_71 ?_
  refine g_put (ws' := [oX0 a_t a_kinds a_yards a_spots v_a1_tents v_a1_said v_a1_wall v_a1_bridge v_counted v_day v_z, aA cI a_kinds 10 g1, aA cI a_spots 10 g3, aA cI a_yards 10 g2, oX0 a_a1 a_a1_kinds a_a1_yards a_a1_spots v_a1_tents v_a1_said v_a1_wall v_a1_bridge v_a1_counted v_a1_day v_a1_z, aA cI a_a1_kinds 10 f_a1_kinds, aA cI a_a1_spots 10 f_a1_spots, aA cI a_a1_yards 10 f_a1_yards]) C hV fpX0_become_50 0 rfl rfl rfl (Nat.le_of_ble_eq_true rfl) rfl dX0_become_74 (fun H locs hV => ?_)
  refine lv_aload_n C.1 C.2.1 dX0_become_77 rfl (lv_at hl 0 rfl) ?_
  refine lv_aload_n C.1 C.2.1 dX0_become_78 rfl (lv_at hl 1 rfl) ?_
  refine g_get C hV flX0_become_21 4 rfl rfl dX0_become_79 ?_
  obtain ⟨hz, hF⟩ := bz_s hF
  refine g_put (ws' := [oX0 a_t a_kinds a_yards a_spots v_a1_tents v_a1_said v_a1_wall v_a1_bridge v_a1_counted v_day v_z, aA cI a_kinds 10 g1, aA cI a_spots 10 g3, aA cI a_yards 10 g2, oX0 a_a1 a_a1_kinds a_a1_yards a_a1_spots v_a1_tents v_a1_said v_a1_wall v_a1_bridge v_a1_counted v_a1_day v_a1_z, aA cI a_a1_kinds 10 f_a1_kinds, aA cI a_a1_spots 10 f_a1_spots, aA cI a_a1_yards 10 f_a1_yards]) C hV fpX0_become_21 0 rfl (zb_n hz) (zb_f hz) (Nat.le_of_ble_eq_true rfl) rfl dX0_become_82 (fun H locs hV => ?_)
  refine lv_aload_n C.1 C.2.1 dX0_become_85 rfl (lv_at hl 0 rfl) ?_
  refine lv_aload_n C.1 C.2.1 dX0_become_86 rfl (lv_at hl 1 rfl) ?_
  refine g_get C hV flX0_become_53 4 rfl rfl dX0_become_87 ?_
  refine g_put (ws' := [oX0 a_t a_kinds a_yards a_spots v_a1_tents v_a1_said v_a1_wall v_a1_bridge v_a1_counted v_a1_day v_z, aA cI a_kinds 10 g1, aA cI a_spots 10 g3, aA cI a_yards 10 g2, oX0 a_a1 a_a1_kinds a_a1_yards a_a1_spots v_a1_tents v_a1_said v_a1_wall v_a1_bridge v_a1_counted v_a1_day v_a1_z, aA cI a_a1_kinds 10 f_a1_kinds, aA cI a_a1_spots 10 f_a1_spots, aA cI a_a1_yards 10 f_a1_yards]) C hV fpX0_become_53 0 rfl rfl rfl (Nat.le_of_ble_eq_true rfl) rfl dX0_become_90 (fun H locs hV => ?_)
  refine lv_aload_n C.1 C.2.1 dX0_become_93 rfl (lv_at hl 0 rfl) ?_
  refine lv_aload_n C.1 C.2.1 dX0_become_94 rfl (lv_at hl 1 rfl) ?_
  refine g_get C hV flX0_become_25 4 rfl rfl dX0_become_95 ?_
  refine g_put (ws' := [oX0 a_t a_kinds a_yards a_spots v_a1_tents v_a1_said v_a1_wall v_a1_bridge v_a1_counted v_a1_day v_a1_z, aA cI a_kinds 10 g1, aA cI a_spots 10 g3, aA cI a_yards 10 g2, oX0 a_a1 a_a1_kinds a_a1_yards a_a1_spots v_a1_tents v_a1_said v_a1_wall v_a1_bridge v_a1_counted v_a1_day v_a1_z, aA cI a_a1_kinds 10 f_a1_kinds, aA cI a_a1_spots 10 f_a1_spots, aA cI a_a1_yards 10 f_a1_yards]) C hV fpX0_become_25 0 rfl rfl rfl (Nat.le_of_ble_eq_true rfl) rfl dX0_become_98 (fun H locs hV => ?_)
  exact hret (v_a1_tents, v_a1_said, v_a1_wall, v_a1_bridge, v_a1_counted, v_a1_day, v_a1_z, g1, g3, g2) _ _ _ _ dX0_become_101 hF hV
abbrev rmX0_has : Room := { frames := 0, cells := 0, slots := 0, locals := 0 }
theorem mdX0_has : gMd yX0_has wsX0_has cX0_has 2 (some .boolean) 1 := ⟨⟨_, rfl⟩, by decide +kernel⟩
theorem flX0_has_41 : gFL wsX0_has RX0 41 0 3 RX0 TX0 10 := ⟨rfl, fun w h => List.mem_cons_of_mem _ (List.mem_append_right _ (h)), Nat.le_of_ble_eq_true rfl, List.mem_cons_of_mem _ (List.mem_append_left _ (List.mem_of_getElem? (i := 0) rfl))⟩
def F_X0_has (n0 : Nat) (v_tents : Int32) (p1 : Int32) : Option (Int32) := (if p1 < 0 then some (0 : Int32) else (if v_tents ≤ p1 then some (0 : Int32) else some (1 : Int32)))
set_option maxRecDepth 100000 in
set_option maxHeartbeats 4000000 in
theorem k_X0_has (l : Launch) (dC : Nat → ClassId) (dI : Nat → Nat → Nat) (cI cB cO : ClassId) (n0 sz : Nat) (a_t : Nat) (a_kinds : Nat) (a_yards : Nat) (a_spots : Nat)   (v_tents : Int32) (v_said : Int32) (v_wall : Int32) (v_bridge : Int32) (v_counted : Int32) (v_day : Int32) (v_z : Int32) (p1 : Int32)  {ro : Int32} (hF : F_X0_has n0 v_tents p1 = some ro) : Met l yX0_has wsX0_has rmX0_has (va_Pc [.ref a_t, .int p1] (gPre (dC, dI) (gT cI cB cO) sz [oX0 a_t a_kinds a_yards a_spots v_tents v_said v_wall v_bridge v_counted v_day v_z])) (gQi (dC, dI) (gT cI cB cO) sz [oX0 a_t a_kinds a_yards a_spots v_tents v_said v_wall v_bridge v_counted v_day v_z] ro [oX0 a_t a_kinds a_yards a_spots v_tents v_said v_wall v_bridge v_counted v_day v_z]) 0 0 (va_A [oX0 a_t a_kinds a_yards a_spots v_tents v_said v_wall v_bridge v_counted v_day v_z] sz) := by
  refine g_metZ (Out := Int32) (fun oo => oo) (fun oo => [oX0 a_t a_kinds a_yards a_spots v_tents v_said v_wall v_bridge v_counted v_day v_z]) ro (own := RX0) (lv := [(0, .ref a_t), (1, .int p1)]) (by decide) rfl rfl (Nat.le_of_ble_eq_true rfl) rfl ?_
  intro p e s m args below meth c Q ls C hret hV hl
  obtain ⟨out, hout⟩ : ∃ z : Int32, z = ro := ⟨_, rfl⟩
  rw [← hout] at hF hret
  obtain ⟨H0, hH0⟩ : ∃ z : Heap, z = s.heap := ⟨_, rfl⟩
  obtain ⟨A0, hA0⟩ : ∃ z : Nat → Prop, z = va_A [oX0 a_t a_kinds a_yards a_spots v_tents v_said v_wall v_bridge v_counted v_day v_z] s.heap.size := ⟨_, rfl⟩
  rw [← hA0] at hret hV
  rw [← hH0] at hret hV
  rw [← hH0]
  obtain ⟨H, locs, hH⟩ : ∃ (z : Heap) (y : List Loc), z = H0 ∧ y = [] := ⟨_, _, rfl, rfl⟩
  rw [← hH.1, ← hH.2]
  have hV : gV (dC, dI) (gT cI cB cO) A0 H0 s [oX0 a_t a_kinds a_yards a_spots v_tents v_said v_wall v_bridge v_counted v_day v_z] H locs := by rw [hH.1, hH.2]; exact hV
  unfold F_X0_has at hF
  refine lv_iload_n C.1 C.2.1 dX0_has_0 rfl (lv_at hl 1 rfl) ?_
  refine g_if_lt (tgt := 16) C hF dX0_has_1 rfl (fun hF => ?_) (fun hF => ?_)
  · refine lv_iconst (v := 0) C.1 C.2.1 dX0_has_16 rfl ?_
    exact hret (0 : Int32) _ _ _ _ dX0_has_17 hF (Or.inl rfl) hV
  refine lv_iload_n C.1 C.2.1 dX0_has_4 rfl (lv_at hl 1 rfl) ?_
  refine lv_aload_n C.1 C.2.1 dX0_has_5 rfl (lv_at hl 0 rfl) ?_
  refine g_get C hV flX0_has_41 0 rfl rfl dX0_has_6 ?_
  refine g_icmp_ge (tgt := 16) C hF dX0_has_9 rfl (fun hF => ?_) (fun hF => ?_)
  · refine lv_iconst (v := 0) C.1 C.2.1 dX0_has_16 rfl ?_
    exact hret (0 : Int32) _ _ _ _ dX0_has_17 hF (Or.inl rfl) hV
  refine lv_iconst (v := 1) C.1 C.2.1 dX0_has_12 rfl ?_
  refine lv_goto (tgt := 17) C.1 C.2.1 dX0_has_13 rfl ?_
  exact hret (1 : Int32) _ _ _ _ dX0_has_17 hF (Or.inr rfl) hV
abbrev rmX0_all : Room := { frames := 0, cells := 0, slots := 0, locals := 0 }
theorem mdX0_all : gMd yX0_all wsX0_all cX0_all 1 (some .int) 0 := ⟨⟨_, rfl⟩, by decide +kernel⟩
theorem flX0_all_41 : gFL wsX0_all RX0 41 0 3 RX0 TX0 10 := ⟨rfl, fun w h => List.mem_cons_of_mem _ (List.mem_append_right _ (h)), Nat.le_of_ble_eq_true rfl, List.mem_cons_of_mem _ (List.mem_append_left _ (List.mem_of_getElem? (i := 0) rfl))⟩
def F_X0_all (n0 : Nat) (v_tents : Int32) : Option (Int32) := nm (1 <<< (v_tents &&& 31)) (fun x1 => nm (x1 - 1) (fun x2 => some x2))
set_option maxRecDepth 100000 in
set_option maxHeartbeats 4000000 in
theorem k_X0_all (l : Launch) (dC : Nat → ClassId) (dI : Nat → Nat → Nat) (cI cB cO : ClassId) (n0 sz : Nat) (a_t : Nat) (a_kinds : Nat) (a_yards : Nat) (a_spots : Nat)   (v_tents : Int32) (v_said : Int32) (v_wall : Int32) (v_bridge : Int32) (v_counted : Int32) (v_day : Int32) (v_z : Int32)   {ro : Int32} (hF : F_X0_all n0 v_tents = some ro) : Met l yX0_all wsX0_all rmX0_all (va_Pc [.ref a_t] (gPre (dC, dI) (gT cI cB cO) sz [oX0 a_t a_kinds a_yards a_spots v_tents v_said v_wall v_bridge v_counted v_day v_z])) (gQi (dC, dI) (gT cI cB cO) sz [oX0 a_t a_kinds a_yards a_spots v_tents v_said v_wall v_bridge v_counted v_day v_z] ro [oX0 a_t a_kinds a_yards a_spots v_tents v_said v_wall v_bridge v_counted v_day v_z]) 0 0 (va_A [oX0 a_t a_kinds a_yards a_spots v_tents v_said v_wall v_bridge v_counted v_day v_z] sz) := by
  refine g_metI (Out := Int32) (fun oo => oo) (fun oo => [oX0 a_t a_kinds a_yards a_spots v_tents v_said v_wall v_bridge v_counted v_day v_z]) ro (own := RX0) (lv := [(0, .ref a_t)]) (by decide) rfl rfl (Nat.le_of_ble_eq_true rfl) rfl ?_
  intro p e s m args below meth c Q ls C hret hV hl
  obtain ⟨out, hout⟩ : ∃ z : Int32, z = ro := ⟨_, rfl⟩
  rw [← hout] at hF hret
  obtain ⟨H0, hH0⟩ : ∃ z : Heap, z = s.heap := ⟨_, rfl⟩
  obtain ⟨A0, hA0⟩ : ∃ z : Nat → Prop, z = va_A [oX0 a_t a_kinds a_yards a_spots v_tents v_said v_wall v_bridge v_counted v_day v_z] s.heap.size := ⟨_, rfl⟩
  rw [← hA0] at hret hV
  rw [← hH0] at hret hV
  rw [← hH0]
  obtain ⟨H, locs, hH⟩ : ∃ (z : Heap) (y : List Loc), z = H0 ∧ y = [] := ⟨_, _, rfl, rfl⟩
  rw [← hH.1, ← hH.2]
  have hV : gV (dC, dI) (gT cI cB cO) A0 H0 s [oX0 a_t a_kinds a_yards a_spots v_tents v_said v_wall v_bridge v_counted v_day v_z] H locs := by rw [hH.1, hH.2]; exact hV
  unfold F_X0_all at hF
  refine lv_iconst (v := 1) C.1 C.2.1 dX0_all_0 rfl ?_
  refine lv_aload_n C.1 C.2.1 dX0_all_1 rfl (lv_at hl 0 rfl) ?_
  refine g_get C hV flX0_all_41 0 rfl rfl dX0_all_2 ?_
  refine g_ishl C hF dX0_all_5 (fun x1 hF => ?_)
  refine lv_iconst (v := 1) C.1 C.2.1 dX0_all_6 rfl ?_
  refine g_isub C hF dX0_all_7 (fun x2 hF => ?_)
  exact hret x2 _ _ _ _ dX0_all_8 hF hV
abbrev rmX0_isSet : Room := { frames := 1, cells := 0, slots := 0, locals := 20 }
theorem mdX0_isSet : gMd yX0_isSet wsX0_isSet cX0_isSet 2 (some .boolean) 1 := ⟨⟨_, rfl⟩, by decide +kernel⟩
def F_X0_isSet (n0 : Nat) (v_tents : Int32) (p1 : Int32) : Option (Int32) := bd1 (F_X0_all n0 v_tents) (fun x1 => nm (x1 ^^^ ((-1))) (fun x2 => nm (p1 &&& x2) (fun x3 => (if x3 = 0 then some (1 : Int32) else some (0 : Int32)))))
set_option maxRecDepth 100000 in
set_option maxHeartbeats 4000000 in
theorem k_X0_isSet (l : Launch) (dC : Nat → ClassId) (dI : Nat → Nat → Nat) (cI cB cO : ClassId) (n0 sz : Nat) (a_t : Nat) (a_kinds : Nat) (a_yards : Nat) (a_spots : Nat)   (v_tents : Int32) (v_said : Int32) (v_wall : Int32) (v_bridge : Int32) (v_counted : Int32) (v_day : Int32) (v_z : Int32) (p1 : Int32)  {ro : Int32} (hF : F_X0_isSet n0 v_tents p1 = some ro) : Met l yX0_isSet wsX0_isSet rmX0_isSet (va_Pc [.ref a_t, .int p1] (gPre (dC, dI) (gT cI cB cO) sz [oX0 a_t a_kinds a_yards a_spots v_tents v_said v_wall v_bridge v_counted v_day v_z])) (gQi (dC, dI) (gT cI cB cO) sz [oX0 a_t a_kinds a_yards a_spots v_tents v_said v_wall v_bridge v_counted v_day v_z] ro [oX0 a_t a_kinds a_yards a_spots v_tents v_said v_wall v_bridge v_counted v_day v_z]) 0 0 (va_A [oX0 a_t a_kinds a_yards a_spots v_tents v_said v_wall v_bridge v_counted v_day v_z] sz) := by
  refine g_metZ (Out := Int32) (fun oo => oo) (fun oo => [oX0 a_t a_kinds a_yards a_spots v_tents v_said v_wall v_bridge v_counted v_day v_z]) ro (own := RX0) (lv := [(0, .ref a_t), (1, .int p1)]) (by decide) rfl rfl (Nat.le_of_ble_eq_true rfl) rfl ?_
  intro p e s m args below meth c Q ls C hret hV hl
  obtain ⟨out, hout⟩ : ∃ z : Int32, z = ro := ⟨_, rfl⟩
  rw [← hout] at hF hret
  obtain ⟨H0, hH0⟩ : ∃ z : Heap, z = s.heap := ⟨_, rfl⟩
  obtain ⟨A0, hA0⟩ : ∃ z : Nat → Prop, z = va_A [oX0 a_t a_kinds a_yards a_spots v_tents v_said v_wall v_bridge v_counted v_day v_z] s.heap.size := ⟨_, rfl⟩
  rw [← hA0] at hret hV
  rw [← hH0] at hret hV
  rw [← hH0]
  obtain ⟨H, locs, hH⟩ : ∃ (z : Heap) (y : List Loc), z = H0 ∧ y = [] := ⟨_, _, rfl, rfl⟩
  rw [← hH.1, ← hH.2]
  have hV : gV (dC, dI) (gT cI cB cO) A0 H0 s [oX0 a_t a_kinds a_yards a_spots v_tents v_said v_wall v_bridge v_counted v_day v_z] H locs := by rw [hH.1, hH.2]; exact hV
  unfold F_X0_isSet at hF
  refine lv_iload_n C.1 C.2.1 dX0_isSet_0 rfl (lv_at hl 1 rfl) ?_
  refine lv_aload_n C.1 C.2.1 dX0_isSet_1 rfl (lv_at hl 0 rfl) ?_
  obtain ⟨x1, hc, hF⟩ := bd1_s hF
  refine g_cVi (ws' := [oX0 a_t a_kinds a_yards a_spots v_tents v_said v_wall v_bridge v_counted v_day v_z]) (wr := []) C hV (k_X0_all l dC dI cI cB cO n0 H.size a_t a_kinds a_yards a_spots v_tents v_said v_wall v_bridge v_counted v_day v_z hc) mdX0_all gX0_isSet_X0_all rfl rfl ⟨Nat.le_of_ble_eq_true rfl, Nat.le_of_ble_eq_true rfl⟩ [0] [] [0] rfl rfl rfl rfl rfl rfl rfl rfl rfl rfl hl.1 (Nat.le_of_ble_eq_true rfl) rfl dX0_isSet_2 (fun H locs hV => ?_)
  refine lv_iconst (v := (-1)) C.1 C.2.1 dX0_isSet_5 rfl ?_
  refine g_ixor C hF dX0_isSet_6 (fun x2 hF => ?_)
  refine g_iand C hF dX0_isSet_7 (fun x3 hF => ?_)
  refine g_if_ne (tgt := 15) C hF dX0_isSet_8 rfl (fun hF => ?_) (fun hF => ?_)
  · refine lv_iconst (v := 0) C.1 C.2.1 dX0_isSet_15 rfl ?_
    exact hret (0 : Int32) _ _ _ _ dX0_isSet_16 hF (Or.inl rfl) hV
  refine lv_iconst (v := 1) C.1 C.2.1 dX0_isSet_11 rfl ?_
  refine lv_goto (tgt := 16) C.1 C.2.1 dX0_isSet_12 rfl ?_
  exact hret (1 : Int32) _ _ _ _ dX0_isSet_16 hF (Or.inr rfl) hV
abbrev rmX0_vote : Room := { frames := 1, cells := 0, slots := 0, locals := 20 }
theorem mdX0_vote : gMd yX0_vote wsX0_vote cX0_vote 1 (some .int) 0 := ⟨⟨_, rfl⟩, by decide +kernel⟩
theorem flX0_vote_44 : gFL wsX0_vote RX0 44 0 4 RX0 TX0 10 := ⟨rfl, fun w h => List.mem_cons_of_mem _ (List.mem_append_right _ (h)), Nat.le_of_ble_eq_true rfl, List.mem_cons_of_mem _ (List.mem_append_left _ (List.mem_of_getElem? (i := 0) rfl))⟩
def F_X0_vote (n0 : Nat) (v_said : Int32) : Option (Int32) := bd1 (F_J6_bitCount_0f7a4 n0 v_said) (fun x1 => some x1)
set_option maxRecDepth 100000 in
set_option maxHeartbeats 4000000 in
theorem k_X0_vote (l : Launch) (dC : Nat → ClassId) (dI : Nat → Nat → Nat) (cI cB cO : ClassId) (n0 sz : Nat) (a_t : Nat) (a_kinds : Nat) (a_yards : Nat) (a_spots : Nat)   (v_tents : Int32) (v_said : Int32) (v_wall : Int32) (v_bridge : Int32) (v_counted : Int32) (v_day : Int32) (v_z : Int32)   {ro : Int32} (hF : F_X0_vote n0 v_said = some ro) : Met l yX0_vote wsX0_vote rmX0_vote (va_Pc [.ref a_t] (gPre (dC, dI) (gT cI cB cO) sz [oX0 a_t a_kinds a_yards a_spots v_tents v_said v_wall v_bridge v_counted v_day v_z])) (gQi (dC, dI) (gT cI cB cO) sz [oX0 a_t a_kinds a_yards a_spots v_tents v_said v_wall v_bridge v_counted v_day v_z] ro [oX0 a_t a_kinds a_yards a_spots v_tents v_said v_wall v_bridge v_counted v_day v_z]) 0 0 (va_A [oX0 a_t a_kinds a_yards a_spots v_tents v_said v_wall v_bridge v_counted v_day v_z] sz) := by
  refine g_metI (Out := Int32) (fun oo => oo) (fun oo => [oX0 a_t a_kinds a_yards a_spots v_tents v_said v_wall v_bridge v_counted v_day v_z]) ro (own := RX0) (lv := [(0, .ref a_t)]) (by decide) rfl rfl (Nat.le_of_ble_eq_true rfl) rfl ?_
  intro p e s m args below meth c Q ls C hret hV hl
  obtain ⟨out, hout⟩ : ∃ z : Int32, z = ro := ⟨_, rfl⟩
  rw [← hout] at hF hret
  obtain ⟨H0, hH0⟩ : ∃ z : Heap, z = s.heap := ⟨_, rfl⟩
  obtain ⟨A0, hA0⟩ : ∃ z : Nat → Prop, z = va_A [oX0 a_t a_kinds a_yards a_spots v_tents v_said v_wall v_bridge v_counted v_day v_z] s.heap.size := ⟨_, rfl⟩
  rw [← hA0] at hret hV
  rw [← hH0] at hret hV
  rw [← hH0]
  obtain ⟨H, locs, hH⟩ : ∃ (z : Heap) (y : List Loc), z = H0 ∧ y = [] := ⟨_, _, rfl, rfl⟩
  rw [← hH.1, ← hH.2]
  have hV : gV (dC, dI) (gT cI cB cO) A0 H0 s [oX0 a_t a_kinds a_yards a_spots v_tents v_said v_wall v_bridge v_counted v_day v_z] H locs := by rw [hH.1, hH.2]; exact hV
  unfold F_X0_vote at hF
  refine lv_aload_n C.1 C.2.1 dX0_vote_0 rfl (lv_at hl 0 rfl) ?_
  refine g_get C hV flX0_vote_44 0 rfl rfl dX0_vote_1 ?_
  obtain ⟨x1, hc, hF⟩ := bd1_s hF
  refine g_cSi (ws' := [oX0 a_t a_kinds a_yards a_spots v_tents v_said v_wall v_bridge v_counted v_day v_z]) (wr := [oX0 a_t a_kinds a_yards a_spots v_tents v_said v_wall v_bridge v_counted v_day v_z]) C hV (k_J6_bitCount_0f7a4 l dC dI cI cB cO n0 H.size v_said hc) mdJ6_bitCount_0f7a4 gX0_vote_J6_bitCount_0f7a4 rfl rfl ⟨Nat.le_of_ble_eq_true rfl, Nat.le_of_ble_eq_true rfl⟩ [] [0] [0] rfl rfl rfl rfl rfl rfl rfl rfl hl.1 (Nat.le_of_ble_eq_true rfl) rfl dX0_vote_4 (fun H locs hV => ?_)
  exact hret x1 _ _ _ _ dX0_vote_7 hF hV
abbrev rmX0_wordOf : Room := { frames := 0, cells := 0, slots := 0, locals := 0 }
theorem mdX0_wordOf : gMd yX0_wordOf wsX0_wordOf cX0_wordOf 2 (some .int) 1 := ⟨⟨_, rfl⟩, by decide +kernel⟩
theorem flX0_wordOf_44 : gFL wsX0_wordOf RX0 44 0 4 RX0 TX0 10 := ⟨rfl, fun w h => List.mem_cons_of_mem _ (List.mem_append_right _ (h)), Nat.le_of_ble_eq_true rfl, List.mem_cons_of_mem _ (List.mem_append_left _ (List.mem_of_getElem? (i := 0) rfl))⟩
def F_X0_wordOf (n0 : Nat) (v_said : Int32) (p1 : Int32) : Option (Int32) := nm (v_said >>> (p1 &&& 31)) (fun x1 => nm (x1 &&& 1) (fun x2 => some x2))
set_option maxRecDepth 100000 in
set_option maxHeartbeats 4000000 in
theorem k_X0_wordOf (l : Launch) (dC : Nat → ClassId) (dI : Nat → Nat → Nat) (cI cB cO : ClassId) (n0 sz : Nat) (a_t : Nat) (a_kinds : Nat) (a_yards : Nat) (a_spots : Nat)   (v_tents : Int32) (v_said : Int32) (v_wall : Int32) (v_bridge : Int32) (v_counted : Int32) (v_day : Int32) (v_z : Int32) (p1 : Int32)  {ro : Int32} (hF : F_X0_wordOf n0 v_said p1 = some ro) : Met l yX0_wordOf wsX0_wordOf rmX0_wordOf (va_Pc [.ref a_t, .int p1] (gPre (dC, dI) (gT cI cB cO) sz [oX0 a_t a_kinds a_yards a_spots v_tents v_said v_wall v_bridge v_counted v_day v_z])) (gQi (dC, dI) (gT cI cB cO) sz [oX0 a_t a_kinds a_yards a_spots v_tents v_said v_wall v_bridge v_counted v_day v_z] ro [oX0 a_t a_kinds a_yards a_spots v_tents v_said v_wall v_bridge v_counted v_day v_z]) 0 0 (va_A [oX0 a_t a_kinds a_yards a_spots v_tents v_said v_wall v_bridge v_counted v_day v_z] sz) := by
  refine g_metI (Out := Int32) (fun oo => oo) (fun oo => [oX0 a_t a_kinds a_yards a_spots v_tents v_said v_wall v_bridge v_counted v_day v_z]) ro (own := RX0) (lv := [(0, .ref a_t), (1, .int p1)]) (by decide) rfl rfl (Nat.le_of_ble_eq_true rfl) rfl ?_
  intro p e s m args below meth c Q ls C hret hV hl
  obtain ⟨out, hout⟩ : ∃ z : Int32, z = ro := ⟨_, rfl⟩
  rw [← hout] at hF hret
  obtain ⟨H0, hH0⟩ : ∃ z : Heap, z = s.heap := ⟨_, rfl⟩
  obtain ⟨A0, hA0⟩ : ∃ z : Nat → Prop, z = va_A [oX0 a_t a_kinds a_yards a_spots v_tents v_said v_wall v_bridge v_counted v_day v_z] s.heap.size := ⟨_, rfl⟩
  rw [← hA0] at hret hV
  rw [← hH0] at hret hV
  rw [← hH0]
  obtain ⟨H, locs, hH⟩ : ∃ (z : Heap) (y : List Loc), z = H0 ∧ y = [] := ⟨_, _, rfl, rfl⟩
  rw [← hH.1, ← hH.2]
  have hV : gV (dC, dI) (gT cI cB cO) A0 H0 s [oX0 a_t a_kinds a_yards a_spots v_tents v_said v_wall v_bridge v_counted v_day v_z] H locs := by rw [hH.1, hH.2]; exact hV
  unfold F_X0_wordOf at hF
  refine lv_aload_n C.1 C.2.1 dX0_wordOf_0 rfl (lv_at hl 0 rfl) ?_
  refine g_get C hV flX0_wordOf_44 0 rfl rfl dX0_wordOf_1 ?_
  refine lv_iload_n C.1 C.2.1 dX0_wordOf_4 rfl (lv_at hl 1 rfl) ?_
  refine g_ishr C hF dX0_wordOf_5 (fun x1 hF => ?_)
  refine lv_iconst (v := 1) C.1 C.2.1 dX0_wordOf_6 rfl ?_
  refine g_iand C hF dX0_wordOf_7 (fun x2 hF => ?_)
  exact hret x2 _ _ _ _ dX0_wordOf_8 hF hV
abbrev rmX0_giveWord : Room := { frames := 0, cells := 0, slots := 0, locals := 0 }
theorem mdX0_giveWord : gMd yX0_giveWord wsX0_giveWord cX0_giveWord 3 none 2 := ⟨⟨_, rfl⟩, by decide +kernel⟩
theorem flX0_giveWord_44 : gFL wsX0_giveWord RX0 44 0 4 RX0 TX0 10 := ⟨rfl, fun w h => List.mem_cons_of_mem _ (List.mem_append_right _ (h)), Nat.le_of_ble_eq_true rfl, List.mem_cons_of_mem _ (List.mem_append_left _ (List.mem_of_getElem? (i := 0) rfl))⟩
theorem fpX0_giveWord_44 : gFP wsX0_giveWord RX0 44 0 4 RX0 TX0 10 .int := ⟨flX0_giveWord_44, ⟨tyX0, tyX0_ok⟩, nmX0, rfl, by decide +kernel⟩
def F_X0_giveWord (n0 : Nat) (v_said : Int32) (p1 : Int32) (p2 : Int32) : Option (Int32) := nm (1 <<< (p1 &&& 31)) (fun x1 => nm (x1 ^^^ ((-1))) (fun x2 => nm (v_said &&& x2) (fun x3 => nm (p2 <<< (p1 &&& 31)) (fun x4 => nm (x3 ||| x4) (fun x5 => some x5)))))
set_option maxRecDepth 100000 in
set_option maxHeartbeats 4000000 in
theorem k_X0_giveWord (l : Launch) (dC : Nat → ClassId) (dI : Nat → Nat → Nat) (cI cB cO : ClassId) (n0 sz : Nat) (a_t : Nat) (a_kinds : Nat) (a_yards : Nat) (a_spots : Nat)   (v_tents : Int32) (v_said : Int32) (v_wall : Int32) (v_bridge : Int32) (v_counted : Int32) (v_day : Int32) (v_z : Int32) (p1 : Int32) (p2 : Int32)  {o0 : Int32} (hF : F_X0_giveWord n0 v_said p1 p2 = some o0) : Met l yX0_giveWord wsX0_giveWord rmX0_giveWord (va_Pc [.ref a_t, .int p1, .int p2] (gPre (dC, dI) (gT cI cB cO) sz [oX0 a_t a_kinds a_yards a_spots v_tents v_said v_wall v_bridge v_counted v_day v_z])) (gQv (dC, dI) (gT cI cB cO) sz [oX0 a_t a_kinds a_yards a_spots v_tents v_said v_wall v_bridge v_counted v_day v_z] [oX0 a_t a_kinds a_yards a_spots v_tents o0 v_wall v_bridge v_counted v_day v_z]) 0 0 (va_A [oX0 a_t a_kinds a_yards a_spots v_tents v_said v_wall v_bridge v_counted v_day v_z] sz) := by
  refine g_metV (Out := Int32) (fun oo => [oX0 a_t a_kinds a_yards a_spots v_tents oo v_wall v_bridge v_counted v_day v_z]) o0 (own := RX0) (lv := [(0, .ref a_t), (1, .int p1), (2, .int p2)]) (by decide) rfl rfl (Nat.le_of_ble_eq_true rfl) rfl ?_
  intro p e s m args below meth c Q ls C hret hV hl
  obtain ⟨out, hout⟩ : ∃ z : Int32, z = o0 := ⟨_, rfl⟩
  rw [← hout] at hF hret
  obtain ⟨H0, hH0⟩ : ∃ z : Heap, z = s.heap := ⟨_, rfl⟩
  obtain ⟨A0, hA0⟩ : ∃ z : Nat → Prop, z = va_A [oX0 a_t a_kinds a_yards a_spots v_tents v_said v_wall v_bridge v_counted v_day v_z] s.heap.size := ⟨_, rfl⟩
  rw [← hA0] at hret hV
  rw [← hH0] at hret hV
  rw [← hH0]
  obtain ⟨H, locs, hH⟩ : ∃ (z : Heap) (y : List Loc), z = H0 ∧ y = [] := ⟨_, _, rfl, rfl⟩
  rw [← hH.1, ← hH.2]
  have hV : gV (dC, dI) (gT cI cB cO) A0 H0 s [oX0 a_t a_kinds a_yards a_spots v_tents v_said v_wall v_bridge v_counted v_day v_z] H locs := by rw [hH.1, hH.2]; exact hV
  unfold F_X0_giveWord at hF
  refine lv_aload_n C.1 C.2.1 dX0_giveWord_0 rfl (lv_at hl 0 rfl) ?_
  refine lv_aload_n C.1 C.2.1 dX0_giveWord_1 rfl (lv_at hl 0 rfl) ?_
  refine g_get C hV flX0_giveWord_44 0 rfl rfl dX0_giveWord_2 ?_
  refine lv_iconst (v := 1) C.1 C.2.1 dX0_giveWord_5 rfl ?_
  refine lv_iload_n C.1 C.2.1 dX0_giveWord_6 rfl (lv_at hl 1 rfl) ?_
  refine g_ishl C hF dX0_giveWord_7 (fun x1 hF => ?_)
  refine lv_iconst (v := (-1)) C.1 C.2.1 dX0_giveWord_8 rfl ?_
  refine g_ixor C hF dX0_giveWord_9 (fun x2 hF => ?_)
  refine g_iand C hF dX0_giveWord_10 (fun x3 hF => ?_)
  refine lv_iload_n C.1 C.2.1 dX0_giveWord_11 rfl (lv_at hl 2 rfl) ?_
  refine lv_iload_n C.1 C.2.1 dX0_giveWord_12 rfl (lv_at hl 1 rfl) ?_
  refine g_ishl C hF dX0_giveWord_13 (fun x4 hF => ?_)
  refine g_ior C hF dX0_giveWord_14 (fun x5 hF => ?_)
  refine g_put (ws' := [oX0 a_t a_kinds a_yards a_spots v_tents x5 v_wall v_bridge v_counted v_day v_z]) C hV fpX0_giveWord_44 0 rfl rfl rfl (Nat.le_of_ble_eq_true rfl) rfl dX0_giveWord_15 (fun H locs hV => ?_)
  exact hret x5 _ _ _ _ dX0_giveWord_18 hF hV
abbrev rmX0_tentOn : Room := { frames := 0, cells := 0, slots := 0, locals := 0 }
theorem mdX0_tentOn : gMd yX0_tentOn wsX0_tentOn cX0_tentOn 3 (some .int) 1 := ⟨⟨_, rfl⟩, by decide +kernel⟩
theorem flX0_tentOn_41 : gFL wsX0_tentOn RX0 41 0 3 RX0 TX0 10 := ⟨rfl, fun w h => List.mem_cons_of_mem _ (List.mem_append_right _ (h)), Nat.le_of_ble_eq_true rfl, List.mem_cons_of_mem _ (List.mem_append_left _ (List.mem_of_getElem? (i := 0) rfl))⟩
theorem flX0_tentOn_15 : gFL wsX0_tentOn RX0 15 0 1 RX0 TX0 10 := ⟨rfl, fun w h => List.mem_cons_of_mem _ (List.mem_append_right _ (h)), Nat.le_of_ble_eq_true rfl, List.mem_cons_of_mem _ (List.mem_append_left _ (List.mem_of_getElem? (i := 1) rfl))⟩
def L_X0_tentOn_2 (v_tents : Int32) (f_yards : Nat → Int32) (p1 : Int32) : Nat → Int32 → Option (Int32) := lpp1 (fun s1 kk2 => (if v_tents ≤ s1 then some ((-1)) else rd f_yards 10 s1 (fun x2 => (if x2 = p1 then some s1 else nm (s1 + 1) (fun x3 => kk2 x3)))))
def F_X0_tentOn (n0 : Nat) (v_tents : Int32) (f_yards : Nat → Int32) (p1 : Int32) : Option (Int32) := L_X0_tentOn_2 v_tents f_yards p1 n0 0
set_option maxRecDepth 100000 in
set_option maxHeartbeats 4000000 in
theorem k_X0_tentOn (l : Launch) (dC : Nat → ClassId) (dI : Nat → Nat → Nat) (cI cB cO : ClassId) (n0 sz : Nat) (a_t : Nat) (a_kinds : Nat) (a_yards : Nat) (a_spots : Nat)   (v_tents : Int32) (v_said : Int32) (v_wall : Int32) (v_bridge : Int32) (v_counted : Int32) (v_day : Int32) (v_z : Int32) (f_yards : Nat → Int32) (p1 : Int32)  {ro : Int32} (hF : F_X0_tentOn n0 v_tents f_yards p1 = some ro) : Met l yX0_tentOn wsX0_tentOn rmX0_tentOn (va_Pc [.ref a_t, .int p1] (gPre (dC, dI) (gT cI cB cO) sz [oX0 a_t a_kinds a_yards a_spots v_tents v_said v_wall v_bridge v_counted v_day v_z, aA cI a_yards 10 f_yards])) (gQi (dC, dI) (gT cI cB cO) sz [oX0 a_t a_kinds a_yards a_spots v_tents v_said v_wall v_bridge v_counted v_day v_z, aA cI a_yards 10 f_yards] ro [oX0 a_t a_kinds a_yards a_spots v_tents v_said v_wall v_bridge v_counted v_day v_z, aA cI a_yards 10 f_yards]) 0 0 (va_A [oX0 a_t a_kinds a_yards a_spots v_tents v_said v_wall v_bridge v_counted v_day v_z, aA cI a_yards 10 f_yards] sz) := by
  refine g_metI (Out := Int32) (fun oo => oo) (fun oo => [oX0 a_t a_kinds a_yards a_spots v_tents v_said v_wall v_bridge v_counted v_day v_z, aA cI a_yards 10 f_yards]) ro (own := RX0) (lv := [(0, .ref a_t), (1, .int p1)]) (by decide) rfl rfl (Nat.le_of_ble_eq_true rfl) rfl ?_
  intro p e s m args below meth c Q ls C hret hV hl
  obtain ⟨out, hout⟩ : ∃ z : Int32, z = ro := ⟨_, rfl⟩
  rw [← hout] at hF hret
  obtain ⟨H0, hH0⟩ : ∃ z : Heap, z = s.heap := ⟨_, rfl⟩
  obtain ⟨A0, hA0⟩ : ∃ z : Nat → Prop, z = va_A [oX0 a_t a_kinds a_yards a_spots v_tents v_said v_wall v_bridge v_counted v_day v_z, aA cI a_yards 10 f_yards] s.heap.size := ⟨_, rfl⟩
  rw [← hA0] at hret hV
  rw [← hH0] at hret hV
  rw [← hH0]
  obtain ⟨H, locs, hH⟩ : ∃ (z : Heap) (y : List Loc), z = H0 ∧ y = [] := ⟨_, _, rfl, rfl⟩
  rw [← hH.1, ← hH.2]
  have hV : gV (dC, dI) (gT cI cB cO) A0 H0 s [oX0 a_t a_kinds a_yards a_spots v_tents v_said v_wall v_bridge v_counted v_day v_z, aA cI a_yards 10 f_yards] H locs := by rw [hH.1, hH.2]; exact hV
  unfold F_X0_tentOn at hF
  refine lv_iconst (v := 0) C.1 C.2.1 dX0_tentOn_0 rfl ?_
  refine lv_istore_n (lv' := [(2, .int 0), (0, .ref a_t), (1, .int p1)]) C.1 C.2.1 dX0_tentOn_1 rfl hl (by decide) rfl (fun ls hl => ?_)
  have hL2 : ∀ (n : Nat) (s1 : Int32) (H : Heap) (locs : List Loc) (ls : Array Slot), gV (dC, dI) (gT cI cB cO) A0 H0 s [oX0 a_t a_kinds a_yards a_spots v_tents v_said v_wall v_bridge v_counted v_day v_z, aA cI a_yards 10 f_yards] H locs → lv_has ls 3 [(0, .ref a_t), (1, .int p1), (2, .int s1)] → L_X0_tentOn_2 v_tents f_yards p1 n s1 = some out → W p l e rmX0_tentOn s m args below meth c H locs 0 0 Q (F0 m 2 ls []) := by
    intro n
    induction n with
    | zero => intro s1 H locs ls hV hl hF; exact lpp1_z hF
    | succ n ih2 =>
      intro s1 H locs ls hV hl hF
      obtain ⟨kk2, hk2, hF⟩ := lpp1_g hF
      have hq2 : ∀ (s1 : Int32), kk2 s1 = some out → L_X0_tentOn_2 v_tents f_yards p1 n s1 = some out := fun _ h => by rw [hk2] at h; exact h
      refine lv_iload_n C.1 C.2.1 dX0_tentOn_2 rfl (lv_at hl 2 rfl) ?_
      refine lv_aload_n C.1 C.2.1 dX0_tentOn_3 rfl (lv_at hl 0 rfl) ?_
      refine g_get C hV flX0_tentOn_41 0 rfl rfl dX0_tentOn_4 ?_
      refine g_icmp_ge (tgt := 28) C hF dX0_tentOn_7 rfl (fun hF => ?_) (fun hF => ?_)
      · refine lv_iconst (v := (-1)) C.1 C.2.1 dX0_tentOn_28 rfl ?_
        exact hret ((-1)) _ _ _ _ dX0_tentOn_29 hF hV
      refine lv_aload_n C.1 C.2.1 dX0_tentOn_10 rfl (lv_at hl 0 rfl) ?_
      refine g_get C hV flX0_tentOn_15 0 rfl rfl dX0_tentOn_11 ?_
      refine lv_iload_n C.1 C.2.1 dX0_tentOn_14 rfl (lv_at hl 2 rfl) ?_
      refine g_iald C hV 1 rfl hF dX0_tentOn_15 (fun x2 hF => ?_)
      refine lv_iload_n C.1 C.2.1 dX0_tentOn_16 rfl (lv_at hl 1 rfl) ?_
      refine g_icmp_ne (tgt := 22) C hF dX0_tentOn_17 rfl (fun hF => ?_) (fun hF => ?_)
      · refine g_iinc C hF dX0_tentOn_22 (d := 1) rfl hl (j := 2) rfl (by decide) (fun y => [(2, .int y), (0, .ref a_t), (1, .int p1)]) (fun _ => rfl) (fun x3 ls hF hl => ?_)
        refine lv_goto (tgt := 2) C.1 C.2.1 dX0_tentOn_25 rfl ?_
        exact ih2 x3 H locs ls hV (lv_sub hl [1, 2, 0] rfl) (hq2 x3 hF)
      refine lv_iload_n C.1 C.2.1 dX0_tentOn_20 rfl (lv_at hl 2 rfl) ?_
      exact hret s1 _ _ _ _ dX0_tentOn_21 hF hV
  exact hL2 n0 0 H locs ls hV (lv_sub hl [1, 2, 0] rfl) hF
abbrev rmX0_mayStand : Room := { frames := 1, cells := 0, slots := 0, locals := 22 }
theorem mdX0_mayStand : gMd yX0_mayStand wsX0_mayStand cX0_mayStand 4 (some .boolean) 2 := ⟨⟨_, rfl⟩, by decide +kernel⟩
def F_X0_mayStand (n0 : Nat) (v_tents : Int32) (f_yards : Nat → Int32) (p1 : Int32) (p2 : Int32) : Option (Int32) := bd1 (F_X0_tentOn n0 v_tents f_yards p2) (fun x1 => (if x1 = ((-1)) then some (1 : Int32) else (if x1 = p1 then some (1 : Int32) else some (0 : Int32))))
set_option maxRecDepth 100000 in
set_option maxHeartbeats 4000000 in
theorem k_X0_mayStand (l : Launch) (dC : Nat → ClassId) (dI : Nat → Nat → Nat) (cI cB cO : ClassId) (n0 sz : Nat) (a_t : Nat) (a_kinds : Nat) (a_yards : Nat) (a_spots : Nat)   (v_tents : Int32) (v_said : Int32) (v_wall : Int32) (v_bridge : Int32) (v_counted : Int32) (v_day : Int32) (v_z : Int32) (f_yards : Nat → Int32) (p1 : Int32) (p2 : Int32)  {ro : Int32} (hF : F_X0_mayStand n0 v_tents f_yards p1 p2 = some ro) : Met l yX0_mayStand wsX0_mayStand rmX0_mayStand (va_Pc [.ref a_t, .int p1, .int p2] (gPre (dC, dI) (gT cI cB cO) sz [oX0 a_t a_kinds a_yards a_spots v_tents v_said v_wall v_bridge v_counted v_day v_z, aA cI a_yards 10 f_yards])) (gQi (dC, dI) (gT cI cB cO) sz [oX0 a_t a_kinds a_yards a_spots v_tents v_said v_wall v_bridge v_counted v_day v_z, aA cI a_yards 10 f_yards] ro [oX0 a_t a_kinds a_yards a_spots v_tents v_said v_wall v_bridge v_counted v_day v_z, aA cI a_yards 10 f_yards]) 0 0 (va_A [oX0 a_t a_kinds a_yards a_spots v_tents v_said v_wall v_bridge v_counted v_day v_z, aA cI a_yards 10 f_yards] sz) := by
  refine g_metZ (Out := Int32) (fun oo => oo) (fun oo => [oX0 a_t a_kinds a_yards a_spots v_tents v_said v_wall v_bridge v_counted v_day v_z, aA cI a_yards 10 f_yards]) ro (own := RX0) (lv := [(0, .ref a_t), (1, .int p1), (2, .int p2)]) (by decide) rfl rfl (Nat.le_of_ble_eq_true rfl) rfl ?_
  intro p e s m args below meth c Q ls C hret hV hl
  obtain ⟨out, hout⟩ : ∃ z : Int32, z = ro := ⟨_, rfl⟩
  rw [← hout] at hF hret
  obtain ⟨H0, hH0⟩ : ∃ z : Heap, z = s.heap := ⟨_, rfl⟩
  obtain ⟨A0, hA0⟩ : ∃ z : Nat → Prop, z = va_A [oX0 a_t a_kinds a_yards a_spots v_tents v_said v_wall v_bridge v_counted v_day v_z, aA cI a_yards 10 f_yards] s.heap.size := ⟨_, rfl⟩
  rw [← hA0] at hret hV
  rw [← hH0] at hret hV
  rw [← hH0]
  obtain ⟨H, locs, hH⟩ : ∃ (z : Heap) (y : List Loc), z = H0 ∧ y = [] := ⟨_, _, rfl, rfl⟩
  rw [← hH.1, ← hH.2]
  have hV : gV (dC, dI) (gT cI cB cO) A0 H0 s [oX0 a_t a_kinds a_yards a_spots v_tents v_said v_wall v_bridge v_counted v_day v_z, aA cI a_yards 10 f_yards] H locs := by rw [hH.1, hH.2]; exact hV
  unfold F_X0_mayStand at hF
  refine lv_aload_n C.1 C.2.1 dX0_mayStand_0 rfl (lv_at hl 0 rfl) ?_
  refine lv_iload_n C.1 C.2.1 dX0_mayStand_1 rfl (lv_at hl 2 rfl) ?_
  obtain ⟨x1, hc, hF⟩ := bd1_s hF
  refine g_cVi (ws' := [oX0 a_t a_kinds a_yards a_spots v_tents v_said v_wall v_bridge v_counted v_day v_z, aA cI a_yards 10 f_yards]) (wr := []) C hV (k_X0_tentOn l dC dI cI cB cO n0 H.size a_t a_kinds a_yards a_spots v_tents v_said v_wall v_bridge v_counted v_day v_z f_yards p2 hc) mdX0_tentOn gX0_mayStand_X0_tentOn rfl rfl ⟨Nat.le_of_ble_eq_true rfl, Nat.le_of_ble_eq_true rfl⟩ [0, 1] [] [0, 1] rfl rfl rfl rfl rfl rfl rfl rfl rfl rfl hl.1 (Nat.le_of_ble_eq_true rfl) rfl dX0_mayStand_2 (fun H locs hV => ?_)
  refine lv_istore_n (lv' := [(3, .int x1), (0, .ref a_t), (1, .int p1), (2, .int p2)]) C.1 C.2.1 dX0_mayStand_5 rfl hl (by decide) rfl (fun ls hl => ?_)
  refine lv_iload_n C.1 C.2.1 dX0_mayStand_6 rfl (lv_at hl 0 rfl) ?_
  refine lv_iconst (v := (-1)) C.1 C.2.1 dX0_mayStand_7 rfl ?_
  refine g_icmp_eq (tgt := 16) C hF dX0_mayStand_8 rfl (fun hF => ?_) (fun hF => ?_)
  · refine lv_iconst (v := 1) C.1 C.2.1 dX0_mayStand_16 rfl ?_
    refine lv_goto (tgt := 21) C.1 C.2.1 dX0_mayStand_17 rfl ?_
    exact hret (1 : Int32) _ _ _ _ dX0_mayStand_21 hF (Or.inr rfl) hV
  refine lv_iload_n C.1 C.2.1 dX0_mayStand_11 rfl (lv_at hl 0 rfl) ?_
  refine lv_iload_n C.1 C.2.1 dX0_mayStand_12 rfl (lv_at hl 2 rfl) ?_
  refine g_icmp_ne (tgt := 20) C hF dX0_mayStand_13 rfl (fun hF => ?_) (fun hF => ?_)
  · refine lv_iconst (v := 0) C.1 C.2.1 dX0_mayStand_20 rfl ?_
    exact hret (0 : Int32) _ _ _ _ dX0_mayStand_21 hF (Or.inl rfl) hV
  refine lv_iconst (v := 1) C.1 C.2.1 dX0_mayStand_16 rfl ?_
  refine lv_goto (tgt := 21) C.1 C.2.1 dX0_mayStand_17 rfl ?_
  exact hret (1 : Int32) _ _ _ _ dX0_mayStand_21 hF (Or.inr rfl) hV
abbrev rmX0_pitch : Room := { frames := 1, cells := 0, slots := 0, locals := 22 }
theorem mdX0_pitch : gMd yX0_pitch wsX0_pitch cX0_pitch 5 (some .int) 3 := ⟨⟨_, rfl⟩, by decide +kernel⟩
theorem flX0_pitch_41 : gFL wsX0_pitch RX0 41 0 3 RX0 TX0 10 := ⟨rfl, fun w h => List.mem_cons_of_mem _ (List.mem_append_right _ (h)), Nat.le_of_ble_eq_true rfl, List.mem_cons_of_mem _ (List.mem_append_left _ (List.mem_of_getElem? (i := 0) rfl))⟩
theorem fpX0_pitch_41 : gFP wsX0_pitch RX0 41 0 3 RX0 TX0 10 .int := ⟨flX0_pitch_41, ⟨tyX0, tyX0_ok⟩, nmX0, rfl, by decide +kernel⟩
theorem flX0_pitch_9 : gFL wsX0_pitch RX0 9 0 0 RX0 TX0 10 := ⟨rfl, fun w h => List.mem_cons_of_mem _ (List.mem_append_right _ (h)), Nat.le_of_ble_eq_true rfl, List.mem_cons_of_mem _ (List.mem_append_left _ (List.mem_of_getElem? (i := 1) rfl))⟩
theorem flX0_pitch_15 : gFL wsX0_pitch RX0 15 0 1 RX0 TX0 10 := ⟨rfl, fun w h => List.mem_cons_of_mem _ (List.mem_append_right _ (h)), Nat.le_of_ble_eq_true rfl, List.mem_cons_of_mem _ (List.mem_append_left _ (List.mem_of_getElem? (i := 2) rfl))⟩
def F_X0_pitch (n0 : Nat) (v_tents : Int32) (v_said : Int32) (f_kinds : Nat → Int32) (f_yards : Nat → Int32) (p1 : Int32) (p2 : Int32) (p3 : Int32) : Option (Int32 × Int32 × Int32 × (Nat → Int32) × (Nat → Int32)) := (if v_tents < 10 then nm (v_tents + 1) (fun x1 => wrt f_kinds 10 v_tents p1 (fun g2 => wrt f_yards 10 v_tents p2 (fun g3 => bd1 (F_X0_giveWord n0 v_said v_tents p3) (fun x4 => some (v_tents, x1, x4, g2, g3))))) else some ((-1), v_tents, v_said, f_kinds, f_yards))
set_option maxRecDepth 100000 in
set_option maxHeartbeats 4000000 in
theorem k_X0_pitch (l : Launch) (dC : Nat → ClassId) (dI : Nat → Nat → Nat) (cI cB cO : ClassId) (n0 sz : Nat) (a_t : Nat) (a_kinds : Nat) (a_yards : Nat) (a_spots : Nat)   (v_tents : Int32) (v_said : Int32) (v_wall : Int32) (v_bridge : Int32) (v_counted : Int32) (v_day : Int32) (v_z : Int32) (f_kinds : Nat → Int32) (f_yards : Nat → Int32) (p1 : Int32) (p2 : Int32) (p3 : Int32)  {ro : Int32} {o0 : Int32} {o1 : Int32} {o2 : Nat → Int32} {o3 : Nat → Int32} (hF : F_X0_pitch n0 v_tents v_said f_kinds f_yards p1 p2 p3 = some (ro, o0, o1, o2, o3)) : Met l yX0_pitch wsX0_pitch rmX0_pitch (va_Pc [.ref a_t, .int p1, .int p2, .int p3] (gPre (dC, dI) (gT cI cB cO) sz [oX0 a_t a_kinds a_yards a_spots v_tents v_said v_wall v_bridge v_counted v_day v_z, aA cI a_kinds 10 f_kinds, aA cI a_yards 10 f_yards])) (gQi (dC, dI) (gT cI cB cO) sz [oX0 a_t a_kinds a_yards a_spots v_tents v_said v_wall v_bridge v_counted v_day v_z, aA cI a_kinds 10 f_kinds, aA cI a_yards 10 f_yards] ro [oX0 a_t a_kinds a_yards a_spots o0 o1 v_wall v_bridge v_counted v_day v_z, aA cI a_kinds 10 o2, aA cI a_yards 10 o3]) 0 0 (va_A [oX0 a_t a_kinds a_yards a_spots v_tents v_said v_wall v_bridge v_counted v_day v_z, aA cI a_kinds 10 f_kinds, aA cI a_yards 10 f_yards] sz) := by
  refine g_metI (Out := Int32 × Int32 × Int32 × (Nat → Int32) × (Nat → Int32)) (fun oo => oo.1) (fun oo => [oX0 a_t a_kinds a_yards a_spots oo.2.1 oo.2.2.1 v_wall v_bridge v_counted v_day v_z, aA cI a_kinds 10 oo.2.2.2.1, aA cI a_yards 10 oo.2.2.2.2]) (ro, o0, o1, o2, o3) (own := RX0) (lv := [(0, .ref a_t), (1, .int p1), (2, .int p2), (3, .int p3)]) (by decide) rfl rfl (Nat.le_of_ble_eq_true rfl) rfl ?_
  intro p e s m args below meth c Q ls C hret hV hl
  obtain ⟨out, hout⟩ : ∃ z : Int32 × Int32 × Int32 × (Nat → Int32) × (Nat → Int32), z = (ro, o0, o1, o2, o3) := ⟨_, rfl⟩
  rw [← hout] at hF hret
  obtain ⟨H0, hH0⟩ : ∃ z : Heap, z = s.heap := ⟨_, rfl⟩
  obtain ⟨A0, hA0⟩ : ∃ z : Nat → Prop, z = va_A [oX0 a_t a_kinds a_yards a_spots v_tents v_said v_wall v_bridge v_counted v_day v_z, aA cI a_kinds 10 f_kinds, aA cI a_yards 10 f_yards] s.heap.size := ⟨_, rfl⟩
  rw [← hA0] at hret hV
  rw [← hH0] at hret hV
  rw [← hH0]
  obtain ⟨H, locs, hH⟩ : ∃ (z : Heap) (y : List Loc), z = H0 ∧ y = [] := ⟨_, _, rfl, rfl⟩
  rw [← hH.1, ← hH.2]
  have hV : gV (dC, dI) (gT cI cB cO) A0 H0 s [oX0 a_t a_kinds a_yards a_spots v_tents v_said v_wall v_bridge v_counted v_day v_z, aA cI a_kinds 10 f_kinds, aA cI a_yards 10 f_yards] H locs := by rw [hH.1, hH.2]; exact hV
  unfold F_X0_pitch at hF
  refine lv_aload_n C.1 C.2.1 dX0_pitch_0 rfl (lv_at hl 0 rfl) ?_
  refine g_get C hV flX0_pitch_41 0 rfl rfl dX0_pitch_1 ?_
  refine lv_bipush (v := 10) C.1 C.2.1 dX0_pitch_4 rfl ?_
  refine g_icmp_lt (tgt := 11) C hF dX0_pitch_6 rfl (fun hF => ?_) (fun hF => ?_)
  · refine lv_aload_n C.1 C.2.1 dX0_pitch_11 rfl (lv_at hl 0 rfl) ?_
    refine g_get C hV flX0_pitch_41 0 rfl rfl dX0_pitch_12 ?_
    refine lv_istore (lv' := [(4, .int v_tents), (0, .ref a_t), (1, .int p1), (2, .int p2), (3, .int p3)]) C.1 C.2.1 dX0_pitch_15 hl (by decide) rfl (fun ls hl => ?_)
    refine lv_aload_n C.1 C.2.1 dX0_pitch_17 rfl (lv_at hl 1 rfl) ?_
    refine lv_dup C.1 C.2.1 dX0_pitch_18 rfl ?_
    refine g_get C hV flX0_pitch_41 0 rfl rfl dX0_pitch_19 ?_
    refine lv_iconst (v := 1) C.1 C.2.1 dX0_pitch_22 rfl ?_
    refine g_iadd C hF dX0_pitch_23 (fun x1 hF => ?_)
    refine g_put (ws' := [oX0 a_t a_kinds a_yards a_spots x1 v_said v_wall v_bridge v_counted v_day v_z, aA cI a_kinds 10 f_kinds, aA cI a_yards 10 f_yards]) C hV fpX0_pitch_41 0 rfl rfl rfl (Nat.le_of_ble_eq_true rfl) rfl dX0_pitch_24 (fun H locs hV => ?_)
    refine lv_aload_n C.1 C.2.1 dX0_pitch_27 rfl (lv_at hl 1 rfl) ?_
    refine g_get C hV flX0_pitch_9 0 rfl rfl dX0_pitch_28 ?_
    refine lv_iload C.1 C.2.1 dX0_pitch_31 (lv_at hl 0 rfl) ?_
    refine lv_iload_n C.1 C.2.1 dX0_pitch_33 rfl (lv_at hl 2 rfl) ?_
    refine g_iast C hV 1 rfl hF (fun gq => [oX0 a_t a_kinds a_yards a_spots x1 v_said v_wall v_bridge v_counted v_day v_z, aA cI a_kinds 10 gq, aA cI a_yards 10 f_yards]) (fun _ => rfl) dX0_pitch_34 (fun g2 H locs hF hV => ?_)
    refine lv_aload_n C.1 C.2.1 dX0_pitch_35 rfl (lv_at hl 1 rfl) ?_
    refine g_get C hV flX0_pitch_15 0 rfl rfl dX0_pitch_36 ?_
    refine lv_iload C.1 C.2.1 dX0_pitch_39 (lv_at hl 0 rfl) ?_
    refine lv_iload_n C.1 C.2.1 dX0_pitch_41 rfl (lv_at hl 3 rfl) ?_
    refine g_iast C hV 2 rfl hF (fun gq => [oX0 a_t a_kinds a_yards a_spots x1 v_said v_wall v_bridge v_counted v_day v_z, aA cI a_kinds 10 g2, aA cI a_yards 10 gq]) (fun _ => rfl) dX0_pitch_42 (fun g3 H locs hF hV => ?_)
    refine lv_aload_n C.1 C.2.1 dX0_pitch_43 rfl (lv_at hl 1 rfl) ?_
    refine lv_iload C.1 C.2.1 dX0_pitch_44 (lv_at hl 0 rfl) ?_
    refine lv_iload_n C.1 C.2.1 dX0_pitch_46 rfl (lv_at hl 4 rfl) ?_
    obtain ⟨x4, hc, hF⟩ := bd1_s hF
    refine g_cVv (ws' := [oX0 a_t a_kinds a_yards a_spots x1 x4 v_wall v_bridge v_counted v_day v_z, aA cI a_kinds 10 g2, aA cI a_yards 10 g3]) (wr := [aA cI a_kinds 10 g2, aA cI a_yards 10 g3]) C hV (k_X0_giveWord l dC dI cI cB cO n0 H.size a_t a_kinds a_yards a_spots x1 v_said v_wall v_bridge v_counted v_day v_z v_tents p3 hc) mdX0_giveWord gX0_pitch_X0_giveWord rfl rfl ⟨Nat.le_of_ble_eq_true rfl, Nat.le_of_ble_eq_true rfl⟩ [0] [1, 2] [2, 0, 1] rfl rfl rfl rfl rfl rfl rfl rfl rfl rfl hl.1 (Nat.le_of_ble_eq_true rfl) rfl dX0_pitch_47 (fun H locs hV => ?_)
    refine lv_iload C.1 C.2.1 dX0_pitch_50 (lv_at hl 0 rfl) ?_
    exact hret (v_tents, x1, x4, g2, g3) _ _ _ _ dX0_pitch_52 hF hV
  refine lv_iconst (v := (-1)) C.1 C.2.1 dX0_pitch_9 rfl ?_
  exact hret ((-1), v_tents, v_said, f_kinds, f_yards) _ _ _ _ dX0_pitch_10 hF hV
abbrev rmX0_strike : Room := { frames := 1, cells := 0, slots := 0, locals := 21 }
theorem mdX0_strike : gMd yX0_strike wsX0_strike cX0_strike 3 none 1 := ⟨⟨_, rfl⟩, by decide +kernel⟩
theorem flX0_strike_41 : gFL wsX0_strike RX0 41 0 3 RX0 TX0 10 := ⟨rfl, fun w h => List.mem_cons_of_mem _ (List.mem_append_right _ (h)), Nat.le_of_ble_eq_true rfl, List.mem_cons_of_mem _ (List.mem_append_left _ (List.mem_of_getElem? (i := 0) rfl))⟩
theorem fpX0_strike_41 : gFP wsX0_strike RX0 41 0 3 RX0 TX0 10 .int := ⟨flX0_strike_41, ⟨tyX0, tyX0_ok⟩, nmX0, rfl, by decide +kernel⟩
theorem flX0_strike_9 : gFL wsX0_strike RX0 9 0 0 RX0 TX0 10 := ⟨rfl, fun w h => List.mem_cons_of_mem _ (List.mem_append_right _ (h)), Nat.le_of_ble_eq_true rfl, List.mem_cons_of_mem _ (List.mem_append_left _ (List.mem_of_getElem? (i := 1) rfl))⟩
theorem flX0_strike_15 : gFL wsX0_strike RX0 15 0 1 RX0 TX0 10 := ⟨rfl, fun w h => List.mem_cons_of_mem _ (List.mem_append_right _ (h)), Nat.le_of_ble_eq_true rfl, List.mem_cons_of_mem _ (List.mem_append_left _ (List.mem_of_getElem? (i := 2) rfl))⟩
def L_X0_strike_11 (v_tents : Int32) : Nat → Int32 → (Nat → Int32) → (Nat → Int32) → Option (Int32 × (Nat → Int32) × (Nat → Int32)) := lpp3 (fun s2 t3 t4 kk11 => nm (v_tents - 1) (fun x5 => (if x5 ≤ s2 then nm (v_tents - 1) (fun x6 => some (x6, t3, t4)) else nm (s2 + 1) (fun x7 => rd t3 10 x7 (fun x8 => wrt t3 10 s2 x8 (fun g9 => nm (s2 + 1) (fun x10 => rd t4 10 x10 (fun x11 => wrt t4 10 s2 x11 (fun g12 => nm (s2 + 1) (fun x13 => kk11 x13 g9 g12))))))))))
def F_X0_strike (n0 : Nat) (v_tents : Int32) (f_kinds : Nat → Int32) (f_yards : Nat → Int32) (p1 : Int32) : Option (Int32 × (Nat → Int32) × (Nat → Int32)) := bd1 (F_X0_has n0 v_tents p1) (fun x1 => (if x1 = 0 then some (v_tents, f_kinds, f_yards) else L_X0_strike_11 v_tents n0 p1 f_kinds f_yards))
set_option maxRecDepth 100000 in
set_option maxHeartbeats 4000000 in
theorem k_X0_strike (l : Launch) (dC : Nat → ClassId) (dI : Nat → Nat → Nat) (cI cB cO : ClassId) (n0 sz : Nat) (a_t : Nat) (a_kinds : Nat) (a_yards : Nat) (a_spots : Nat)   (v_tents : Int32) (v_said : Int32) (v_wall : Int32) (v_bridge : Int32) (v_counted : Int32) (v_day : Int32) (v_z : Int32) (f_kinds : Nat → Int32) (f_yards : Nat → Int32) (p1 : Int32)  {o0 : Int32} {o1 : Nat → Int32} {o2 : Nat → Int32} (hF : F_X0_strike n0 v_tents f_kinds f_yards p1 = some (o0, o1, o2)) : Met l yX0_strike wsX0_strike rmX0_strike (va_Pc [.ref a_t, .int p1] (gPre (dC, dI) (gT cI cB cO) sz [oX0 a_t a_kinds a_yards a_spots v_tents v_said v_wall v_bridge v_counted v_day v_z, aA cI a_kinds 10 f_kinds, aA cI a_yards 10 f_yards])) (gQv (dC, dI) (gT cI cB cO) sz [oX0 a_t a_kinds a_yards a_spots v_tents v_said v_wall v_bridge v_counted v_day v_z, aA cI a_kinds 10 f_kinds, aA cI a_yards 10 f_yards] [oX0 a_t a_kinds a_yards a_spots o0 v_said v_wall v_bridge v_counted v_day v_z, aA cI a_kinds 10 o1, aA cI a_yards 10 o2]) 0 0 (va_A [oX0 a_t a_kinds a_yards a_spots v_tents v_said v_wall v_bridge v_counted v_day v_z, aA cI a_kinds 10 f_kinds, aA cI a_yards 10 f_yards] sz) := by
  refine g_metV (Out := Int32 × (Nat → Int32) × (Nat → Int32)) (fun oo => [oX0 a_t a_kinds a_yards a_spots oo.1 v_said v_wall v_bridge v_counted v_day v_z, aA cI a_kinds 10 oo.2.1, aA cI a_yards 10 oo.2.2]) (o0, o1, o2) (own := RX0) (lv := [(0, .ref a_t), (1, .int p1)]) (by decide) rfl rfl (Nat.le_of_ble_eq_true rfl) rfl ?_
  intro p e s m args below meth c Q ls C hret hV hl
  obtain ⟨out, hout⟩ : ∃ z : Int32 × (Nat → Int32) × (Nat → Int32), z = (o0, o1, o2) := ⟨_, rfl⟩
  rw [← hout] at hF hret
  obtain ⟨H0, hH0⟩ : ∃ z : Heap, z = s.heap := ⟨_, rfl⟩
  obtain ⟨A0, hA0⟩ : ∃ z : Nat → Prop, z = va_A [oX0 a_t a_kinds a_yards a_spots v_tents v_said v_wall v_bridge v_counted v_day v_z, aA cI a_kinds 10 f_kinds, aA cI a_yards 10 f_yards] s.heap.size := ⟨_, rfl⟩
  rw [← hA0] at hret hV
  rw [← hH0] at hret hV
  rw [← hH0]
  obtain ⟨H, locs, hH⟩ : ∃ (z : Heap) (y : List Loc), z = H0 ∧ y = [] := ⟨_, _, rfl, rfl⟩
  rw [← hH.1, ← hH.2]
  have hV : gV (dC, dI) (gT cI cB cO) A0 H0 s [oX0 a_t a_kinds a_yards a_spots v_tents v_said v_wall v_bridge v_counted v_day v_z, aA cI a_kinds 10 f_kinds, aA cI a_yards 10 f_yards] H locs := by rw [hH.1, hH.2]; exact hV
  unfold F_X0_strike at hF
  refine lv_aload_n C.1 C.2.1 dX0_strike_0 rfl (lv_at hl 0 rfl) ?_
  refine lv_iload_n C.1 C.2.1 dX0_strike_1 rfl (lv_at hl 1 rfl) ?_
  obtain ⟨x1, hc, hF⟩ := bd1_s hF
  refine g_cVi (ws' := [oX0 a_t a_kinds a_yards a_spots v_tents v_said v_wall v_bridge v_counted v_day v_z, aA cI a_kinds 10 f_kinds, aA cI a_yards 10 f_yards]) (wr := [aA cI a_kinds 10 f_kinds, aA cI a_yards 10 f_yards]) C hV (k_X0_has l dC dI cI cB cO n0 H.size a_t a_kinds a_yards a_spots v_tents v_said v_wall v_bridge v_counted v_day v_z p1 hc) mdX0_has gX0_strike_X0_has rfl rfl ⟨Nat.le_of_ble_eq_true rfl, Nat.le_of_ble_eq_true rfl⟩ [0] [1, 2] [2, 0, 1] rfl rfl rfl rfl rfl rfl rfl rfl rfl rfl hl.1 (Nat.le_of_ble_eq_true rfl) rfl dX0_strike_2 (fun H locs hV => ?_)
  refine g_if_ne (tgt := 9) C hF dX0_strike_5 rfl (fun hF => ?_) (fun hF => ?_)
  · refine lv_iload_n C.1 C.2.1 dX0_strike_9 rfl (lv_at hl 1 rfl) ?_
    refine lv_istore_n (lv' := [(2, .int p1), (0, .ref a_t), (1, .int p1)]) C.1 C.2.1 dX0_strike_10 rfl hl (by decide) rfl (fun ls hl => ?_)
    have hL11 : ∀ (n : Nat) (s2 : Int32) (t3 : Nat → Int32) (t4 : Nat → Int32) (H : Heap) (locs : List Loc) (ls : Array Slot), gV (dC, dI) (gT cI cB cO) A0 H0 s [oX0 a_t a_kinds a_yards a_spots v_tents v_said v_wall v_bridge v_counted v_day v_z, aA cI a_kinds 10 t3, aA cI a_yards 10 t4] H locs → lv_has ls 3 [(0, .ref a_t), (2, .int s2)] → L_X0_strike_11 v_tents n s2 t3 t4 = some out → W p l e rmX0_strike s m args below meth c H locs 0 0 Q (F0 m 11 ls []) := by
      intro n
      induction n with
      | zero => intro s2 t3 t4 H locs ls hV hl hF; exact lpp3_z hF
      | succ n ih11 =>
        intro s2 t3 t4 H locs ls hV hl hF
        obtain ⟨kk11, hk11, hF⟩ := lpp3_g hF
        have hq11 : ∀ (s2 : Int32) (t3 : Nat → Int32) (t4 : Nat → Int32), kk11 s2 t3 t4 = some out → L_X0_strike_11 v_tents n s2 t3 t4 = some out := fun _ _ _ h => by rw [hk11] at h; exact h
        refine lv_iload_n C.1 C.2.1 dX0_strike_11 rfl (lv_at hl 1 rfl) ?_
        refine lv_aload_n C.1 C.2.1 dX0_strike_12 rfl (lv_at hl 0 rfl) ?_
        refine g_get C hV flX0_strike_41 0 rfl rfl dX0_strike_13 ?_
        refine lv_iconst (v := 1) C.1 C.2.1 dX0_strike_16 rfl ?_
        refine g_isub C hF dX0_strike_17 (fun x5 hF => ?_)
        refine g_icmp_ge (tgt := 55) C hF dX0_strike_18 rfl (fun hF => ?_) (fun hF => ?_)
        · refine lv_aload_n C.1 C.2.1 dX0_strike_55 rfl (lv_at hl 0 rfl) ?_
          refine lv_dup C.1 C.2.1 dX0_strike_56 rfl ?_
          refine g_get C hV flX0_strike_41 0 rfl rfl dX0_strike_57 ?_
          refine lv_iconst (v := 1) C.1 C.2.1 dX0_strike_60 rfl ?_
          refine g_isub C hF dX0_strike_61 (fun x6 hF => ?_)
          refine g_put (ws' := [oX0 a_t a_kinds a_yards a_spots x6 v_said v_wall v_bridge v_counted v_day v_z, aA cI a_kinds 10 t3, aA cI a_yards 10 t4]) C hV fpX0_strike_41 0 rfl rfl rfl (Nat.le_of_ble_eq_true rfl) rfl dX0_strike_62 (fun H locs hV => ?_)
          exact hret (x6, t3, t4) _ _ _ _ dX0_strike_65 hF hV
        refine lv_aload_n C.1 C.2.1 dX0_strike_21 rfl (lv_at hl 0 rfl) ?_
        refine g_get C hV flX0_strike_9 0 rfl rfl dX0_strike_22 ?_
        refine lv_iload_n C.1 C.2.1 dX0_strike_25 rfl (lv_at hl 1 rfl) ?_
        refine lv_aload_n C.1 C.2.1 dX0_strike_26 rfl (lv_at hl 0 rfl) ?_
        refine g_get C hV flX0_strike_9 0 rfl rfl dX0_strike_27 ?_
        refine lv_iload_n C.1 C.2.1 dX0_strike_30 rfl (lv_at hl 1 rfl) ?_
        refine lv_iconst (v := 1) C.1 C.2.1 dX0_strike_31 rfl ?_
        refine g_iadd C hF dX0_strike_32 (fun x7 hF => ?_)
        refine g_iald C hV 1 rfl hF dX0_strike_33 (fun x8 hF => ?_)
        refine g_iast C hV 1 rfl hF (fun gq => [oX0 a_t a_kinds a_yards a_spots v_tents v_said v_wall v_bridge v_counted v_day v_z, aA cI a_kinds 10 gq, aA cI a_yards 10 t4]) (fun _ => rfl) dX0_strike_34 (fun g9 H locs hF hV => ?_)
        refine lv_aload_n C.1 C.2.1 dX0_strike_35 rfl (lv_at hl 0 rfl) ?_
        refine g_get C hV flX0_strike_15 0 rfl rfl dX0_strike_36 ?_
        refine lv_iload_n C.1 C.2.1 dX0_strike_39 rfl (lv_at hl 1 rfl) ?_
        refine lv_aload_n C.1 C.2.1 dX0_strike_40 rfl (lv_at hl 0 rfl) ?_
        refine g_get C hV flX0_strike_15 0 rfl rfl dX0_strike_41 ?_
        refine lv_iload_n C.1 C.2.1 dX0_strike_44 rfl (lv_at hl 1 rfl) ?_
        refine lv_iconst (v := 1) C.1 C.2.1 dX0_strike_45 rfl ?_
        refine g_iadd C hF dX0_strike_46 (fun x10 hF => ?_)
        refine g_iald C hV 2 rfl hF dX0_strike_47 (fun x11 hF => ?_)
        refine g_iast C hV 2 rfl hF (fun gq => [oX0 a_t a_kinds a_yards a_spots v_tents v_said v_wall v_bridge v_counted v_day v_z, aA cI a_kinds 10 g9, aA cI a_yards 10 gq]) (fun _ => rfl) dX0_strike_48 (fun g12 H locs hF hV => ?_)
        refine g_iinc C hF dX0_strike_49 (d := 1) rfl hl (j := 1) rfl (by decide) (fun y => [(2, .int y), (0, .ref a_t)]) (fun _ => rfl) (fun x13 ls hF hl => ?_)
        refine lv_goto (tgt := 11) C.1 C.2.1 dX0_strike_52 rfl ?_
        exact ih11 x13 g9 g12 H locs ls hV (lv_sub hl [1, 0] rfl) (hq11 x13 g9 g12 hF)
    exact hL11 n0 p1 f_kinds f_yards H locs ls hV (lv_sub hl [1, 0] rfl) hF
  exact hret (v_tents, f_kinds, f_yards) _ _ _ _ dX0_strike_8 hF hV
abbrev rmX0_apart : Room := { frames := 1, cells := 0, slots := 0, locals := 30 }
theorem mdX0_apart : gMd yX0_apart wsX0_apart cX0_apart 8 (some .int) 2 := ⟨⟨_, rfl⟩, by decide +kernel⟩
theorem flX0_apart_21 : gFL wsX0_apart RX0 21 0 7 RX0 TX0 10 := ⟨rfl, fun w h => List.mem_cons_of_mem _ (List.mem_append_right _ (h)), Nat.le_of_ble_eq_true rfl, List.mem_cons_of_mem _ (List.mem_append_left _ (List.mem_of_getElem? (i := 0) rfl))⟩
theorem flX0_apart_47 : gFL wsX0_apart RX0 47 0 5 RX0 TX0 10 := ⟨rfl, fun w h => List.mem_cons_of_mem _ (List.mem_append_right _ (h)), Nat.le_of_ble_eq_true rfl, List.mem_cons_of_mem _ (List.mem_append_left _ (List.mem_of_getElem? (i := 1) rfl))⟩
theorem abX0_apart_77 : gMth wsX0_apart RX0 77 Lib.Math.abs.name Lib.Math.abs.code 1 := ⟨List.mem_cons_of_mem _ (List.mem_append_left _ (List.mem_of_getElem? (i := 2) rfl)), List.mem_cons_of_mem _ (List.mem_append_left _ (List.mem_of_getElem? (i := 3) rfl)), List.mem_cons_of_mem _ (List.mem_append_left _ (List.mem_of_getElem? (i := 4) rfl)), List.mem_cons_of_mem _ (List.mem_append_left _ (List.mem_of_getElem? (i := 5) rfl))⟩
theorem flX0_apart_50 : gFL wsX0_apart RX0 50 0 6 RX0 TX0 10 := ⟨rfl, fun w h => List.mem_cons_of_mem _ (List.mem_append_right _ (h)), Nat.le_of_ble_eq_true rfl, List.mem_cons_of_mem _ (List.mem_append_left _ (List.mem_of_getElem? (i := 6) rfl))⟩
def J_X0_apart_97 (x1 : Int32) (x3 : Int32) (x2 : Int32) (x4 : Int32) : Option (Int32) := nm (x1 - x3) (fun x5 => nm (x1 - x3) (fun x6 => nm (x5 * x6) (fun x7 => nm (x2 - x4) (fun x8 => nm (x2 - x4) (fun x9 => nm (x8 * x9) (fun x10 => nm (x7 + x10) (fun x11 => some x11)))))))
def J_X0_apart_57 (k14 : Int32) (k13 : Int32) (x1 : Int32) (x3 : Int32) (x2 : Int32) (x4 : Int32) (v_bridge : Int32) : Option (Int32) := (if k14 = k13 then J_X0_apart_97 x1 x3 x2 x4 else nm (x1 - x3) (fun x15 => nm (if 0 ≤ x15 then x15 else 0 - x15) (fun x16 => nm (x2 - v_bridge) (fun x17 => nm (if 0 ≤ x17 then x17 else 0 - x17) (fun x18 => nm (x16 + x18) (fun x19 => nm (x4 - v_bridge) (fun x20 => nm (if 0 ≤ x20 then x20 else 0 - x20) (fun x21 => nm (x19 + x21) (fun x22 => nm (x22 * x22) (fun x23 => some x23))))))))))
def J_X0_apart_43 (v_wall : Int32) (x3 : Int32) (k12 : Int32) (x1 : Int32) (x2 : Int32) (x4 : Int32) (v_bridge : Int32) : Option (Int32) := (if v_wall ≤ x3 then J_X0_apart_57 k12 0 x1 x3 x2 x4 v_bridge else J_X0_apart_57 k12 1 x1 x3 x2 x4 v_bridge)
def F_X0_apart (n0 : Nat) (v_wall : Int32) (v_bridge : Int32) (v_counted : Int32) (p1 : Int32) (p2 : Int32) : Option (Int32) := dvn 12 (p1 - p1 / 12 * 12) (fun x1 => dvn 12 (p1 / 12) (fun x2 => dvn 12 (p2 - p2 / 12 * 12) (fun x3 => dvn 12 (p2 / 12) (fun x4 => (if v_counted = 0 then J_X0_apart_97 x1 x3 x2 x4 else (if v_wall ≤ x1 then J_X0_apart_43 v_wall x3 0 x1 x2 x4 v_bridge else J_X0_apart_43 v_wall x3 1 x1 x2 x4 v_bridge))))))
set_option maxRecDepth 100000 in
set_option maxHeartbeats 4000000 in
theorem k_X0_apart (l : Launch) (dC : Nat → ClassId) (dI : Nat → Nat → Nat) (cI cB cO : ClassId) (n0 sz : Nat) (a_t : Nat) (a_kinds : Nat) (a_yards : Nat) (a_spots : Nat)   (v_tents : Int32) (v_said : Int32) (v_wall : Int32) (v_bridge : Int32) (v_counted : Int32) (v_day : Int32) (v_z : Int32) (p1 : Int32) (p2 : Int32)  {ro : Int32} (hF : F_X0_apart n0 v_wall v_bridge v_counted p1 p2 = some ro) : Met l yX0_apart wsX0_apart rmX0_apart (va_Pc [.ref a_t, .int p1, .int p2] (gPre (dC, dI) (gT cI cB cO) sz [oX0 a_t a_kinds a_yards a_spots v_tents v_said v_wall v_bridge v_counted v_day v_z])) (gQi (dC, dI) (gT cI cB cO) sz [oX0 a_t a_kinds a_yards a_spots v_tents v_said v_wall v_bridge v_counted v_day v_z] ro [oX0 a_t a_kinds a_yards a_spots v_tents v_said v_wall v_bridge v_counted v_day v_z]) 0 0 (va_A [oX0 a_t a_kinds a_yards a_spots v_tents v_said v_wall v_bridge v_counted v_day v_z] sz) := by
  refine g_metI (Out := Int32) (fun oo => oo) (fun oo => [oX0 a_t a_kinds a_yards a_spots v_tents v_said v_wall v_bridge v_counted v_day v_z]) ro (own := RX0) (lv := [(0, .ref a_t), (1, .int p1), (2, .int p2)]) (by decide) rfl rfl (Nat.le_of_ble_eq_true rfl) rfl ?_
  intro p e s m args below meth c Q ls C hret hV hl
  obtain ⟨out, hout⟩ : ∃ z : Int32, z = ro := ⟨_, rfl⟩
  rw [← hout] at hF hret
  obtain ⟨H0, hH0⟩ : ∃ z : Heap, z = s.heap := ⟨_, rfl⟩
  obtain ⟨A0, hA0⟩ : ∃ z : Nat → Prop, z = va_A [oX0 a_t a_kinds a_yards a_spots v_tents v_said v_wall v_bridge v_counted v_day v_z] s.heap.size := ⟨_, rfl⟩
  rw [← hA0] at hret hV
  rw [← hH0] at hret hV
  rw [← hH0]
  obtain ⟨H, locs, hH⟩ : ∃ (z : Heap) (y : List Loc), z = H0 ∧ y = [] := ⟨_, _, rfl, rfl⟩
  rw [← hH.1, ← hH.2]
  have hV : gV (dC, dI) (gT cI cB cO) A0 H0 s [oX0 a_t a_kinds a_yards a_spots v_tents v_said v_wall v_bridge v_counted v_day v_z] H locs := by rw [hH.1, hH.2]; exact hV
  unfold F_X0_apart at hF
  refine lv_iload_n C.1 C.2.1 dX0_apart_0 rfl (lv_at hl 1 rfl) ?_
  refine lv_bipush (v := 12) C.1 C.2.1 dX0_apart_1 rfl ?_
  refine g_irem C hF dX0_apart_3 (fun x1 hF => ?_)
  refine lv_istore_n (lv' := [(3, .int x1), (0, .ref a_t), (1, .int p1), (2, .int p2)]) C.1 C.2.1 dX0_apart_4 rfl hl (by decide) rfl (fun ls hl => ?_)
  refine lv_iload_n C.1 C.2.1 dX0_apart_5 rfl (lv_at hl 2 rfl) ?_
  refine lv_bipush (v := 12) C.1 C.2.1 dX0_apart_6 rfl ?_
  refine g_idiv C hF dX0_apart_8 (fun x2 hF => ?_)
  refine lv_istore (lv' := [(4, .int x2), (3, .int x1), (0, .ref a_t), (1, .int p1), (2, .int p2)]) C.1 C.2.1 dX0_apart_9 hl (by decide) rfl (fun ls hl => ?_)
  refine lv_iload_n C.1 C.2.1 dX0_apart_11 rfl (lv_at hl 4 rfl) ?_
  refine lv_bipush (v := 12) C.1 C.2.1 dX0_apart_12 rfl ?_
  refine g_irem C hF dX0_apart_14 (fun x3 hF => ?_)
  refine lv_istore (lv' := [(5, .int x3), (4, .int x2), (3, .int x1), (0, .ref a_t), (1, .int p1), (2, .int p2)]) C.1 C.2.1 dX0_apart_15 hl (by decide) rfl (fun ls hl => ?_)
  refine lv_iload_n C.1 C.2.1 dX0_apart_17 rfl (lv_at hl 5 rfl) ?_
  refine lv_bipush (v := 12) C.1 C.2.1 dX0_apart_18 rfl ?_
  refine g_idiv C hF dX0_apart_20 (fun x4 hF => ?_)
  refine lv_istore (lv' := [(6, .int x4), (5, .int x3), (4, .int x2), (3, .int x1), (0, .ref a_t), (1, .int p1), (2, .int p2)]) C.1 C.2.1 dX0_apart_21 hl (by decide) rfl (fun ls hl => ?_)
  refine lv_aload_n C.1 C.2.1 dX0_apart_23 rfl (lv_at hl 4 rfl) ?_
  refine g_get C hV flX0_apart_21 0 rfl rfl dX0_apart_24 ?_
  have hJ97 : ∀  (H : Heap) (locs : List Loc) (ls : Array Slot), gV (dC, dI) (gT cI cB cO) A0 H0 s [oX0 a_t a_kinds a_yards a_spots v_tents v_said v_wall v_bridge v_counted v_day v_z] H locs → lv_has ls 8 [(3, .int x1), (4, .int x2), (5, .int x3), (6, .int x4)] → J_X0_apart_97 x1 x3 x2 x4 = some out → W p l e rmX0_apart s m args below meth c H locs 0 0 Q (F0 m 97 ls []) := by
    intro  H locs ls hV hl hF
    unfold J_X0_apart_97 at hF
    refine lv_iload_n C.1 C.2.1 dX0_apart_97 rfl (lv_at hl 0 rfl) ?_
    refine lv_iload C.1 C.2.1 dX0_apart_98 (lv_at hl 2 rfl) ?_
    refine g_isub C hF dX0_apart_100 (fun x5 hF => ?_)
    refine lv_iload_n C.1 C.2.1 dX0_apart_101 rfl (lv_at hl 0 rfl) ?_
    refine lv_iload C.1 C.2.1 dX0_apart_102 (lv_at hl 2 rfl) ?_
    refine g_isub C hF dX0_apart_104 (fun x6 hF => ?_)
    refine g_imul C hF dX0_apart_105 (fun x7 hF => ?_)
    refine lv_iload C.1 C.2.1 dX0_apart_106 (lv_at hl 1 rfl) ?_
    refine lv_iload C.1 C.2.1 dX0_apart_108 (lv_at hl 3 rfl) ?_
    refine g_isub C hF dX0_apart_110 (fun x8 hF => ?_)
    refine lv_iload C.1 C.2.1 dX0_apart_111 (lv_at hl 1 rfl) ?_
    refine lv_iload C.1 C.2.1 dX0_apart_113 (lv_at hl 3 rfl) ?_
    refine g_isub C hF dX0_apart_115 (fun x9 hF => ?_)
    refine g_imul C hF dX0_apart_116 (fun x10 hF => ?_)
    refine g_iadd C hF dX0_apart_117 (fun x11 hF => ?_)
    exact hret x11 _ _ _ _ dX0_apart_118 hF hV
  refine g_if_eq (tgt := 97) C hF dX0_apart_27 rfl (fun hF => ?_) (fun hF => ?_)
  · exact hJ97  H locs ls hV (lv_sub hl [3, 2, 1, 0] rfl) hF
  refine lv_iload_n C.1 C.2.1 dX0_apart_30 rfl (lv_at hl 3 rfl) ?_
  refine lv_aload_n C.1 C.2.1 dX0_apart_31 rfl (lv_at hl 4 rfl) ?_
  refine g_get C hV flX0_apart_47 0 rfl rfl dX0_apart_32 ?_
  have hJ43 : ∀ (k12 : Int32) (H : Heap) (locs : List Loc) (ls : Array Slot), gV (dC, dI) (gT cI cB cO) A0 H0 s [oX0 a_t a_kinds a_yards a_spots v_tents v_said v_wall v_bridge v_counted v_day v_z] H locs → lv_has ls 8 [(0, .ref a_t), (3, .int x1), (4, .int x2), (5, .int x3), (6, .int x4)] → J_X0_apart_43 v_wall x3 k12 x1 x2 x4 v_bridge = some out → W p l e rmX0_apart s m args below meth c H locs 0 0 Q (F0 m 43 ls [.int k12]) := by
    intro k12 H locs ls hV hl hF
    unfold J_X0_apart_43 at hF
    refine lv_iload C.1 C.2.1 dX0_apart_43 (lv_at hl 3 rfl) ?_
    refine lv_aload_n C.1 C.2.1 dX0_apart_45 rfl (lv_at hl 0 rfl) ?_
    refine g_get C hV flX0_apart_47 0 rfl rfl dX0_apart_46 ?_
    have hJ57 : ∀ (k13 : Int32) (k14 : Int32) (H : Heap) (locs : List Loc) (ls : Array Slot), gV (dC, dI) (gT cI cB cO) A0 H0 s [oX0 a_t a_kinds a_yards a_spots v_tents v_said v_wall v_bridge v_counted v_day v_z] H locs → lv_has ls 8 [(0, .ref a_t), (3, .int x1), (4, .int x2), (5, .int x3), (6, .int x4)] → J_X0_apart_57 k14 k13 x1 x3 x2 x4 v_bridge = some out → W p l e rmX0_apart s m args below meth c H locs 0 0 Q (F0 m 57 ls [.int k13, .int k14]) := by
      intro k13 k14 H locs ls hV hl hF
      unfold J_X0_apart_57 at hF
      refine g_icmp_eq (tgt := 97) C hF dX0_apart_57 rfl (fun hF => ?_) (fun hF => ?_)
      · exact hJ97  H locs ls hV (lv_sub hl [1, 2, 3, 4] rfl) hF
      refine lv_iload_n C.1 C.2.1 dX0_apart_60 rfl (lv_at hl 1 rfl) ?_
      refine lv_iload C.1 C.2.1 dX0_apart_61 (lv_at hl 3 rfl) ?_
      refine g_isub C hF dX0_apart_63 (fun x15 hF => ?_)
      refine g_mabs C hl abX0_apart_77 (Nat.le_of_ble_eq_true rfl) (Nat.le_of_ble_eq_true rfl) hF dX0_apart_64 (fun x16 hF => ?_)
      refine lv_iload C.1 C.2.1 dX0_apart_67 (lv_at hl 2 rfl) ?_
      refine lv_aload_n C.1 C.2.1 dX0_apart_69 rfl (lv_at hl 0 rfl) ?_
      refine g_get C hV flX0_apart_50 0 rfl rfl dX0_apart_70 ?_
      refine g_isub C hF dX0_apart_73 (fun x17 hF => ?_)
      refine g_mabs C hl abX0_apart_77 (Nat.le_of_ble_eq_true rfl) (Nat.le_of_ble_eq_true rfl) hF dX0_apart_74 (fun x18 hF => ?_)
      refine g_iadd C hF dX0_apart_77 (fun x19 hF => ?_)
      refine lv_iload C.1 C.2.1 dX0_apart_78 (lv_at hl 4 rfl) ?_
      refine lv_aload_n C.1 C.2.1 dX0_apart_80 rfl (lv_at hl 0 rfl) ?_
      refine g_get C hV flX0_apart_50 0 rfl rfl dX0_apart_81 ?_
      refine g_isub C hF dX0_apart_84 (fun x20 hF => ?_)
      refine g_mabs C hl abX0_apart_77 (Nat.le_of_ble_eq_true rfl) (Nat.le_of_ble_eq_true rfl) hF dX0_apart_85 (fun x21 hF => ?_)
      refine g_iadd C hF dX0_apart_88 (fun x22 hF => ?_)
      refine lv_istore (lv' := [(7, .int x22), (0, .ref a_t), (3, .int x1), (4, .int x2), (5, .int x3), (6, .int x4)]) C.1 C.2.1 dX0_apart_89 hl (by decide) rfl (fun ls hl => ?_)
      refine lv_iload C.1 C.2.1 dX0_apart_91 (lv_at hl 0 rfl) ?_
      refine lv_iload C.1 C.2.1 dX0_apart_93 (lv_at hl 0 rfl) ?_
      refine g_imul C hF dX0_apart_95 (fun x23 hF => ?_)
      exact hret x23 _ _ _ _ dX0_apart_96 hF hV
    refine g_icmp_ge (tgt := 56) C hF dX0_apart_49 rfl (fun hF => ?_) (fun hF => ?_)
    · refine lv_iconst (v := 0) C.1 C.2.1 dX0_apart_56 rfl ?_
      exact hJ57 0 k12 H locs ls hV (lv_sub hl [0, 1, 2, 3, 4] rfl) hF
    refine lv_iconst (v := 1) C.1 C.2.1 dX0_apart_52 rfl ?_
    refine lv_goto (tgt := 57) C.1 C.2.1 dX0_apart_53 rfl ?_
    exact hJ57 1 k12 H locs ls hV (lv_sub hl [0, 1, 2, 3, 4] rfl) hF
  refine g_icmp_ge (tgt := 42) C hF dX0_apart_35 rfl (fun hF => ?_) (fun hF => ?_)
  · refine lv_iconst (v := 0) C.1 C.2.1 dX0_apart_42 rfl ?_
    exact hJ43 0 H locs ls hV (lv_sub hl [4, 3, 2, 1, 0] rfl) hF
  refine lv_iconst (v := 1) C.1 C.2.1 dX0_apart_38 rfl ?_
  refine lv_goto (tgt := 43) C.1 C.2.1 dX0_apart_39 rfl ?_
  exact hJ43 1 H locs ls hV (lv_sub hl [4, 3, 2, 1, 0] rfl) hF
abbrev rmX0_draw : Room := { frames := 0, cells := 0, slots := 0, locals := 0 }
theorem mdX0_draw : gMd yX0_draw wsX0_draw cX0_draw 1 (some .int) 0 := ⟨⟨_, rfl⟩, by decide +kernel⟩
theorem flX0_draw_25 : gFL wsX0_draw RX0 25 0 9 RX0 TX0 10 := ⟨rfl, fun w h => List.mem_cons_of_mem _ (List.mem_append_right _ (h)), Nat.le_of_ble_eq_true rfl, List.mem_cons_of_mem _ (List.mem_append_left _ (List.mem_of_getElem? (i := 0) rfl))⟩
theorem ctX0_draw_82 : Cond.constant RX0 82 1103515245 ∈ wsX0_draw := List.mem_cons_of_mem _ (List.mem_append_left _ (List.mem_of_getElem? (i := 1) rfl))
theorem fpX0_draw_25 : gFP wsX0_draw RX0 25 0 9 RX0 TX0 10 .int := ⟨flX0_draw_25, ⟨tyX0, tyX0_ok⟩, nmX0, rfl, by decide +kernel⟩
def F_X0_draw (n0 : Nat) (v_z : Int32) : Option (Int32 × Int32) := nm (v_z * 1103515245) (fun x1 => nm (x1 + 12345) (fun x2 => nm ((Int32.toUInt32 x2 >>> (Int32.toUInt32 8 &&& Int32.toUInt32 31)).toInt32) (fun x3 => some (x3, x2))))
set_option maxRecDepth 100000 in
set_option maxHeartbeats 4000000 in
theorem k_X0_draw (l : Launch) (dC : Nat → ClassId) (dI : Nat → Nat → Nat) (cI cB cO : ClassId) (n0 sz : Nat) (a_t : Nat) (a_kinds : Nat) (a_yards : Nat) (a_spots : Nat)   (v_tents : Int32) (v_said : Int32) (v_wall : Int32) (v_bridge : Int32) (v_counted : Int32) (v_day : Int32) (v_z : Int32)   {ro : Int32} {o0 : Int32} (hF : F_X0_draw n0 v_z = some (ro, o0)) : Met l yX0_draw wsX0_draw rmX0_draw (va_Pc [.ref a_t] (gPre (dC, dI) (gT cI cB cO) sz [oX0 a_t a_kinds a_yards a_spots v_tents v_said v_wall v_bridge v_counted v_day v_z])) (gQi (dC, dI) (gT cI cB cO) sz [oX0 a_t a_kinds a_yards a_spots v_tents v_said v_wall v_bridge v_counted v_day v_z] ro [oX0 a_t a_kinds a_yards a_spots v_tents v_said v_wall v_bridge v_counted v_day o0]) 0 0 (va_A [oX0 a_t a_kinds a_yards a_spots v_tents v_said v_wall v_bridge v_counted v_day v_z] sz) := by
  refine g_metI (Out := Int32 × Int32) (fun oo => oo.1) (fun oo => [oX0 a_t a_kinds a_yards a_spots v_tents v_said v_wall v_bridge v_counted v_day oo.2]) (ro, o0) (own := RX0) (lv := [(0, .ref a_t)]) (by decide) rfl rfl (Nat.le_of_ble_eq_true rfl) rfl ?_
  intro p e s m args below meth c Q ls C hret hV hl
  obtain ⟨out, hout⟩ : ∃ z : Int32 × Int32, z = (ro, o0) := ⟨_, rfl⟩
  rw [← hout] at hF hret
  obtain ⟨H0, hH0⟩ : ∃ z : Heap, z = s.heap := ⟨_, rfl⟩
  obtain ⟨A0, hA0⟩ : ∃ z : Nat → Prop, z = va_A [oX0 a_t a_kinds a_yards a_spots v_tents v_said v_wall v_bridge v_counted v_day v_z] s.heap.size := ⟨_, rfl⟩
  rw [← hA0] at hret hV
  rw [← hH0] at hret hV
  rw [← hH0]
  obtain ⟨H, locs, hH⟩ : ∃ (z : Heap) (y : List Loc), z = H0 ∧ y = [] := ⟨_, _, rfl, rfl⟩
  rw [← hH.1, ← hH.2]
  have hV : gV (dC, dI) (gT cI cB cO) A0 H0 s [oX0 a_t a_kinds a_yards a_spots v_tents v_said v_wall v_bridge v_counted v_day v_z] H locs := by rw [hH.1, hH.2]; exact hV
  unfold F_X0_draw at hF
  refine lv_aload_n C.1 C.2.1 dX0_draw_0 rfl (lv_at hl 0 rfl) ?_
  refine lv_aload_n C.1 C.2.1 dX0_draw_1 rfl (lv_at hl 0 rfl) ?_
  refine g_get C hV flX0_draw_25 0 rfl rfl dX0_draw_2 ?_
  refine lv_ldc (v := 1103515245) C.1 C.2.1 C.2.2.2.1 (C.2.2.2.2 _ ctX0_draw_82) dX0_draw_5 ?_
  refine g_imul C hF dX0_draw_7 (fun x1 hF => ?_)
  refine lv_sipush (v := 12345) C.1 C.2.1 dX0_draw_8 rfl ?_
  refine g_iadd C hF dX0_draw_11 (fun x2 hF => ?_)
  refine g_put (ws' := [oX0 a_t a_kinds a_yards a_spots v_tents v_said v_wall v_bridge v_counted v_day x2]) C hV fpX0_draw_25 0 rfl rfl rfl (Nat.le_of_ble_eq_true rfl) rfl dX0_draw_12 (fun H locs hV => ?_)
  refine lv_aload_n C.1 C.2.1 dX0_draw_15 rfl (lv_at hl 0 rfl) ?_
  refine g_get C hV flX0_draw_25 0 rfl rfl dX0_draw_16 ?_
  refine lv_bipush (v := 8) C.1 C.2.1 dX0_draw_19 rfl ?_
  refine g_iushr C hF dX0_draw_21 (fun x3 hF => ?_)
  exact hret (x3, x2) _ _ _ _ dX0_draw_22 hF hV
abbrev rmX0_stray : Room := { frames := 2, cells := 0, slots := 0, locals := 45 }
theorem mdX0_stray : gMd yX0_stray wsX0_stray cX0_stray 3 none 1 := ⟨⟨_, rfl⟩, by decide +kernel⟩
theorem flX0_stray_15 : gFL wsX0_stray RX0 15 0 1 RX0 TX0 10 := ⟨rfl, fun w h => List.mem_cons_of_mem _ (List.mem_append_right _ (h)), Nat.le_of_ble_eq_true rfl, List.mem_cons_of_mem _ (List.mem_append_left _ (List.mem_of_getElem? (i := 0) rfl))⟩
def F_X0_stray (n0 : Nat) (v_tents : Int32) (v_z : Int32) (f_yards : Nat → Int32) (p1 : Int32) : Option (Int32 × (Nat → Int32)) := bd2 (F_X0_draw n0 v_z) (fun x1 x2 => dvn 144 (x1 - x1 / 144 * 144) (fun x3 => bd1 (F_X0_has n0 v_tents p1) (fun x4 => (if x4 = 0 then some (x2, f_yards) else bd1 (F_X0_mayStand n0 v_tents f_yards p1 x3) (fun x5 => (if x5 = 0 then some (x2, f_yards) else wrt f_yards 10 p1 x3 (fun g6 => some (x2, g6))))))))
set_option maxRecDepth 100000 in
set_option maxHeartbeats 4000000 in
theorem k_X0_stray (l : Launch) (dC : Nat → ClassId) (dI : Nat → Nat → Nat) (cI cB cO : ClassId) (n0 sz : Nat) (a_t : Nat) (a_kinds : Nat) (a_yards : Nat) (a_spots : Nat)   (v_tents : Int32) (v_said : Int32) (v_wall : Int32) (v_bridge : Int32) (v_counted : Int32) (v_day : Int32) (v_z : Int32) (f_yards : Nat → Int32) (p1 : Int32)  {o0 : Int32} {o1 : Nat → Int32} (hF : F_X0_stray n0 v_tents v_z f_yards p1 = some (o0, o1)) : Met l yX0_stray wsX0_stray rmX0_stray (va_Pc [.ref a_t, .int p1] (gPre (dC, dI) (gT cI cB cO) sz [oX0 a_t a_kinds a_yards a_spots v_tents v_said v_wall v_bridge v_counted v_day v_z, aA cI a_yards 10 f_yards])) (gQv (dC, dI) (gT cI cB cO) sz [oX0 a_t a_kinds a_yards a_spots v_tents v_said v_wall v_bridge v_counted v_day v_z, aA cI a_yards 10 f_yards] [oX0 a_t a_kinds a_yards a_spots v_tents v_said v_wall v_bridge v_counted v_day o0, aA cI a_yards 10 o1]) 0 0 (va_A [oX0 a_t a_kinds a_yards a_spots v_tents v_said v_wall v_bridge v_counted v_day v_z, aA cI a_yards 10 f_yards] sz) := by
  refine g_metV (Out := Int32 × (Nat → Int32)) (fun oo => [oX0 a_t a_kinds a_yards a_spots v_tents v_said v_wall v_bridge v_counted v_day oo.1, aA cI a_yards 10 oo.2]) (o0, o1) (own := RX0) (lv := [(0, .ref a_t), (1, .int p1)]) (by decide) rfl rfl (Nat.le_of_ble_eq_true rfl) rfl ?_
  intro p e s m args below meth c Q ls C hret hV hl
  obtain ⟨out, hout⟩ : ∃ z : Int32 × (Nat → Int32), z = (o0, o1) := ⟨_, rfl⟩
  rw [← hout] at hF hret
  obtain ⟨H0, hH0⟩ : ∃ z : Heap, z = s.heap := ⟨_, rfl⟩
  obtain ⟨A0, hA0⟩ : ∃ z : Nat → Prop, z = va_A [oX0 a_t a_kinds a_yards a_spots v_tents v_said v_wall v_bridge v_counted v_day v_z, aA cI a_yards 10 f_yards] s.heap.size := ⟨_, rfl⟩
  rw [← hA0] at hret hV
  rw [← hH0] at hret hV
  rw [← hH0]
  obtain ⟨H, locs, hH⟩ : ∃ (z : Heap) (y : List Loc), z = H0 ∧ y = [] := ⟨_, _, rfl, rfl⟩
  rw [← hH.1, ← hH.2]
  have hV : gV (dC, dI) (gT cI cB cO) A0 H0 s [oX0 a_t a_kinds a_yards a_spots v_tents v_said v_wall v_bridge v_counted v_day v_z, aA cI a_yards 10 f_yards] H locs := by rw [hH.1, hH.2]; exact hV
  unfold F_X0_stray at hF
  refine lv_aload_n C.1 C.2.1 dX0_stray_0 rfl (lv_at hl 0 rfl) ?_
  obtain ⟨x1, x2, hc, hF⟩ := bd2_s hF
  refine g_cVi (ws' := [oX0 a_t a_kinds a_yards a_spots v_tents v_said v_wall v_bridge v_counted v_day x2, aA cI a_yards 10 f_yards]) (wr := [aA cI a_yards 10 f_yards]) C hV (k_X0_draw l dC dI cI cB cO n0 H.size a_t a_kinds a_yards a_spots v_tents v_said v_wall v_bridge v_counted v_day v_z hc) mdX0_draw gX0_stray_X0_draw rfl rfl ⟨Nat.le_of_ble_eq_true rfl, Nat.le_of_ble_eq_true rfl⟩ [0] [1] [1, 0] rfl rfl rfl rfl rfl rfl rfl rfl rfl rfl hl.1 (Nat.le_of_ble_eq_true rfl) rfl dX0_stray_1 (fun H locs hV => ?_)
  refine lv_sipush (v := 144) C.1 C.2.1 dX0_stray_4 rfl ?_
  refine g_irem C hF dX0_stray_7 (fun x3 hF => ?_)
  refine lv_istore_n (lv' := [(2, .int x3), (0, .ref a_t), (1, .int p1)]) C.1 C.2.1 dX0_stray_8 rfl hl (by decide) rfl (fun ls hl => ?_)
  refine lv_aload_n C.1 C.2.1 dX0_stray_9 rfl (lv_at hl 1 rfl) ?_
  refine lv_iload_n C.1 C.2.1 dX0_stray_10 rfl (lv_at hl 2 rfl) ?_
  obtain ⟨x4, hc, hF⟩ := bd1_s hF
  refine g_cVi (ws' := [oX0 a_t a_kinds a_yards a_spots v_tents v_said v_wall v_bridge v_counted v_day x2, aA cI a_yards 10 f_yards]) (wr := [aA cI a_yards 10 f_yards]) C hV (k_X0_has l dC dI cI cB cO n0 H.size a_t a_kinds a_yards a_spots v_tents v_said v_wall v_bridge v_counted v_day x2 p1 hc) mdX0_has gX0_stray_X0_has rfl rfl ⟨Nat.le_of_ble_eq_true rfl, Nat.le_of_ble_eq_true rfl⟩ [0] [1] [1, 0] rfl rfl rfl rfl rfl rfl rfl rfl rfl rfl hl.1 (Nat.le_of_ble_eq_true rfl) rfl dX0_stray_11 (fun H locs hV => ?_)
  refine g_if_eq (tgt := 33) C hF dX0_stray_14 rfl (fun hF => ?_) (fun hF => ?_)
  · exact hret (x2, f_yards) _ _ _ _ dX0_stray_33 hF hV
  refine lv_aload_n C.1 C.2.1 dX0_stray_17 rfl (lv_at hl 1 rfl) ?_
  refine lv_iload_n C.1 C.2.1 dX0_stray_18 rfl (lv_at hl 2 rfl) ?_
  refine lv_iload_n C.1 C.2.1 dX0_stray_19 rfl (lv_at hl 0 rfl) ?_
  obtain ⟨x5, hc, hF⟩ := bd1_s hF
  refine g_cVi (ws' := [oX0 a_t a_kinds a_yards a_spots v_tents v_said v_wall v_bridge v_counted v_day x2, aA cI a_yards 10 f_yards]) (wr := []) C hV (k_X0_mayStand l dC dI cI cB cO n0 H.size a_t a_kinds a_yards a_spots v_tents v_said v_wall v_bridge v_counted v_day x2 f_yards p1 x3 hc) mdX0_mayStand gX0_stray_X0_mayStand rfl rfl ⟨Nat.le_of_ble_eq_true rfl, Nat.le_of_ble_eq_true rfl⟩ [0, 1] [] [0, 1] rfl rfl rfl rfl rfl rfl rfl rfl rfl rfl hl.1 (Nat.le_of_ble_eq_true rfl) rfl dX0_stray_20 (fun H locs hV => ?_)
  refine g_if_eq (tgt := 33) C hF dX0_stray_23 rfl (fun hF => ?_) (fun hF => ?_)
  · exact hret (x2, f_yards) _ _ _ _ dX0_stray_33 hF hV
  refine lv_aload_n C.1 C.2.1 dX0_stray_26 rfl (lv_at hl 1 rfl) ?_
  refine g_get C hV flX0_stray_15 0 rfl rfl dX0_stray_27 ?_
  refine lv_iload_n C.1 C.2.1 dX0_stray_30 rfl (lv_at hl 2 rfl) ?_
  refine lv_iload_n C.1 C.2.1 dX0_stray_31 rfl (lv_at hl 0 rfl) ?_
  refine g_iast C hV 1 rfl hF (fun gq => [oX0 a_t a_kinds a_yards a_spots v_tents v_said v_wall v_bridge v_counted v_day x2, aA cI a_yards 10 gq]) (fun _ => rfl) dX0_stray_32 (fun g6 H locs hF hV => ?_)
  exact hret (x2, g6) _ _ _ _ dX0_stray_33 hF hV
abbrev rmX0_countHolding : Room := { frames := 0, cells := 0, slots := 0, locals := 0 }
theorem mdX0_countHolding : gMd yX0_countHolding wsX0_countHolding cX0_countHolding 3 (some .int) 0 := ⟨⟨_, rfl⟩, by decide +kernel⟩
theorem flX0_countHolding_18 : gFL wsX0_countHolding RX0 18 0 2 RX0 TX0 10 := ⟨rfl, fun w h => List.mem_cons_of_mem _ (List.mem_append_right _ (h)), Nat.le_of_ble_eq_true rfl, List.mem_cons_of_mem _ (List.mem_append_left _ (List.mem_of_getElem? (i := 0) rfl))⟩
def L_X0_countHolding_4 (f_spots : Nat → Int32) : Nat → Int32 → Int32 → Option (Int32) := lpp2 (fun s1 s2 kk4 => (if 10 ≤ s2 then some s1 else rd f_spots 10 s2 (fun x3 => (if x3 = ((-1)) then nm (s2 + 1) (fun x4 => kk4 s1 x4) else nm (s1 + 1) (fun x5 => nm (s2 + 1) (fun x6 => kk4 x5 x6))))))
def F_X0_countHolding (n0 : Nat) (f_spots : Nat → Int32) : Option (Int32) := L_X0_countHolding_4 f_spots n0 0 0
set_option maxRecDepth 100000 in
set_option maxHeartbeats 4000000 in
theorem k_X0_countHolding (l : Launch) (dC : Nat → ClassId) (dI : Nat → Nat → Nat) (cI cB cO : ClassId) (n0 sz : Nat) (a_t : Nat) (a_kinds : Nat) (a_yards : Nat) (a_spots : Nat)   (v_tents : Int32) (v_said : Int32) (v_wall : Int32) (v_bridge : Int32) (v_counted : Int32) (v_day : Int32) (v_z : Int32) (f_spots : Nat → Int32)   {ro : Int32} (hF : F_X0_countHolding n0 f_spots = some ro) : Met l yX0_countHolding wsX0_countHolding rmX0_countHolding (va_Pc [.ref a_t] (gPre (dC, dI) (gT cI cB cO) sz [oX0 a_t a_kinds a_yards a_spots v_tents v_said v_wall v_bridge v_counted v_day v_z, aA cI a_spots 10 f_spots])) (gQi (dC, dI) (gT cI cB cO) sz [oX0 a_t a_kinds a_yards a_spots v_tents v_said v_wall v_bridge v_counted v_day v_z, aA cI a_spots 10 f_spots] ro [oX0 a_t a_kinds a_yards a_spots v_tents v_said v_wall v_bridge v_counted v_day v_z, aA cI a_spots 10 f_spots]) 0 0 (va_A [oX0 a_t a_kinds a_yards a_spots v_tents v_said v_wall v_bridge v_counted v_day v_z, aA cI a_spots 10 f_spots] sz) := by
  refine g_metI (Out := Int32) (fun oo => oo) (fun oo => [oX0 a_t a_kinds a_yards a_spots v_tents v_said v_wall v_bridge v_counted v_day v_z, aA cI a_spots 10 f_spots]) ro (own := RX0) (lv := [(0, .ref a_t)]) (by decide) rfl rfl (Nat.le_of_ble_eq_true rfl) rfl ?_
  intro p e s m args below meth c Q ls C hret hV hl
  obtain ⟨out, hout⟩ : ∃ z : Int32, z = ro := ⟨_, rfl⟩
  rw [← hout] at hF hret
  obtain ⟨H0, hH0⟩ : ∃ z : Heap, z = s.heap := ⟨_, rfl⟩
  obtain ⟨A0, hA0⟩ : ∃ z : Nat → Prop, z = va_A [oX0 a_t a_kinds a_yards a_spots v_tents v_said v_wall v_bridge v_counted v_day v_z, aA cI a_spots 10 f_spots] s.heap.size := ⟨_, rfl⟩
  rw [← hA0] at hret hV
  rw [← hH0] at hret hV
  rw [← hH0]
  obtain ⟨H, locs, hH⟩ : ∃ (z : Heap) (y : List Loc), z = H0 ∧ y = [] := ⟨_, _, rfl, rfl⟩
  rw [← hH.1, ← hH.2]
  have hV : gV (dC, dI) (gT cI cB cO) A0 H0 s [oX0 a_t a_kinds a_yards a_spots v_tents v_said v_wall v_bridge v_counted v_day v_z, aA cI a_spots 10 f_spots] H locs := by rw [hH.1, hH.2]; exact hV
  unfold F_X0_countHolding at hF
  refine lv_iconst (v := 0) C.1 C.2.1 dX0_countHolding_0 rfl ?_
  refine lv_istore_n (lv' := [(1, .int 0), (0, .ref a_t)]) C.1 C.2.1 dX0_countHolding_1 rfl hl (by decide) rfl (fun ls hl => ?_)
  refine lv_iconst (v := 0) C.1 C.2.1 dX0_countHolding_2 rfl ?_
  refine lv_istore_n (lv' := [(2, .int 0), (1, .int 0), (0, .ref a_t)]) C.1 C.2.1 dX0_countHolding_3 rfl hl (by decide) rfl (fun ls hl => ?_)
  have hL4 : ∀ (n : Nat) (s1 : Int32) (s2 : Int32) (H : Heap) (locs : List Loc) (ls : Array Slot), gV (dC, dI) (gT cI cB cO) A0 H0 s [oX0 a_t a_kinds a_yards a_spots v_tents v_said v_wall v_bridge v_counted v_day v_z, aA cI a_spots 10 f_spots] H locs → lv_has ls 3 [(0, .ref a_t), (1, .int s1), (2, .int s2)] → L_X0_countHolding_4 f_spots n s1 s2 = some out → W p l e rmX0_countHolding s m args below meth c H locs 0 0 Q (F0 m 4 ls []) := by
    intro n
    induction n with
    | zero => intro s1 s2 H locs ls hV hl hF; exact lpp2_z hF
    | succ n ih4 =>
      intro s1 s2 H locs ls hV hl hF
      obtain ⟨kk4, hk4, hF⟩ := lpp2_g hF
      have hq4 : ∀ (s1 : Int32) (s2 : Int32), kk4 s1 s2 = some out → L_X0_countHolding_4 f_spots n s1 s2 = some out := fun _ _ h => by rw [hk4] at h; exact h
      refine lv_iload_n C.1 C.2.1 dX0_countHolding_4 rfl (lv_at hl 2 rfl) ?_
      refine lv_bipush (v := 10) C.1 C.2.1 dX0_countHolding_5 rfl ?_
      refine g_icmp_ge (tgt := 29) C hF dX0_countHolding_7 rfl (fun hF => ?_) (fun hF => ?_)
      · refine lv_iload_n C.1 C.2.1 dX0_countHolding_29 rfl (lv_at hl 1 rfl) ?_
        exact hret s1 _ _ _ _ dX0_countHolding_30 hF hV
      refine lv_aload_n C.1 C.2.1 dX0_countHolding_10 rfl (lv_at hl 0 rfl) ?_
      refine g_get C hV flX0_countHolding_18 0 rfl rfl dX0_countHolding_11 ?_
      refine lv_iload_n C.1 C.2.1 dX0_countHolding_14 rfl (lv_at hl 2 rfl) ?_
      refine g_iald C hV 1 rfl hF dX0_countHolding_15 (fun x3 hF => ?_)
      refine lv_iconst (v := (-1)) C.1 C.2.1 dX0_countHolding_16 rfl ?_
      refine g_icmp_eq (tgt := 23) C hF dX0_countHolding_17 rfl (fun hF => ?_) (fun hF => ?_)
      · refine g_iinc C hF dX0_countHolding_23 (d := 1) rfl hl (j := 2) rfl (by decide) (fun y => [(2, .int y), (0, .ref a_t), (1, .int s1)]) (fun _ => rfl) (fun x4 ls hF hl => ?_)
        refine lv_goto (tgt := 4) C.1 C.2.1 dX0_countHolding_26 rfl ?_
        exact ih4 s1 x4 H locs ls hV (lv_sub hl [1, 2, 0] rfl) (hq4 s1 x4 hF)
      refine g_iinc C hF dX0_countHolding_20 (d := 1) rfl hl (j := 1) rfl (by decide) (fun y => [(1, .int y), (0, .ref a_t), (2, .int s2)]) (fun _ => rfl) (fun x5 ls hF hl => ?_)
      refine g_iinc C hF dX0_countHolding_23 (d := 1) rfl hl (j := 2) rfl (by decide) (fun y => [(2, .int y), (1, .int x5), (0, .ref a_t)]) (fun _ => rfl) (fun x6 ls hF hl => ?_)
      refine lv_goto (tgt := 4) C.1 C.2.1 dX0_countHolding_26 rfl ?_
      exact ih4 x5 x6 H locs ls hV (lv_sub hl [2, 1, 0] rfl) (hq4 x5 x6 hF)
  exact hL4 n0 0 0 H locs ls hV (lv_sub hl [2, 1, 0] rfl) hF
