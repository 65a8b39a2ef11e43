abbrev rmX6_seed : Room := { frames := 0, cells := 0, slots := 0, locals := 0 }
theorem mdX6_seed : gMd yX6_seed wsX6_seed cX6_seed 3 (some .int) 1 := ⟨⟨_, rfl⟩, by decide +kernel⟩
theorem flX6_seed_12 : gFL wsX6_seed RX6 12 6 0 RX6 TX6 9 := ⟨rfl, fun w h => List.mem_cons_of_mem _ (List.mem_append_left _ (List.mem_append_right _ (h))), Nat.le_of_ble_eq_true rfl, List.mem_cons_of_mem _ (List.mem_append_left _ (List.mem_append_left _ (List.mem_of_getElem? (i := 0) rfl)))⟩
theorem flX6_seed_242 : gFL wsX6_seed RX6 242 0 9 RX0 TX0 10 := ⟨rfl, fun w h => List.mem_cons_of_mem _ (List.mem_append_right _ (h)), Nat.le_of_ble_eq_true rfl, List.mem_cons_of_mem _ (List.mem_append_left _ (List.mem_append_left _ (List.mem_of_getElem? (i := 1) rfl)))⟩
theorem fpX6_seed_242 : gFP wsX6_seed RX6 242 0 9 RX0 TX0 10 .int := ⟨flX6_seed_242, ⟨tyX0, tyX0_ok⟩, nmX0, rfl, by decide +kernel⟩
def F_X6_seed (n0 : Nat) (v_camp_z : Int32) (p1 : Int32) : Option (Int32 × Int32) := some (v_camp_z, p1)
set_option maxRecDepth 100000 in
set_option maxHeartbeats 4000000 in
theorem k_X6_seed (l : Launch) (dC : Nat → ClassId) (dI : Nat → Nat → Nat) (cI cB cO : ClassId) (n0 sz : Nat) (a_t : Nat) (a_camp : Nat) (a_kept : Nat) (a_ears : Nat) (a_walk : Nat) (a_trials : Nat) (a_tape : Nat) (a_sheets : Nat) (a_found : Nat) (a_camp_kinds : Nat) (a_camp_yards : Nat) (a_camp_spots : Nat)   (v_isKept : Int32) (v_camp_tents : Int32) (v_camp_said : Int32) (v_camp_wall : Int32) (v_camp_bridge : Int32) (v_camp_counted : Int32) (v_camp_day : Int32) (v_camp_z : Int32) (p1 : Int32)  {ro : Int32} {o0 : Int32} (hF : F_X6_seed n0 v_camp_z p1 = some (ro, o0)) : Met l yX6_seed wsX6_seed rmX6_seed (va_Pc [.ref a_t, .int p1] (gPre (dC, dI) (gT cI cB cO) sz [oX6 a_t a_camp a_kept a_ears a_walk a_trials a_tape a_sheets a_found v_isKept, oX0 a_camp a_camp_kinds a_camp_yards a_camp_spots v_camp_tents v_camp_said v_camp_wall v_camp_bridge v_camp_counted v_camp_day v_camp_z])) (gQi (dC, dI) (gT cI cB cO) sz [oX6 a_t a_camp a_kept a_ears a_walk a_trials a_tape a_sheets a_found v_isKept, oX0 a_camp a_camp_kinds a_camp_yards a_camp_spots v_camp_tents v_camp_said v_camp_wall v_camp_bridge v_camp_counted v_camp_day v_camp_z] ro [oX6 a_t a_camp a_kept a_ears a_walk a_trials a_tape a_sheets a_found v_isKept, oX0 a_camp a_camp_kinds a_camp_yards a_camp_spots v_camp_tents v_camp_said v_camp_wall v_camp_bridge v_camp_counted v_camp_day o0]) 0 0 (va_A [oX6 a_t a_camp a_kept a_ears a_walk a_trials a_tape a_sheets a_found v_isKept, oX0 a_camp a_camp_kinds a_camp_yards a_camp_spots v_camp_tents v_camp_said v_camp_wall v_camp_bridge v_camp_counted v_camp_day v_camp_z] sz) := by
  refine g_metI (Out := Int32 × Int32) (fun oo => oo.1) (fun oo => [oX6 a_t a_camp a_kept a_ears a_walk a_trials a_tape a_sheets a_found v_isKept, oX0 a_camp a_camp_kinds a_camp_yards a_camp_spots v_camp_tents v_camp_said v_camp_wall v_camp_bridge v_camp_counted v_camp_day oo.2]) (ro, o0) (own := RX6) (lv := [(0, .ref a_t), (1, .int p1)]) (by decide) rfl rfl (Nat.le_of_ble_eq_true rfl) rfl ?_
  intro p e s m args below meth c Q ls C hret hV hl
  obtain ⟨out, hout⟩ : ∃ z : Int32 × Int32, z = (ro, o0) := ⟨_, rfl⟩
  rw [← hout] at hF hret
  obtain ⟨H0, hH0⟩ : ∃ z : Heap, z = s.heap := ⟨_, rfl⟩
  obtain ⟨A0, hA0⟩ : ∃ z : Nat → Prop, z = va_A [oX6 a_t a_camp a_kept a_ears a_walk a_trials a_tape a_sheets a_found v_isKept, oX0 a_camp a_camp_kinds a_camp_yards a_camp_spots v_camp_tents v_camp_said v_camp_wall v_camp_bridge v_camp_counted v_camp_day v_camp_z] s.heap.size := ⟨_, rfl⟩
  rw [← hA0] at hret hV
  rw [← hH0] at hret hV
  rw [← hH0]
  obtain ⟨H, locs, hH⟩ : ∃ (z : Heap) (y : List Loc), z = H0 ∧ y = [] := ⟨_, _, rfl, rfl⟩
  rw [← hH.1, ← hH.2]
  have hV : gV (dC, dI) (gT cI cB cO) A0 H0 s [oX6 a_t a_camp a_kept a_ears a_walk a_trials a_tape a_sheets a_found v_isKept, oX0 a_camp a_camp_kinds a_camp_yards a_camp_spots v_camp_tents v_camp_said v_camp_wall v_camp_bridge v_camp_counted v_camp_day v_camp_z] H locs := by rw [hH.1, hH.2]; exact hV
  unfold F_X6_seed at hF
  refine lv_aload_n C.1 C.2.1 dX6_seed_0 rfl (lv_at hl 0 rfl) ?_
  refine g_get C hV flX6_seed_12 0 rfl rfl dX6_seed_1 ?_
  refine g_get C hV flX6_seed_242 1 rfl rfl dX6_seed_4 ?_
  refine lv_istore_n (lv' := [(2, .int v_camp_z), (0, .ref a_t), (1, .int p1)]) C.1 C.2.1 dX6_seed_7 rfl hl (by decide) rfl (fun ls hl => ?_)
  refine lv_aload_n C.1 C.2.1 dX6_seed_8 rfl (lv_at hl 1 rfl) ?_
  refine g_get C hV flX6_seed_12 0 rfl rfl dX6_seed_9 ?_
  refine lv_iload_n C.1 C.2.1 dX6_seed_12 rfl (lv_at hl 2 rfl) ?_
  refine g_put (ws' := [oX6 a_t a_camp a_kept a_ears a_walk a_trials a_tape a_sheets a_found v_isKept, oX0 a_camp a_camp_kinds a_camp_yards a_camp_spots v_camp_tents v_camp_said v_camp_wall v_camp_bridge v_camp_counted v_camp_day p1]) C hV fpX6_seed_242 1 rfl rfl rfl (Nat.le_of_ble_eq_true rfl) rfl dX6_seed_13 (fun H locs hV => ?_)
  refine lv_iload_n C.1 C.2.1 dX6_seed_16 rfl (lv_at hl 0 rfl) ?_
  exact hret (v_camp_z, p1) _ _ _ _ dX6_seed_17 hF hV
abbrev rmX6_feed : Room := { frames := 2, cells := 0, slots := 0, locals := 44 }
theorem mdX6_feed : gMd yX6_feed wsX6_feed cX6_feed 3 (some .int) 2 := ⟨⟨_, rfl⟩, by decide +kernel⟩
theorem flX6_feed_47 : gFL wsX6_feed RX6 47 6 5 RX6 TX6 9 := ⟨rfl, fun w h => List.mem_cons_of_mem _ (List.mem_append_left _ (List.mem_append_right _ (h))), Nat.le_of_ble_eq_true rfl, List.mem_cons_of_mem _ (List.mem_append_left _ (List.mem_append_left _ (List.mem_of_getElem? (i := 1) rfl)))⟩
theorem flX6_feed_245 : gFL wsX6_feed RX6 245 3 0 RX3 TX3 6 := ⟨rfl, fun w h => List.mem_cons_of_mem _ (List.mem_append_right _ (h)), Nat.le_of_ble_eq_true rfl, List.mem_cons_of_mem _ (List.mem_append_left _ (List.mem_append_left _ (List.mem_of_getElem? (i := 2) rfl)))⟩
theorem ctX6_feed_87 : Cond.constant RX6 87 (-1000002) ∈ wsX6_feed := List.mem_cons_of_mem _ (List.mem_append_left _ (List.mem_append_left _ (List.mem_of_getElem? (i := 3) rfl)))
theorem ctX6_feed_70 : Cond.constant RX6 70 (-1000001) ∈ wsX6_feed := List.mem_cons_of_mem _ (List.mem_append_left _ (List.mem_append_left _ (List.mem_of_getElem? (i := 0) rfl)))
def F_X6_feed (n0 : Nat) (f_found : Nat → Int32) (v_tape_size : Int32) (f_tape_bytes : Nat → Int32) (p1 : Int32) (p2 : Int32) : Option (Int32 × (Nat → Int32) × Int32 × (Nat → Int32)) := bd1 (F_X6_isFrom n0 1 p2 4) (fun x1 => (if x1 = 0 then bd2 (F_X6_finding n0 f_found ((-1000001))) (fun x7 g8 => some (x7, g8, v_tape_size, f_tape_bytes)) else nm (120 - v_tape_size) (fun x2 => (if p2 ≤ x2 then bd2 (F_X3_put n0 v_tape_size f_tape_bytes p1 p2) (fun x3 g4 => some (x3, f_found, x3, g4)) else bd2 (F_X6_finding n0 f_found ((-1000002))) (fun x5 g6 => some (x5, g6, v_tape_size, f_tape_bytes))))))
set_option maxRecDepth 100000 in
set_option maxHeartbeats 4000000 in
theorem k_X6_feed (l : Launch) (dC : Nat → ClassId) (dI : Nat → Nat → Nat) (cI cB cO : ClassId) (n0 sz : Nat) (a_t : Nat) (a_camp : Nat) (a_kept : Nat) (a_ears : Nat) (a_walk : Nat) (a_trials : Nat) (a_tape : Nat) (a_sheets : Nat) (a_found : Nat) (a_tape_bytes : Nat)   (v_isKept : Int32) (f_found : Nat → Int32) (v_tape_size : Int32) (v_tape_start : Int32) (v_tape_behind : Int32) (v_tape_sort : Int32) (v_tape_number : Int32) (f_tape_bytes : Nat → Int32) (p1 : Int32) (p2 : Int32)  {ro : Int32} {o0 : Nat → Int32} {o1 : Int32} {o2 : Nat → Int32} (hF : F_X6_feed n0 f_found v_tape_size f_tape_bytes p1 p2 = some (ro, o0, o1, o2)) : Met l yX6_feed wsX6_feed rmX6_feed (va_Pc [.ref a_t, .int p1, .int p2] (gPre (dC, dI) (gT cI cB cO) sz [oX6 a_t a_camp a_kept a_ears a_walk a_trials a_tape a_sheets a_found v_isKept, aA cI a_found 7 f_found, oX3 a_tape v_tape_size a_tape_bytes v_tape_start v_tape_behind v_tape_sort v_tape_number, aA cI a_tape_bytes 120 f_tape_bytes])) (gQi (dC, dI) (gT cI cB cO) sz [oX6 a_t a_camp a_kept a_ears a_walk a_trials a_tape a_sheets a_found v_isKept, aA cI a_found 7 f_found, oX3 a_tape v_tape_size a_tape_bytes v_tape_start v_tape_behind v_tape_sort v_tape_number, aA cI a_tape_bytes 120 f_tape_bytes] ro [oX6 a_t a_camp a_kept a_ears a_walk a_trials a_tape a_sheets a_found v_isKept, aA cI a_found 7 o0, oX3 a_tape o1 a_tape_bytes v_tape_start v_tape_behind v_tape_sort v_tape_number, aA cI a_tape_bytes 120 o2]) 0 0 (va_A [oX6 a_t a_camp a_kept a_ears a_walk a_trials a_tape a_sheets a_found v_isKept, aA cI a_found 7 f_found, oX3 a_tape v_tape_size a_tape_bytes v_tape_start v_tape_behind v_tape_sort v_tape_number, aA cI a_tape_bytes 120 f_tape_bytes] sz) := by
  refine g_metI (Out := Int32 × (Nat → Int32) × Int32 × (Nat → Int32)) (fun oo => oo.1) (fun oo => [oX6 a_t a_camp a_kept a_ears a_walk a_trials a_tape a_sheets a_found v_isKept, aA cI a_found 7 oo.2.1, oX3 a_tape oo.2.2.1 a_tape_bytes v_tape_start v_tape_behind v_tape_sort v_tape_number, aA cI a_tape_bytes 120 oo.2.2.2]) (ro, o0, o1, o2) (own := RX6) (lv := [(0, .ref a_t), (1, .int p1), (2, .int p2)]) (by decide) rfl rfl (Nat.le_of_ble_eq_true rfl) rfl ?_
  intro p e s m args below meth c Q ls C hret hV hl
  obtain ⟨out, hout⟩ : ∃ z : Int32 × (Nat → Int32) × Int32 × (Nat → Int32), z = (ro, o0, o1, o2) := ⟨_, rfl⟩
  rw [← hout] at hF hret
  obtain ⟨H0, hH0⟩ : ∃ z : Heap, z = s.heap := ⟨_, rfl⟩
  obtain ⟨A0, hA0⟩ : ∃ z : Nat → Prop, z = va_A [oX6 a_t a_camp a_kept a_ears a_walk a_trials a_tape a_sheets a_found v_isKept, aA cI a_found 7 f_found, oX3 a_tape v_tape_size a_tape_bytes v_tape_start v_tape_behind v_tape_sort v_tape_number, aA cI a_tape_bytes 120 f_tape_bytes] s.heap.size := ⟨_, rfl⟩
  rw [← hA0] at hret hV
  rw [← hH0] at hret hV
  rw [← hH0]
  obtain ⟨H, locs, hH⟩ : ∃ (z : Heap) (y : List Loc), z = H0 ∧ y = [] := ⟨_, _, rfl, rfl⟩
  rw [← hH.1, ← hH.2]
  have hV : gV (dC, dI) (gT cI cB cO) A0 H0 s [oX6 a_t a_camp a_kept a_ears a_walk a_trials a_tape a_sheets a_found v_isKept, aA cI a_found 7 f_found, oX3 a_tape v_tape_size a_tape_bytes v_tape_start v_tape_behind v_tape_sort v_tape_number, aA cI a_tape_bytes 120 f_tape_bytes] H locs := by rw [hH.1, hH.2]; exact hV
  unfold F_X6_feed at hF
  refine lv_iconst (v := 1) C.1 C.2.1 dX6_feed_0 rfl ?_
  refine lv_iload_n C.1 C.2.1 dX6_feed_1 rfl (lv_at hl 2 rfl) ?_
  refine lv_iconst (v := 4) C.1 C.2.1 dX6_feed_2 rfl ?_
  obtain ⟨x1, hc, hF⟩ := bd1_s hF
  refine g_cSi (ws' := [oX6 a_t a_camp a_kept a_ears a_walk a_trials a_tape a_sheets a_found v_isKept, aA cI a_found 7 f_found, oX3 a_tape v_tape_size a_tape_bytes v_tape_start v_tape_behind v_tape_sort v_tape_number, aA cI a_tape_bytes 120 f_tape_bytes]) (wr := [oX6 a_t a_camp a_kept a_ears a_walk a_trials a_tape a_sheets a_found v_isKept, aA cI a_found 7 f_found, oX3 a_tape v_tape_size a_tape_bytes v_tape_start v_tape_behind v_tape_sort v_tape_number, aA cI a_tape_bytes 120 f_tape_bytes]) C hV (k_X6_isFrom l dC dI cI cB cO n0 H.size 1 p2 4 hc) mdX6_isFrom gX6_feed_X6_isFrom rfl rfl ⟨Nat.le_of_ble_eq_true rfl, Nat.le_of_ble_eq_true rfl⟩ [] [0, 1, 2, 3] [0, 1, 2, 3] rfl rfl rfl rfl rfl rfl rfl rfl hl.1 (Nat.le_of_ble_eq_true rfl) rfl dX6_feed_3 (fun H locs hV => ?_)
  refine g_if_ne (tgt := 16) C hF dX6_feed_6 rfl (fun hF => ?_) (fun hF => ?_)
  · refine lv_iload_n C.1 C.2.1 dX6_feed_16 rfl (lv_at hl 2 rfl) ?_
    refine lv_bipush (v := 120) C.1 C.2.1 dX6_feed_17 rfl ?_
    refine lv_aload_n C.1 C.2.1 dX6_feed_19 rfl (lv_at hl 0 rfl) ?_
    refine g_get C hV flX6_feed_47 0 rfl rfl dX6_feed_20 ?_
    refine g_get C hV flX6_feed_245 2 rfl rfl dX6_feed_23 ?_
    refine g_isub C hF dX6_feed_26 (fun x2 hF => ?_)
    refine g_icmp_le (tgt := 37) C hF dX6_feed_27 rfl (fun hF => ?_) (fun hF => ?_)
    · refine lv_aload_n C.1 C.2.1 dX6_feed_37 rfl (lv_at hl 0 rfl) ?_
      refine g_get C hV flX6_feed_47 0 rfl rfl dX6_feed_38 ?_
      refine lv_iload_n C.1 C.2.1 dX6_feed_41 rfl (lv_at hl 1 rfl) ?_
      refine lv_iload_n C.1 C.2.1 dX6_feed_42 rfl (lv_at hl 2 rfl) ?_
      obtain ⟨x3, g4, hc, hF⟩ := bd2_s hF
      refine g_cVv (ws' := [oX6 a_t a_camp a_kept a_ears a_walk a_trials a_tape a_sheets a_found v_isKept, aA cI a_found 7 f_found, oX3 a_tape x3 a_tape_bytes v_tape_start v_tape_behind v_tape_sort v_tape_number, aA cI a_tape_bytes 120 g4]) (wr := [oX6 a_t a_camp a_kept a_ears a_walk a_trials a_tape a_sheets a_found v_isKept, aA cI a_found 7 f_found]) C hV (k_X3_put l dC dI cI cB cO n0 H.size a_tape a_tape_bytes v_tape_size v_tape_start v_tape_behind v_tape_sort v_tape_number f_tape_bytes p1 p2 hc) mdX3_put gX6_feed_X3_put rfl rfl ⟨Nat.le_of_ble_eq_true rfl, Nat.le_of_ble_eq_true rfl⟩ [2, 3] [0, 1] [0, 1, 2, 3] rfl rfl rfl rfl rfl rfl rfl rfl rfl rfl hl.1 (Nat.le_of_ble_eq_true rfl) rfl dX6_feed_43 (fun H locs hV => ?_)
      refine lv_aload_n C.1 C.2.1 dX6_feed_46 rfl (lv_at hl 0 rfl) ?_
      refine g_get C hV flX6_feed_47 0 rfl rfl dX6_feed_47 ?_
      refine g_get C hV flX6_feed_245 2 rfl rfl dX6_feed_50 ?_
      exact hret (x3, f_found, x3, g4) _ _ _ _ dX6_feed_53 hF hV
    refine lv_aload_n C.1 C.2.1 dX6_feed_30 rfl (lv_at hl 0 rfl) ?_
    refine lv_ldc (v := (-1000002)) C.1 C.2.1 C.2.2.2.1 (C.2.2.2.2 _ ctX6_feed_87) dX6_feed_31 ?_
    obtain ⟨x5, g6, hc, hF⟩ := bd2_s hF
    refine g_cVi (ws' := [oX6 a_t a_camp a_kept a_ears a_walk a_trials a_tape a_sheets a_found v_isKept, aA cI a_found 7 g6, oX3 a_tape v_tape_size a_tape_bytes v_tape_start v_tape_behind v_tape_sort v_tape_number, aA cI a_tape_bytes 120 f_tape_bytes]) (wr := [oX3 a_tape v_tape_size a_tape_bytes v_tape_start v_tape_behind v_tape_sort v_tape_number, aA cI a_tape_bytes 120 f_tape_bytes]) C hV (k_X6_finding l dC dI cI cB cO n0 H.size a_t a_camp a_kept a_ears a_walk a_trials a_tape a_sheets a_found v_isKept f_found ((-1000002)) hc) mdX6_finding gX6_feed_X6_finding rfl rfl ⟨Nat.le_of_ble_eq_true rfl, Nat.le_of_ble_eq_true rfl⟩ [0, 1] [2, 3] [2, 3, 0, 1] rfl rfl rfl rfl rfl rfl rfl rfl rfl rfl hl.1 (Nat.le_of_ble_eq_true rfl) rfl dX6_feed_33 (fun H locs hV => ?_)
    exact hret (x5, g6, v_tape_size, f_tape_bytes) _ _ _ _ dX6_feed_36 hF hV
  refine lv_aload_n C.1 C.2.1 dX6_feed_9 rfl (lv_at hl 0 rfl) ?_
  refine lv_ldc (v := (-1000001)) C.1 C.2.1 C.2.2.2.1 (C.2.2.2.2 _ ctX6_feed_70) dX6_feed_10 ?_
  obtain ⟨x7, g8, hc, hF⟩ := bd2_s hF
  refine g_cVi (ws' := [oX6 a_t a_camp a_kept a_ears a_walk a_trials a_tape a_sheets a_found v_isKept, aA cI a_found 7 g8, oX3 a_tape v_tape_size a_tape_bytes v_tape_start v_tape_behind v_tape_sort v_tape_number, aA cI a_tape_bytes 120 f_tape_bytes]) (wr := [oX3 a_tape v_tape_size a_tape_bytes v_tape_start v_tape_behind v_tape_sort v_tape_number, aA cI a_tape_bytes 120 f_tape_bytes]) C hV (k_X6_finding l dC dI cI cB cO n0 H.size a_t a_camp a_kept a_ears a_walk a_trials a_tape a_sheets a_found v_isKept f_found ((-1000001)) hc) mdX6_finding gX6_feed_X6_finding rfl rfl ⟨Nat.le_of_ble_eq_true rfl, Nat.le_of_ble_eq_true rfl⟩ [0, 1] [2, 3] [2, 3, 0, 1] rfl rfl rfl rfl rfl rfl rfl rfl rfl rfl hl.1 (Nat.le_of_ble_eq_true rfl) rfl dX6_feed_12 (fun H locs hV => ?_)
  exact hret (x7, g8, v_tape_size, f_tape_bytes) _ _ _ _ dX6_feed_15 hF hV
abbrev rmX6_wipe : Room := { frames := 0, cells := 0, slots := 0, locals := 0 }
theorem mdX6_wipe : gMd yX6_wipe wsX6_wipe cX6_wipe 2 (some .int) 0 := ⟨⟨_, rfl⟩, by decide +kernel⟩
theorem flX6_wipe_47 : gFL wsX6_wipe RX6 47 6 5 RX6 TX6 9 := ⟨rfl, fun w h => List.mem_cons_of_mem _ (List.mem_append_left _ (List.mem_append_right _ (h))), Nat.le_of_ble_eq_true rfl, List.mem_cons_of_mem _ (List.mem_append_left _ (List.mem_append_left _ (List.mem_of_getElem? (i := 0) rfl)))⟩
theorem flX6_wipe_245 : gFL wsX6_wipe RX6 245 3 0 RX3 TX3 6 := ⟨rfl, fun w h => List.mem_cons_of_mem _ (List.mem_append_right _ (h)), Nat.le_of_ble_eq_true rfl, List.mem_cons_of_mem _ (List.mem_append_left _ (List.mem_append_left _ (List.mem_of_getElem? (i := 1) rfl)))⟩
theorem fpX6_wipe_245 : gFP wsX6_wipe RX6 245 3 0 RX3 TX3 6 .int := ⟨flX6_wipe_245, ⟨tyX3, tyX3_ok⟩, nmX3, rfl, by decide +kernel⟩
def F_X6_wipe (n0 : Nat) (v_tape_size : Int32) : Option (Int32 × Int32) := some (v_tape_size, 0)
set_option maxRecDepth 100000 in
set_option maxHeartbeats 4000000 in
theorem k_X6_wipe (l : Launch) (dC : Nat → ClassId) (dI : Nat → Nat → Nat) (cI cB cO : ClassId) (n0 sz : Nat) (a_t : Nat) (a_camp : Nat) (a_kept : Nat) (a_ears : Nat) (a_walk : Nat) (a_trials : Nat) (a_tape : Nat) (a_sheets : Nat) (a_found : Nat) (a_tape_bytes : Nat)   (v_isKept : Int32) (v_tape_size : Int32) (v_tape_start : Int32) (v_tape_behind : Int32) (v_tape_sort : Int32) (v_tape_number : Int32)   {ro : Int32} {o0 : Int32} (hF : F_X6_wipe n0 v_tape_size = some (ro, o0)) : Met l yX6_wipe wsX6_wipe rmX6_wipe (va_Pc [.ref a_t] (gPre (dC, dI) (gT cI cB cO) sz [oX6 a_t a_camp a_kept a_ears a_walk a_trials a_tape a_sheets a_found v_isKept, oX3 a_tape v_tape_size a_tape_bytes v_tape_start v_tape_behind v_tape_sort v_tape_number])) (gQi (dC, dI) (gT cI cB cO) sz [oX6 a_t a_camp a_kept a_ears a_walk a_trials a_tape a_sheets a_found v_isKept, oX3 a_tape v_tape_size a_tape_bytes v_tape_start v_tape_behind v_tape_sort v_tape_number] ro [oX6 a_t a_camp a_kept a_ears a_walk a_trials a_tape a_sheets a_found v_isKept, oX3 a_tape o0 a_tape_bytes v_tape_start v_tape_behind v_tape_sort v_tape_number]) 0 0 (va_A [oX6 a_t a_camp a_kept a_ears a_walk a_trials a_tape a_sheets a_found v_isKept, oX3 a_tape v_tape_size a_tape_bytes v_tape_start v_tape_behind v_tape_sort v_tape_number] sz) := by
  refine g_metI (Out := Int32 × Int32) (fun oo => oo.1) (fun oo => [oX6 a_t a_camp a_kept a_ears a_walk a_trials a_tape a_sheets a_found v_isKept, oX3 a_tape oo.2 a_tape_bytes v_tape_start v_tape_behind v_tape_sort v_tape_number]) (ro, o0) (own := RX6) (lv := [(0, .ref a_t)]) (by decide) rfl rfl (Nat.le_of_ble_eq_true rfl) rfl ?_
  intro p e s m args below meth c Q ls C hret hV hl
  obtain ⟨out, hout⟩ : ∃ z : Int32 × Int32, z = (ro, o0) := ⟨_, rfl⟩
  rw [← hout] at hF hret
  obtain ⟨H0, hH0⟩ : ∃ z : Heap, z = s.heap := ⟨_, rfl⟩
  obtain ⟨A0, hA0⟩ : ∃ z : Nat → Prop, z = va_A [oX6 a_t a_camp a_kept a_ears a_walk a_trials a_tape a_sheets a_found v_isKept, oX3 a_tape v_tape_size a_tape_bytes v_tape_start v_tape_behind v_tape_sort v_tape_number] s.heap.size := ⟨_, rfl⟩
  rw [← hA0] at hret hV
  rw [← hH0] at hret hV
  rw [← hH0]
  obtain ⟨H, locs, hH⟩ : ∃ (z : Heap) (y : List Loc), z = H0 ∧ y = [] := ⟨_, _, rfl, rfl⟩
  rw [← hH.1, ← hH.2]
  have hV : gV (dC, dI) (gT cI cB cO) A0 H0 s [oX6 a_t a_camp a_kept a_ears a_walk a_trials a_tape a_sheets a_found v_isKept, oX3 a_tape v_tape_size a_tape_bytes v_tape_start v_tape_behind v_tape_sort v_tape_number] H locs := by rw [hH.1, hH.2]; exact hV
  unfold F_X6_wipe at hF
  refine lv_aload_n C.1 C.2.1 dX6_wipe_0 rfl (lv_at hl 0 rfl) ?_
  refine g_get C hV flX6_wipe_47 0 rfl rfl dX6_wipe_1 ?_
  refine g_get C hV flX6_wipe_245 1 rfl rfl dX6_wipe_4 ?_
  refine lv_istore_n (lv' := [(1, .int v_tape_size), (0, .ref a_t)]) C.1 C.2.1 dX6_wipe_7 rfl hl (by decide) rfl (fun ls hl => ?_)
  refine lv_aload_n C.1 C.2.1 dX6_wipe_8 rfl (lv_at hl 1 rfl) ?_
  refine g_get C hV flX6_wipe_47 0 rfl rfl dX6_wipe_9 ?_
  refine lv_iconst (v := 0) C.1 C.2.1 dX6_wipe_12 rfl ?_
  refine g_put (ws' := [oX6 a_t a_camp a_kept a_ears a_walk a_trials a_tape a_sheets a_found v_isKept, oX3 a_tape 0 a_tape_bytes v_tape_start v_tape_behind v_tape_sort v_tape_number]) C hV fpX6_wipe_245 1 rfl rfl rfl (Nat.le_of_ble_eq_true rfl) rfl dX6_wipe_13 (fun H locs hV => ?_)
  refine lv_iload_n C.1 C.2.1 dX6_wipe_16 rfl (lv_at hl 0 rfl) ?_
  exact hret (v_tape_size, 0) _ _ _ _ dX6_wipe_17 hF hV
abbrev rmX6_isSpot : Room := { frames := 1, cells := 0, slots := 0, locals := 22 }
theorem mdX6_isSpot : gMd yX6_isSpot wsX6_isSpot cX6_isSpot 1 (some .boolean) 1 := ⟨⟨_, rfl⟩, by decide +kernel⟩
def F_X6_isSpot (n0 : Nat) (p1 : Int32) : Option (Int32) := bd1 (F_X6_isFrom n0 0 p1 9) (fun x1 => bz x1 (some x1))
set_option maxRecDepth 100000 in
set_option maxHeartbeats 4000000 in
theorem k_X6_isSpot (l : Launch) (dC : Nat → ClassId) (dI : Nat → Nat → Nat) (cI cB cO : ClassId) (n0 sz : Nat)     (p1 : Int32)  {ro : Int32} (hF : F_X6_isSpot n0 p1 = some ro) : Met l yX6_isSpot wsX6_isSpot rmX6_isSpot (va_Pc [.int p1] (gPre (dC, dI) (gT cI cB cO) sz [])) (gQi (dC, dI) (gT cI cB cO) sz [] ro []) 0 0 (va_A [] sz) := by
  refine g_metZ (Out := Int32) (fun oo => oo) (fun oo => []) ro (own := RX6) (lv := [(0, .int p1)]) (by decide) rfl rfl (Nat.le_of_ble_eq_true rfl) rfl ?_
  intro p e s m args below meth c Q ls C hret hV hl
  obtain ⟨out, hout⟩ : ∃ z : Int32, z = ro := ⟨_, rfl⟩
  rw [← hout] at hF hret
  obtain ⟨H0, hH0⟩ : ∃ z : Heap, z = s.heap := ⟨_, rfl⟩
  obtain ⟨A0, hA0⟩ : ∃ z : Nat → Prop, z = va_A [] s.heap.size := ⟨_, rfl⟩
  rw [← hA0] at hret hV
  rw [← hH0] at hret hV
  rw [← hH0]
  obtain ⟨H, locs, hH⟩ : ∃ (z : Heap) (y : List Loc), z = H0 ∧ y = [] := ⟨_, _, rfl, rfl⟩
  rw [← hH.1, ← hH.2]
  have hV : gV (dC, dI) (gT cI cB cO) A0 H0 s [] H locs := by rw [hH.1, hH.2]; exact hV
  unfold F_X6_isSpot at hF
  refine lv_iconst (v := 0) C.1 C.2.1 dX6_isSpot_0 rfl ?_
  refine lv_iload_n C.1 C.2.1 dX6_isSpot_1 rfl (lv_at hl 0 rfl) ?_
  refine lv_bipush (v := 9) C.1 C.2.1 dX6_isSpot_2 rfl ?_
  obtain ⟨x1, hc, hF⟩ := bd1_s hF
  refine g_cSi (ws' := []) (wr := []) C hV (k_X6_isFrom l dC dI cI cB cO n0 H.size 0 p1 9 hc) mdX6_isFrom gX6_isSpot_X6_isFrom rfl rfl ⟨Nat.le_of_ble_eq_true rfl, Nat.le_of_ble_eq_true rfl⟩ [] [] [] rfl rfl rfl rfl rfl rfl rfl rfl hl.1 (Nat.le_of_ble_eq_true rfl) rfl dX6_isSpot_4 (fun H locs hV => ?_)
  obtain ⟨hz, hF⟩ := bz_s hF
  exact hret x1 _ _ _ _ dX6_isSpot_7 hF hz hV
abbrev rmX6_hold : Room := { frames := 2, cells := 0, slots := 0, locals := 44 }
theorem mdX6_hold : gMd yX6_hold wsX6_hold cX6_hold 3 (some .int) 2 := ⟨⟨_, rfl⟩, by decide +kernel⟩
theorem ctX6_hold_70 : Cond.constant RX6 70 (-1000001) ∈ wsX6_hold := List.mem_cons_of_mem _ (List.mem_append_left _ (List.mem_append_left _ (List.mem_of_getElem? (i := 1) rfl)))
theorem flX6_hold_12 : gFL wsX6_hold RX6 12 6 0 RX6 TX6 9 := ⟨rfl, fun w h => List.mem_cons_of_mem _ (List.mem_append_left _ (List.mem_append_right _ (h))), Nat.le_of_ble_eq_true rfl, List.mem_cons_of_mem _ (List.mem_append_left _ (List.mem_append_left _ (List.mem_of_getElem? (i := 0) rfl)))⟩
theorem flX6_hold_258 : gFL wsX6_hold RX6 258 0 2 RX0 TX0 10 := ⟨rfl, fun w h => List.mem_cons_of_mem _ (List.mem_append_right _ (h)), Nat.le_of_ble_eq_true rfl, List.mem_cons_of_mem _ (List.mem_append_left _ (List.mem_append_left _ (List.mem_of_getElem? (i := 2) rfl)))⟩
def J_X6_hold_30 (f_camp_spots : Nat → Int32) (p1 : Int32) (p2 : Int32) (f_found : Nat → Int32) : Option (Int32 × (Nat → Int32) × (Nat → Int32)) := wrt f_camp_spots 10 p1 p2 (fun g4 => some ((1, f_found, g4) : Int32 × (Nat → Int32) × (Nat → Int32)))
def F_X6_hold (n0 : Nat) (v_camp_tents : Int32) (f_found : Nat → Int32) (f_camp_spots : Nat → Int32) (p1 : Int32) (p2 : Int32) : Option (Int32 × (Nat → Int32) × (Nat → Int32)) := bd1 (F_X6_isSpot n0 p1) (fun x1 => (if x1 = 0 then bd2 (F_X6_finding n0 f_found ((-1000001))) (fun x2 g3 => some (x2, g3, f_camp_spots)) else (if p2 = ((-1)) then J_X6_hold_30 f_camp_spots p1 p2 f_found else bd1 (F_X0_has n0 v_camp_tents p2) (fun x5 => (if x5 = 0 then bd2 (F_X6_finding n0 f_found ((-1000001))) (fun x6 g7 => some (x6, g7, f_camp_spots)) else J_X6_hold_30 f_camp_spots p1 p2 f_found)))))
set_option maxRecDepth 100000 in
set_option maxHeartbeats 4000000 in
theorem k_X6_hold (l : Launch) (dC : Nat → ClassId) (dI : Nat → Nat → Nat) (cI cB cO : ClassId) (n0 sz : Nat) (a_t : Nat) (a_camp : Nat) (a_kept : Nat) (a_ears : Nat) (a_walk : Nat) (a_trials : Nat) (a_tape : Nat) (a_sheets : Nat) (a_found : Nat) (a_camp_kinds : Nat) (a_camp_yards : Nat) (a_camp_spots : Nat)   (v_isKept : Int32) (v_camp_tents : Int32) (v_camp_said : Int32) (v_camp_wall : Int32) (v_camp_bridge : Int32) (v_camp_counted : Int32) (v_camp_day : Int32) (v_camp_z : Int32) (f_found : Nat → Int32) (f_camp_spots : Nat → Int32) (p1 : Int32) (p2 : Int32)  {ro : Int32} {o0 : Nat → Int32} {o1 : Nat → Int32} (hF : F_X6_hold n0 v_camp_tents f_found f_camp_spots p1 p2 = some (ro, o0, o1)) : Met l yX6_hold wsX6_hold rmX6_hold (va_Pc [.ref a_t, .int p1, .int p2] (gPre (dC, dI) (gT cI cB cO) sz [oX6 a_t a_camp a_kept a_ears a_walk a_trials a_tape a_sheets a_found v_isKept, oX0 a_camp a_camp_kinds a_camp_yards a_camp_spots v_camp_tents v_camp_said v_camp_wall v_camp_bridge v_camp_counted v_camp_day v_camp_z, aA cI a_found 7 f_found, aA cI a_camp_spots 10 f_camp_spots])) (gQi (dC, dI) (gT cI cB cO) sz [oX6 a_t a_camp a_kept a_ears a_walk a_trials a_tape a_sheets a_found v_isKept, oX0 a_camp a_camp_kinds a_camp_yards a_camp_spots v_camp_tents v_camp_said v_camp_wall v_camp_bridge v_camp_counted v_camp_day v_camp_z, aA cI a_found 7 f_found, aA cI a_camp_spots 10 f_camp_spots] ro [oX6 a_t a_camp a_kept a_ears a_walk a_trials a_tape a_sheets a_found v_isKept, oX0 a_camp a_camp_kinds a_camp_yards a_camp_spots v_camp_tents v_camp_said v_camp_wall v_camp_bridge v_camp_counted v_camp_day v_camp_z, aA cI a_found 7 o0, aA cI a_camp_spots 10 o1]) 0 0 (va_A [oX6 a_t a_camp a_kept a_ears a_walk a_trials a_tape a_sheets a_found v_isKept, oX0 a_camp a_camp_kinds a_camp_yards a_camp_spots v_camp_tents v_camp_said v_camp_wall v_camp_bridge v_camp_counted v_camp_day v_camp_z, aA cI a_found 7 f_found, aA cI a_camp_spots 10 f_camp_spots] sz) := by
  refine g_metI (Out := Int32 × (Nat → Int32) × (Nat → Int32)) (fun oo => oo.1) (fun oo => [oX6 a_t a_camp a_kept a_ears a_walk a_trials a_tape a_sheets a_found v_isKept, oX0 a_camp a_camp_kinds a_camp_yards a_camp_spots v_camp_tents v_camp_said v_camp_wall v_camp_bridge v_camp_counted v_camp_day v_camp_z, aA cI a_found 7 oo.2.1, aA cI a_camp_spots 10 oo.2.2]) (ro, o0, o1) (own := RX6) (lv := [(0, .ref a_t), (1, .int p1), (2, .int p2)]) (by decide) rfl rfl (Nat.le_of_ble_eq_true rfl) rfl ?_
  intro p e s m args below meth c Q ls C hret hV hl
  obtain ⟨out, hout⟩ : ∃ z : Int32 × (Nat → Int32) × (Nat → Int32), z = (ro, o0, o1) := ⟨_, rfl⟩
  rw [← hout] at hF hret
  obtain ⟨H0, hH0⟩ : ∃ z : Heap, z = s.heap := ⟨_, rfl⟩
  obtain ⟨A0, hA0⟩ : ∃ z : Nat → Prop, z = va_A [oX6 a_t a_camp a_kept a_ears a_walk a_trials a_tape a_sheets a_found v_isKept, oX0 a_camp a_camp_kinds a_camp_yards a_camp_spots v_camp_tents v_camp_said v_camp_wall v_camp_bridge v_camp_counted v_camp_day v_camp_z, aA cI a_found 7 f_found, aA cI a_camp_spots 10 f_camp_spots] s.heap.size := ⟨_, rfl⟩
  rw [← hA0] at hret hV
  rw [← hH0] at hret hV
  rw [← hH0]
  obtain ⟨H, locs, hH⟩ : ∃ (z : Heap) (y : List Loc), z = H0 ∧ y = [] := ⟨_, _, rfl, rfl⟩
  rw [← hH.1, ← hH.2]
  have hV : gV (dC, dI) (gT cI cB cO) A0 H0 s [oX6 a_t a_camp a_kept a_ears a_walk a_trials a_tape a_sheets a_found v_isKept, oX0 a_camp a_camp_kinds a_camp_yards a_camp_spots v_camp_tents v_camp_said v_camp_wall v_camp_bridge v_camp_counted v_camp_day v_camp_z, aA cI a_found 7 f_found, aA cI a_camp_spots 10 f_camp_spots] H locs := by rw [hH.1, hH.2]; exact hV
  unfold F_X6_hold at hF
  refine lv_iload_n C.1 C.2.1 dX6_hold_0 rfl (lv_at hl 1 rfl) ?_
  obtain ⟨x1, hc, hF⟩ := bd1_s hF
  refine g_cSi (ws' := [oX6 a_t a_camp a_kept a_ears a_walk a_trials a_tape a_sheets a_found v_isKept, oX0 a_camp a_camp_kinds a_camp_yards a_camp_spots v_camp_tents v_camp_said v_camp_wall v_camp_bridge v_camp_counted v_camp_day v_camp_z, aA cI a_found 7 f_found, aA cI a_camp_spots 10 f_camp_spots]) (wr := [oX6 a_t a_camp a_kept a_ears a_walk a_trials a_tape a_sheets a_found v_isKept, oX0 a_camp a_camp_kinds a_camp_yards a_camp_spots v_camp_tents v_camp_said v_camp_wall v_camp_bridge v_camp_counted v_camp_day v_camp_z, aA cI a_found 7 f_found, aA cI a_camp_spots 10 f_camp_spots]) C hV (k_X6_isSpot l dC dI cI cB cO n0 H.size p1 hc) mdX6_isSpot gX6_hold_X6_isSpot rfl rfl ⟨Nat.le_of_ble_eq_true rfl, Nat.le_of_ble_eq_true rfl⟩ [] [0, 1, 2, 3] [0, 1, 2, 3] rfl rfl rfl rfl rfl rfl rfl rfl hl.1 (Nat.le_of_ble_eq_true rfl) rfl dX6_hold_1 (fun H locs hV => ?_)
  refine g_if_eq (tgt := 23) C hF dX6_hold_4 rfl (fun hF => ?_) (fun hF => ?_)
  · refine lv_aload_n C.1 C.2.1 dX6_hold_23 rfl (lv_at hl 0 rfl) ?_
    refine lv_ldc (v := (-1000001)) C.1 C.2.1 C.2.2.2.1 (C.2.2.2.2 _ ctX6_hold_70) dX6_hold_24 ?_
    obtain ⟨x2, g3, hc, hF⟩ := bd2_s hF
    refine g_cVi (ws' := [oX6 a_t a_camp a_kept a_ears a_walk a_trials a_tape a_sheets a_found v_isKept, oX0 a_camp a_camp_kinds a_camp_yards a_camp_spots v_camp_tents v_camp_said v_camp_wall v_camp_bridge v_camp_counted v_camp_day v_camp_z, aA cI a_found 7 g3, aA cI a_camp_spots 10 f_camp_spots]) (wr := [oX0 a_camp a_camp_kinds a_camp_yards a_camp_spots v_camp_tents v_camp_said v_camp_wall v_camp_bridge v_camp_counted v_camp_day v_camp_z, aA cI a_camp_spots 10 f_camp_spots]) C hV (k_X6_finding l dC dI cI cB cO n0 H.size a_t a_camp a_kept a_ears a_walk a_trials a_tape a_sheets a_found v_isKept f_found ((-1000001)) hc) mdX6_finding gX6_hold_X6_finding rfl rfl ⟨Nat.le_of_ble_eq_true rfl, Nat.le_of_ble_eq_true rfl⟩ [0, 2] [1, 3] [2, 0, 3, 1] rfl rfl rfl rfl rfl rfl rfl rfl rfl rfl hl.1 (Nat.le_of_ble_eq_true rfl) rfl dX6_hold_26 (fun H locs hV => ?_)
    exact hret (x2, g3, f_camp_spots) _ _ _ _ dX6_hold_29 hF hV
  refine lv_iload_n C.1 C.2.1 dX6_hold_7 rfl (lv_at hl 2 rfl) ?_
  refine lv_iconst (v := (-1)) C.1 C.2.1 dX6_hold_8 rfl ?_
  have hJ30 : ∀  (H : Heap) (locs : List Loc) (ls : Array Slot), gV (dC, dI) (gT cI cB cO) A0 H0 s [oX6 a_t a_camp a_kept a_ears a_walk a_trials a_tape a_sheets a_found v_isKept, oX0 a_camp a_camp_kinds a_camp_yards a_camp_spots v_camp_tents v_camp_said v_camp_wall v_camp_bridge v_camp_counted v_camp_day v_camp_z, aA cI a_found 7 f_found, aA cI a_camp_spots 10 f_camp_spots] H locs → lv_has ls 3 [(0, .ref a_t), (1, .int p1), (2, .int p2)] → J_X6_hold_30 f_camp_spots p1 p2 f_found = some out → W p l e rmX6_hold s m args below meth c H locs 0 0 Q (F0 m 30 ls []) := by
    intro  H locs ls hV hl hF
    unfold J_X6_hold_30 at hF
    refine lv_aload_n C.1 C.2.1 dX6_hold_30 rfl (lv_at hl 0 rfl) ?_
    refine g_get C hV flX6_hold_12 0 rfl rfl dX6_hold_31 ?_
    refine g_get C hV flX6_hold_258 1 rfl rfl dX6_hold_34 ?_
    refine lv_iload_n C.1 C.2.1 dX6_hold_37 rfl (lv_at hl 1 rfl) ?_
    refine lv_iload_n C.1 C.2.1 dX6_hold_38 rfl (lv_at hl 2 rfl) ?_
    refine g_iast C hV 3 rfl hF (fun gq => [oX6 a_t a_camp a_kept a_ears a_walk a_trials a_tape a_sheets a_found v_isKept, oX0 a_camp a_camp_kinds a_camp_yards a_camp_spots v_camp_tents v_camp_said v_camp_wall v_camp_bridge v_camp_counted v_camp_day v_camp_z, aA cI a_found 7 f_found, aA cI a_camp_spots 10 gq]) (fun _ => rfl) dX6_hold_39 (fun g4 H locs hF hV => ?_)
    refine lv_iconst (v := 1) C.1 C.2.1 dX6_hold_40 rfl ?_
    exact hret ((1, f_found, g4) : Int32 × (Nat → Int32) × (Nat → Int32)) _ _ _ _ dX6_hold_41 hF hV
  refine g_icmp_eq (tgt := 30) C hF dX6_hold_9 rfl (fun hF => ?_) (fun hF => ?_)
  · exact hJ30  H locs ls hV (lv_sub hl [0, 1, 2] rfl) hF
  refine lv_aload_n C.1 C.2.1 dX6_hold_12 rfl (lv_at hl 0 rfl) ?_
  refine g_get C hV flX6_hold_12 0 rfl rfl dX6_hold_13 ?_
  refine lv_iload_n C.1 C.2.1 dX6_hold_16 rfl (lv_at hl 2 rfl) ?_
  obtain ⟨x5, hc, hF⟩ := bd1_s hF
  refine g_cVi (ws' := [oX6 a_t a_camp a_kept a_ears a_walk a_trials a_tape a_sheets a_found v_isKept, oX0 a_camp a_camp_kinds a_camp_yards a_camp_spots v_camp_tents v_camp_said v_camp_wall v_camp_bridge v_camp_counted v_camp_day v_camp_z, aA cI a_found 7 f_found, aA cI a_camp_spots 10 f_camp_spots]) (wr := [oX6 a_t a_camp a_kept a_ears a_walk a_trials a_tape a_sheets a_found v_isKept, aA cI a_found 7 f_found, aA cI a_camp_spots 10 f_camp_spots]) C hV (k_X0_has l dC dI cI cB cO n0 H.size a_camp a_camp_kinds a_camp_yards a_camp_spots v_camp_tents v_camp_said v_camp_wall v_camp_bridge v_camp_counted v_camp_day v_camp_z p2 hc) mdX0_has gX6_hold_X0_has rfl rfl ⟨Nat.le_of_ble_eq_true rfl, Nat.le_of_ble_eq_true rfl⟩ [1] [0, 2, 3] [0, 3, 1, 2] rfl rfl rfl rfl rfl rfl rfl rfl rfl rfl hl.1 (Nat.le_of_ble_eq_true rfl) rfl dX6_hold_17 (fun H locs hV => ?_)
  refine g_if_ne (tgt := 30) C hF dX6_hold_20 rfl (fun hF => ?_) (fun hF => ?_)
  · exact hJ30  H locs ls hV (lv_sub hl [0, 1, 2] rfl) hF
  refine lv_aload_n C.1 C.2.1 dX6_hold_23 rfl (lv_at hl 0 rfl) ?_
  refine lv_ldc (v := (-1000001)) C.1 C.2.1 C.2.2.2.1 (C.2.2.2.2 _ ctX6_hold_70) dX6_hold_24 ?_
  obtain ⟨x6, g7, hc, hF⟩ := bd2_s hF
  refine g_cVi (ws' := [oX6 a_t a_camp a_kept a_ears a_walk a_trials a_tape a_sheets a_found v_isKept, oX0 a_camp a_camp_kinds a_camp_yards a_camp_spots v_camp_tents v_camp_said v_camp_wall v_camp_bridge v_camp_counted v_camp_day v_camp_z, aA cI a_found 7 g7, aA cI a_camp_spots 10 f_camp_spots]) (wr := [oX0 a_camp a_camp_kinds a_camp_yards a_camp_spots v_camp_tents v_camp_said v_camp_wall v_camp_bridge v_camp_counted v_camp_day v_camp_z, aA cI a_camp_spots 10 f_camp_spots]) C hV (k_X6_finding l dC dI cI cB cO n0 H.size a_t a_camp a_kept a_ears a_walk a_trials a_tape a_sheets a_found v_isKept f_found ((-1000001)) hc) mdX6_finding gX6_hold_X6_finding rfl rfl ⟨Nat.le_of_ble_eq_true rfl, Nat.le_of_ble_eq_true rfl⟩ [0, 2] [1, 3] [2, 0, 3, 1] rfl rfl rfl rfl rfl rfl rfl rfl rfl rfl hl.1 (Nat.le_of_ble_eq_true rfl) rfl dX6_hold_26 (fun H locs hV => ?_)
  exact hret (x6, g7, f_camp_spots) _ _ _ _ dX6_hold_29 hF hV
abbrev rmX6_isSheet : Room := { frames := 1, cells := 0, slots := 0, locals := 22 }
theorem mdX6_isSheet : gMd yX6_isSheet wsX6_isSheet cX6_isSheet 1 (some .boolean) 1 := ⟨⟨_, rfl⟩, by decide +kernel⟩
def F_X6_isSheet (n0 : Nat) (p1 : Int32) : Option (Int32) := bd1 (F_X6_isFrom n0 0 p1 3) (fun x1 => bz x1 (some x1))
set_option maxRecDepth 100000 in
set_option maxHeartbeats 4000000 in
theorem k_X6_isSheet (l : Launch) (dC : Nat → ClassId) (dI : Nat → Nat → Nat) (cI cB cO : ClassId) (n0 sz : Nat)     (p1 : Int32)  {ro : Int32} (hF : F_X6_isSheet n0 p1 = some ro) : Met l yX6_isSheet wsX6_isSheet rmX6_isSheet (va_Pc [.int p1] (gPre (dC, dI) (gT cI cB cO) sz [])) (gQi (dC, dI) (gT cI cB cO) sz [] ro []) 0 0 (va_A [] sz) := by
  refine g_metZ (Out := Int32) (fun oo => oo) (fun oo => []) ro (own := RX6) (lv := [(0, .int p1)]) (by decide) rfl rfl (Nat.le_of_ble_eq_true rfl) rfl ?_
  intro p e s m args below meth c Q ls C hret hV hl
  obtain ⟨out, hout⟩ : ∃ z : Int32, z = ro := ⟨_, rfl⟩
  rw [← hout] at hF hret
  obtain ⟨H0, hH0⟩ : ∃ z : Heap, z = s.heap := ⟨_, rfl⟩
  obtain ⟨A0, hA0⟩ : ∃ z : Nat → Prop, z = va_A [] s.heap.size := ⟨_, rfl⟩
  rw [← hA0] at hret hV
  rw [← hH0] at hret hV
  rw [← hH0]
  obtain ⟨H, locs, hH⟩ : ∃ (z : Heap) (y : List Loc), z = H0 ∧ y = [] := ⟨_, _, rfl, rfl⟩
  rw [← hH.1, ← hH.2]
  have hV : gV (dC, dI) (gT cI cB cO) A0 H0 s [] H locs := by rw [hH.1, hH.2]; exact hV
  unfold F_X6_isSheet at hF
  refine lv_iconst (v := 0) C.1 C.2.1 dX6_isSheet_0 rfl ?_
  refine lv_iload_n C.1 C.2.1 dX6_isSheet_1 rfl (lv_at hl 0 rfl) ?_
  refine lv_iconst (v := 3) C.1 C.2.1 dX6_isSheet_2 rfl ?_
  obtain ⟨x1, hc, hF⟩ := bd1_s hF
  refine g_cSi (ws' := []) (wr := []) C hV (k_X6_isFrom l dC dI cI cB cO n0 H.size 0 p1 3 hc) mdX6_isFrom gX6_isSheet_X6_isFrom rfl rfl ⟨Nat.le_of_ble_eq_true rfl, Nat.le_of_ble_eq_true rfl⟩ [] [] [] rfl rfl rfl rfl rfl rfl rfl rfl hl.1 (Nat.le_of_ble_eq_true rfl) rfl dX6_isSheet_3 (fun H locs hV => ?_)
  obtain ⟨hz, hF⟩ := bz_s hF
  exact hret x1 _ _ _ _ dX6_isSheet_6 hF hz hV
abbrev rmX6_sheet : Room := { frames := 2, cells := 0, slots := 0, locals := 45 }
theorem mdX6_sheet : gMd yX6_sheet wsX6_sheet cX6_sheet 4 (some .int) 3 := ⟨⟨_, rfl⟩, by decide +kernel⟩
theorem ctX6_sheet_70 : Cond.constant RX6 70 (-1000001) ∈ wsX6_sheet := List.mem_cons_of_mem _ (List.mem_append_left _ (List.mem_append_left _ (List.mem_append_left _ (List.mem_of_getElem? (i := 0) rfl))))
theorem flX6_sheet_53 : gFL wsX6_sheet RX6 53 6 6 RX6 TX6 9 := ⟨rfl, fun w h => List.mem_cons_of_mem _ (List.mem_append_left _ (List.mem_append_right _ (h))), Nat.le_of_ble_eq_true rfl, List.mem_cons_of_mem _ (List.mem_append_left _ (List.mem_append_left _ (List.mem_append_left _ (List.mem_of_getElem? (i := 2) rfl))))⟩
theorem flX6_sheet_273 : gFL wsX6_sheet RX6 273 2 2 RX2 TX2 3 := ⟨rfl, fun w h => List.mem_cons_of_mem _ (List.mem_append_right _ (h)), Nat.le_of_ble_eq_true rfl, List.mem_cons_of_mem _ (List.mem_append_left _ (List.mem_append_left _ (List.mem_append_left _ (List.mem_of_getElem? (i := 3) rfl))))⟩
theorem ctX6_sheet_269 : Cond.constant RX6 269 (-1000007) ∈ wsX6_sheet := List.mem_cons_of_mem _ (List.mem_append_left _ (List.mem_append_left _ (List.mem_append_left _ (List.mem_of_getElem? (i := 1) rfl))))
def J_X6_sheet_36 (p3 : Int32) (p1 : Int32) (n0 : Nat) (v_sheets_p1_bits : Int32) (v_sheets_p1_size : Int32) (f_sheets_p1_numbers : Nat → Int32) (p2 : Int32) (f_found : Nat → Int32) : Option (Int32 × (Nat → Int32) × Int32 × Int32 × (Nat → Int32)) := (if 0 ≤ p3 then (if p3 ≤ 40 then ixq p1 4 (bd3 (F_X2_layOut n0 v_sheets_p1_bits v_sheets_p1_size f_sheets_p1_numbers p2 p3) (fun x4 x5 g6 => ixq p1 4 (some (x5, f_found, x4, x5, g6)))) else bd2 (F_X6_finding n0 f_found ((-1000001))) (fun x7 g8 => some (x7, g8, v_sheets_p1_bits, v_sheets_p1_size, f_sheets_p1_numbers))) else bd2 (F_X6_finding n0 f_found ((-1000007))) (fun x9 g10 => some (x9, g10, v_sheets_p1_bits, v_sheets_p1_size, f_sheets_p1_numbers)))
def F_X6_sheet (n0 : Nat) (f_found : Nat → Int32) (v_sheets_p1_bits : Int32) (v_sheets_p1_size : Int32) (f_sheets_p1_numbers : Nat → Int32) (p1 : Int32) (p2 : Int32) (p3 : Int32) : Option (Int32 × (Nat → Int32) × Int32 × Int32 × (Nat → Int32)) := bd1 (F_X6_isSheet n0 p1) (fun x1 => (if x1 = 0 then bd2 (F_X6_finding n0 f_found ((-1000001))) (fun x2 g3 => some (x2, g3, v_sheets_p1_bits, v_sheets_p1_size, f_sheets_p1_numbers)) else (if p2 = 0 then J_X6_sheet_36 p3 p1 n0 v_sheets_p1_bits v_sheets_p1_size f_sheets_p1_numbers p2 f_found else (if p2 = 8 then J_X6_sheet_36 p3 p1 n0 v_sheets_p1_bits v_sheets_p1_size f_sheets_p1_numbers p2 f_found else (if p2 = 16 then J_X6_sheet_36 p3 p1 n0 v_sheets_p1_bits v_sheets_p1_size f_sheets_p1_numbers p2 f_found else (if p2 = 32 then J_X6_sheet_36 p3 p1 n0 v_sheets_p1_bits v_sheets_p1_size f_sheets_p1_numbers p2 f_found else bd2 (F_X6_finding n0 f_found ((-1000001))) (fun x11 g12 => some (x11, g12, v_sheets_p1_bits, v_sheets_p1_size, f_sheets_p1_numbers))))))))
set_option maxRecDepth 100000 in
set_option maxHeartbeats 4000000 in
theorem k_X6_sheet (l : Launch) (dC : Nat → ClassId) (dI : Nat → Nat → Nat) (cI cB cO : ClassId) (n0 sz : Nat) (a_t : Nat) (a_camp : Nat) (a_kept : Nat) (a_ears : Nat) (a_walk : Nat) (a_trials : Nat) (a_tape : Nat) (a_sheets : Nat) (a_found : Nat) (a_sheets_p1 : Nat) (a_sheets_p1_numbers : Nat)  (q_sheets : Nat → Option Nat) (v_isKept : Int32) (f_found : Nat → Int32) (v_sheets_p1_bits : Int32) (v_sheets_p1_size : Int32) (f_sheets_p1_numbers : Nat → Int32) (p1 : Int32) (p2 : Int32) (p3 : Int32) (hq_p1 : ixb p1 4 = true → q_sheets (Int32.toNatClampNeg p1) = some a_sheets_p1) {ro : Int32} {o0 : Nat → Int32} {o1 : Int32} {o2 : Int32} {o3 : Nat → Int32} (hF : F_X6_sheet n0 f_found v_sheets_p1_bits v_sheets_p1_size f_sheets_p1_numbers p1 p2 p3 = some (ro, o0, o1, o2, o3)) : Met l yX6_sheet wsX6_sheet rmX6_sheet (va_Pc [.ref a_t, .int p1, .int p2, .int p3] (gPre (dC, dI) (gT cI cB cO) sz [oX6 a_t a_camp a_kept a_ears a_walk a_trials a_tape a_sheets a_found v_isKept, aA cI a_found 7 f_found, aQ cO a_sheets 4 q_sheets, oX2 a_sheets_p1 a_sheets_p1_numbers v_sheets_p1_bits v_sheets_p1_size, aA cI a_sheets_p1_numbers 40 f_sheets_p1_numbers])) (gQi (dC, dI) (gT cI cB cO) sz [oX6 a_t a_camp a_kept a_ears a_walk a_trials a_tape a_sheets a_found v_isKept, aA cI a_found 7 f_found, aQ cO a_sheets 4 q_sheets, oX2 a_sheets_p1 a_sheets_p1_numbers v_sheets_p1_bits v_sheets_p1_size, aA cI a_sheets_p1_numbers 40 f_sheets_p1_numbers] ro [oX6 a_t a_camp a_kept a_ears a_walk a_trials a_tape a_sheets a_found v_isKept, aA cI a_found 7 o0, aQ cO a_sheets 4 q_sheets, oX2 a_sheets_p1 a_sheets_p1_numbers o1 o2, aA cI a_sheets_p1_numbers 40 o3]) 0 0 (va_A [oX6 a_t a_camp a_kept a_ears a_walk a_trials a_tape a_sheets a_found v_isKept, aA cI a_found 7 f_found, aQ cO a_sheets 4 q_sheets, oX2 a_sheets_p1 a_sheets_p1_numbers v_sheets_p1_bits v_sheets_p1_size, aA cI a_sheets_p1_numbers 40 f_sheets_p1_numbers] sz) := by
  refine g_metI (Out := Int32 × (Nat → Int32) × Int32 × Int32 × (Nat → Int32)) (fun oo => oo.1) (fun oo => [oX6 a_t a_camp a_kept a_ears a_walk a_trials a_tape a_sheets a_found v_isKept, aA cI a_found 7 oo.2.1, aQ cO a_sheets 4 q_sheets, oX2 a_sheets_p1 a_sheets_p1_numbers oo.2.2.1 oo.2.2.2.1, aA cI a_sheets_p1_numbers 40 oo.2.2.2.2]) (ro, o0, o1, o2, o3) (own := RX6) (lv := [(0, .ref a_t), (1, .int p1), (2, .int p2), (3, .int p3)]) (by decide) rfl rfl (Nat.le_of_ble_eq_true rfl) rfl ?_
  intro p e s m args below meth c Q ls C hret hV hl
  obtain ⟨out, hout⟩ : ∃ z : Int32 × (Nat → Int32) × Int32 × Int32 × (Nat → Int32), z = (ro, o0, o1, o2, o3) := ⟨_, rfl⟩
  rw [← hout] at hF hret
  obtain ⟨H0, hH0⟩ : ∃ z : Heap, z = s.heap := ⟨_, rfl⟩
  obtain ⟨A0, hA0⟩ : ∃ z : Nat → Prop, z = va_A [oX6 a_t a_camp a_kept a_ears a_walk a_trials a_tape a_sheets a_found v_isKept, aA cI a_found 7 f_found, aQ cO a_sheets 4 q_sheets, oX2 a_sheets_p1 a_sheets_p1_numbers v_sheets_p1_bits v_sheets_p1_size, aA cI a_sheets_p1_numbers 40 f_sheets_p1_numbers] s.heap.size := ⟨_, rfl⟩
  rw [← hA0] at hret hV
  rw [← hH0] at hret hV
  rw [← hH0]
  obtain ⟨H, locs, hH⟩ : ∃ (z : Heap) (y : List Loc), z = H0 ∧ y = [] := ⟨_, _, rfl, rfl⟩
  rw [← hH.1, ← hH.2]
  have hV : gV (dC, dI) (gT cI cB cO) A0 H0 s [oX6 a_t a_camp a_kept a_ears a_walk a_trials a_tape a_sheets a_found v_isKept, aA cI a_found 7 f_found, aQ cO a_sheets 4 q_sheets, oX2 a_sheets_p1 a_sheets_p1_numbers v_sheets_p1_bits v_sheets_p1_size, aA cI a_sheets_p1_numbers 40 f_sheets_p1_numbers] H locs := by rw [hH.1, hH.2]; exact hV
  unfold F_X6_sheet at hF
  refine lv_iload_n C.1 C.2.1 dX6_sheet_0 rfl (lv_at hl 1 rfl) ?_
  obtain ⟨x1, hc, hF⟩ := bd1_s hF
  refine g_cSi (ws' := [oX6 a_t a_camp a_kept a_ears a_walk a_trials a_tape a_sheets a_found v_isKept, aA cI a_found 7 f_found, aQ cO a_sheets 4 q_sheets, oX2 a_sheets_p1 a_sheets_p1_numbers v_sheets_p1_bits v_sheets_p1_size, aA cI a_sheets_p1_numbers 40 f_sheets_p1_numbers]) (wr := [oX6 a_t a_camp a_kept a_ears a_walk a_trials a_tape a_sheets a_found v_isKept, aA cI a_found 7 f_found, aQ cO a_sheets 4 q_sheets, oX2 a_sheets_p1 a_sheets_p1_numbers v_sheets_p1_bits v_sheets_p1_size, aA cI a_sheets_p1_numbers 40 f_sheets_p1_numbers]) C hV (k_X6_isSheet l dC dI cI cB cO n0 H.size p1 hc) mdX6_isSheet gX6_sheet_X6_isSheet rfl rfl ⟨Nat.le_of_ble_eq_true rfl, Nat.le_of_ble_eq_true rfl⟩ [] [0, 1, 2, 3, 4] [0, 1, 2, 3, 4] rfl rfl rfl rfl rfl rfl rfl rfl hl.1 (Nat.le_of_ble_eq_true rfl) rfl dX6_sheet_1 (fun H locs hV => ?_)
  refine g_if_eq (tgt := 29) C hF dX6_sheet_4 rfl (fun hF => ?_) (fun hF => ?_)
  · refine lv_aload_n C.1 C.2.1 dX6_sheet_29 rfl (lv_at hl 0 rfl) ?_
    refine lv_ldc (v := (-1000001)) C.1 C.2.1 C.2.2.2.1 (C.2.2.2.2 _ ctX6_sheet_70) dX6_sheet_30 ?_
    obtain ⟨x2, g3, hc, hF⟩ := bd2_s hF
    refine g_cVi (ws' := [oX6 a_t a_camp a_kept a_ears a_walk a_trials a_tape a_sheets a_found v_isKept, aA cI a_found 7 g3, aQ cO a_sheets 4 q_sheets, oX2 a_sheets_p1 a_sheets_p1_numbers v_sheets_p1_bits v_sheets_p1_size, aA cI a_sheets_p1_numbers 40 f_sheets_p1_numbers]) (wr := [aQ cO a_sheets 4 q_sheets, oX2 a_sheets_p1 a_sheets_p1_numbers v_sheets_p1_bits v_sheets_p1_size, aA cI a_sheets_p1_numbers 40 f_sheets_p1_numbers]) C hV (k_X6_finding l dC dI cI cB cO n0 H.size a_t a_camp a_kept a_ears a_walk a_trials a_tape a_sheets a_found v_isKept f_found ((-1000001)) hc) mdX6_finding gX6_sheet_X6_finding rfl rfl ⟨Nat.le_of_ble_eq_true rfl, Nat.le_of_ble_eq_true rfl⟩ [0, 1] [2, 3, 4] [3, 4, 0, 1, 2] rfl rfl rfl rfl rfl rfl rfl rfl rfl rfl hl.1 (Nat.le_of_ble_eq_true rfl) rfl dX6_sheet_32 (fun H locs hV => ?_)
    exact hret (x2, g3, v_sheets_p1_bits, v_sheets_p1_size, f_sheets_p1_numbers) _ _ _ _ dX6_sheet_35 hF hV
  refine lv_iload_n C.1 C.2.1 dX6_sheet_7 rfl (lv_at hl 2 rfl) ?_
  have hJ36 : ∀  (H : Heap) (locs : List Loc) (ls : Array Slot), gV (dC, dI) (gT cI cB cO) A0 H0 s [oX6 a_t a_camp a_kept a_ears a_walk a_trials a_tape a_sheets a_found v_isKept, aA cI a_found 7 f_found, aQ cO a_sheets 4 q_sheets, oX2 a_sheets_p1 a_sheets_p1_numbers v_sheets_p1_bits v_sheets_p1_size, aA cI a_sheets_p1_numbers 40 f_sheets_p1_numbers] H locs → lv_has ls 4 [(0, .ref a_t), (1, .int p1), (2, .int p2), (3, .int p3)] → J_X6_sheet_36 p3 p1 n0 v_sheets_p1_bits v_sheets_p1_size f_sheets_p1_numbers p2 f_found = some out → W p l e rmX6_sheet s m args below meth c H locs 0 0 Q (F0 m 36 ls []) := by
    intro  H locs ls hV hl hF
    unfold J_X6_sheet_36 at hF
    refine lv_iload_n C.1 C.2.1 dX6_sheet_36 rfl (lv_at hl 3 rfl) ?_
    refine g_if_ge (tgt := 48) C hF dX6_sheet_37 rfl (fun hF => ?_) (fun hF => ?_)
    · refine lv_iload_n C.1 C.2.1 dX6_sheet_48 rfl (lv_at hl 3 rfl) ?_
      refine lv_bipush (v := 40) C.1 C.2.1 dX6_sheet_49 rfl ?_
      refine g_icmp_le (tgt := 61) C hF dX6_sheet_51 rfl (fun hF => ?_) (fun hF => ?_)
      · refine lv_aload_n C.1 C.2.1 dX6_sheet_61 rfl (lv_at hl 0 rfl) ?_
        refine g_get C hV flX6_sheet_53 0 rfl rfl dX6_sheet_62 ?_
        refine lv_iload_n C.1 C.2.1 dX6_sheet_65 rfl (lv_at hl 1 rfl) ?_
        refine g_aald C hV 2 rfl hF hq_p1 dX6_sheet_66 (fun hF => ?_)
        refine lv_iload_n C.1 C.2.1 dX6_sheet_67 rfl (lv_at hl 2 rfl) ?_
        refine lv_iload_n C.1 C.2.1 dX6_sheet_68 rfl (lv_at hl 3 rfl) ?_
        obtain ⟨x4, x5, g6, hc, hF⟩ := bd3_s hF
        refine g_cVv (ws' := [oX6 a_t a_camp a_kept a_ears a_walk a_trials a_tape a_sheets a_found v_isKept, aA cI a_found 7 f_found, aQ cO a_sheets 4 q_sheets, oX2 a_sheets_p1 a_sheets_p1_numbers x4 x5, aA cI a_sheets_p1_numbers 40 g6]) (wr := [oX6 a_t a_camp a_kept a_ears a_walk a_trials a_tape a_sheets a_found v_isKept, aA cI a_found 7 f_found, aQ cO a_sheets 4 q_sheets]) C hV (k_X2_layOut l dC dI cI cB cO n0 H.size a_sheets_p1 a_sheets_p1_numbers v_sheets_p1_bits v_sheets_p1_size f_sheets_p1_numbers p2 p3 hc) mdX2_layOut gX6_sheet_X2_layOut rfl rfl ⟨Nat.le_of_ble_eq_true rfl, Nat.le_of_ble_eq_true rfl⟩ [3, 4] [0, 1, 2] [0, 1, 2, 3, 4] rfl rfl rfl rfl rfl rfl rfl rfl rfl rfl hl.1 (Nat.le_of_ble_eq_true rfl) rfl dX6_sheet_69 (fun H locs hV => ?_)
        refine lv_aload_n C.1 C.2.1 dX6_sheet_72 rfl (lv_at hl 0 rfl) ?_
        refine g_get C hV flX6_sheet_53 0 rfl rfl dX6_sheet_73 ?_
        refine lv_iload_n C.1 C.2.1 dX6_sheet_76 rfl (lv_at hl 1 rfl) ?_
        refine g_aald C hV 2 rfl hF hq_p1 dX6_sheet_77 (fun hF => ?_)
        refine g_get C hV flX6_sheet_273 3 rfl rfl dX6_sheet_78 ?_
        exact hret (x5, f_found, x4, x5, g6) _ _ _ _ dX6_sheet_81 hF hV
      refine lv_aload_n C.1 C.2.1 dX6_sheet_54 rfl (lv_at hl 0 rfl) ?_
      refine lv_ldc (v := (-1000001)) C.1 C.2.1 C.2.2.2.1 (C.2.2.2.2 _ ctX6_sheet_70) dX6_sheet_55 ?_
      obtain ⟨x7, g8, hc, hF⟩ := bd2_s hF
      refine g_cVi (ws' := [oX6 a_t a_camp a_kept a_ears a_walk a_trials a_tape a_sheets a_found v_isKept, aA cI a_found 7 g8, aQ cO a_sheets 4 q_sheets, oX2 a_sheets_p1 a_sheets_p1_numbers v_sheets_p1_bits v_sheets_p1_size, aA cI a_sheets_p1_numbers 40 f_sheets_p1_numbers]) (wr := [aQ cO a_sheets 4 q_sheets, oX2 a_sheets_p1 a_sheets_p1_numbers v_sheets_p1_bits v_sheets_p1_size, aA cI a_sheets_p1_numbers 40 f_sheets_p1_numbers]) C hV (k_X6_finding l dC dI cI cB cO n0 H.size a_t a_camp a_kept a_ears a_walk a_trials a_tape a_sheets a_found v_isKept f_found ((-1000001)) hc) mdX6_finding gX6_sheet_X6_finding rfl rfl ⟨Nat.le_of_ble_eq_true rfl, Nat.le_of_ble_eq_true rfl⟩ [0, 1] [2, 3, 4] [3, 4, 0, 1, 2] rfl rfl rfl rfl rfl rfl rfl rfl rfl rfl hl.1 (Nat.le_of_ble_eq_true rfl) rfl dX6_sheet_57 (fun H locs hV => ?_)
      exact hret (x7, g8, v_sheets_p1_bits, v_sheets_p1_size, f_sheets_p1_numbers) _ _ _ _ dX6_sheet_60 hF hV
    refine lv_aload_n C.1 C.2.1 dX6_sheet_40 rfl (lv_at hl 0 rfl) ?_
    refine lv_ldcw (v := (-1000007)) C.1 C.2.1 C.2.2.2.1 (C.2.2.2.2 _ ctX6_sheet_269) dX6_sheet_41 ?_
    obtain ⟨x9, g10, hc, hF⟩ := bd2_s hF
    refine g_cVi (ws' := [oX6 a_t a_camp a_kept a_ears a_walk a_trials a_tape a_sheets a_found v_isKept, aA cI a_found 7 g10, aQ cO a_sheets 4 q_sheets, oX2 a_sheets_p1 a_sheets_p1_numbers v_sheets_p1_bits v_sheets_p1_size, aA cI a_sheets_p1_numbers 40 f_sheets_p1_numbers]) (wr := [aQ cO a_sheets 4 q_sheets, oX2 a_sheets_p1 a_sheets_p1_numbers v_sheets_p1_bits v_sheets_p1_size, aA cI a_sheets_p1_numbers 40 f_sheets_p1_numbers]) C hV (k_X6_finding l dC dI cI cB cO n0 H.size a_t a_camp a_kept a_ears a_walk a_trials a_tape a_sheets a_found v_isKept f_found ((-1000007)) hc) mdX6_finding gX6_sheet_X6_finding rfl rfl ⟨Nat.le_of_ble_eq_true rfl, Nat.le_of_ble_eq_true rfl⟩ [0, 1] [2, 3, 4] [3, 4, 0, 1, 2] rfl rfl rfl rfl rfl rfl rfl rfl rfl rfl hl.1 (Nat.le_of_ble_eq_true rfl) rfl dX6_sheet_44 (fun H locs hV => ?_)
    exact hret (x9, g10, v_sheets_p1_bits, v_sheets_p1_size, f_sheets_p1_numbers) _ _ _ _ dX6_sheet_47 hF hV
  refine g_if_eq (tgt := 36) C hF dX6_sheet_8 rfl (fun hF => ?_) (fun hF => ?_)
  · exact hJ36  H locs ls hV (lv_sub hl [0, 1, 2, 3] rfl) hF
  refine lv_iload_n C.1 C.2.1 dX6_sheet_11 rfl (lv_at hl 2 rfl) ?_
  refine lv_bipush (v := 8) C.1 C.2.1 dX6_sheet_12 rfl ?_
  refine g_icmp_eq (tgt := 36) C hF dX6_sheet_14 rfl (fun hF => ?_) (fun hF => ?_)
  · exact hJ36  H locs ls hV (lv_sub hl [0, 1, 2, 3] rfl) hF
  refine lv_iload_n C.1 C.2.1 dX6_sheet_17 rfl (lv_at hl 2 rfl) ?_
  refine lv_bipush (v := 16) C.1 C.2.1 dX6_sheet_18 rfl ?_
  refine g_icmp_eq (tgt := 36) C hF dX6_sheet_20 rfl (fun hF => ?_) (fun hF => ?_)
  · exact hJ36  H locs ls hV (lv_sub hl [0, 1, 2, 3] rfl) hF
  refine lv_iload_n C.1 C.2.1 dX6_sheet_23 rfl (lv_at hl 2 rfl) ?_
  refine lv_bipush (v := 32) C.1 C.2.1 dX6_sheet_24 rfl ?_
  refine g_icmp_eq (tgt := 36) C hF dX6_sheet_26 rfl (fun hF => ?_) (fun hF => ?_)
  · exact hJ36  H locs ls hV (lv_sub hl [0, 1, 2, 3] rfl) hF
  refine lv_aload_n C.1 C.2.1 dX6_sheet_29 rfl (lv_at hl 0 rfl) ?_
  refine lv_ldc (v := (-1000001)) C.1 C.2.1 C.2.2.2.1 (C.2.2.2.2 _ ctX6_sheet_70) dX6_sheet_30 ?_
  obtain ⟨x11, g12, hc, hF⟩ := bd2_s hF
  refine g_cVi (ws' := [oX6 a_t a_camp a_kept a_ears a_walk a_trials a_tape a_sheets a_found v_isKept, aA cI a_found 7 g12, aQ cO a_sheets 4 q_sheets, oX2 a_sheets_p1 a_sheets_p1_numbers v_sheets_p1_bits v_sheets_p1_size, aA cI a_sheets_p1_numbers 40 f_sheets_p1_numbers]) (wr := [aQ cO a_sheets 4 q_sheets, oX2 a_sheets_p1 a_sheets_p1_numbers v_sheets_p1_bits v_sheets_p1_size, aA cI a_sheets_p1_numbers 40 f_sheets_p1_numbers]) C hV (k_X6_finding l dC dI cI cB cO n0 H.size a_t a_camp a_kept a_ears a_walk a_trials a_tape a_sheets a_found v_isKept f_found ((-1000001)) hc) mdX6_finding gX6_sheet_X6_finding rfl rfl ⟨Nat.le_of_ble_eq_true rfl, Nat.le_of_ble_eq_true rfl⟩ [0, 1] [2, 3, 4] [3, 4, 0, 1, 2] rfl rfl rfl rfl rfl rfl rfl rfl rfl rfl hl.1 (Nat.le_of_ble_eq_true rfl) rfl dX6_sheet_32 (fun H locs hV => ?_)
  exact hret (x11, g12, v_sheets_p1_bits, v_sheets_p1_size, f_sheets_p1_numbers) _ _ _ _ dX6_sheet_35 hF hV
abbrev rmX6_write : Room := { frames := 2, cells := 0, slots := 0, locals := 44 }
theorem mdX6_write : gMd yX6_write wsX6_write cX6_write 4 (some .int) 3 := ⟨⟨_, rfl⟩, by decide +kernel⟩
theorem flX6_write_53 : gFL wsX6_write RX6 53 6 6 RX6 TX6 9 := ⟨rfl, fun w h => List.mem_cons_of_mem _ (List.mem_append_left _ (List.mem_append_right _ (h))), Nat.le_of_ble_eq_true rfl, List.mem_cons_of_mem _ (List.mem_append_left _ (List.mem_append_left _ (List.mem_append_left _ (List.mem_of_getElem? (i := 1) rfl))))⟩
theorem ctX6_write_70 : Cond.constant RX6 70 (-1000001) ∈ wsX6_write := List.mem_cons_of_mem _ (List.mem_append_left _ (List.mem_append_left _ (List.mem_append_left _ (List.mem_of_getElem? (i := 0) rfl))))
theorem flX6_write_273 : gFL wsX6_write RX6 273 2 2 RX2 TX2 3 := ⟨rfl, fun w h => List.mem_cons_of_mem _ (List.mem_append_right _ (h)), Nat.le_of_ble_eq_true rfl, List.mem_cons_of_mem _ (List.mem_append_left _ (List.mem_append_left _ (List.mem_append_left _ (List.mem_of_getElem? (i := 3) rfl))))⟩
theorem ctX6_write_261 : Cond.constant RX6 261 (-1000006) ∈ wsX6_write := List.mem_cons_of_mem _ (List.mem_append_left _ (List.mem_append_left _ (List.mem_append_left _ (List.mem_of_getElem? (i := 2) rfl))))
def F_X6_write (n0 : Nat) (f_found : Nat → Int32) (v_sheets_p1_bits : Int32) (v_sheets_p1_size : Int32) (f_sheets_p1_numbers : Nat → Int32) (p1 : Int32) (p2 : Int32) (p3 : Int32) : Option (Int32 × (Nat → Int32) × (Nat → Int32)) := bd1 (F_X6_isSheet n0 p1) (fun x1 => (if x1 = 0 then bd2 (F_X6_finding n0 f_found ((-1000001))) (fun x10 g11 => some (x10, g11, f_sheets_p1_numbers)) else ixq p1 4 (bd1 (F_X2_isMissing n0 v_sheets_p1_bits) (fun x2 => (if x2 = 0 then (if p2 < 0 then bd2 (F_X6_finding n0 f_found ((-1000001))) (fun x3 g4 => some (x3, g4, f_sheets_p1_numbers)) else ixq p1 4 ((if p2 < v_sheets_p1_size then ixq p1 4 (bd1 (F_X2_set n0 v_sheets_p1_bits v_sheets_p1_size f_sheets_p1_numbers p2 p3) (fun g5 => some ((1, f_found, g5) : Int32 × (Nat → Int32) × (Nat → Int32)))) else bd2 (F_X6_finding n0 f_found ((-1000001))) (fun x6 g7 => some (x6, g7, f_sheets_p1_numbers))))) else bd2 (F_X6_finding n0 f_found ((-1000006))) (fun x8 g9 => some (x8, g9, f_sheets_p1_numbers)))))))
set_option maxRecDepth 100000 in
set_option maxHeartbeats 4000000 in
theorem k_X6_write (l : Launch) (dC : Nat → ClassId) (dI : Nat → Nat → Nat) (cI cB cO : ClassId) (n0 sz : Nat) (a_t : Nat) (a_camp : Nat) (a_kept : Nat) (a_ears : Nat) (a_walk : Nat) (a_trials : Nat) (a_tape : Nat) (a_sheets : Nat) (a_found : Nat) (a_sheets_p1 : Nat) (a_sheets_p1_numbers : Nat)  (q_sheets : Nat → Option Nat) (v_isKept : Int32) (f_found : Nat → Int32) (v_sheets_p1_bits : Int32) (v_sheets_p1_size : Int32) (f_sheets_p1_numbers : Nat → Int32) (p1 : Int32) (p2 : Int32) (p3 : Int32) (hq_p1 : ixb p1 4 = true → q_sheets (Int32.toNatClampNeg p1) = some a_sheets_p1) {ro : Int32} {o0 : Nat → Int32} {o1 : Nat → Int32} (hF : F_X6_write n0 f_found v_sheets_p1_bits v_sheets_p1_size f_sheets_p1_numbers p1 p2 p3 = some (ro, o0, o1)) : Met l yX6_write wsX6_write rmX6_write (va_Pc [.ref a_t, .int p1, .int p2, .int p3] (gPre (dC, dI) (gT cI cB cO) sz [oX6 a_t a_camp a_kept a_ears a_walk a_trials a_tape a_sheets a_found v_isKept, aA cI a_found 7 f_found, aQ cO a_sheets 4 q_sheets, oX2 a_sheets_p1 a_sheets_p1_numbers v_sheets_p1_bits v_sheets_p1_size, aA cI a_sheets_p1_numbers 40 f_sheets_p1_numbers])) (gQi (dC, dI) (gT cI cB cO) sz [oX6 a_t a_camp a_kept a_ears a_walk a_trials a_tape a_sheets a_found v_isKept, aA cI a_found 7 f_found, aQ cO a_sheets 4 q_sheets, oX2 a_sheets_p1 a_sheets_p1_numbers v_sheets_p1_bits v_sheets_p1_size, aA cI a_sheets_p1_numbers 40 f_sheets_p1_numbers] ro [oX6 a_t a_camp a_kept a_ears a_walk a_trials a_tape a_sheets a_found v_isKept, aA cI a_found 7 o0, aQ cO a_sheets 4 q_sheets, oX2 a_sheets_p1 a_sheets_p1_numbers v_sheets_p1_bits v_sheets_p1_size, aA cI a_sheets_p1_numbers 40 o1]) 0 0 (va_A [oX6 a_t a_camp a_kept a_ears a_walk a_trials a_tape a_sheets a_found v_isKept, aA cI a_found 7 f_found, aQ cO a_sheets 4 q_sheets, oX2 a_sheets_p1 a_sheets_p1_numbers v_sheets_p1_bits v_sheets_p1_size, aA cI a_sheets_p1_numbers 40 f_sheets_p1_numbers] sz) := by
  refine g_metI (Out := Int32 × (Nat → Int32) × (Nat → Int32)) (fun oo => oo.1) (fun oo => [oX6 a_t a_camp a_kept a_ears a_walk a_trials a_tape a_sheets a_found v_isKept, aA cI a_found 7 oo.2.1, aQ cO a_sheets 4 q_sheets, oX2 a_sheets_p1 a_sheets_p1_numbers v_sheets_p1_bits v_sheets_p1_size, aA cI a_sheets_p1_numbers 40 oo.2.2]) (ro, o0, o1) (own := RX6) (lv := [(0, .ref a_t), (1, .int p1), (2, .int p2), (3, .int p3)]) (by decide) rfl rfl (Nat.le_of_ble_eq_true rfl) rfl ?_
  intro p e s m args below meth c Q ls C hret hV hl
  obtain ⟨out, hout⟩ : ∃ z : Int32 × (Nat → Int32) × (Nat → Int32), z = (ro, o0, o1) := ⟨_, rfl⟩
  rw [← hout] at hF hret
  obtain ⟨H0, hH0⟩ : ∃ z : Heap, z = s.heap := ⟨_, rfl⟩
  obtain ⟨A0, hA0⟩ : ∃ z : Nat → Prop, z = va_A [oX6 a_t a_camp a_kept a_ears a_walk a_trials a_tape a_sheets a_found v_isKept, aA cI a_found 7 f_found, aQ cO a_sheets 4 q_sheets, oX2 a_sheets_p1 a_sheets_p1_numbers v_sheets_p1_bits v_sheets_p1_size, aA cI a_sheets_p1_numbers 40 f_sheets_p1_numbers] s.heap.size := ⟨_, rfl⟩
  rw [← hA0] at hret hV
  rw [← hH0] at hret hV
  rw [← hH0]
  obtain ⟨H, locs, hH⟩ : ∃ (z : Heap) (y : List Loc), z = H0 ∧ y = [] := ⟨_, _, rfl, rfl⟩
  rw [← hH.1, ← hH.2]
  have hV : gV (dC, dI) (gT cI cB cO) A0 H0 s [oX6 a_t a_camp a_kept a_ears a_walk a_trials a_tape a_sheets a_found v_isKept, aA cI a_found 7 f_found, aQ cO a_sheets 4 q_sheets, oX2 a_sheets_p1 a_sheets_p1_numbers v_sheets_p1_bits v_sheets_p1_size, aA cI a_sheets_p1_numbers 40 f_sheets_p1_numbers] H locs := by rw [hH.1, hH.2]; exact hV
  unfold F_X6_write at hF
  refine lv_iload_n C.1 C.2.1 dX6_write_0 rfl (lv_at hl 1 rfl) ?_
  obtain ⟨x1, hc, hF⟩ := bd1_s hF
  refine g_cSi (ws' := [oX6 a_t a_camp a_kept a_ears a_walk a_trials a_tape a_sheets a_found v_isKept, aA cI a_found 7 f_found, aQ cO a_sheets 4 q_sheets, oX2 a_sheets_p1 a_sheets_p1_numbers v_sheets_p1_bits v_sheets_p1_size, aA cI a_sheets_p1_numbers 40 f_sheets_p1_numbers]) (wr := [oX6 a_t a_camp a_kept a_ears a_walk a_trials a_tape a_sheets a_found v_isKept, aA cI a_found 7 f_found, aQ cO a_sheets 4 q_sheets, oX2 a_sheets_p1 a_sheets_p1_numbers v_sheets_p1_bits v_sheets_p1_size, aA cI a_sheets_p1_numbers 40 f_sheets_p1_numbers]) C hV (k_X6_isSheet l dC dI cI cB cO n0 H.size p1 hc) mdX6_isSheet gX6_write_X6_isSheet rfl rfl ⟨Nat.le_of_ble_eq_true rfl, Nat.le_of_ble_eq_true rfl⟩ [] [0, 1, 2, 3, 4] [0, 1, 2, 3, 4] rfl rfl rfl rfl rfl rfl rfl rfl hl.1 (Nat.le_of_ble_eq_true rfl) rfl dX6_write_1 (fun H locs hV => ?_)
  refine g_if_ne (tgt := 14) C hF dX6_write_4 rfl (fun hF => ?_) (fun hF => ?_)
  · refine lv_aload_n C.1 C.2.1 dX6_write_14 rfl (lv_at hl 0 rfl) ?_
    refine g_get C hV flX6_write_53 0 rfl rfl dX6_write_15 ?_
    refine lv_iload_n C.1 C.2.1 dX6_write_18 rfl (lv_at hl 1 rfl) ?_
    refine g_aald C hV 2 rfl hF hq_p1 dX6_write_19 (fun hF => ?_)
    obtain ⟨x2, hc, hF⟩ := bd1_s hF
    refine g_cVi (ws' := [oX6 a_t a_camp a_kept a_ears a_walk a_trials a_tape a_sheets a_found v_isKept, aA cI a_found 7 f_found, aQ cO a_sheets 4 q_sheets, oX2 a_sheets_p1 a_sheets_p1_numbers v_sheets_p1_bits v_sheets_p1_size, aA cI a_sheets_p1_numbers 40 f_sheets_p1_numbers]) (wr := [oX6 a_t a_camp a_kept a_ears a_walk a_trials a_tape a_sheets a_found v_isKept, aA cI a_found 7 f_found, aQ cO a_sheets 4 q_sheets, aA cI a_sheets_p1_numbers 40 f_sheets_p1_numbers]) C hV (k_X2_isMissing l dC dI cI cB cO n0 H.size a_sheets_p1 a_sheets_p1_numbers v_sheets_p1_bits v_sheets_p1_size hc) mdX2_isMissing gX6_write_X2_isMissing rfl rfl ⟨Nat.le_of_ble_eq_true rfl, Nat.le_of_ble_eq_true rfl⟩ [3] [0, 1, 2, 4] [0, 1, 2, 4, 3] rfl rfl rfl rfl rfl rfl rfl rfl rfl rfl hl.1 (Nat.le_of_ble_eq_true rfl) rfl dX6_write_20 (fun H locs hV => ?_)
    refine g_if_eq (tgt := 34) C hF dX6_write_23 rfl (fun hF => ?_) (fun hF => ?_)
    · refine lv_iload_n C.1 C.2.1 dX6_write_34 rfl (lv_at hl 2 rfl) ?_
      refine g_if_lt (tgt := 51) C hF dX6_write_35 rfl (fun hF => ?_) (fun hF => ?_)
      · refine lv_aload_n C.1 C.2.1 dX6_write_51 rfl (lv_at hl 0 rfl) ?_
        refine lv_ldc (v := (-1000001)) C.1 C.2.1 C.2.2.2.1 (C.2.2.2.2 _ ctX6_write_70) dX6_write_52 ?_
        obtain ⟨x3, g4, hc, hF⟩ := bd2_s hF
        refine g_cVi (ws' := [oX6 a_t a_camp a_kept a_ears a_walk a_trials a_tape a_sheets a_found v_isKept, aA cI a_found 7 g4, aQ cO a_sheets 4 q_sheets, oX2 a_sheets_p1 a_sheets_p1_numbers v_sheets_p1_bits v_sheets_p1_size, aA cI a_sheets_p1_numbers 40 f_sheets_p1_numbers]) (wr := [aQ cO a_sheets 4 q_sheets, oX2 a_sheets_p1 a_sheets_p1_numbers v_sheets_p1_bits v_sheets_p1_size, aA cI a_sheets_p1_numbers 40 f_sheets_p1_numbers]) C hV (k_X6_finding l dC dI cI cB cO n0 H.size a_t a_camp a_kept a_ears a_walk a_trials a_tape a_sheets a_found v_isKept f_found ((-1000001)) hc) mdX6_finding gX6_write_X6_finding rfl rfl ⟨Nat.le_of_ble_eq_true rfl, Nat.le_of_ble_eq_true rfl⟩ [0, 1] [2, 3, 4] [3, 4, 0, 1, 2] rfl rfl rfl rfl rfl rfl rfl rfl rfl rfl hl.1 (Nat.le_of_ble_eq_true rfl) rfl dX6_write_54 (fun H locs hV => ?_)
        exact hret (x3, g4, f_sheets_p1_numbers) _ _ _ _ dX6_write_57 hF hV
      refine lv_iload_n C.1 C.2.1 dX6_write_38 rfl (lv_at hl 2 rfl) ?_
      refine lv_aload_n C.1 C.2.1 dX6_write_39 rfl (lv_at hl 0 rfl) ?_
      refine g_get C hV flX6_write_53 0 rfl rfl dX6_write_40 ?_
      refine lv_iload_n C.1 C.2.1 dX6_write_43 rfl (lv_at hl 1 rfl) ?_
      refine g_aald C hV 2 rfl hF hq_p1 dX6_write_44 (fun hF => ?_)
      refine g_get C hV flX6_write_273 3 rfl rfl dX6_write_45 ?_
      refine g_icmp_lt (tgt := 58) C hF dX6_write_48 rfl (fun hF => ?_) (fun hF => ?_)
      · refine lv_aload_n C.1 C.2.1 dX6_write_58 rfl (lv_at hl 0 rfl) ?_
        refine g_get C hV flX6_write_53 0 rfl rfl dX6_write_59 ?_
        refine lv_iload_n C.1 C.2.1 dX6_write_62 rfl (lv_at hl 1 rfl) ?_
        refine g_aald C hV 2 rfl hF hq_p1 dX6_write_63 (fun hF => ?_)
        refine lv_iload_n C.1 C.2.1 dX6_write_64 rfl (lv_at hl 2 rfl) ?_
        refine lv_iload_n C.1 C.2.1 dX6_write_65 rfl (lv_at hl 3 rfl) ?_
        obtain ⟨g5, hc, hF⟩ := bd1_s hF
        refine g_cVv (ws' := [oX6 a_t a_camp a_kept a_ears a_walk a_trials a_tape a_sheets a_found v_isKept, aA cI a_found 7 f_found, aQ cO a_sheets 4 q_sheets, oX2 a_sheets_p1 a_sheets_p1_numbers v_sheets_p1_bits v_sheets_p1_size, aA cI a_sheets_p1_numbers 40 g5]) (wr := [oX6 a_t a_camp a_kept a_ears a_walk a_trials a_tape a_sheets a_found v_isKept, aA cI a_found 7 f_found, aQ cO a_sheets 4 q_sheets]) C hV (k_X2_set l dC dI cI cB cO n0 H.size a_sheets_p1 a_sheets_p1_numbers v_sheets_p1_bits v_sheets_p1_size f_sheets_p1_numbers p2 p3 hc) mdX2_set gX6_write_X2_set rfl rfl ⟨Nat.le_of_ble_eq_true rfl, Nat.le_of_ble_eq_true rfl⟩ [3, 4] [0, 1, 2] [0, 1, 2, 3, 4] rfl rfl rfl rfl rfl rfl rfl rfl rfl rfl hl.1 (Nat.le_of_ble_eq_true rfl) rfl dX6_write_66 (fun H locs hV => ?_)
        refine lv_iconst (v := 1) C.1 C.2.1 dX6_write_69 rfl ?_
        exact hret ((1, f_found, g5) : Int32 × (Nat → Int32) × (Nat → Int32)) _ _ _ _ dX6_write_70 hF hV
      refine lv_aload_n C.1 C.2.1 dX6_write_51 rfl (lv_at hl 0 rfl) ?_
      refine lv_ldc (v := (-1000001)) C.1 C.2.1 C.2.2.2.1 (C.2.2.2.2 _ ctX6_write_70) dX6_write_52 ?_
      obtain ⟨x6, g7, hc, hF⟩ := bd2_s hF
      refine g_cVi (ws' := [oX6 a_t a_camp a_kept a_ears a_walk a_trials a_tape a_sheets a_found v_isKept, aA cI a_found 7 g7, aQ cO a_sheets 4 q_sheets, oX2 a_sheets_p1 a_sheets_p1_numbers v_sheets_p1_bits v_sheets_p1_size, aA cI a_sheets_p1_numbers 40 f_sheets_p1_numbers]) (wr := [aQ cO a_sheets 4 q_sheets, oX2 a_sheets_p1 a_sheets_p1_numbers v_sheets_p1_bits v_sheets_p1_size, aA cI a_sheets_p1_numbers 40 f_sheets_p1_numbers]) C hV (k_X6_finding l dC dI cI cB cO n0 H.size a_t a_camp a_kept a_ears a_walk a_trials a_tape a_sheets a_found v_isKept f_found ((-1000001)) hc) mdX6_finding gX6_write_X6_finding rfl rfl ⟨Nat.le_of_ble_eq_true rfl, Nat.le_of_ble_eq_true rfl⟩ [0, 1] [2, 3, 4] [3, 4, 0, 1, 2] rfl rfl rfl rfl rfl rfl rfl rfl rfl rfl hl.1 (Nat.le_of_ble_eq_true rfl) rfl dX6_write_54 (fun H locs hV => ?_)
      exact hret (x6, g7, f_sheets_p1_numbers) _ _ _ _ dX6_write_57 hF hV
    refine lv_aload_n C.1 C.2.1 dX6_write_26 rfl (lv_at hl 0 rfl) ?_
    refine lv_ldcw (v := (-1000006)) C.1 C.2.1 C.2.2.2.1 (C.2.2.2.2 _ ctX6_write_261) dX6_write_27 ?_
    obtain ⟨x8, g9, hc, hF⟩ := bd2_s hF
    refine g_cVi (ws' := [oX6 a_t a_camp a_kept a_ears a_walk a_trials a_tape a_sheets a_found v_isKept, aA cI a_found 7 g9, aQ cO a_sheets 4 q_sheets, oX2 a_sheets_p1 a_sheets_p1_numbers v_sheets_p1_bits v_sheets_p1_size, aA cI a_sheets_p1_numbers 40 f_sheets_p1_numbers]) (wr := [aQ cO a_sheets 4 q_sheets, oX2 a_sheets_p1 a_sheets_p1_numbers v_sheets_p1_bits v_sheets_p1_size, aA cI a_sheets_p1_numbers 40 f_sheets_p1_numbers]) C hV (k_X6_finding l dC dI cI cB cO n0 H.size a_t a_camp a_kept a_ears a_walk a_trials a_tape a_sheets a_found v_isKept f_found ((-1000006)) hc) mdX6_finding gX6_write_X6_finding rfl rfl ⟨Nat.le_of_ble_eq_true rfl, Nat.le_of_ble_eq_true rfl⟩ [0, 1] [2, 3, 4] [3, 4, 0, 1, 2] rfl rfl rfl rfl rfl rfl rfl rfl rfl rfl hl.1 (Nat.le_of_ble_eq_true rfl) rfl dX6_write_30 (fun H locs hV => ?_)
    exact hret (x8, g9, f_sheets_p1_numbers) _ _ _ _ dX6_write_33 hF hV
  refine lv_aload_n C.1 C.2.1 dX6_write_7 rfl (lv_at hl 0 rfl) ?_
  refine lv_ldc (v := (-1000001)) C.1 C.2.1 C.2.2.2.1 (C.2.2.2.2 _ ctX6_write_70) dX6_write_8 ?_
  obtain ⟨x10, g11, hc, hF⟩ := bd2_s hF
  refine g_cVi (ws' := [oX6 a_t a_camp a_kept a_ears a_walk a_trials a_tape a_sheets a_found v_isKept, aA cI a_found 7 g11, aQ cO a_sheets 4 q_sheets, oX2 a_sheets_p1 a_sheets_p1_numbers v_sheets_p1_bits v_sheets_p1_size, aA cI a_sheets_p1_numbers 40 f_sheets_p1_numbers]) (wr := [aQ cO a_sheets 4 q_sheets, oX2 a_sheets_p1 a_sheets_p1_numbers v_sheets_p1_bits v_sheets_p1_size, aA cI a_sheets_p1_numbers 40 f_sheets_p1_numbers]) C hV (k_X6_finding l dC dI cI cB cO n0 H.size a_t a_camp a_kept a_ears a_walk a_trials a_tape a_sheets a_found v_isKept f_found ((-1000001)) hc) mdX6_finding gX6_write_X6_finding rfl rfl ⟨Nat.le_of_ble_eq_true rfl, Nat.le_of_ble_eq_true rfl⟩ [0, 1] [2, 3, 4] [3, 4, 0, 1, 2] rfl rfl rfl rfl rfl rfl rfl rfl rfl rfl hl.1 (Nat.le_of_ble_eq_true rfl) rfl dX6_write_10 (fun H locs hV => ?_)
  exact hret (x10, g11, f_sheets_p1_numbers) _ _ _ _ dX6_write_13 hF hV
abbrev rmX6_copy : Room := { frames := 2, cells := 0, slots := 0, locals := 60 }
theorem mdX6_copy : gMd yX6_copy wsX6_copy cX6_copy 6 (some .int) 5 := ⟨⟨_, rfl⟩, by decide +kernel⟩
theorem ctX6_copy_70 : Cond.constant RX6 70 (-1000001) ∈ wsX6_copy := List.mem_cons_of_mem _ (List.mem_append_left _ (List.mem_append_left _ (List.mem_append_left _ (List.mem_of_getElem? (i := 0) rfl))))
theorem flX6_copy_53 : gFL wsX6_copy RX6 53 6 6 RX6 TX6 9 := ⟨rfl, fun w h => List.mem_cons_of_mem _ (List.mem_append_left _ (List.mem_append_right _ (h))), Nat.le_of_ble_eq_true rfl, List.mem_cons_of_mem _ (List.mem_append_left _ (List.mem_append_left _ (List.mem_append_left _ (List.mem_of_getElem? (i := 1) rfl))))⟩
theorem ctX6_copy_261 : Cond.constant RX6 261 (-1000006) ∈ wsX6_copy := List.mem_cons_of_mem _ (List.mem_append_left _ (List.mem_append_left _ (List.mem_append_left _ (List.mem_of_getElem? (i := 2) rfl))))
theorem flX6_copy_281 : gFL wsX6_copy RX6 281 2 1 RX2 TX2 3 := ⟨rfl, fun w h => List.mem_cons_of_mem _ (List.mem_append_right _ (h)), Nat.le_of_ble_eq_true rfl, List.mem_cons_of_mem _ (List.mem_append_left _ (List.mem_append_left _ (List.mem_append_left _ (List.mem_of_getElem? (i := 3) rfl))))⟩
theorem flX6_copy_287 : gFL wsX6_copy RX6 287 2 0 RX2 TX2 3 := ⟨rfl, fun w h => List.mem_cons_of_mem _ (List.mem_append_right _ (h)), Nat.le_of_ble_eq_true rfl, List.mem_cons_of_mem _ (List.mem_append_left _ (List.mem_append_left _ (List.mem_append_left _ (List.mem_of_getElem? (i := 5) rfl))))⟩
theorem cyX6_copy_290 : gCpy wsX6_copy RX6 290 := ⟨List.mem_cons_of_mem _ (List.mem_append_left _ (List.mem_append_left _ (List.mem_append_left _ (List.mem_of_getElem? (i := 6) rfl)))), List.mem_cons_of_mem _ (List.mem_append_left _ (List.mem_append_left _ (List.mem_append_left _ (List.mem_of_getElem? (i := 7) rfl)))), List.mem_cons_of_mem _ (List.mem_append_left _ (List.mem_append_left _ (List.mem_append_left _ (List.mem_of_getElem? (i := 8) rfl)))), List.mem_cons_of_mem _ (List.mem_append_left _ (List.mem_append_left _ (List.mem_append_left _ (List.mem_of_getElem? (i := 9) rfl))))⟩
theorem ctX6_copy_265 : Cond.constant RX6 265 (-1000003) ∈ wsX6_copy := List.mem_cons_of_mem _ (List.mem_append_left _ (List.mem_append_left _ (List.mem_append_left _ (List.mem_of_getElem? (i := 4) rfl))))
def F_X6_copy (n0 : Nat) (f_found : Nat → Int32) (v_sheets_p1_bits : Int32) (v_sheets_p1_size : Int32) (v_sheets_p3_bits : Int32) (v_sheets_p3_size : Int32) (f_sheets_p1_numbers : Nat → Int32) (f_sheets_p3_numbers : Nat → Int32) (p1 : Int32) (p2 : Int32) (p3 : Int32) (p4 : Int32) (p5 : Int32) : Option (Int32 × (Nat → Int32) × (Nat → Int32)) := bd1 (F_X6_isSheet n0 p1) (fun x1 => (if x1 = 0 then bd2 (F_X6_finding n0 f_found ((-1000001))) (fun x2 g3 => some (x2, g3, f_sheets_p3_numbers)) else bd1 (F_X6_isSheet n0 p3) (fun x4 => (if x4 = 0 then bd2 (F_X6_finding n0 f_found ((-1000001))) (fun x20 g21 => some (x20, g21, f_sheets_p3_numbers)) else ixq p1 4 (bd1 (F_X2_isMissing n0 v_sheets_p1_bits) (fun x5 => (if x5 = 0 then ixq p3 4 (bd1 (F_X2_isMissing n0 v_sheets_p3_bits) (fun x8 => (if x8 = 0 then ixq p1 4 (ixq p3 4 ((if v_sheets_p1_bits = v_sheets_p3_bits then ixq p1 4 (bd1 (F_X2_hasFrom n0 v_sheets_p1_size p2 p5) (fun x9 => (if x9 = 0 then bd2 (F_X6_finding n0 f_found ((-1000001))) (fun x10 g11 => some (x10, g11, f_sheets_p3_numbers)) else ixq p3 4 (bd1 (F_X2_hasFrom n0 v_sheets_p3_size p4 p5) (fun x12 => (if x12 = 0 then bd2 (F_X6_finding n0 f_found ((-1000001))) (fun x14 g15 => some (x14, g15, f_sheets_p3_numbers)) else ixq p1 4 (ixq p3 4 (cpyi f_sheets_p1_numbers 40 p2 f_sheets_p3_numbers 40 p4 p5 (fun g13 => some (p5, f_found, g13)))))))))) else bd2 (F_X6_finding n0 f_found ((-1000003))) (fun x16 g17 => some (x16, g17, f_sheets_p3_numbers))))) else bd2 (F_X6_finding n0 f_found ((-1000006))) (fun x18 g19 => some (x18, g19, f_sheets_p3_numbers))))) else bd2 (F_X6_finding n0 f_found ((-1000006))) (fun x6 g7 => some (x6, g7, f_sheets_p3_numbers)))))))))
set_option maxRecDepth 100000 in
set_option maxHeartbeats 4000000 in
theorem k_X6_copy (l : Launch) (dC : Nat → ClassId) (dI : Nat → Nat → Nat) (cI cB cO : ClassId) (n0 sz : Nat) (a_t : Nat) (a_camp : Nat) (a_kept : Nat) (a_ears : Nat) (a_walk : Nat) (a_trials : Nat) (a_tape : Nat) (a_sheets : Nat) (a_found : Nat) (a_sheets_p1 : Nat) (a_sheets_p1_numbers : Nat) (a_sheets_p3 : Nat) (a_sheets_p3_numbers : Nat)  (q_sheets : Nat → Option Nat) (v_isKept : Int32) (f_found : Nat → Int32) (v_sheets_p1_bits : Int32) (v_sheets_p1_size : Int32) (v_sheets_p3_bits : Int32) (v_sheets_p3_size : Int32) (f_sheets_p1_numbers : Nat → Int32) (f_sheets_p3_numbers : Nat → Int32) (p1 : Int32) (p2 : Int32) (p3 : Int32) (p4 : Int32) (p5 : Int32) (hq_p1 : ixb p1 4 = true → q_sheets (Int32.toNatClampNeg p1) = some a_sheets_p1) (hq_p3 : ixb p3 4 = true → q_sheets (Int32.toNatClampNeg p3) = some a_sheets_p3) {ro : Int32} {o0 : Nat → Int32} {o1 : Nat → Int32} (hF : F_X6_copy n0 f_found v_sheets_p1_bits v_sheets_p1_size v_sheets_p3_bits v_sheets_p3_size f_sheets_p1_numbers f_sheets_p3_numbers p1 p2 p3 p4 p5 = some (ro, o0, o1)) : Met l yX6_copy wsX6_copy rmX6_copy (va_Pc [.ref a_t, .int p1, .int p2, .int p3, .int p4, .int p5] (gPre (dC, dI) (gT cI cB cO) sz [oX6 a_t a_camp a_kept a_ears a_walk a_trials a_tape a_sheets a_found v_isKept, aA cI a_found 7 f_found, aQ cO a_sheets 4 q_sheets, oX2 a_sheets_p1 a_sheets_p1_numbers v_sheets_p1_bits v_sheets_p1_size, oX2 a_sheets_p3 a_sheets_p3_numbers v_sheets_p3_bits v_sheets_p3_size, aA cI a_sheets_p1_numbers 40 f_sheets_p1_numbers, aA cI a_sheets_p3_numbers 40 f_sheets_p3_numbers])) (gQi (dC, dI) (gT cI cB cO) sz [oX6 a_t a_camp a_kept a_ears a_walk a_trials a_tape a_sheets a_found v_isKept, aA cI a_found 7 f_found, aQ cO a_sheets 4 q_sheets, oX2 a_sheets_p1 a_sheets_p1_numbers v_sheets_p1_bits v_sheets_p1_size, oX2 a_sheets_p3 a_sheets_p3_numbers v_sheets_p3_bits v_sheets_p3_size, aA cI a_sheets_p1_numbers 40 f_sheets_p1_numbers, aA cI a_sheets_p3_numbers 40 f_sheets_p3_numbers] ro [oX6 a_t a_camp a_kept a_ears a_walk a_trials a_tape a_sheets a_found v_isKept, aA cI a_found 7 o0, aQ cO a_sheets 4 q_sheets, oX2 a_sheets_p1 a_sheets_p1_numbers v_sheets_p1_bits v_sheets_p1_size, oX2 a_sheets_p3 a_sheets_p3_numbers v_sheets_p3_bits v_sheets_p3_size, aA cI a_sheets_p1_numbers 40 f_sheets_p1_numbers, aA cI a_sheets_p3_numbers 40 o1]) 0 0 (va_A [oX6 a_t a_camp a_kept a_ears a_walk a_trials a_tape a_sheets a_found v_isKept, aA cI a_found 7 f_found, aQ cO a_sheets 4 q_sheets, oX2 a_sheets_p1 a_sheets_p1_numbers v_sheets_p1_bits v_sheets_p1_size, oX2 a_sheets_p3 a_sheets_p3_numbers v_sheets_p3_bits v_sheets_p3_size, aA cI a_sheets_p1_numbers 40 f_sheets_p1_numbers, aA cI a_sheets_p3_numbers 40 f_sheets_p3_numbers] sz) := by
  refine g_metI (Out := Int32 × (Nat → Int32) × (Nat → Int32)) (fun oo => oo.1) (fun oo => [oX6 a_t a_camp a_kept a_ears a_walk a_trials a_tape a_sheets a_found v_isKept, aA cI a_found 7 oo.2.1, aQ cO a_sheets 4 q_sheets, oX2 a_sheets_p1 a_sheets_p1_numbers v_sheets_p1_bits v_sheets_p1_size, oX2 a_sheets_p3 a_sheets_p3_numbers v_sheets_p3_bits v_sheets_p3_size, aA cI a_sheets_p1_numbers 40 f_sheets_p1_numbers, aA cI a_sheets_p3_numbers 40 oo.2.2]) (ro, o0, o1) (own := RX6) (lv := [(0, .ref a_t), (1, .int p1), (2, .int p2), (3, .int p3), (4, .int p4), (5, .int p5)]) (by decide) rfl rfl (Nat.le_of_ble_eq_true rfl) rfl ?_
  intro p e s m args below meth c Q ls C hret hV hl
  obtain ⟨out, hout⟩ : ∃ z : Int32 × (Nat → Int32) × (Nat → Int32), z = (ro, o0, o1) := ⟨_, rfl⟩
  rw [← hout] at hF hret
  obtain ⟨H0, hH0⟩ : ∃ z : Heap, z = s.heap := ⟨_, rfl⟩
  obtain ⟨A0, hA0⟩ : ∃ z : Nat → Prop, z = va_A [oX6 a_t a_camp a_kept a_ears a_walk a_trials a_tape a_sheets a_found v_isKept, aA cI a_found 7 f_found, aQ cO a_sheets 4 q_sheets, oX2 a_sheets_p1 a_sheets_p1_numbers v_sheets_p1_bits v_sheets_p1_size, oX2 a_sheets_p3 a_sheets_p3_numbers v_sheets_p3_bits v_sheets_p3_size, aA cI a_sheets_p1_numbers 40 f_sheets_p1_numbers, aA cI a_sheets_p3_numbers 40 f_sheets_p3_numbers] s.heap.size := ⟨_, rfl⟩
  rw [← hA0] at hret hV
  rw [← hH0] at hret hV
  rw [← hH0]
  obtain ⟨H, locs, hH⟩ : ∃ (z : Heap) (y : List Loc), z = H0 ∧ y = [] := ⟨_, _, rfl, rfl⟩
  rw [← hH.1, ← hH.2]
  have hV : gV (dC, dI) (gT cI cB cO) A0 H0 s [oX6 a_t a_camp a_kept a_ears a_walk a_trials a_tape a_sheets a_found v_isKept, aA cI a_found 7 f_found, aQ cO a_sheets 4 q_sheets, oX2 a_sheets_p1 a_sheets_p1_numbers v_sheets_p1_bits v_sheets_p1_size, oX2 a_sheets_p3 a_sheets_p3_numbers v_sheets_p3_bits v_sheets_p3_size, aA cI a_sheets_p1_numbers 40 f_sheets_p1_numbers, aA cI a_sheets_p3_numbers 40 f_sheets_p3_numbers] H locs := by rw [hH.1, hH.2]; exact hV
  unfold F_X6_copy at hF
  refine lv_iload_n C.1 C.2.1 dX6_copy_0 rfl (lv_at hl 1 rfl) ?_
  obtain ⟨x1, hc, hF⟩ := bd1_s hF
  refine g_cSi (ws' := [oX6 a_t a_camp a_kept a_ears a_walk a_trials a_tape a_sheets a_found v_isKept, aA cI a_found 7 f_found, aQ cO a_sheets 4 q_sheets, oX2 a_sheets_p1 a_sheets_p1_numbers v_sheets_p1_bits v_sheets_p1_size, oX2 a_sheets_p3 a_sheets_p3_numbers v_sheets_p3_bits v_sheets_p3_size, aA cI a_sheets_p1_numbers 40 f_sheets_p1_numbers, aA cI a_sheets_p3_numbers 40 f_sheets_p3_numbers]) (wr := [oX6 a_t a_camp a_kept a_ears a_walk a_trials a_tape a_sheets a_found v_isKept, aA cI a_found 7 f_found, aQ cO a_sheets 4 q_sheets, oX2 a_sheets_p1 a_sheets_p1_numbers v_sheets_p1_bits v_sheets_p1_size, oX2 a_sheets_p3 a_sheets_p3_numbers v_sheets_p3_bits v_sheets_p3_size, aA cI a_sheets_p1_numbers 40 f_sheets_p1_numbers, aA cI a_sheets_p3_numbers 40 f_sheets_p3_numbers]) C hV (k_X6_isSheet l dC dI cI cB cO n0 H.size p1 hc) mdX6_isSheet gX6_copy_X6_isSheet rfl rfl ⟨Nat.le_of_ble_eq_true rfl, Nat.le_of_ble_eq_true rfl⟩ [] [0, 1, 2, 3, 4, 5, 6] [0, 1, 2, 3, 4, 5, 6] rfl rfl rfl rfl rfl rfl rfl rfl hl.1 (Nat.le_of_ble_eq_true rfl) rfl dX6_copy_1 (fun H locs hV => ?_)
  refine g_if_eq (tgt := 14) C hF dX6_copy_4 rfl (fun hF => ?_) (fun hF => ?_)
  · refine lv_aload_n C.1 C.2.1 dX6_copy_14 rfl (lv_at hl 0 rfl) ?_
    refine lv_ldc (v := (-1000001)) C.1 C.2.1 C.2.2.2.1 (C.2.2.2.2 _ ctX6_copy_70) dX6_copy_15 ?_
    obtain ⟨x2, g3, hc, hF⟩ := bd2_s hF
    refine g_cVi (ws' := [oX6 a_t a_camp a_kept a_ears a_walk a_trials a_tape a_sheets a_found v_isKept, aA cI a_found 7 g3, aQ cO a_sheets 4 q_sheets, oX2 a_sheets_p1 a_sheets_p1_numbers v_sheets_p1_bits v_sheets_p1_size, oX2 a_sheets_p3 a_sheets_p3_numbers v_sheets_p3_bits v_sheets_p3_size, aA cI a_sheets_p1_numbers 40 f_sheets_p1_numbers, aA cI a_sheets_p3_numbers 40 f_sheets_p3_numbers]) (wr := [aQ cO a_sheets 4 q_sheets, oX2 a_sheets_p1 a_sheets_p1_numbers v_sheets_p1_bits v_sheets_p1_size, oX2 a_sheets_p3 a_sheets_p3_numbers v_sheets_p3_bits v_sheets_p3_size, aA cI a_sheets_p1_numbers 40 f_sheets_p1_numbers, aA cI a_sheets_p3_numbers 40 f_sheets_p3_numbers]) C hV (k_X6_finding l dC dI cI cB cO n0 H.size a_t a_camp a_kept a_ears a_walk a_trials a_tape a_sheets a_found v_isKept f_found ((-1000001)) hc) mdX6_finding gX6_copy_X6_finding rfl rfl ⟨Nat.le_of_ble_eq_true rfl, Nat.le_of_ble_eq_true rfl⟩ [0, 1] [2, 3, 4, 5, 6] [5, 6, 0, 1, 2, 3, 4] rfl rfl rfl rfl rfl rfl rfl rfl rfl rfl hl.1 (Nat.le_of_ble_eq_true rfl) rfl dX6_copy_17 (fun H locs hV => ?_)
    exact hret (x2, g3, f_sheets_p3_numbers) _ _ _ _ dX6_copy_20 hF hV
  refine lv_iload_n C.1 C.2.1 dX6_copy_7 rfl (lv_at hl 3 rfl) ?_
  obtain ⟨x4, hc, hF⟩ := bd1_s hF
  refine g_cSi (ws' := [oX6 a_t a_camp a_kept a_ears a_walk a_trials a_tape a_sheets a_found v_isKept, aA cI a_found 7 f_found, aQ cO a_sheets 4 q_sheets, oX2 a_sheets_p1 a_sheets_p1_numbers v_sheets_p1_bits v_sheets_p1_size, oX2 a_sheets_p3 a_sheets_p3_numbers v_sheets_p3_bits v_sheets_p3_size, aA cI a_sheets_p1_numbers 40 f_sheets_p1_numbers, aA cI a_sheets_p3_numbers 40 f_sheets_p3_numbers]) (wr := [oX6 a_t a_camp a_kept a_ears a_walk a_trials a_tape a_sheets a_found v_isKept, aA cI a_found 7 f_found, aQ cO a_sheets 4 q_sheets, oX2 a_sheets_p1 a_sheets_p1_numbers v_sheets_p1_bits v_sheets_p1_size, oX2 a_sheets_p3 a_sheets_p3_numbers v_sheets_p3_bits v_sheets_p3_size, aA cI a_sheets_p1_numbers 40 f_sheets_p1_numbers, aA cI a_sheets_p3_numbers 40 f_sheets_p3_numbers]) C hV (k_X6_isSheet l dC dI cI cB cO n0 H.size p3 hc) mdX6_isSheet gX6_copy_X6_isSheet rfl rfl ⟨Nat.le_of_ble_eq_true rfl, Nat.le_of_ble_eq_true rfl⟩ [] [0, 1, 2, 3, 4, 5, 6] [0, 1, 2, 3, 4, 5, 6] rfl rfl rfl rfl rfl rfl rfl rfl hl.1 (Nat.le_of_ble_eq_true rfl) rfl dX6_copy_8 (fun H locs hV => ?_)
  refine g_if_ne (tgt := 21) C hF dX6_copy_11 rfl (fun hF => ?_) (fun hF => ?_)
  · refine lv_aload_n C.1 C.2.1 dX6_copy_21 rfl (lv_at hl 0 rfl) ?_
    refine g_get C hV flX6_copy_53 0 rfl rfl dX6_copy_22 ?_
    refine lv_iload_n C.1 C.2.1 dX6_copy_25 rfl (lv_at hl 1 rfl) ?_
    refine g_aald C hV 2 rfl hF hq_p1 dX6_copy_26 (fun hF => ?_)
    obtain ⟨x5, hc, hF⟩ := bd1_s hF
    refine g_cVi (ws' := [oX6 a_t a_camp a_kept a_ears a_walk a_trials a_tape a_sheets a_found v_isKept, aA cI a_found 7 f_found, aQ cO a_sheets 4 q_sheets, oX2 a_sheets_p1 a_sheets_p1_numbers v_sheets_p1_bits v_sheets_p1_size, oX2 a_sheets_p3 a_sheets_p3_numbers v_sheets_p3_bits v_sheets_p3_size, aA cI a_sheets_p1_numbers 40 f_sheets_p1_numbers, aA cI a_sheets_p3_numbers 40 f_sheets_p3_numbers]) (wr := [oX6 a_t a_camp a_kept a_ears a_walk a_trials a_tape a_sheets a_found v_isKept, aA cI a_found 7 f_found, aQ cO a_sheets 4 q_sheets, oX2 a_sheets_p3 a_sheets_p3_numbers v_sheets_p3_bits v_sheets_p3_size, aA cI a_sheets_p1_numbers 40 f_sheets_p1_numbers, aA cI a_sheets_p3_numbers 40 f_sheets_p3_numbers]) C hV (k_X2_isMissing l dC dI cI cB cO n0 H.size a_sheets_p1 a_sheets_p1_numbers v_sheets_p1_bits v_sheets_p1_size hc) mdX2_isMissing gX6_copy_X2_isMissing rfl rfl ⟨Nat.le_of_ble_eq_true rfl, Nat.le_of_ble_eq_true rfl⟩ [3] [0, 1, 2, 4, 5, 6] [0, 1, 2, 6, 3, 4, 5] rfl rfl rfl rfl rfl rfl rfl rfl rfl rfl hl.1 (Nat.le_of_ble_eq_true rfl) rfl dX6_copy_27 (fun H locs hV => ?_)
    refine g_if_ne (tgt := 45) C hF dX6_copy_30 rfl (fun hF => ?_) (fun hF => ?_)
    · refine lv_aload_n C.1 C.2.1 dX6_copy_45 rfl (lv_at hl 0 rfl) ?_
      refine lv_ldcw (v := (-1000006)) C.1 C.2.1 C.2.2.2.1 (C.2.2.2.2 _ ctX6_copy_261) dX6_copy_46 ?_
      obtain ⟨x6, g7, hc, hF⟩ := bd2_s hF
      refine g_cVi (ws' := [oX6 a_t a_camp a_kept a_ears a_walk a_trials a_tape a_sheets a_found v_isKept, aA cI a_found 7 g7, aQ cO a_sheets 4 q_sheets, oX2 a_sheets_p1 a_sheets_p1_numbers v_sheets_p1_bits v_sheets_p1_size, oX2 a_sheets_p3 a_sheets_p3_numbers v_sheets_p3_bits v_sheets_p3_size, aA cI a_sheets_p1_numbers 40 f_sheets_p1_numbers, aA cI a_sheets_p3_numbers 40 f_sheets_p3_numbers]) (wr := [aQ cO a_sheets 4 q_sheets, oX2 a_sheets_p1 a_sheets_p1_numbers v_sheets_p1_bits v_sheets_p1_size, oX2 a_sheets_p3 a_sheets_p3_numbers v_sheets_p3_bits v_sheets_p3_size, aA cI a_sheets_p1_numbers 40 f_sheets_p1_numbers, aA cI a_sheets_p3_numbers 40 f_sheets_p3_numbers]) C hV (k_X6_finding l dC dI cI cB cO n0 H.size a_t a_camp a_kept a_ears a_walk a_trials a_tape a_sheets a_found v_isKept f_found ((-1000006)) hc) mdX6_finding gX6_copy_X6_finding rfl rfl ⟨Nat.le_of_ble_eq_true rfl, Nat.le_of_ble_eq_true rfl⟩ [0, 1] [2, 3, 4, 5, 6] [5, 6, 0, 1, 2, 3, 4] rfl rfl rfl rfl rfl rfl rfl rfl rfl rfl hl.1 (Nat.le_of_ble_eq_true rfl) rfl dX6_copy_49 (fun H locs hV => ?_)
      exact hret (x6, g7, f_sheets_p3_numbers) _ _ _ _ dX6_copy_52 hF hV
    refine lv_aload_n C.1 C.2.1 dX6_copy_33 rfl (lv_at hl 0 rfl) ?_
    refine g_get C hV flX6_copy_53 0 rfl rfl dX6_copy_34 ?_
    refine lv_iload_n C.1 C.2.1 dX6_copy_37 rfl (lv_at hl 3 rfl) ?_
    refine g_aald C hV 2 rfl hF hq_p3 dX6_copy_38 (fun hF => ?_)
    obtain ⟨x8, hc, hF⟩ := bd1_s hF
    refine g_cVi (ws' := [oX6 a_t a_camp a_kept a_ears a_walk a_trials a_tape a_sheets a_found v_isKept, aA cI a_found 7 f_found, aQ cO a_sheets 4 q_sheets, oX2 a_sheets_p1 a_sheets_p1_numbers v_sheets_p1_bits v_sheets_p1_size, oX2 a_sheets_p3 a_sheets_p3_numbers v_sheets_p3_bits v_sheets_p3_size, aA cI a_sheets_p1_numbers 40 f_sheets_p1_numbers, aA cI a_sheets_p3_numbers 40 f_sheets_p3_numbers]) (wr := [oX6 a_t a_camp a_kept a_ears a_walk a_trials a_tape a_sheets a_found v_isKept, aA cI a_found 7 f_found, aQ cO a_sheets 4 q_sheets, oX2 a_sheets_p1 a_sheets_p1_numbers v_sheets_p1_bits v_sheets_p1_size, aA cI a_sheets_p1_numbers 40 f_sheets_p1_numbers, aA cI a_sheets_p3_numbers 40 f_sheets_p3_numbers]) C hV (k_X2_isMissing l dC dI cI cB cO n0 H.size a_sheets_p3 a_sheets_p3_numbers v_sheets_p3_bits v_sheets_p3_size hc) mdX2_isMissing gX6_copy_X2_isMissing rfl rfl ⟨Nat.le_of_ble_eq_true rfl, Nat.le_of_ble_eq_true rfl⟩ [4] [0, 1, 2, 3, 5, 6] [0, 1, 2, 3, 6, 4, 5] rfl rfl rfl rfl rfl rfl rfl rfl rfl rfl hl.1 (Nat.le_of_ble_eq_true rfl) rfl dX6_copy_39 (fun H locs hV => ?_)
    refine g_if_eq (tgt := 53) C hF dX6_copy_42 rfl (fun hF => ?_) (fun hF => ?_)
    · refine lv_aload_n C.1 C.2.1 dX6_copy_53 rfl (lv_at hl 0 rfl) ?_
      refine g_get C hV flX6_copy_53 0 rfl rfl dX6_copy_54 ?_
      refine lv_iload_n C.1 C.2.1 dX6_copy_57 rfl (lv_at hl 1 rfl) ?_
      refine g_aald C hV 2 rfl hF hq_p1 dX6_copy_58 (fun hF => ?_)
      refine g_get C hV flX6_copy_281 3 rfl rfl dX6_copy_59 ?_
      refine lv_aload_n C.1 C.2.1 dX6_copy_62 rfl (lv_at hl 0 rfl) ?_
      refine g_get C hV flX6_copy_53 0 rfl rfl dX6_copy_63 ?_
      refine lv_iload_n C.1 C.2.1 dX6_copy_66 rfl (lv_at hl 3 rfl) ?_
      refine g_aald C hV 2 rfl hF hq_p3 dX6_copy_67 (fun hF => ?_)
      refine g_get C hV flX6_copy_281 4 rfl rfl dX6_copy_68 ?_
      refine g_icmp_eq (tgt := 82) C hF dX6_copy_71 rfl (fun hF => ?_) (fun hF => ?_)
      · refine lv_aload_n C.1 C.2.1 dX6_copy_82 rfl (lv_at hl 0 rfl) ?_
        refine g_get C hV flX6_copy_53 0 rfl rfl dX6_copy_83 ?_
        refine lv_iload_n C.1 C.2.1 dX6_copy_86 rfl (lv_at hl 1 rfl) ?_
        refine g_aald C hV 2 rfl hF hq_p1 dX6_copy_87 (fun hF => ?_)
        refine lv_iload_n C.1 C.2.1 dX6_copy_88 rfl (lv_at hl 2 rfl) ?_
        refine lv_iload C.1 C.2.1 dX6_copy_89 (lv_at hl 5 rfl) ?_
        obtain ⟨x9, hc, hF⟩ := bd1_s hF
        refine g_cVi (ws' := [oX6 a_t a_camp a_kept a_ears a_walk a_trials a_tape a_sheets a_found v_isKept, aA cI a_found 7 f_found, aQ cO a_sheets 4 q_sheets, oX2 a_sheets_p1 a_sheets_p1_numbers v_sheets_p1_bits v_sheets_p1_size, oX2 a_sheets_p3 a_sheets_p3_numbers v_sheets_p3_bits v_sheets_p3_size, aA cI a_sheets_p1_numbers 40 f_sheets_p1_numbers, aA cI a_sheets_p3_numbers 40 f_sheets_p3_numbers]) (wr := [oX6 a_t a_camp a_kept a_ears a_walk a_trials a_tape a_sheets a_found v_isKept, aA cI a_found 7 f_found, aQ cO a_sheets 4 q_sheets, oX2 a_sheets_p3 a_sheets_p3_numbers v_sheets_p3_bits v_sheets_p3_size, aA cI a_sheets_p1_numbers 40 f_sheets_p1_numbers, aA cI a_sheets_p3_numbers 40 f_sheets_p3_numbers]) C hV (k_X2_hasFrom l dC dI cI cB cO n0 H.size a_sheets_p1 a_sheets_p1_numbers v_sheets_p1_bits v_sheets_p1_size p2 p5 hc) mdX2_hasFrom gX6_copy_X2_hasFrom rfl rfl ⟨Nat.le_of_ble_eq_true rfl, Nat.le_of_ble_eq_true rfl⟩ [3] [0, 1, 2, 4, 5, 6] [0, 1, 2, 6, 3, 4, 5] rfl rfl rfl rfl rfl rfl rfl rfl rfl rfl hl.1 (Nat.le_of_ble_eq_true rfl) rfl dX6_copy_91 (fun H locs hV => ?_)
        refine g_if_eq (tgt := 113) C hF dX6_copy_94 rfl (fun hF => ?_) (fun hF => ?_)
        · refine lv_aload_n C.1 C.2.1 dX6_copy_113 rfl (lv_at hl 0 rfl) ?_
          refine lv_ldc (v := (-1000001)) C.1 C.2.1 C.2.2.2.1 (C.2.2.2.2 _ ctX6_copy_70) dX6_copy_114 ?_
          obtain ⟨x10, g11, hc, hF⟩ := bd2_s hF
          refine g_cVi (ws' := [oX6 a_t a_camp a_kept a_ears a_walk a_trials a_tape a_sheets a_found v_isKept, aA cI a_found 7 g11, aQ cO a_sheets 4 q_sheets, oX2 a_sheets_p1 a_sheets_p1_numbers v_sheets_p1_bits v_sheets_p1_size, oX2 a_sheets_p3 a_sheets_p3_numbers v_sheets_p3_bits v_sheets_p3_size, aA cI a_sheets_p1_numbers 40 f_sheets_p1_numbers, aA cI a_sheets_p3_numbers 40 f_sheets_p3_numbers]) (wr := [aQ cO a_sheets 4 q_sheets, oX2 a_sheets_p1 a_sheets_p1_numbers v_sheets_p1_bits v_sheets_p1_size, oX2 a_sheets_p3 a_sheets_p3_numbers v_sheets_p3_bits v_sheets_p3_size, aA cI a_sheets_p1_numbers 40 f_sheets_p1_numbers, aA cI a_sheets_p3_numbers 40 f_sheets_p3_numbers]) C hV (k_X6_finding l dC dI cI cB cO n0 H.size a_t a_camp a_kept a_ears a_walk a_trials a_tape a_sheets a_found v_isKept f_found ((-1000001)) hc) mdX6_finding gX6_copy_X6_finding rfl rfl ⟨Nat.le_of_ble_eq_true rfl, Nat.le_of_ble_eq_true rfl⟩ [0, 1] [2, 3, 4, 5, 6] [5, 6, 0, 1, 2, 3, 4] rfl rfl rfl rfl rfl rfl rfl rfl rfl rfl hl.1 (Nat.le_of_ble_eq_true rfl) rfl dX6_copy_116 (fun H locs hV => ?_)
          exact hret (x10, g11, f_sheets_p3_numbers) _ _ _ _ dX6_copy_119 hF hV
        refine lv_aload_n C.1 C.2.1 dX6_copy_97 rfl (lv_at hl 0 rfl) ?_
        refine g_get C hV flX6_copy_53 0 rfl rfl dX6_copy_98 ?_
        refine lv_iload_n C.1 C.2.1 dX6_copy_101 rfl (lv_at hl 3 rfl) ?_
        refine g_aald C hV 2 rfl hF hq_p3 dX6_copy_102 (fun hF => ?_)
        refine lv_iload C.1 C.2.1 dX6_copy_103 (lv_at hl 4 rfl) ?_
        refine lv_iload C.1 C.2.1 dX6_copy_105 (lv_at hl 5 rfl) ?_
        obtain ⟨x12, hc, hF⟩ := bd1_s hF
        refine g_cVi (ws' := [oX6 a_t a_camp a_kept a_ears a_walk a_trials a_tape a_sheets a_found v_isKept, aA cI a_found 7 f_found, aQ cO a_sheets 4 q_sheets, oX2 a_sheets_p1 a_sheets_p1_numbers v_sheets_p1_bits v_sheets_p1_size, oX2 a_sheets_p3 a_sheets_p3_numbers v_sheets_p3_bits v_sheets_p3_size, aA cI a_sheets_p1_numbers 40 f_sheets_p1_numbers, aA cI a_sheets_p3_numbers 40 f_sheets_p3_numbers]) (wr := [oX6 a_t a_camp a_kept a_ears a_walk a_trials a_tape a_sheets a_found v_isKept, aA cI a_found 7 f_found, aQ cO a_sheets 4 q_sheets, oX2 a_sheets_p1 a_sheets_p1_numbers v_sheets_p1_bits v_sheets_p1_size, aA cI a_sheets_p1_numbers 40 f_sheets_p1_numbers, aA cI a_sheets_p3_numbers 40 f_sheets_p3_numbers]) C hV (k_X2_hasFrom l dC dI cI cB cO n0 H.size a_sheets_p3 a_sheets_p3_numbers v_sheets_p3_bits v_sheets_p3_size p4 p5 hc) mdX2_hasFrom gX6_copy_X2_hasFrom rfl rfl ⟨Nat.le_of_ble_eq_true rfl, Nat.le_of_ble_eq_true rfl⟩ [4] [0, 1, 2, 3, 5, 6] [0, 1, 2, 3, 6, 4, 5] rfl rfl rfl rfl rfl rfl rfl rfl rfl rfl hl.1 (Nat.le_of_ble_eq_true rfl) rfl dX6_copy_107 (fun H locs hV => ?_)
        refine g_if_ne (tgt := 120) C hF dX6_copy_110 rfl (fun hF => ?_) (fun hF => ?_)
        · refine lv_aload_n C.1 C.2.1 dX6_copy_120 rfl (lv_at hl 0 rfl) ?_
          refine g_get C hV flX6_copy_53 0 rfl rfl dX6_copy_121 ?_
          refine lv_iload_n C.1 C.2.1 dX6_copy_124 rfl (lv_at hl 1 rfl) ?_
          refine g_aald C hV 2 rfl hF hq_p1 dX6_copy_125 (fun hF => ?_)
          refine g_get C hV flX6_copy_287 3 rfl rfl dX6_copy_126 ?_
          refine lv_iload_n C.1 C.2.1 dX6_copy_129 rfl (lv_at hl 2 rfl) ?_
          refine lv_aload_n C.1 C.2.1 dX6_copy_130 rfl (lv_at hl 0 rfl) ?_
          refine g_get C hV flX6_copy_53 0 rfl rfl dX6_copy_131 ?_
          refine lv_iload_n C.1 C.2.1 dX6_copy_134 rfl (lv_at hl 3 rfl) ?_
          refine g_aald C hV 2 rfl hF hq_p3 dX6_copy_135 (fun hF => ?_)
          refine g_get C hV flX6_copy_287 4 rfl rfl dX6_copy_136 ?_
          refine lv_iload C.1 C.2.1 dX6_copy_139 (lv_at hl 4 rfl) ?_
          refine lv_iload C.1 C.2.1 dX6_copy_141 (lv_at hl 5 rfl) ?_
          refine g_copy C hl hV cyX6_copy_290 5 6 rfl rfl (Nat.le_of_ble_eq_true rfl) (Nat.le_of_ble_eq_true rfl) hF (fun gq => [oX6 a_t a_camp a_kept a_ears a_walk a_trials a_tape a_sheets a_found v_isKept, aA cI a_found 7 f_found, aQ cO a_sheets 4 q_sheets, oX2 a_sheets_p1 a_sheets_p1_numbers v_sheets_p1_bits v_sheets_p1_size, oX2 a_sheets_p3 a_sheets_p3_numbers v_sheets_p3_bits v_sheets_p3_size, aA cI a_sheets_p1_numbers 40 f_sheets_p1_numbers, aA cI a_sheets_p3_numbers 40 gq]) (fun _ => rfl) dX6_copy_143 (fun g13 H locs hF hV => ?_)
          refine lv_iload C.1 C.2.1 dX6_copy_146 (lv_at hl 5 rfl) ?_
          exact hret (p5, f_found, g13) _ _ _ _ dX6_copy_148 hF hV
        refine lv_aload_n C.1 C.2.1 dX6_copy_113 rfl (lv_at hl 0 rfl) ?_
        refine lv_ldc (v := (-1000001)) C.1 C.2.1 C.2.2.2.1 (C.2.2.2.2 _ ctX6_copy_70) dX6_copy_114 ?_
        obtain ⟨x14, g15, hc, hF⟩ := bd2_s hF
        refine g_cVi (ws' := [oX6 a_t a_camp a_kept a_ears a_walk a_trials a_tape a_sheets a_found v_isKept, aA cI a_found 7 g15, aQ cO a_sheets 4 q_sheets, oX2 a_sheets_p1 a_sheets_p1_numbers v_sheets_p1_bits v_sheets_p1_size, oX2 a_sheets_p3 a_sheets_p3_numbers v_sheets_p3_bits v_sheets_p3_size, aA cI a_sheets_p1_numbers 40 f_sheets_p1_numbers, aA cI a_sheets_p3_numbers 40 f_sheets_p3_numbers]) (wr := [aQ cO a_sheets 4 q_sheets, oX2 a_sheets_p1 a_sheets_p1_numbers v_sheets_p1_bits v_sheets_p1_size, oX2 a_sheets_p3 a_sheets_p3_numbers v_sheets_p3_bits v_sheets_p3_size, aA cI a_sheets_p1_numbers 40 f_sheets_p1_numbers, aA cI a_sheets_p3_numbers 40 f_sheets_p3_numbers]) C hV (k_X6_finding l dC dI cI cB cO n0 H.size a_t a_camp a_kept a_ears a_walk a_trials a_tape a_sheets a_found v_isKept f_found ((-1000001)) hc) mdX6_finding gX6_copy_X6_finding rfl rfl ⟨Nat.le_of_ble_eq_true rfl, Nat.le_of_ble_eq_true rfl⟩ [0, 1] [2, 3, 4, 5, 6] [5, 6, 0, 1, 2, 3, 4] rfl rfl rfl rfl rfl rfl rfl rfl rfl rfl hl.1 (Nat.le_of_ble_eq_true rfl) rfl dX6_copy_116 (fun H locs hV => ?_)
        exact hret (x14, g15, f_sheets_p3_numbers) _ _ _ _ dX6_copy_119 hF hV
      refine lv_aload_n C.1 C.2.1 dX6_copy_74 rfl (lv_at hl 0 rfl) ?_
      refine lv_ldcw (v := (-1000003)) C.1 C.2.1 C.2.2.2.1 (C.2.2.2.2 _ ctX6_copy_265) dX6_copy_75 ?_
      obtain ⟨x16, g17, hc, hF⟩ := bd2_s hF
      refine g_cVi (ws' := [oX6 a_t a_camp a_kept a_ears a_walk a_trials a_tape a_sheets a_found v_isKept, aA cI a_found 7 g17, aQ cO a_sheets 4 q_sheets, oX2 a_sheets_p1 a_sheets_p1_numbers v_sheets_p1_bits v_sheets_p1_size, oX2 a_sheets_p3 a_sheets_p3_numbers v_sheets_p3_bits v_sheets_p3_size, aA cI a_sheets_p1_numbers 40 f_sheets_p1_numbers, aA cI a_sheets_p3_numbers 40 f_sheets_p3_numbers]) (wr := [aQ cO a_sheets 4 q_sheets, oX2 a_sheets_p1 a_sheets_p1_numbers v_sheets_p1_bits v_sheets_p1_size, oX2 a_sheets_p3 a_sheets_p3_numbers v_sheets_p3_bits v_sheets_p3_size, aA cI a_sheets_p1_numbers 40 f_sheets_p1_numbers, aA cI a_sheets_p3_numbers 40 f_sheets_p3_numbers]) C hV (k_X6_finding l dC dI cI cB cO n0 H.size a_t a_camp a_kept a_ears a_walk a_trials a_tape a_sheets a_found v_isKept f_found ((-1000003)) hc) mdX6_finding gX6_copy_X6_finding rfl rfl ⟨Nat.le_of_ble_eq_true rfl, Nat.le_of_ble_eq_true rfl⟩ [0, 1] [2, 3, 4, 5, 6] [5, 6, 0, 1, 2, 3, 4] rfl rfl rfl rfl rfl rfl rfl rfl rfl rfl hl.1 (Nat.le_of_ble_eq_true rfl) rfl dX6_copy_78 (fun H locs hV => ?_)
      exact hret (x16, g17, f_sheets_p3_numbers) _ _ _ _ dX6_copy_81 hF hV
    refine lv_aload_n C.1 C.2.1 dX6_copy_45 rfl (lv_at hl 0 rfl) ?_
    refine lv_ldcw (v := (-1000006)) C.1 C.2.1 C.2.2.2.1 (C.2.2.2.2 _ ctX6_copy_261) dX6_copy_46 ?_
    obtain ⟨x18, g19, hc, hF⟩ := bd2_s hF
    refine g_cVi (ws' := [oX6 a_t a_camp a_kept a_ears a_walk a_trials a_tape a_sheets a_found v_isKept, aA cI a_found 7 g19, aQ cO a_sheets 4 q_sheets, oX2 a_sheets_p1 a_sheets_p1_numbers v_sheets_p1_bits v_sheets_p1_size, oX2 a_sheets_p3 a_sheets_p3_numbers v_sheets_p3_bits v_sheets_p3_size, aA cI a_sheets_p1_numbers 40 f_sheets_p1_numbers, aA cI a_sheets_p3_numbers 40 f_sheets_p3_numbers]) (wr := [aQ cO a_sheets 4 q_sheets, oX2 a_sheets_p1 a_sheets_p1_numbers v_sheets_p1_bits v_sheets_p1_size, oX2 a_sheets_p3 a_sheets_p3_numbers v_sheets_p3_bits v_sheets_p3_size, aA cI a_sheets_p1_numbers 40 f_sheets_p1_numbers, aA cI a_sheets_p3_numbers 40 f_sheets_p3_numbers]) C hV (k_X6_finding l dC dI cI cB cO n0 H.size a_t a_camp a_kept a_ears a_walk a_trials a_tape a_sheets a_found v_isKept f_found ((-1000006)) hc) mdX6_finding gX6_copy_X6_finding rfl rfl ⟨Nat.le_of_ble_eq_true rfl, Nat.le_of_ble_eq_true rfl⟩ [0, 1] [2, 3, 4, 5, 6] [5, 6, 0, 1, 2, 3, 4] rfl rfl rfl rfl rfl rfl rfl rfl rfl rfl hl.1 (Nat.le_of_ble_eq_true rfl) rfl dX6_copy_49 (fun H locs hV => ?_)
    exact hret (x18, g19, f_sheets_p3_numbers) _ _ _ _ dX6_copy_52 hF hV
  refine lv_aload_n C.1 C.2.1 dX6_copy_14 rfl (lv_at hl 0 rfl) ?_
  refine lv_ldc (v := (-1000001)) C.1 C.2.1 C.2.2.2.1 (C.2.2.2.2 _ ctX6_copy_70) dX6_copy_15 ?_
  obtain ⟨x20, g21, hc, hF⟩ := bd2_s hF
  refine g_cVi (ws' := [oX6 a_t a_camp a_kept a_ears a_walk a_trials a_tape a_sheets a_found v_isKept, aA cI a_found 7 g21, aQ cO a_sheets 4 q_sheets, oX2 a_sheets_p1 a_sheets_p1_numbers v_sheets_p1_bits v_sheets_p1_size, oX2 a_sheets_p3 a_sheets_p3_numbers v_sheets_p3_bits v_sheets_p3_size, aA cI a_sheets_p1_numbers 40 f_sheets_p1_numbers, aA cI a_sheets_p3_numbers 40 f_sheets_p3_numbers]) (wr := [aQ cO a_sheets 4 q_sheets, oX2 a_sheets_p1 a_sheets_p1_numbers v_sheets_p1_bits v_sheets_p1_size, oX2 a_sheets_p3 a_sheets_p3_numbers v_sheets_p3_bits v_sheets_p3_size, aA cI a_sheets_p1_numbers 40 f_sheets_p1_numbers, aA cI a_sheets_p3_numbers 40 f_sheets_p3_numbers]) C hV (k_X6_finding l dC dI cI cB cO n0 H.size a_t a_camp a_kept a_ears a_walk a_trials a_tape a_sheets a_found v_isKept f_found ((-1000001)) hc) mdX6_finding gX6_copy_X6_finding rfl rfl ⟨Nat.le_of_ble_eq_true rfl, Nat.le_of_ble_eq_true rfl⟩ [0, 1] [2, 3, 4, 5, 6] [5, 6, 0, 1, 2, 3, 4] rfl rfl rfl rfl rfl rfl rfl rfl rfl rfl hl.1 (Nat.le_of_ble_eq_true rfl) rfl dX6_copy_17 (fun H locs hV => ?_)
  exact hret (x20, g21, f_sheets_p3_numbers) _ _ _ _ dX6_copy_20 hF hV
abbrev rmX6_load : Room := { frames := 2, cells := 0, slots := 0, locals := 44 }
theorem mdX6_load : gMd yX6_load wsX6_load cX6_load 3 (some .int) 1 := ⟨⟨_, rfl⟩, by decide +kernel⟩
theorem flX6_load_53 : gFL wsX6_load RX6 53 6 6 RX6 TX6 9 := ⟨rfl, fun w h => List.mem_cons_of_mem _ (List.mem_append_left _ (List.mem_append_left _ (List.mem_append_right _ (h)))), Nat.le_of_ble_eq_true rfl, List.mem_cons_of_mem _ (List.mem_append_left _ (List.mem_append_left _ (List.mem_append_left _ (List.mem_append_left _ (List.mem_of_getElem? (i := 1) rfl)))))⟩
theorem flX6_load_273 : gFL wsX6_load RX6 273 2 2 RX2 TX2 3 := ⟨rfl, fun w h => List.mem_cons_of_mem _ (List.mem_append_left _ (List.mem_append_right _ (h))), Nat.le_of_ble_eq_true rfl, List.mem_cons_of_mem _ (List.mem_append_left _ (List.mem_append_left _ (List.mem_append_left _ (List.mem_append_left _ (List.mem_of_getElem? (i := 3) rfl)))))⟩
theorem flX6_load_12 : gFL wsX6_load RX6 12 6 0 RX6 TX6 9 := ⟨rfl, fun w h => List.mem_cons_of_mem _ (List.mem_append_left _ (List.mem_append_left _ (List.mem_append_right _ (h)))), Nat.le_of_ble_eq_true rfl, List.mem_cons_of_mem _ (List.mem_append_left _ (List.mem_append_left _ (List.mem_append_left _ (List.mem_append_left _ (List.mem_of_getElem? (i := 4) rfl)))))⟩
theorem flX6_load_83 : gFL wsX6_load RX6 83 0 3 RX0 TX0 10 := ⟨rfl, fun w h => List.mem_cons_of_mem _ (List.mem_append_right _ (h)), Nat.le_of_ble_eq_true rfl, List.mem_cons_of_mem _ (List.mem_append_left _ (List.mem_append_left _ (List.mem_append_left _ (List.mem_append_left _ (List.mem_of_getElem? (i := 5) rfl)))))⟩
theorem flX6_load_287 : gFL wsX6_load RX6 287 2 0 RX2 TX2 3 := ⟨rfl, fun w h => List.mem_cons_of_mem _ (List.mem_append_left _ (List.mem_append_right _ (h))), Nat.le_of_ble_eq_true rfl, List.mem_cons_of_mem _ (List.mem_append_left _ (List.mem_append_left _ (List.mem_append_left _ (List.mem_append_left _ (List.mem_of_getElem? (i := 6) rfl)))))⟩
theorem ctX6_load_261 : Cond.constant RX6 261 (-1000006) ∈ wsX6_load := List.mem_cons_of_mem _ (List.mem_append_left _ (List.mem_append_left _ (List.mem_append_left _ (List.mem_append_left _ (List.mem_of_getElem? (i := 2) rfl)))))
theorem ctX6_load_70 : Cond.constant RX6 70 (-1000001) ∈ wsX6_load := List.mem_cons_of_mem _ (List.mem_append_left _ (List.mem_append_left _ (List.mem_append_left _ (List.mem_append_left _ (List.mem_of_getElem? (i := 0) rfl)))))
def L_X6_load_36 (p1 : Int32) (v_sheets_p1_size : Int32) (f_found : Nat → Int32) (v_camp_tents : Int32) (f_sheets_p1_numbers : Nat → Int32) (n0 : Nat) : Nat → Int32 → Int32 → Option (Int32 × Int32 × (Nat → Int32)) := lpp2 (fun s3 u4 kk36 => ixq p1 4 ((if v_sheets_p1_size ≤ s3 then some (s3, u4, f_found) else (if v_camp_tents ≤ s3 then some (s3, u4, f_found) else ixq p1 4 (rd f_sheets_p1_numbers 40 s3 (fun x5 => bd1 (F_X6_isBit n0 x5) (fun x6 => (if x6 = 0 then some (s3, u4, f_found) else ixq p1 4 (rd f_sheets_p1_numbers 40 s3 (fun x7 => bd1 (F_X0_giveWord n0 u4 s3 x7) (fun x8 => nm (s3 + 1) (fun x9 => kk36 x9 x8))))))))))))
def F_X6_load (n0 : Nat) (v_camp_tents : Int32) (v_camp_said : Int32) (f_found : Nat → Int32) (v_sheets_p1_bits : Int32) (v_sheets_p1_size : Int32) (f_sheets_p1_numbers : Nat → Int32) (p1 : Int32) : Option (Int32 × Int32 × (Nat → Int32)) := bd1 (F_X6_isSheet n0 p1) (fun x1 => (if x1 = 0 then bd2 (F_X6_finding n0 f_found ((-1000001))) (fun x12 g13 => some (x12, v_camp_said, g13)) else ixq p1 4 (bd1 (F_X2_isMissing n0 v_sheets_p1_bits) (fun x2 => (if x2 = 0 then L_X6_load_36 p1 v_sheets_p1_size f_found v_camp_tents f_sheets_p1_numbers n0 n0 0 v_camp_said else bd2 (F_X6_finding n0 f_found ((-1000006))) (fun x10 g11 => some (x10, v_camp_said, g11)))))))
set_option maxRecDepth 100000 in
set_option maxHeartbeats 4000000 in
theorem k_X6_load (l : Launch) (dC : Nat → ClassId) (dI : Nat → Nat → Nat) (cI cB cO : ClassId) (n0 sz : Nat) (a_t : Nat) (a_camp : Nat) (a_kept : Nat) (a_ears : Nat) (a_walk : Nat) (a_trials : Nat) (a_tape : Nat) (a_sheets : Nat) (a_found : Nat) (a_camp_kinds : Nat) (a_camp_yards : Nat) (a_camp_spots : Nat) (a_sheets_p1 : Nat) (a_sheets_p1_numbers : Nat)  (q_sheets : Nat → Option Nat) (v_isKept : Int32) (v_camp_tents : Int32) (v_camp_said : Int32) (v_camp_wall : Int32) (v_camp_bridge : Int32) (v_camp_counted : Int32) (v_camp_day : Int32) (v_camp_z : Int32) (f_found : Nat → Int32) (v_sheets_p1_bits : Int32) (v_sheets_p1_size : Int32) (f_sheets_p1_numbers : Nat → Int32) (p1 : Int32) (hq_p1 : ixb p1 4 = true → q_sheets (Int32.toNatClampNeg p1) = some a_sheets_p1) {ro : Int32} {o0 : Int32} {o1 : Nat → Int32} (hF : F_X6_load n0 v_camp_tents v_camp_said f_found v_sheets_p1_bits v_sheets_p1_size f_sheets_p1_numbers p1 = some (ro, o0, o1)) : Met l yX6_load wsX6_load rmX6_load (va_Pc [.ref a_t, .int p1] (gPre (dC, dI) (gT cI cB cO) sz [oX6 a_t a_camp a_kept a_ears a_walk a_trials a_tape a_sheets a_found v_isKept, oX0 a_camp a_camp_kinds a_camp_yards a_camp_spots v_camp_tents v_camp_said v_camp_wall v_camp_bridge v_camp_counted v_camp_day v_camp_z, aA cI a_found 7 f_found, aQ cO a_sheets 4 q_sheets, oX2 a_sheets_p1 a_sheets_p1_numbers v_sheets_p1_bits v_sheets_p1_size, aA cI a_sheets_p1_numbers 40 f_sheets_p1_numbers])) (gQi (dC, dI) (gT cI cB cO) sz [oX6 a_t a_camp a_kept a_ears a_walk a_trials a_tape a_sheets a_found v_isKept, oX0 a_camp a_camp_kinds a_camp_yards a_camp_spots v_camp_tents v_camp_said v_camp_wall v_camp_bridge v_camp_counted v_camp_day v_camp_z, aA cI a_found 7 f_found, aQ cO a_sheets 4 q_sheets, oX2 a_sheets_p1 a_sheets_p1_numbers v_sheets_p1_bits v_sheets_p1_size, aA cI a_sheets_p1_numbers 40 f_sheets_p1_numbers] ro [oX6 a_t a_camp a_kept a_ears a_walk a_trials a_tape a_sheets a_found v_isKept, oX0 a_camp a_camp_kinds a_camp_yards a_camp_spots v_camp_tents o0 v_camp_wall v_camp_bridge v_camp_counted v_camp_day v_camp_z, aA cI a_found 7 o1, aQ cO a_sheets 4 q_sheets, oX2 a_sheets_p1 a_sheets_p1_numbers v_sheets_p1_bits v_sheets_p1_size, aA cI a_sheets_p1_numbers 40 f_sheets_p1_numbers]) 0 0 (va_A [oX6 a_t a_camp a_kept a_ears a_walk a_trials a_tape a_sheets a_found v_isKept, oX0 a_camp a_camp_kinds a_camp_yards a_camp_spots v_camp_tents v_camp_said v_camp_wall v_camp_bridge v_camp_counted v_camp_day v_camp_z, aA cI a_found 7 f_found, aQ cO a_sheets 4 q_sheets, oX2 a_sheets_p1 a_sheets_p1_numbers v_sheets_p1_bits v_sheets_p1_size, aA cI a_sheets_p1_numbers 40 f_sheets_p1_numbers] sz) := by
  refine g_metI (Out := Int32 × Int32 × (Nat → Int32)) (fun oo => oo.1) (fun oo => [oX6 a_t a_camp a_kept a_ears a_walk a_trials a_tape a_sheets a_found v_isKept, oX0 a_camp a_camp_kinds a_camp_yards a_camp_spots v_camp_tents oo.2.1 v_camp_wall v_camp_bridge v_camp_counted v_camp_day v_camp_z, aA cI a_found 7 oo.2.2, aQ cO a_sheets 4 q_sheets, oX2 a_sheets_p1 a_sheets_p1_numbers v_sheets_p1_bits v_sheets_p1_size, aA cI a_sheets_p1_numbers 40 f_sheets_p1_numbers]) (ro, o0, o1) (own := RX6) (lv := [(0, .ref a_t), (1, .int p1)]) (by decide) rfl rfl (Nat.le_of_ble_eq_true rfl) rfl ?_
  intro p e s m args below meth c Q ls C hret hV hl
  obtain ⟨out, hout⟩ : ∃ z : Int32 × Int32 × (Nat → Int32), z = (ro, o0, o1) := ⟨_, rfl⟩
  rw [← hout] at hF hret
  obtain ⟨H0, hH0⟩ : ∃ z : Heap, z = s.heap := ⟨_, rfl⟩
  obtain ⟨A0, hA0⟩ : ∃ z : Nat → Prop, z = va_A [oX6 a_t a_camp a_kept a_ears a_walk a_trials a_tape a_sheets a_found v_isKept, oX0 a_camp a_camp_kinds a_camp_yards a_camp_spots v_camp_tents v_camp_said v_camp_wall v_camp_bridge v_camp_counted v_camp_day v_camp_z, aA cI a_found 7 f_found, aQ cO a_sheets 4 q_sheets, oX2 a_sheets_p1 a_sheets_p1_numbers v_sheets_p1_bits v_sheets_p1_size, aA cI a_sheets_p1_numbers 40 f_sheets_p1_numbers] s.heap.size := ⟨_, rfl⟩
  rw [← hA0] at hret hV
  rw [← hH0] at hret hV
  rw [← hH0]
  obtain ⟨H, locs, hH⟩ : ∃ (z : Heap) (y : List Loc), z = H0 ∧ y = [] := ⟨_, _, rfl, rfl⟩
  rw [← hH.1, ← hH.2]
  have hV : gV (dC, dI) (gT cI cB cO) A0 H0 s [oX6 a_t a_camp a_kept a_ears a_walk a_trials a_tape a_sheets a_found v_isKept, oX0 a_camp a_camp_kinds a_camp_yards a_camp_spots v_camp_tents v_camp_said v_camp_wall v_camp_bridge v_camp_counted v_camp_day v_camp_z, aA cI a_found 7 f_found, aQ cO a_sheets 4 q_sheets, oX2 a_sheets_p1 a_sheets_p1_numbers v_sheets_p1_bits v_sheets_p1_size, aA cI a_sheets_p1_numbers 40 f_sheets_p1_numbers] H locs := by rw [hH.1, hH.2]; exact hV
  unfold F_X6_load at hF
  refine lv_iload_n C.1 C.2.1 dX6_load_0 rfl (lv_at hl 1 rfl) ?_
  obtain ⟨x1, hc, hF⟩ := bd1_s hF
  refine g_cSi (ws' := [oX6 a_t a_camp a_kept a_ears a_walk a_trials a_tape a_sheets a_found v_isKept, oX0 a_camp a_camp_kinds a_camp_yards a_camp_spots v_camp_tents v_camp_said v_camp_wall v_camp_bridge v_camp_counted v_camp_day v_camp_z, aA cI a_found 7 f_found, aQ cO a_sheets 4 q_sheets, oX2 a_sheets_p1 a_sheets_p1_numbers v_sheets_p1_bits v_sheets_p1_size, aA cI a_sheets_p1_numbers 40 f_sheets_p1_numbers]) (wr := [oX6 a_t a_camp a_kept a_ears a_walk a_trials a_tape a_sheets a_found v_isKept, oX0 a_camp a_camp_kinds a_camp_yards a_camp_spots v_camp_tents v_camp_said v_camp_wall v_camp_bridge v_camp_counted v_camp_day v_camp_z, aA cI a_found 7 f_found, aQ cO a_sheets 4 q_sheets, oX2 a_sheets_p1 a_sheets_p1_numbers v_sheets_p1_bits v_sheets_p1_size, aA cI a_sheets_p1_numbers 40 f_sheets_p1_numbers]) C hV (k_X6_isSheet l dC dI cI cB cO n0 H.size p1 hc) mdX6_isSheet gX6_load_X6_isSheet rfl rfl ⟨Nat.le_of_ble_eq_true rfl, Nat.le_of_ble_eq_true rfl⟩ [] [0, 1, 2, 3, 4, 5] [0, 1, 2, 3, 4, 5] rfl rfl rfl rfl rfl rfl rfl rfl hl.1 (Nat.le_of_ble_eq_true rfl) rfl dX6_load_1 (fun H locs hV => ?_)
  refine g_if_ne (tgt := 14) C hF dX6_load_4 rfl (fun hF => ?_) (fun hF => ?_)
  · refine lv_aload_n C.1 C.2.1 dX6_load_14 rfl (lv_at hl 0 rfl) ?_
    refine g_get C hV flX6_load_53 0 rfl rfl dX6_load_15 ?_
    refine lv_iload_n C.1 C.2.1 dX6_load_18 rfl (lv_at hl 1 rfl) ?_
    refine g_aald C hV 3 rfl hF hq_p1 dX6_load_19 (fun hF => ?_)
    obtain ⟨x2, hc, hF⟩ := bd1_s hF
    refine g_cVi (ws' := [oX6 a_t a_camp a_kept a_ears a_walk a_trials a_tape a_sheets a_found v_isKept, oX0 a_camp a_camp_kinds a_camp_yards a_camp_spots v_camp_tents v_camp_said v_camp_wall v_camp_bridge v_camp_counted v_camp_day v_camp_z, aA cI a_found 7 f_found, aQ cO a_sheets 4 q_sheets, oX2 a_sheets_p1 a_sheets_p1_numbers v_sheets_p1_bits v_sheets_p1_size, aA cI a_sheets_p1_numbers 40 f_sheets_p1_numbers]) (wr := [oX6 a_t a_camp a_kept a_ears a_walk a_trials a_tape a_sheets a_found v_isKept, oX0 a_camp a_camp_kinds a_camp_yards a_camp_spots v_camp_tents v_camp_said v_camp_wall v_camp_bridge v_camp_counted v_camp_day v_camp_z, aA cI a_found 7 f_found, aQ cO a_sheets 4 q_sheets, aA cI a_sheets_p1_numbers 40 f_sheets_p1_numbers]) C hV (k_X2_isMissing l dC dI cI cB cO n0 H.size a_sheets_p1 a_sheets_p1_numbers v_sheets_p1_bits v_sheets_p1_size hc) mdX2_isMissing gX6_load_X2_isMissing rfl rfl ⟨Nat.le_of_ble_eq_true rfl, Nat.le_of_ble_eq_true rfl⟩ [4] [0, 1, 2, 3, 5] [0, 1, 2, 3, 5, 4] rfl rfl rfl rfl rfl rfl rfl rfl rfl rfl hl.1 (Nat.le_of_ble_eq_true rfl) rfl dX6_load_20 (fun H locs hV => ?_)
    refine g_if_eq (tgt := 34) C hF dX6_load_23 rfl (fun hF => ?_) (fun hF => ?_)
    · refine lv_iconst (v := 0) C.1 C.2.1 dX6_load_34 rfl ?_
      refine lv_istore_n (lv' := [(2, .int 0), (0, .ref a_t), (1, .int p1)]) C.1 C.2.1 dX6_load_35 rfl hl (by decide) rfl (fun ls hl => ?_)
      have hL36 : ∀ (n : Nat) (s3 : Int32) (u4 : Int32) (H : Heap) (locs : List Loc) (ls : Array Slot), gV (dC, dI) (gT cI cB cO) A0 H0 s [oX6 a_t a_camp a_kept a_ears a_walk a_trials a_tape a_sheets a_found v_isKept, oX0 a_camp a_camp_kinds a_camp_yards a_camp_spots v_camp_tents u4 v_camp_wall v_camp_bridge v_camp_counted v_camp_day v_camp_z, aA cI a_found 7 f_found, aQ cO a_sheets 4 q_sheets, oX2 a_sheets_p1 a_sheets_p1_numbers v_sheets_p1_bits v_sheets_p1_size, aA cI a_sheets_p1_numbers 40 f_sheets_p1_numbers] H locs → lv_has ls 3 [(0, .ref a_t), (1, .int p1), (2, .int s3)] → L_X6_load_36 p1 v_sheets_p1_size f_found v_camp_tents f_sheets_p1_numbers n0 n s3 u4 = some out → W p l e rmX6_load s m args below meth c H locs 0 0 Q (F0 m 36 ls []) := by
        intro n
        induction n with
        | zero => intro s3 u4 H locs ls hV hl hF; exact lpp2_z hF
        | succ n ih36 =>
          intro s3 u4 H locs ls hV hl hF
          obtain ⟨kk36, hk36, hF⟩ := lpp2_g hF
          have hq36 : ∀ (s3 : Int32) (u4 : Int32), kk36 s3 u4 = some out → L_X6_load_36 p1 v_sheets_p1_size f_found v_camp_tents f_sheets_p1_numbers n0 n s3 u4 = some out := fun _ _ h => by rw [hk36] at h; exact h
          refine lv_iload_n C.1 C.2.1 dX6_load_36 rfl (lv_at hl 2 rfl) ?_
          refine lv_aload_n C.1 C.2.1 dX6_load_37 rfl (lv_at hl 0 rfl) ?_
          refine g_get C hV flX6_load_53 0 rfl rfl dX6_load_38 ?_
          refine lv_iload_n C.1 C.2.1 dX6_load_41 rfl (lv_at hl 1 rfl) ?_
          refine g_aald C hV 3 rfl hF hq_p1 dX6_load_42 (fun hF => ?_)
          refine g_get C hV flX6_load_273 4 rfl rfl dX6_load_43 ?_
          refine g_icmp_ge (tgt := 102) C hF dX6_load_46 rfl (fun hF => ?_) (fun hF => ?_)
          · refine lv_iload_n C.1 C.2.1 dX6_load_102 rfl (lv_at hl 2 rfl) ?_
            exact hret (s3, u4, f_found) _ _ _ _ dX6_load_103 hF hV
          refine lv_iload_n C.1 C.2.1 dX6_load_49 rfl (lv_at hl 2 rfl) ?_
          refine lv_aload_n C.1 C.2.1 dX6_load_50 rfl (lv_at hl 0 rfl) ?_
          refine g_get C hV flX6_load_12 0 rfl rfl dX6_load_51 ?_
          refine g_get C hV flX6_load_83 1 rfl rfl dX6_load_54 ?_
          refine g_icmp_ge (tgt := 102) C hF dX6_load_57 rfl (fun hF => ?_) (fun hF => ?_)
          · refine lv_iload_n C.1 C.2.1 dX6_load_102 rfl (lv_at hl 2 rfl) ?_
            exact hret (s3, u4, f_found) _ _ _ _ dX6_load_103 hF hV
          refine lv_aload_n C.1 C.2.1 dX6_load_60 rfl (lv_at hl 0 rfl) ?_
          refine g_get C hV flX6_load_53 0 rfl rfl dX6_load_61 ?_
          refine lv_iload_n C.1 C.2.1 dX6_load_64 rfl (lv_at hl 1 rfl) ?_
          refine g_aald C hV 3 rfl hF hq_p1 dX6_load_65 (fun hF => ?_)
          refine g_get C hV flX6_load_287 4 rfl rfl dX6_load_66 ?_
          refine lv_iload_n C.1 C.2.1 dX6_load_69 rfl (lv_at hl 2 rfl) ?_
          refine g_iald C hV 5 rfl hF dX6_load_70 (fun x5 hF => ?_)
          obtain ⟨x6, hc, hF⟩ := bd1_s hF
          refine g_cSi (ws' := [oX6 a_t a_camp a_kept a_ears a_walk a_trials a_tape a_sheets a_found v_isKept, oX0 a_camp a_camp_kinds a_camp_yards a_camp_spots v_camp_tents u4 v_camp_wall v_camp_bridge v_camp_counted v_camp_day v_camp_z, aA cI a_found 7 f_found, aQ cO a_sheets 4 q_sheets, oX2 a_sheets_p1 a_sheets_p1_numbers v_sheets_p1_bits v_sheets_p1_size, aA cI a_sheets_p1_numbers 40 f_sheets_p1_numbers]) (wr := [oX6 a_t a_camp a_kept a_ears a_walk a_trials a_tape a_sheets a_found v_isKept, oX0 a_camp a_camp_kinds a_camp_yards a_camp_spots v_camp_tents u4 v_camp_wall v_camp_bridge v_camp_counted v_camp_day v_camp_z, aA cI a_found 7 f_found, aQ cO a_sheets 4 q_sheets, oX2 a_sheets_p1 a_sheets_p1_numbers v_sheets_p1_bits v_sheets_p1_size, aA cI a_sheets_p1_numbers 40 f_sheets_p1_numbers]) C hV (k_X6_isBit l dC dI cI cB cO n0 H.size x5 hc) mdX6_isBit gX6_load_X6_isBit rfl rfl ⟨Nat.le_of_ble_eq_true rfl, Nat.le_of_ble_eq_true rfl⟩ [] [0, 1, 2, 3, 4, 5] [0, 1, 2, 3, 4, 5] rfl rfl rfl rfl rfl rfl rfl rfl hl.1 (Nat.le_of_ble_eq_true rfl) rfl dX6_load_71 (fun H locs hV => ?_)
          refine g_if_eq (tgt := 102) C hF dX6_load_74 rfl (fun hF => ?_) (fun hF => ?_)
          · refine lv_iload_n C.1 C.2.1 dX6_load_102 rfl (lv_at hl 2 rfl) ?_
            exact hret (s3, u4, f_found) _ _ _ _ dX6_load_103 hF hV
          refine lv_aload_n C.1 C.2.1 dX6_load_77 rfl (lv_at hl 0 rfl) ?_
          refine g_get C hV flX6_load_12 0 rfl rfl dX6_load_78 ?_
          refine lv_iload_n C.1 C.2.1 dX6_load_81 rfl (lv_at hl 2 rfl) ?_
          refine lv_aload_n C.1 C.2.1 dX6_load_82 rfl (lv_at hl 0 rfl) ?_
          refine g_get C hV flX6_load_53 0 rfl rfl dX6_load_83 ?_
          refine lv_iload_n C.1 C.2.1 dX6_load_86 rfl (lv_at hl 1 rfl) ?_
          refine g_aald C hV 3 rfl hF hq_p1 dX6_load_87 (fun hF => ?_)
          refine g_get C hV flX6_load_287 4 rfl rfl dX6_load_88 ?_
          refine lv_iload_n C.1 C.2.1 dX6_load_91 rfl (lv_at hl 2 rfl) ?_
          refine g_iald C hV 5 rfl hF dX6_load_92 (fun x7 hF => ?_)
          obtain ⟨x8, hc, hF⟩ := bd1_s hF
          refine g_cVv (ws' := [oX6 a_t a_camp a_kept a_ears a_walk a_trials a_tape a_sheets a_found v_isKept, oX0 a_camp a_camp_kinds a_camp_yards a_camp_spots v_camp_tents x8 v_camp_wall v_camp_bridge v_camp_counted v_camp_day v_camp_z, aA cI a_found 7 f_found, aQ cO a_sheets 4 q_sheets, oX2 a_sheets_p1 a_sheets_p1_numbers v_sheets_p1_bits v_sheets_p1_size, aA cI a_sheets_p1_numbers 40 f_sheets_p1_numbers]) (wr := [oX6 a_t a_camp a_kept a_ears a_walk a_trials a_tape a_sheets a_found v_isKept, aA cI a_found 7 f_found, aQ cO a_sheets 4 q_sheets, oX2 a_sheets_p1 a_sheets_p1_numbers v_sheets_p1_bits v_sheets_p1_size, aA cI a_sheets_p1_numbers 40 f_sheets_p1_numbers]) C hV (k_X0_giveWord l dC dI cI cB cO n0 H.size a_camp a_camp_kinds a_camp_yards a_camp_spots v_camp_tents u4 v_camp_wall v_camp_bridge v_camp_counted v_camp_day v_camp_z s3 x7 hc) mdX0_giveWord gX6_load_X0_giveWord rfl rfl ⟨Nat.le_of_ble_eq_true rfl, Nat.le_of_ble_eq_true rfl⟩ [1] [0, 2, 3, 4, 5] [0, 5, 1, 2, 3, 4] rfl rfl rfl rfl rfl rfl rfl rfl rfl rfl hl.1 (Nat.le_of_ble_eq_true rfl) rfl dX6_load_93 (fun H locs hV => ?_)
          refine g_iinc C hF dX6_load_96 (d := 1) rfl hl (j := 2) rfl (by decide) (fun y => [(2, .int y), (0, .ref a_t), (1, .int p1)]) (fun _ => rfl) (fun x9 ls hF hl => ?_)
          refine lv_goto (tgt := 36) C.1 C.2.1 dX6_load_99 rfl ?_
          exact ih36 x9 x8 H locs ls hV (lv_sub hl [1, 2, 0] rfl) (hq36 x9 x8 hF)
      exact hL36 n0 0 v_camp_said H locs ls hV (lv_sub hl [1, 2, 0] rfl) hF
    refine lv_aload_n C.1 C.2.1 dX6_load_26 rfl (lv_at hl 0 rfl) ?_
    refine lv_ldcw (v := (-1000006)) C.1 C.2.1 C.2.2.2.1 (C.2.2.2.2 _ ctX6_load_261) dX6_load_27 ?_
    obtain ⟨x10, g11, hc, hF⟩ := bd2_s hF
    refine g_cVi (ws' := [oX6 a_t a_camp a_kept a_ears a_walk a_trials a_tape a_sheets a_found v_isKept, oX0 a_camp a_camp_kinds a_camp_yards a_camp_spots v_camp_tents v_camp_said v_camp_wall v_camp_bridge v_camp_counted v_camp_day v_camp_z, aA cI a_found 7 g11, aQ cO a_sheets 4 q_sheets, oX2 a_sheets_p1 a_sheets_p1_numbers v_sheets_p1_bits v_sheets_p1_size, aA cI a_sheets_p1_numbers 40 f_sheets_p1_numbers]) (wr := [oX0 a_camp a_camp_kinds a_camp_yards a_camp_spots v_camp_tents v_camp_said v_camp_wall v_camp_bridge v_camp_counted v_camp_day v_camp_z, aQ cO a_sheets 4 q_sheets, oX2 a_sheets_p1 a_sheets_p1_numbers v_sheets_p1_bits v_sheets_p1_size, aA cI a_sheets_p1_numbers 40 f_sheets_p1_numbers]) C hV (k_X6_finding l dC dI cI cB cO n0 H.size a_t a_camp a_kept a_ears a_walk a_trials a_tape a_sheets a_found v_isKept f_found ((-1000006)) hc) mdX6_finding gX6_load_X6_finding rfl rfl ⟨Nat.le_of_ble_eq_true rfl, Nat.le_of_ble_eq_true rfl⟩ [0, 2] [1, 3, 4, 5] [4, 0, 5, 1, 2, 3] rfl rfl rfl rfl rfl rfl rfl rfl rfl rfl hl.1 (Nat.le_of_ble_eq_true rfl) rfl dX6_load_30 (fun H locs hV => ?_)
    exact hret (x10, v_camp_said, g11) _ _ _ _ dX6_load_33 hF hV
  refine lv_aload_n C.1 C.2.1 dX6_load_7 rfl (lv_at hl 0 rfl) ?_
  refine lv_ldc (v := (-1000001)) C.1 C.2.1 C.2.2.2.1 (C.2.2.2.2 _ ctX6_load_70) dX6_load_8 ?_
  obtain ⟨x12, g13, hc, hF⟩ := bd2_s hF
  refine g_cVi (ws' := [oX6 a_t a_camp a_kept a_ears a_walk a_trials a_tape a_sheets a_found v_isKept, oX0 a_camp a_camp_kinds a_camp_yards a_camp_spots v_camp_tents v_camp_said v_camp_wall v_camp_bridge v_camp_counted v_camp_day v_camp_z, aA cI a_found 7 g13, aQ cO a_sheets 4 q_sheets, oX2 a_sheets_p1 a_sheets_p1_numbers v_sheets_p1_bits v_sheets_p1_size, aA cI a_sheets_p1_numbers 40 f_sheets_p1_numbers]) (wr := [oX0 a_camp a_camp_kinds a_camp_yards a_camp_spots v_camp_tents v_camp_said v_camp_wall v_camp_bridge v_camp_counted v_camp_day v_camp_z, aQ cO a_sheets 4 q_sheets, oX2 a_sheets_p1 a_sheets_p1_numbers v_sheets_p1_bits v_sheets_p1_size, aA cI a_sheets_p1_numbers 40 f_sheets_p1_numbers]) C hV (k_X6_finding l dC dI cI cB cO n0 H.size a_t a_camp a_kept a_ears a_walk a_trials a_tape a_sheets a_found v_isKept f_found ((-1000001)) hc) mdX6_finding gX6_load_X6_finding rfl rfl ⟨Nat.le_of_ble_eq_true rfl, Nat.le_of_ble_eq_true rfl⟩ [0, 2] [1, 3, 4, 5] [4, 0, 5, 1, 2, 3] rfl rfl rfl rfl rfl rfl rfl rfl rfl rfl hl.1 (Nat.le_of_ble_eq_true rfl) rfl dX6_load_10 (fun H locs hV => ?_)
  exact hret (x12, v_camp_said, g13) _ _ _ _ dX6_load_13 hF hV
abbrev rmX6_judge : Room := { frames := 4, cells := 0, slots := 0, locals := 102 }
theorem mdX6_judge : gMd yX6_judge wsX6_judge cX6_judge 4 (some .int) 1 := ⟨⟨_, rfl⟩, by decide +kernel⟩
theorem flX6_judge_53 : gFL wsX6_judge RX6 53 6 6 RX6 TX6 9 := ⟨rfl, fun w h => List.mem_cons_of_mem _ (List.mem_append_left _ (List.mem_append_left _ (List.mem_append_left _ (List.mem_append_right _ (h))))), Nat.le_of_ble_eq_true rfl, List.mem_cons_of_mem _ (List.mem_append_left _ (List.mem_append_left _ (List.mem_append_left _ (List.mem_append_left _ (List.mem_append_left _ (List.mem_of_getElem? (i := 1) rfl))))))⟩
theorem flX6_judge_24 : gFL wsX6_judge RX6 24 6 2 RX6 TX6 9 := ⟨rfl, fun w h => List.mem_cons_of_mem _ (List.mem_append_left _ (List.mem_append_left _ (List.mem_append_left _ (List.mem_append_right _ (h))))), Nat.le_of_ble_eq_true rfl, List.mem_cons_of_mem _ (List.mem_append_left _ (List.mem_append_left _ (List.mem_append_left _ (List.mem_append_left _ (List.mem_append_left _ (List.mem_of_getElem? (i := 3) rfl))))))⟩
theorem flX6_judge_12 : gFL wsX6_judge RX6 12 6 0 RX6 TX6 9 := ⟨rfl, fun w h => List.mem_cons_of_mem _ (List.mem_append_left _ (List.mem_append_left _ (List.mem_append_left _ (List.mem_append_right _ (h))))), Nat.le_of_ble_eq_true rfl, List.mem_cons_of_mem _ (List.mem_append_left _ (List.mem_append_left _ (List.mem_append_left _ (List.mem_append_left _ (List.mem_append_left _ (List.mem_of_getElem? (i := 4) rfl))))))⟩
theorem flX6_judge_110 : gFL wsX6_judge RX6 110 0 4 RX0 TX0 10 := ⟨rfl, fun w h => List.mem_cons_of_mem _ (List.mem_append_left _ (List.mem_append_left _ (List.mem_append_right _ (h)))), Nat.le_of_ble_eq_true rfl, List.mem_cons_of_mem _ (List.mem_append_left _ (List.mem_append_left _ (List.mem_append_left _ (List.mem_append_left _ (List.mem_append_left _ (List.mem_of_getElem? (i := 5) rfl))))))⟩
theorem flX6_judge_273 : gFL wsX6_judge RX6 273 2 2 RX2 TX2 3 := ⟨rfl, fun w h => List.mem_cons_of_mem _ (List.mem_append_left _ (List.mem_append_right _ (h))), Nat.le_of_ble_eq_true rfl, List.mem_cons_of_mem _ (List.mem_append_left _ (List.mem_append_left _ (List.mem_append_left _ (List.mem_append_left _ (List.mem_append_left _ (List.mem_of_getElem? (i := 6) rfl))))))⟩
theorem flX6_judge_287 : gFL wsX6_judge RX6 287 2 0 RX2 TX2 3 := ⟨rfl, fun w h => List.mem_cons_of_mem _ (List.mem_append_left _ (List.mem_append_right _ (h))), Nat.le_of_ble_eq_true rfl, List.mem_cons_of_mem _ (List.mem_append_left _ (List.mem_append_left _ (List.mem_append_left _ (List.mem_append_left _ (List.mem_append_left _ (List.mem_of_getElem? (i := 7) rfl))))))⟩
theorem ctX6_judge_261 : Cond.constant RX6 261 (-1000006) ∈ wsX6_judge := List.mem_cons_of_mem _ (List.mem_append_left _ (List.mem_append_left _ (List.mem_append_left _ (List.mem_append_left _ (List.mem_append_left _ (List.mem_of_getElem? (i := 2) rfl))))))
theorem ctX6_judge_70 : Cond.constant RX6 70 (-1000001) ∈ wsX6_judge := List.mem_cons_of_mem _ (List.mem_append_left _ (List.mem_append_left _ (List.mem_append_left _ (List.mem_append_left _ (List.mem_append_left _ (List.mem_of_getElem? (i := 0) rfl))))))
def L_X6_judge_51 (p1 : Int32) (v_sheets_p1_size : Int32) (f_found : Nat → Int32) (g3 : Nat → Int32) (g4 : Nat → Int32) (g5 : Nat → Int32) (n0 : Nat) (v_camp_tents : Int32) (f_camp_kinds : Nat → Int32) (f_sheets_p1_numbers : Nat → Int32) : Nat → Int32 → Int32 → Option (Int32 × (Nat → Int32) × (Nat → Int32) × (Nat → Int32) × (Nat → Int32)) := lpp2 (fun s6 s7 kk51 => ixq p1 4 ((if v_sheets_p1_size ≤ s7 then some ((0, f_found, g3, g4, g5) : Int32 × (Nat → Int32) × (Nat → Int32) × (Nat → Int32) × (Nat → Int32)) else bd1 (F_X1_nextSaid n0 v_camp_tents g4 g5 f_camp_kinds s6) (fun x8 => ixq p1 4 (rd f_sheets_p1_numbers 40 s7 (fun x9 => bd1 (F_J6_bitCount_0f7a4 n0 x8) (fun x10 => (if x9 = x10 then nm (s7 + 1) (fun x11 => kk51 x8 x11) else nm (1 + s7) (fun x12 => some (x12, f_found, g3, g4, g5))))))))))
def F_X6_judge (n0 : Nat) (v_camp_tents : Int32) (v_camp_said : Int32) (v_camp_wall : Int32) (v_camp_bridge : Int32) (v_camp_counted : Int32) (f_found : Nat → Int32) (f_camp_kinds : Nat → Int32) (f_camp_yards : Nat → Int32) (f_ears_gaps : Nat → Int32) (f_ears_hears : Nat → Int32) (f_ears_near : Nat → Int32) (v_sheets_p1_bits : Int32) (v_sheets_p1_size : Int32) (f_sheets_p1_numbers : Nat → Int32) (p1 : Int32) : Option (Int32 × (Nat → Int32) × (Nat → Int32) × (Nat → Int32) × (Nat → Int32)) := bd1 (F_X6_isSheet n0 p1) (fun x1 => (if x1 = 0 then bd2 (F_X6_finding n0 f_found ((-1000001))) (fun x15 g16 => some (x15, g16, f_ears_gaps, f_ears_hears, f_ears_near)) else ixq p1 4 (bd1 (F_X2_isMissing n0 v_sheets_p1_bits) (fun x2 => (if x2 = 0 then bd3 (F_X1_listen n0 v_camp_tents v_camp_wall v_camp_bridge v_camp_counted f_ears_gaps f_ears_hears f_ears_near f_camp_kinds f_camp_yards) (fun g3 g4 g5 => L_X6_judge_51 p1 v_sheets_p1_size f_found g3 g4 g5 n0 v_camp_tents f_camp_kinds f_sheets_p1_numbers n0 v_camp_said 0) else bd2 (F_X6_finding n0 f_found ((-1000006))) (fun x13 g14 => some (x13, g14, f_ears_gaps, f_ears_hears, f_ears_near)))))))
set_option maxRecDepth 100000 in
set_option maxHeartbeats 4000000 in
theorem k_X6_judge (l : Launch) (dC : Nat → ClassId) (dI : Nat → Nat → Nat) (cI cB cO : ClassId) (n0 sz : Nat) (a_t : Nat) (a_camp : Nat) (a_kept : Nat) (a_ears : Nat) (a_walk : Nat) (a_trials : Nat) (a_tape : Nat) (a_sheets : Nat) (a_found : Nat) (a_camp_kinds : Nat) (a_camp_yards : Nat) (a_camp_spots : Nat) (a_ears_hears : Nat) (a_ears_near : Nat) (a_ears_gaps : Nat) (a_sheets_p1 : Nat) (a_sheets_p1_numbers : Nat)  (q_sheets : Nat → Option Nat) (v_isKept : Int32) (v_camp_tents : Int32) (v_camp_said : Int32) (v_camp_wall : Int32) (v_camp_bridge : Int32) (v_camp_counted : Int32) (v_camp_day : Int32) (v_camp_z : Int32) (f_found : Nat → Int32) (f_camp_kinds : Nat → Int32) (f_camp_yards : Nat → Int32) (f_ears_gaps : Nat → Int32) (f_ears_hears : Nat → Int32) (f_ears_near : Nat → Int32) (v_sheets_p1_bits : Int32) (v_sheets_p1_size : Int32) (f_sheets_p1_numbers : Nat → Int32) (p1 : Int32) (hq_p1 : ixb p1 4 = true → q_sheets (Int32.toNatClampNeg p1) = some a_sheets_p1) {ro : Int32} {o0 : Nat → Int32} {o1 : Nat → Int32} {o2 : Nat → Int32} {o3 : Nat → Int32} (hF : F_X6_judge n0 v_camp_tents v_camp_said v_camp_wall v_camp_bridge v_camp_counted f_found f_camp_kinds f_camp_yards f_ears_gaps f_ears_hears f_ears_near v_sheets_p1_bits v_sheets_p1_size f_sheets_p1_numbers p1 = some (ro, o0, o1, o2, o3)) : Met l yX6_judge wsX6_judge rmX6_judge (va_Pc [.ref a_t, .int p1] (gPre (dC, dI) (gT cI cB cO) sz [oX6 a_t a_camp a_kept a_ears a_walk a_trials a_tape a_sheets a_found v_isKept, oX0 a_camp a_camp_kinds a_camp_yards a_camp_spots v_camp_tents v_camp_said v_camp_wall v_camp_bridge v_camp_counted v_camp_day v_camp_z, oX1 a_ears a_camp a_ears_hears a_ears_near a_ears_gaps, aA cI a_found 7 f_found, aQ cO a_sheets 4 q_sheets, aA cI a_camp_kinds 10 f_camp_kinds, aA cI a_camp_yards 10 f_camp_yards, aA cI a_ears_gaps 100 f_ears_gaps, aA cI a_ears_hears 10 f_ears_hears, aA cI a_ears_near 10 f_ears_near, oX2 a_sheets_p1 a_sheets_p1_numbers v_sheets_p1_bits v_sheets_p1_size, aA cI a_sheets_p1_numbers 40 f_sheets_p1_numbers])) (gQi (dC, dI) (gT cI cB cO) sz [oX6 a_t a_camp a_kept a_ears a_walk a_trials a_tape a_sheets a_found v_isKept, oX0 a_camp a_camp_kinds a_camp_yards a_camp_spots v_camp_tents v_camp_said v_camp_wall v_camp_bridge v_camp_counted v_camp_day v_camp_z, oX1 a_ears a_camp a_ears_hears a_ears_near a_ears_gaps, aA cI a_found 7 f_found, aQ cO a_sheets 4 q_sheets, aA cI a_camp_kinds 10 f_camp_kinds, aA cI a_camp_yards 10 f_camp_yards, aA cI a_ears_gaps 100 f_ears_gaps, aA cI a_ears_hears 10 f_ears_hears, aA cI a_ears_near 10 f_ears_near, oX2 a_sheets_p1 a_sheets_p1_numbers v_sheets_p1_bits v_sheets_p1_size, aA cI a_sheets_p1_numbers 40 f_sheets_p1_numbers] ro [oX6 a_t a_camp a_kept a_ears a_walk a_trials a_tape a_sheets a_found v_isKept, oX0 a_camp a_camp_kinds a_camp_yards a_camp_spots v_camp_tents v_camp_said v_camp_wall v_camp_bridge v_camp_counted v_camp_day v_camp_z, oX1 a_ears a_camp a_ears_hears a_ears_near a_ears_gaps, aA cI a_found 7 o0, aQ cO a_sheets 4 q_sheets, aA cI a_camp_kinds 10 f_camp_kinds, aA cI a_camp_yards 10 f_camp_yards, aA cI a_ears_gaps 100 o1, aA cI a_ears_hears 10 o2, aA cI a_ears_near 10 o3, oX2 a_sheets_p1 a_sheets_p1_numbers v_sheets_p1_bits v_sheets_p1_size, aA cI a_sheets_p1_numbers 40 f_sheets_p1_numbers]) 0 0 (va_A [oX6 a_t a_camp a_kept a_ears a_walk a_trials a_tape a_sheets a_found v_isKept, oX0 a_camp a_camp_kinds a_camp_yards a_camp_spots v_camp_tents v_camp_said v_camp_wall v_camp_bridge v_camp_counted v_camp_day v_camp_z, oX1 a_ears a_camp a_ears_hears a_ears_near a_ears_gaps, aA cI a_found 7 f_found, aQ cO a_sheets 4 q_sheets, aA cI a_camp_kinds 10 f_camp_kinds, aA cI a_camp_yards 10 f_camp_yards, aA cI a_ears_gaps 100 f_ears_gaps, aA cI a_ears_hears 10 f_ears_hears, aA cI a_ears_near 10 f_ears_near, oX2 a_sheets_p1 a_sheets_p1_numbers v_sheets_p1_bits v_sheets_p1_size, aA cI a_sheets_p1_numbers 40 f_sheets_p1_numbers] sz) := by
  refine g_metI (Out := Int32 × (Nat → Int32) × (Nat → Int32) × (Nat → Int32) × (Nat → Int32)) (fun oo => oo.1) (fun oo => [oX6 a_t a_camp a_kept a_ears a_walk a_trials a_tape a_sheets a_found v_isKept, oX0 a_camp a_camp_kinds a_camp_yards a_camp_spots v_camp_tents v_camp_said v_camp_wall v_camp_bridge v_camp_counted v_camp_day v_camp_z, oX1 a_ears a_camp a_ears_hears a_ears_near a_ears_gaps, aA cI a_found 7 oo.2.1, aQ cO a_sheets 4 q_sheets, aA cI a_camp_kinds 10 f_camp_kinds, aA cI a_camp_yards 10 f_camp_yards, aA cI a_ears_gaps 100 oo.2.2.1, aA cI a_ears_hears 10 oo.2.2.2.1, aA cI a_ears_near 10 oo.2.2.2.2, oX2 a_sheets_p1 a_sheets_p1_numbers v_sheets_p1_bits v_sheets_p1_size, aA cI a_sheets_p1_numbers 40 f_sheets_p1_numbers]) (ro, o0, o1, o2, o3) (own := RX6) (lv := [(0, .ref a_t), (1, .int p1)]) (by decide) rfl rfl (Nat.le_of_ble_eq_true rfl) rfl ?_
  intro p e s m args below meth c Q ls C hret hV hl
  obtain ⟨out, hout⟩ : ∃ z : Int32 × (Nat → Int32) × (Nat → Int32) × (Nat → Int32) × (Nat → Int32), z = (ro, o0, o1, o2, o3) := ⟨_, rfl⟩
  rw [← hout] at hF hret
  obtain ⟨H0, hH0⟩ : ∃ z : Heap, z = s.heap := ⟨_, rfl⟩
  obtain ⟨A0, hA0⟩ : ∃ z : Nat → Prop, z = va_A [oX6 a_t a_camp a_kept a_ears a_walk a_trials a_tape a_sheets a_found v_isKept, oX0 a_camp a_camp_kinds a_camp_yards a_camp_spots v_camp_tents v_camp_said v_camp_wall v_camp_bridge v_camp_counted v_camp_day v_camp_z, oX1 a_ears a_camp a_ears_hears a_ears_near a_ears_gaps, aA cI a_found 7 f_found, aQ cO a_sheets 4 q_sheets, aA cI a_camp_kinds 10 f_camp_kinds, aA cI a_camp_yards 10 f_camp_yards, aA cI a_ears_gaps 100 f_ears_gaps, aA cI a_ears_hears 10 f_ears_hears, aA cI a_ears_near 10 f_ears_near, oX2 a_sheets_p1 a_sheets_p1_numbers v_sheets_p1_bits v_sheets_p1_size, aA cI a_sheets_p1_numbers 40 f_sheets_p1_numbers] s.heap.size := ⟨_, rfl⟩
  rw [← hA0] at hret hV
  rw [← hH0] at hret hV
  rw [← hH0]
  obtain ⟨H, locs, hH⟩ : ∃ (z : Heap) (y : List Loc), z = H0 ∧ y = [] := ⟨_, _, rfl, rfl⟩
  rw [← hH.1, ← hH.2]
  have hV : gV (dC, dI) (gT cI cB cO) A0 H0 s [oX6 a_t a_camp a_kept a_ears a_walk a_trials a_tape a_sheets a_found v_isKept, oX0 a_camp a_camp_kinds a_camp_yards a_camp_spots v_camp_tents v_camp_said v_camp_wall v_camp_bridge v_camp_counted v_camp_day v_camp_z, oX1 a_ears a_camp a_ears_hears a_ears_near a_ears_gaps, aA cI a_found 7 f_found, aQ cO a_sheets 4 q_sheets, aA cI a_camp_kinds 10 f_camp_kinds, aA cI a_camp_yards 10 f_camp_yards, aA cI a_ears_gaps 100 f_ears_gaps, aA cI a_ears_hears 10 f_ears_hears, aA cI a_ears_near 10 f_ears_near, oX2 a_sheets_p1 a_sheets_p1_numbers v_sheets_p1_bits v_sheets_p1_size, aA cI a_sheets_p1_numbers 40 f_sheets_p1_numbers] H locs := by rw [hH.1, hH.2]; exact hV
  unfold F_X6_judge at hF
  refine lv_iload_n C.1 C.2.1 dX6_judge_0 rfl (lv_at hl 1 rfl) ?_
  obtain ⟨x1, hc, hF⟩ := bd1_s hF
  refine g_cSi (ws' := [oX6 a_t a_camp a_kept a_ears a_walk a_trials a_tape a_sheets a_found v_isKept, oX0 a_camp a_camp_kinds a_camp_yards a_camp_spots v_camp_tents v_camp_said v_camp_wall v_camp_bridge v_camp_counted v_camp_day v_camp_z, oX1 a_ears a_camp a_ears_hears a_ears_near a_ears_gaps, aA cI a_found 7 f_found, aQ cO a_sheets 4 q_sheets, aA cI a_camp_kinds 10 f_camp_kinds, aA cI a_camp_yards 10 f_camp_yards, aA cI a_ears_gaps 100 f_ears_gaps, aA cI a_ears_hears 10 f_ears_hears, aA cI a_ears_near 10 f_ears_near, oX2 a_sheets_p1 a_sheets_p1_numbers v_sheets_p1_bits v_sheets_p1_size, aA cI a_sheets_p1_numbers 40 f_sheets_p1_numbers]) (wr := [oX6 a_t a_camp a_kept a_ears a_walk a_trials a_tape a_sheets a_found v_isKept, oX0 a_camp a_camp_kinds a_camp_yards a_camp_spots v_camp_tents v_camp_said v_camp_wall v_camp_bridge v_camp_counted v_camp_day v_camp_z, oX1 a_ears a_camp a_ears_hears a_ears_near a_ears_gaps, aA cI a_found 7 f_found, aQ cO a_sheets 4 q_sheets, aA cI a_camp_kinds 10 f_camp_kinds, aA cI a_camp_yards 10 f_camp_yards, aA cI a_ears_gaps 100 f_ears_gaps, aA cI a_ears_hears 10 f_ears_hears, aA cI a_ears_near 10 f_ears_near, oX2 a_sheets_p1 a_sheets_p1_numbers v_sheets_p1_bits v_sheets_p1_size, aA cI a_sheets_p1_numbers 40 f_sheets_p1_numbers]) C hV (k_X6_isSheet l dC dI cI cB cO n0 H.size p1 hc) mdX6_isSheet gX6_judge_X6_isSheet rfl rfl ⟨Nat.le_of_ble_eq_true rfl, Nat.le_of_ble_eq_true rfl⟩ [] [0, 1, 2, 3, 4, 5, 6, 7, 8, 9, 10, 11] [0, 1, 2, 3, 4, 5, 6, 7, 8, 9, 10, 11] rfl rfl rfl rfl rfl rfl rfl rfl hl.1 (Nat.le_of_ble_eq_true rfl) rfl dX6_judge_1 (fun H locs hV => ?_)
  refine g_if_ne (tgt := 14) C hF dX6_judge_4 rfl (fun hF => ?_) (fun hF => ?_)
  · refine lv_aload_n C.1 C.2.1 dX6_judge_14 rfl (lv_at hl 0 rfl) ?_
    refine g_get C hV flX6_judge_53 0 rfl rfl dX6_judge_15 ?_
    refine lv_iload_n C.1 C.2.1 dX6_judge_18 rfl (lv_at hl 1 rfl) ?_
    refine g_aald C hV 4 rfl hF hq_p1 dX6_judge_19 (fun hF => ?_)
    obtain ⟨x2, hc, hF⟩ := bd1_s hF
    refine g_cVi (ws' := [oX6 a_t a_camp a_kept a_ears a_walk a_trials a_tape a_sheets a_found v_isKept, oX0 a_camp a_camp_kinds a_camp_yards a_camp_spots v_camp_tents v_camp_said v_camp_wall v_camp_bridge v_camp_counted v_camp_day v_camp_z, oX1 a_ears a_camp a_ears_hears a_ears_near a_ears_gaps, aA cI a_found 7 f_found, aQ cO a_sheets 4 q_sheets, aA cI a_camp_kinds 10 f_camp_kinds, aA cI a_camp_yards 10 f_camp_yards, aA cI a_ears_gaps 100 f_ears_gaps, aA cI a_ears_hears 10 f_ears_hears, aA cI a_ears_near 10 f_ears_near, oX2 a_sheets_p1 a_sheets_p1_numbers v_sheets_p1_bits v_sheets_p1_size, aA cI a_sheets_p1_numbers 40 f_sheets_p1_numbers]) (wr := [oX6 a_t a_camp a_kept a_ears a_walk a_trials a_tape a_sheets a_found v_isKept, oX0 a_camp a_camp_kinds a_camp_yards a_camp_spots v_camp_tents v_camp_said v_camp_wall v_camp_bridge v_camp_counted v_camp_day v_camp_z, oX1 a_ears a_camp a_ears_hears a_ears_near a_ears_gaps, aA cI a_found 7 f_found, aQ cO a_sheets 4 q_sheets, aA cI a_camp_kinds 10 f_camp_kinds, aA cI a_camp_yards 10 f_camp_yards, aA cI a_ears_gaps 100 f_ears_gaps, aA cI a_ears_hears 10 f_ears_hears, aA cI a_ears_near 10 f_ears_near, aA cI a_sheets_p1_numbers 40 f_sheets_p1_numbers]) C hV (k_X2_isMissing l dC dI cI cB cO n0 H.size a_sheets_p1 a_sheets_p1_numbers v_sheets_p1_bits v_sheets_p1_size hc) mdX2_isMissing gX6_judge_X2_isMissing rfl rfl ⟨Nat.le_of_ble_eq_true rfl, Nat.le_of_ble_eq_true rfl⟩ [10] [0, 1, 2, 3, 4, 5, 6, 7, 8, 9, 11] [0, 1, 2, 3, 4, 5, 6, 7, 8, 9, 11, 10] rfl rfl rfl rfl rfl rfl rfl rfl rfl rfl hl.1 (Nat.le_of_ble_eq_true rfl) rfl dX6_judge_20 (fun H locs hV => ?_)
    refine g_if_eq (tgt := 34) C hF dX6_judge_23 rfl (fun hF => ?_) (fun hF => ?_)
    · refine lv_aload_n C.1 C.2.1 dX6_judge_34 rfl (lv_at hl 0 rfl) ?_
      refine g_get C hV flX6_judge_24 0 rfl rfl dX6_judge_35 ?_
      obtain ⟨g3, g4, g5, hc, hF⟩ := bd3_s hF
      refine g_cVv (ws' := [oX6 a_t a_camp a_kept a_ears a_walk a_trials a_tape a_sheets a_found v_isKept, oX0 a_camp a_camp_kinds a_camp_yards a_camp_spots v_camp_tents v_camp_said v_camp_wall v_camp_bridge v_camp_counted v_camp_day v_camp_z, oX1 a_ears a_camp a_ears_hears a_ears_near a_ears_gaps, aA cI a_found 7 f_found, aQ cO a_sheets 4 q_sheets, aA cI a_camp_kinds 10 f_camp_kinds, aA cI a_camp_yards 10 f_camp_yards, aA cI a_ears_gaps 100 g3, aA cI a_ears_hears 10 g4, aA cI a_ears_near 10 g5, oX2 a_sheets_p1 a_sheets_p1_numbers v_sheets_p1_bits v_sheets_p1_size, aA cI a_sheets_p1_numbers 40 f_sheets_p1_numbers]) (wr := [oX6 a_t a_camp a_kept a_ears a_walk a_trials a_tape a_sheets a_found v_isKept, aA cI a_found 7 f_found, aQ cO a_sheets 4 q_sheets, oX2 a_sheets_p1 a_sheets_p1_numbers v_sheets_p1_bits v_sheets_p1_size, aA cI a_sheets_p1_numbers 40 f_sheets_p1_numbers]) C hV (k_X1_listen l dC dI cI cB cO n0 H.size a_ears a_camp a_ears_hears a_ears_near a_ears_gaps a_camp_kinds a_camp_yards a_camp_spots v_camp_tents v_camp_said v_camp_wall v_camp_bridge v_camp_counted v_camp_day v_camp_z f_ears_gaps f_ears_hears f_ears_near f_camp_kinds f_camp_yards hc) mdX1_listen gX6_judge_X1_listen rfl rfl ⟨Nat.le_of_ble_eq_true rfl, Nat.le_of_ble_eq_true rfl⟩ [2, 1, 7, 8, 9, 5, 6] [0, 3, 4, 10, 11] [0, 6, 5, 1, 2, 10, 11, 7, 8, 9, 3, 4] rfl rfl rfl rfl rfl rfl rfl rfl rfl rfl hl.1 (Nat.le_of_ble_eq_true rfl) rfl dX6_judge_38 (fun H locs hV => ?_)
      refine lv_aload_n C.1 C.2.1 dX6_judge_41 rfl (lv_at hl 0 rfl) ?_
      refine g_get C hV flX6_judge_12 0 rfl rfl dX6_judge_42 ?_
      refine g_get C hV flX6_judge_110 1 rfl rfl dX6_judge_45 ?_
      refine lv_istore_n (lv' := [(2, .int v_camp_said), (0, .ref a_t), (1, .int p1)]) C.1 C.2.1 dX6_judge_48 rfl hl (by decide) rfl (fun ls hl => ?_)
      refine lv_iconst (v := 0) C.1 C.2.1 dX6_judge_49 rfl ?_
      refine lv_istore_n (lv' := [(3, .int 0), (2, .int v_camp_said), (0, .ref a_t), (1, .int p1)]) C.1 C.2.1 dX6_judge_50 rfl hl (by decide) rfl (fun ls hl => ?_)
      have hL51 : ∀ (n : Nat) (s6 : Int32) (s7 : Int32) (H : Heap) (locs : List Loc) (ls : Array Slot), gV (dC, dI) (gT cI cB cO) A0 H0 s [oX6 a_t a_camp a_kept a_ears a_walk a_trials a_tape a_sheets a_found v_isKept, oX0 a_camp a_camp_kinds a_camp_yards a_camp_spots v_camp_tents v_camp_said v_camp_wall v_camp_bridge v_camp_counted v_camp_day v_camp_z, oX1 a_ears a_camp a_ears_hears a_ears_near a_ears_gaps, aA cI a_found 7 f_found, aQ cO a_sheets 4 q_sheets, aA cI a_camp_kinds 10 f_camp_kinds, aA cI a_camp_yards 10 f_camp_yards, aA cI a_ears_gaps 100 g3, aA cI a_ears_hears 10 g4, aA cI a_ears_near 10 g5, oX2 a_sheets_p1 a_sheets_p1_numbers v_sheets_p1_bits v_sheets_p1_size, aA cI a_sheets_p1_numbers 40 f_sheets_p1_numbers] H locs → lv_has ls 4 [(0, .ref a_t), (1, .int p1), (2, .int s6), (3, .int s7)] → L_X6_judge_51 p1 v_sheets_p1_size f_found g3 g4 g5 n0 v_camp_tents f_camp_kinds f_sheets_p1_numbers n s6 s7 = some out → W p l e rmX6_judge s m args below meth c H locs 0 0 Q (F0 m 51 ls []) := by
        intro n
        induction n with
        | zero => intro s6 s7 H locs ls hV hl hF; exact lpp2_z hF
        | succ n ih51 =>
          intro s6 s7 H locs ls hV hl hF
          obtain ⟨kk51, hk51, hF⟩ := lpp2_g hF
          have hq51 : ∀ (s6 : Int32) (s7 : Int32), kk51 s6 s7 = some out → L_X6_judge_51 p1 v_sheets_p1_size f_found g3 g4 g5 n0 v_camp_tents f_camp_kinds f_sheets_p1_numbers n s6 s7 = some out := fun _ _ h => by rw [hk51] at h; exact h
          refine lv_iload_n C.1 C.2.1 dX6_judge_51 rfl (lv_at hl 3 rfl) ?_
          refine lv_aload_n C.1 C.2.1 dX6_judge_52 rfl (lv_at hl 0 rfl) ?_
          refine g_get C hV flX6_judge_53 0 rfl rfl dX6_judge_53 ?_
          refine lv_iload_n C.1 C.2.1 dX6_judge_56 rfl (lv_at hl 1 rfl) ?_
          refine g_aald C hV 4 rfl hF hq_p1 dX6_judge_57 (fun hF => ?_)
          refine g_get C hV flX6_judge_273 10 rfl rfl dX6_judge_58 ?_
          refine g_icmp_ge (tgt := 101) C hF dX6_judge_61 rfl (fun hF => ?_) (fun hF => ?_)
          · refine lv_iconst (v := 0) C.1 C.2.1 dX6_judge_101 rfl ?_
            exact hret ((0, f_found, g3, g4, g5) : Int32 × (Nat → Int32) × (Nat → Int32) × (Nat → Int32) × (Nat → Int32)) _ _ _ _ dX6_judge_102 hF hV
          refine lv_aload_n C.1 C.2.1 dX6_judge_64 rfl (lv_at hl 0 rfl) ?_
          refine g_get C hV flX6_judge_24 0 rfl rfl dX6_judge_65 ?_
          refine lv_iload_n C.1 C.2.1 dX6_judge_68 rfl (lv_at hl 2 rfl) ?_
          obtain ⟨x8, hc, hF⟩ := bd1_s hF
          refine g_cVi (ws' := [oX6 a_t a_camp a_kept a_ears a_walk a_trials a_tape a_sheets a_found v_isKept, oX0 a_camp a_camp_kinds a_camp_yards a_camp_spots v_camp_tents v_camp_said v_camp_wall v_camp_bridge v_camp_counted v_camp_day v_camp_z, oX1 a_ears a_camp a_ears_hears a_ears_near a_ears_gaps, aA cI a_found 7 f_found, aQ cO a_sheets 4 q_sheets, aA cI a_camp_kinds 10 f_camp_kinds, aA cI a_camp_yards 10 f_camp_yards, aA cI a_ears_gaps 100 g3, aA cI a_ears_hears 10 g4, aA cI a_ears_near 10 g5, oX2 a_sheets_p1 a_sheets_p1_numbers v_sheets_p1_bits v_sheets_p1_size, aA cI a_sheets_p1_numbers 40 f_sheets_p1_numbers]) (wr := [oX6 a_t a_camp a_kept a_ears a_walk a_trials a_tape a_sheets a_found v_isKept, aA cI a_found 7 f_found, aQ cO a_sheets 4 q_sheets, aA cI a_camp_yards 10 f_camp_yards, aA cI a_ears_gaps 100 g3, oX2 a_sheets_p1 a_sheets_p1_numbers v_sheets_p1_bits v_sheets_p1_size, aA cI a_sheets_p1_numbers 40 f_sheets_p1_numbers]) C hV (k_X1_nextSaid l dC dI cI cB cO n0 H.size a_ears a_camp a_ears_hears a_ears_near a_ears_gaps a_camp_kinds a_camp_yards a_camp_spots v_camp_tents v_camp_said v_camp_wall v_camp_bridge v_camp_counted v_camp_day v_camp_z g4 g5 f_camp_kinds s6 hc) mdX1_nextSaid gX6_judge_X1_nextSaid rfl rfl ⟨Nat.le_of_ble_eq_true rfl, Nat.le_of_ble_eq_true rfl⟩ [2, 1, 8, 9, 5] [0, 3, 4, 6, 7, 10, 11] [0, 8, 7, 1, 2, 11, 3, 4, 9, 10, 5, 6] rfl rfl rfl rfl rfl rfl rfl rfl rfl rfl hl.1 (Nat.le_of_ble_eq_true rfl) rfl dX6_judge_69 (fun H locs hV => ?_)
          refine lv_istore_n (lv' := [(2, .int x8), (0, .ref a_t), (1, .int p1), (3, .int s7)]) C.1 C.2.1 dX6_judge_72 rfl hl (by decide) rfl (fun ls hl => ?_)
          refine lv_aload_n C.1 C.2.1 dX6_judge_73 rfl (lv_at hl 1 rfl) ?_
          refine g_get C hV flX6_judge_53 0 rfl rfl dX6_judge_74 ?_
          refine lv_iload_n C.1 C.2.1 dX6_judge_77 rfl (lv_at hl 2 rfl) ?_
          refine g_aald C hV 4 rfl hF hq_p1 dX6_judge_78 (fun hF => ?_)
          refine g_get C hV flX6_judge_287 10 rfl rfl dX6_judge_79 ?_
          refine lv_iload_n C.1 C.2.1 dX6_judge_82 rfl (lv_at hl 3 rfl) ?_
          refine g_iald C hV 11 rfl hF dX6_judge_83 (fun x9 hF => ?_)
          refine lv_iload_n C.1 C.2.1 dX6_judge_84 rfl (lv_at hl 0 rfl) ?_
          obtain ⟨x10, hc, hF⟩ := bd1_s hF
          refine g_cSi (ws' := [oX6 a_t a_camp a_kept a_ears a_walk a_trials a_tape a_sheets a_found v_isKept, oX0 a_camp a_camp_kinds a_camp_yards a_camp_spots v_camp_tents v_camp_said v_camp_wall v_camp_bridge v_camp_counted v_camp_day v_camp_z, oX1 a_ears a_camp a_ears_hears a_ears_near a_ears_gaps, aA cI a_found 7 f_found, aQ cO a_sheets 4 q_sheets, aA cI a_camp_kinds 10 f_camp_kinds, aA cI a_camp_yards 10 f_camp_yards, aA cI a_ears_gaps 100 g3, aA cI a_ears_hears 10 g4, aA cI a_ears_near 10 g5, oX2 a_sheets_p1 a_sheets_p1_numbers v_sheets_p1_bits v_sheets_p1_size, aA cI a_sheets_p1_numbers 40 f_sheets_p1_numbers]) (wr := [oX6 a_t a_camp a_kept a_ears a_walk a_trials a_tape a_sheets a_found v_isKept, oX0 a_camp a_camp_kinds a_camp_yards a_camp_spots v_camp_tents v_camp_said v_camp_wall v_camp_bridge v_camp_counted v_camp_day v_camp_z, oX1 a_ears a_camp a_ears_hears a_ears_near a_ears_gaps, aA cI a_found 7 f_found, aQ cO a_sheets 4 q_sheets, aA cI a_camp_kinds 10 f_camp_kinds, aA cI a_camp_yards 10 f_camp_yards, aA cI a_ears_gaps 100 g3, aA cI a_ears_hears 10 g4, aA cI a_ears_near 10 g5, oX2 a_sheets_p1 a_sheets_p1_numbers v_sheets_p1_bits v_sheets_p1_size, aA cI a_sheets_p1_numbers 40 f_sheets_p1_numbers]) C hV (k_J6_bitCount_0f7a4 l dC dI cI cB cO n0 H.size x8 hc) mdJ6_bitCount_0f7a4 gX6_judge_J6_bitCount_0f7a4 rfl rfl ⟨Nat.le_of_ble_eq_true rfl, Nat.le_of_ble_eq_true rfl⟩ [] [0, 1, 2, 3, 4, 5, 6, 7, 8, 9, 10, 11] [0, 1, 2, 3, 4, 5, 6, 7, 8, 9, 10, 11] rfl rfl rfl rfl rfl rfl rfl rfl hl.1 (Nat.le_of_ble_eq_true rfl) rfl dX6_judge_85 (fun H locs hV => ?_)
          refine g_icmp_eq (tgt := 95) C hF dX6_judge_88 rfl (fun hF => ?_) (fun hF => ?_)
          · refine g_iinc C hF dX6_judge_95 (d := 1) rfl hl (j := 3) rfl (by decide) (fun y => [(3, .int y), (2, .int x8), (0, .ref a_t), (1, .int p1)]) (fun _ => rfl) (fun x11 ls hF hl => ?_)
            refine lv_goto (tgt := 51) C.1 C.2.1 dX6_judge_98 rfl ?_
            exact ih51 x8 x11 H locs ls hV (lv_sub hl [2, 3, 1, 0] rfl) (hq51 x8 x11 hF)
          refine lv_iconst (v := 1) C.1 C.2.1 dX6_judge_91 rfl ?_
          refine lv_iload_n C.1 C.2.1 dX6_judge_92 rfl (lv_at hl 3 rfl) ?_
          refine g_iadd C hF dX6_judge_93 (fun x12 hF => ?_)
          exact hret (x12, f_found, g3, g4, g5) _ _ _ _ dX6_judge_94 hF hV
      exact hL51 n0 v_camp_said 0 H locs ls hV (lv_sub hl [2, 3, 1, 0] rfl) hF
    refine lv_aload_n C.1 C.2.1 dX6_judge_26 rfl (lv_at hl 0 rfl) ?_
    refine lv_ldcw (v := (-1000006)) C.1 C.2.1 C.2.2.2.1 (C.2.2.2.2 _ ctX6_judge_261) dX6_judge_27 ?_
    obtain ⟨x13, g14, hc, hF⟩ := bd2_s hF
    refine g_cVi (ws' := [oX6 a_t a_camp a_kept a_ears a_walk a_trials a_tape a_sheets a_found v_isKept, oX0 a_camp a_camp_kinds a_camp_yards a_camp_spots v_camp_tents v_camp_said v_camp_wall v_camp_bridge v_camp_counted v_camp_day v_camp_z, oX1 a_ears a_camp a_ears_hears a_ears_near a_ears_gaps, aA cI a_found 7 g14, aQ cO a_sheets 4 q_sheets, aA cI a_camp_kinds 10 f_camp_kinds, aA cI a_camp_yards 10 f_camp_yards, aA cI a_ears_gaps 100 f_ears_gaps, aA cI a_ears_hears 10 f_ears_hears, aA cI a_ears_near 10 f_ears_near, oX2 a_sheets_p1 a_sheets_p1_numbers v_sheets_p1_bits v_sheets_p1_size, aA cI a_sheets_p1_numbers 40 f_sheets_p1_numbers]) (wr := [oX0 a_camp a_camp_kinds a_camp_yards a_camp_spots v_camp_tents v_camp_said v_camp_wall v_camp_bridge v_camp_counted v_camp_day v_camp_z, oX1 a_ears a_camp a_ears_hears a_ears_near a_ears_gaps, aQ cO a_sheets 4 q_sheets, aA cI a_camp_kinds 10 f_camp_kinds, aA cI a_camp_yards 10 f_camp_yards, aA cI a_ears_gaps 100 f_ears_gaps, aA cI a_ears_hears 10 f_ears_hears, aA cI a_ears_near 10 f_ears_near, oX2 a_sheets_p1 a_sheets_p1_numbers v_sheets_p1_bits v_sheets_p1_size, aA cI a_sheets_p1_numbers 40 f_sheets_p1_numbers]) C hV (k_X6_finding l dC dI cI cB cO n0 H.size a_t a_camp a_kept a_ears a_walk a_trials a_tape a_sheets a_found v_isKept f_found ((-1000006)) hc) mdX6_finding gX6_judge_X6_finding rfl rfl ⟨Nat.le_of_ble_eq_true rfl, Nat.le_of_ble_eq_true rfl⟩ [0, 3] [1, 2, 4, 5, 6, 7, 8, 9, 10, 11] [10, 0, 1, 11, 2, 3, 4, 5, 6, 7, 8, 9] rfl rfl rfl rfl rfl rfl rfl rfl rfl rfl hl.1 (Nat.le_of_ble_eq_true rfl) rfl dX6_judge_30 (fun H locs hV => ?_)
    exact hret (x13, g14, f_ears_gaps, f_ears_hears, f_ears_near) _ _ _ _ dX6_judge_33 hF hV
  refine lv_aload_n C.1 C.2.1 dX6_judge_7 rfl (lv_at hl 0 rfl) ?_
  refine lv_ldc (v := (-1000001)) C.1 C.2.1 C.2.2.2.1 (C.2.2.2.2 _ ctX6_judge_70) dX6_judge_8 ?_
  obtain ⟨x15, g16, hc, hF⟩ := bd2_s hF
  refine g_cVi (ws' := [oX6 a_t a_camp a_kept a_ears a_walk a_trials a_tape a_sheets a_found v_isKept, oX0 a_camp a_camp_kinds a_camp_yards a_camp_spots v_camp_tents v_camp_said v_camp_wall v_camp_bridge v_camp_counted v_camp_day v_camp_z, oX1 a_ears a_camp a_ears_hears a_ears_near a_ears_gaps, aA cI a_found 7 g16, aQ cO a_sheets 4 q_sheets, aA cI a_camp_kinds 10 f_camp_kinds, aA cI a_camp_yards 10 f_camp_yards, aA cI a_ears_gaps 100 f_ears_gaps, aA cI a_ears_hears 10 f_ears_hears, aA cI a_ears_near 10 f_ears_near, oX2 a_sheets_p1 a_sheets_p1_numbers v_sheets_p1_bits v_sheets_p1_size, aA cI a_sheets_p1_numbers 40 f_sheets_p1_numbers]) (wr := [oX0 a_camp a_camp_kinds a_camp_yards a_camp_spots v_camp_tents v_camp_said v_camp_wall v_camp_bridge v_camp_counted v_camp_day v_camp_z, oX1 a_ears a_camp a_ears_hears a_ears_near a_ears_gaps, aQ cO a_sheets 4 q_sheets, aA cI a_camp_kinds 10 f_camp_kinds, aA cI a_camp_yards 10 f_camp_yards, aA cI a_ears_gaps 100 f_ears_gaps, aA cI a_ears_hears 10 f_ears_hears, aA cI a_ears_near 10 f_ears_near, oX2 a_sheets_p1 a_sheets_p1_numbers v_sheets_p1_bits v_sheets_p1_size, aA cI a_sheets_p1_numbers 40 f_sheets_p1_numbers]) C hV (k_X6_finding l dC dI cI cB cO n0 H.size a_t a_camp a_kept a_ears a_walk a_trials a_tape a_sheets a_found v_isKept f_found ((-1000001)) hc) mdX6_finding gX6_judge_X6_finding rfl rfl ⟨Nat.le_of_ble_eq_true rfl, Nat.le_of_ble_eq_true rfl⟩ [0, 3] [1, 2, 4, 5, 6, 7, 8, 9, 10, 11] [10, 0, 1, 11, 2, 3, 4, 5, 6, 7, 8, 9] rfl rfl rfl rfl rfl rfl rfl rfl rfl rfl hl.1 (Nat.le_of_ble_eq_true rfl) rfl dX6_judge_10 (fun H locs hV => ?_)
  exact hret (x15, g16, f_ears_gaps, f_ears_hears, f_ears_near) _ _ _ _ dX6_judge_13 hF hV
abbrev rmX6_image : Room := { frames := 2, cells := 0, slots := 0, locals := 81 }
theorem mdX6_image : gMd yX6_image wsX6_image cX6_image 1 (some .int) 0 := ⟨⟨_, rfl⟩, by decide +kernel⟩
theorem flX6_image_16 : gFL wsX6_image RX6 16 6 1 RX6 TX6 9 := ⟨rfl, fun w h => List.mem_cons_of_mem _ (List.mem_append_left _ (List.mem_append_right _ (h))), Nat.le_of_ble_eq_true rfl, List.mem_cons_of_mem _ (List.mem_append_left _ (List.mem_append_left _ (List.mem_of_getElem? (i := 0) rfl)))⟩
theorem flX6_image_12 : gFL wsX6_image RX6 12 6 0 RX6 TX6 9 := ⟨rfl, fun w h => List.mem_cons_of_mem _ (List.mem_append_left _ (List.mem_append_right _ (h))), Nat.le_of_ble_eq_true rfl, List.mem_cons_of_mem _ (List.mem_append_left _ (List.mem_append_left _ (List.mem_of_getElem? (i := 1) rfl)))⟩
theorem flX6_image_307 : gFL wsX6_image RX6 307 6 8 RX6 TX6 9 := ⟨rfl, fun w h => List.mem_cons_of_mem _ (List.mem_append_left _ (List.mem_append_right _ (h))), Nat.le_of_ble_eq_true rfl, List.mem_cons_of_mem _ (List.mem_append_left _ (List.mem_append_left _ (List.mem_of_getElem? (i := 2) rfl)))⟩
theorem fpX6_image_307 : gFP wsX6_image RX6 307 6 8 RX6 TX6 9 .boolean := ⟨flX6_image_307, ⟨tyX6, tyX6_ok⟩, nmX6, rfl, by decide +kernel⟩
def F_X6_image (n0 : Nat) (v_isKept : Int32) (v_camp_tents : Int32) (v_camp_said : Int32) (v_camp_wall : Int32) (v_camp_bridge : Int32) (v_camp_counted : Int32) (v_camp_day : Int32) (v_camp_z : Int32) (v_kept_tents : Int32) (v_kept_said : Int32) (v_kept_wall : Int32) (v_kept_bridge : Int32) (v_kept_counted : Int32) (v_kept_day : Int32) (v_kept_z : Int32) (f_camp_kinds : Nat → Int32) (f_camp_spots : Nat → Int32) (f_camp_yards : Nat → Int32) (f_kept_kinds : Nat → Int32) (f_kept_spots : Nat → Int32) (f_kept_yards : Nat → Int32) : Option (Int32 × Int32 × Int32 × Int32 × Int32 × Int32 × Int32 × Int32 × Int32 × (Nat → Int32) × (Nat → Int32) × (Nat → Int32)) := bd10 (F_X0_become n0 v_kept_tents v_kept_said v_kept_wall v_kept_bridge v_kept_counted v_kept_day v_kept_z f_kept_kinds f_kept_spots f_kept_yards v_camp_tents v_camp_said v_camp_wall v_camp_bridge v_camp_counted v_camp_day v_camp_z f_camp_kinds f_camp_spots f_camp_yards) (fun x1 x2 x3 x4 x5 x6 x7 g8 g9 g10 => some ((1, 1, x1, x2, x3, x4, x5, x6, x7, g8, g9, g10) : Int32 × Int32 × Int32 × Int32 × Int32 × Int32 × Int32 × Int32 × Int32 × (Nat → Int32) × (Nat → Int32) × (Nat → Int32)))
set_option maxRecDepth 100000 in
set_option maxHeartbeats 4000000 in
theorem k_X6_image (l : Launch) (dC : Nat → ClassId) (dI : Nat → Nat → Nat) (cI cB cO : ClassId) (n0 sz : Nat) (a_t : Nat) (a_camp : Nat) (a_kept : Nat) (a_ears : Nat) (a_walk : Nat) (a_trials : Nat) (a_tape : Nat) (a_sheets : Nat) (a_found : Nat) (a_camp_kinds : Nat) (a_camp_yards : Nat) (a_camp_spots : Nat) (a_kept_kinds : Nat) (a_kept_yards : Nat) (a_kept_spots : Nat)   (v_isKept : Int32) (v_camp_tents : Int32) (v_camp_said : Int32) (v_camp_wall : Int32) (v_camp_bridge : Int32) (v_camp_counted : Int32) (v_camp_day : Int32) (v_camp_z : Int32) (v_kept_tents : Int32) (v_kept_said : Int32) (v_kept_wall : Int32) (v_kept_bridge : Int32) (v_kept_counted : Int32) (v_kept_day : Int32) (v_kept_z : Int32) (f_camp_kinds : Nat → Int32) (f_camp_spots : Nat → Int32) (f_camp_yards : Nat → Int32) (f_kept_kinds : Nat → Int32) (f_kept_spots : Nat → Int32) (f_kept_yards : Nat → Int32)   {ro : Int32} {o0 : Int32} {o1 : Int32} {o2 : Int32} {o3 : Int32} {o4 : Int32} {o5 : Int32} {o6 : Int32} {o7 : Int32} {o8 : Nat → Int32} {o9 : Nat → Int32} {o10 : Nat → Int32} (hF : F_X6_image n0 v_isKept v_camp_tents v_camp_said v_camp_wall v_camp_bridge v_camp_counted v_camp_day v_camp_z v_kept_tents v_kept_said v_kept_wall v_kept_bridge v_kept_counted v_kept_day v_kept_z f_camp_kinds f_camp_spots f_camp_yards f_kept_kinds f_kept_spots f_kept_yards = some (ro, o0, o1, o2, o3, o4, o5, o6, o7, o8, o9, o10)) : Met l yX6_image wsX6_image rmX6_image (va_Pc [.ref a_t] (gPre (dC, dI) (gT cI cB cO) sz [oX6 a_t a_camp a_kept a_ears a_walk a_trials a_tape a_sheets a_found v_isKept, oX0 a_camp a_camp_kinds a_camp_yards a_camp_spots v_camp_tents v_camp_said v_camp_wall v_camp_bridge v_camp_counted v_camp_day v_camp_z, oX0 a_kept a_kept_kinds a_kept_yards a_kept_spots v_kept_tents v_kept_said v_kept_wall v_kept_bridge v_kept_counted v_kept_day v_kept_z, aA cI a_camp_kinds 10 f_camp_kinds, aA cI a_camp_spots 10 f_camp_spots, aA cI a_camp_yards 10 f_camp_yards, aA cI a_kept_kinds 10 f_kept_kinds, aA cI a_kept_spots 10 f_kept_spots, aA cI a_kept_yards 10 f_kept_yards])) (gQi (dC, dI) (gT cI cB cO) sz [oX6 a_t a_camp a_kept a_ears a_walk a_trials a_tape a_sheets a_found v_isKept, oX0 a_camp a_camp_kinds a_camp_yards a_camp_spots v_camp_tents v_camp_said v_camp_wall v_camp_bridge v_camp_counted v_camp_day v_camp_z, oX0 a_kept a_kept_kinds a_kept_yards a_kept_spots v_kept_tents v_kept_said v_kept_wall v_kept_bridge v_kept_counted v_kept_day v_kept_z, aA cI a_camp_kinds 10 f_camp_kinds, aA cI a_camp_spots 10 f_camp_spots, aA cI a_camp_yards 10 f_camp_yards, aA cI a_kept_kinds 10 f_kept_kinds, aA cI a_kept_spots 10 f_kept_spots, aA cI a_kept_yards 10 f_kept_yards] ro [oX6 a_t a_camp a_kept a_ears a_walk a_trials a_tape a_sheets a_found o0, oX0 a_camp a_camp_kinds a_camp_yards a_camp_spots v_camp_tents v_camp_said v_camp_wall v_camp_bridge v_camp_counted v_camp_day v_camp_z, oX0 a_kept a_kept_kinds a_kept_yards a_kept_spots o1 o2 o3 o4 o5 o6 o7, aA cI a_camp_kinds 10 f_camp_kinds, aA cI a_camp_spots 10 f_camp_spots, aA cI a_camp_yards 10 f_camp_yards, aA cI a_kept_kinds 10 o8, aA cI a_kept_spots 10 o9, aA cI a_kept_yards 10 o10]) 0 0 (va_A [oX6 a_t a_camp a_kept a_ears a_walk a_trials a_tape a_sheets a_found v_isKept, oX0 a_camp a_camp_kinds a_camp_yards a_camp_spots v_camp_tents v_camp_said v_camp_wall v_camp_bridge v_camp_counted v_camp_day v_camp_z, oX0 a_kept a_kept_kinds a_kept_yards a_kept_spots v_kept_tents v_kept_said v_kept_wall v_kept_bridge v_kept_counted v_kept_day v_kept_z, aA cI a_camp_kinds 10 f_camp_kinds, aA cI a_camp_spots 10 f_camp_spots, aA cI a_camp_yards 10 f_camp_yards, aA cI a_kept_kinds 10 f_kept_kinds, aA cI a_kept_spots 10 f_kept_spots, aA cI a_kept_yards 10 f_kept_yards] sz) := by
  refine g_metI (Out := Int32 × Int32 × Int32 × Int32 × Int32 × Int32 × Int32 × Int32 × Int32 × (Nat → Int32) × (Nat → Int32) × (Nat → Int32)) (fun oo => oo.1) (fun oo => [oX6 a_t a_camp a_kept a_ears a_walk a_trials a_tape a_sheets a_found oo.2.1, oX0 a_camp a_camp_kinds a_camp_yards a_camp_spots v_camp_tents v_camp_said v_camp_wall v_camp_bridge v_camp_counted v_camp_day v_camp_z, oX0 a_kept a_kept_kinds a_kept_yards a_kept_spots oo.2.2.1 oo.2.2.2.1 oo.2.2.2.2.1 oo.2.2.2.2.2.1 oo.2.2.2.2.2.2.1 oo.2.2.2.2.2.2.2.1 oo.2.2.2.2.2.2.2.2.1, aA cI a_camp_kinds 10 f_camp_kinds, aA cI a_camp_spots 10 f_camp_spots, aA cI a_camp_yards 10 f_camp_yards, aA cI a_kept_kinds 10 oo.2.2.2.2.2.2.2.2.2.1, aA cI a_kept_spots 10 oo.2.2.2.2.2.2.2.2.2.2.1, aA cI a_kept_yards 10 oo.2.2.2.2.2.2.2.2.2.2.2]) (ro, o0, o1, o2, o3, o4, o5, o6, o7, o8, o9, o10) (own := RX6) (lv := [(0, .ref a_t)]) (by decide) rfl rfl (Nat.le_of_ble_eq_true rfl) rfl ?_
  intro p e s m args below meth c Q ls C hret hV hl
  obtain ⟨out, hout⟩ : ∃ z : Int32 × Int32 × Int32 × Int32 × Int32 × Int32 × Int32 × Int32 × Int32 × (Nat → Int32) × (Nat → Int32) × (Nat → Int32), z = (ro, o0, o1, o2, o3, o4, o5, o6, o7, o8, o9, o10) := ⟨_, rfl⟩
  rw [← hout] at hF hret
  obtain ⟨H0, hH0⟩ : ∃ z : Heap, z = s.heap := ⟨_, rfl⟩
  obtain ⟨A0, hA0⟩ : ∃ z : Nat → Prop, z = va_A [oX6 a_t a_camp a_kept a_ears a_walk a_trials a_tape a_sheets a_found v_isKept, oX0 a_camp a_camp_kinds a_camp_yards a_camp_spots v_camp_tents v_camp_said v_camp_wall v_camp_bridge v_camp_counted v_camp_day v_camp_z, oX0 a_kept a_kept_kinds a_kept_yards a_kept_spots v_kept_tents v_kept_said v_kept_wall v_kept_bridge v_kept_counted v_kept_day v_kept_z, aA cI a_camp_kinds 10 f_camp_kinds, aA cI a_camp_spots 10 f_camp_spots, aA cI a_camp_yards 10 f_camp_yards, aA cI a_kept_kinds 10 f_kept_kinds, aA cI a_kept_spots 10 f_kept_spots, aA cI a_kept_yards 10 f_kept_yards] s.heap.size := ⟨_, rfl⟩
  rw [← hA0] at hret hV
  rw [← hH0] at hret hV
  rw [← hH0]
  obtain ⟨H, locs, hH⟩ : ∃ (z : Heap) (y : List Loc), z = H0 ∧ y = [] := ⟨_, _, rfl, rfl⟩
  rw [← hH.1, ← hH.2]
  have hV : gV (dC, dI) (gT cI cB cO) A0 H0 s [oX6 a_t a_camp a_kept a_ears a_walk a_trials a_tape a_sheets a_found v_isKept, oX0 a_camp a_camp_kinds a_camp_yards a_camp_spots v_camp_tents v_camp_said v_camp_wall v_camp_bridge v_camp_counted v_camp_day v_camp_z, oX0 a_kept a_kept_kinds a_kept_yards a_kept_spots v_kept_tents v_kept_said v_kept_wall v_kept_bridge v_kept_counted v_kept_day v_kept_z, aA cI a_camp_kinds 10 f_camp_kinds, aA cI a_camp_spots 10 f_camp_spots, aA cI a_camp_yards 10 f_camp_yards, aA cI a_kept_kinds 10 f_kept_kinds, aA cI a_kept_spots 10 f_kept_spots, aA cI a_kept_yards 10 f_kept_yards] H locs := by rw [hH.1, hH.2]; exact hV
  unfold F_X6_image at hF
  refine lv_aload_n C.1 C.2.1 dX6_image_0 rfl (lv_at hl 0 rfl) ?_
  refine g_get C hV flX6_image_16 0 rfl rfl dX6_image_1 ?_
  refine lv_aload_n C.1 C.2.1 dX6_image_4 rfl (lv_at hl 0 rfl) ?_
  refine g_get C hV flX6_image_12 0 rfl rfl dX6_image_5 ?_
  obtain ⟨x1, x2, x3, x4, x5, x6, x7, g8, g9, g10, hc, hF⟩ := bd10_s hF
  refine g_cVv (ws' := [oX6 a_t a_camp a_kept a_ears a_walk a_trials a_tape a_sheets a_found v_isKept, oX0 a_camp a_camp_kinds a_camp_yards a_camp_spots v_camp_tents v_camp_said v_camp_wall v_camp_bridge v_camp_counted v_camp_day v_camp_z, oX0 a_kept a_kept_kinds a_kept_yards a_kept_spots x1 x2 x3 x4 x5 x6 x7, aA cI a_camp_kinds 10 f_camp_kinds, aA cI a_camp_spots 10 f_camp_spots, aA cI a_camp_yards 10 f_camp_yards, aA cI a_kept_kinds 10 g8, aA cI a_kept_spots 10 g9, aA cI a_kept_yards 10 g10]) (wr := [oX6 a_t a_camp a_kept a_ears a_walk a_trials a_tape a_sheets a_found v_isKept]) C hV (k_X0_become l dC dI cI cB cO n0 H.size a_kept a_kept_kinds a_kept_yards a_kept_spots a_camp a_camp_kinds a_camp_yards a_camp_spots v_kept_tents v_kept_said v_kept_wall v_kept_bridge v_kept_counted v_kept_day v_kept_z f_kept_kinds f_kept_spots f_kept_yards v_camp_tents v_camp_said v_camp_wall v_camp_bridge v_camp_counted v_camp_day v_camp_z f_camp_kinds f_camp_spots f_camp_yards hc) mdX0_become gX6_image_X0_become rfl rfl ⟨Nat.le_of_ble_eq_true rfl, Nat.le_of_ble_eq_true rfl⟩ [2, 6, 7, 8, 1, 3, 4, 5] [0] [0, 5, 1, 6, 7, 8, 2, 3, 4] rfl rfl rfl rfl rfl rfl rfl rfl rfl rfl hl.1 (Nat.le_of_ble_eq_true rfl) rfl dX6_image_8 (fun H locs hV => ?_)
  refine lv_aload_n C.1 C.2.1 dX6_image_11 rfl (lv_at hl 0 rfl) ?_
  refine lv_iconst (v := 1) C.1 C.2.1 dX6_image_12 rfl ?_
  refine g_put (ws' := [oX6 a_t a_camp a_kept a_ears a_walk a_trials a_tape a_sheets a_found 1, oX0 a_camp a_camp_kinds a_camp_yards a_camp_spots v_camp_tents v_camp_said v_camp_wall v_camp_bridge v_camp_counted v_camp_day v_camp_z, oX0 a_kept a_kept_kinds a_kept_yards a_kept_spots x1 x2 x3 x4 x5 x6 x7, aA cI a_camp_kinds 10 f_camp_kinds, aA cI a_camp_spots 10 f_camp_spots, aA cI a_camp_yards 10 f_camp_yards, aA cI a_kept_kinds 10 g8, aA cI a_kept_spots 10 g9, aA cI a_kept_yards 10 g10]) C hV fpX6_image_307 0 rfl rfl rfl (Nat.le_of_ble_eq_true rfl) rfl dX6_image_13 (fun H locs hV => ?_)
  refine lv_iconst (v := 1) C.1 C.2.1 dX6_image_16 rfl ?_
  exact hret ((1, 1, x1, x2, x3, x4, x5, x6, x7, g8, g9, g10) : Int32 × Int32 × Int32 × Int32 × Int32 × Int32 × Int32 × Int32 × Int32 × (Nat → Int32) × (Nat → Int32) × (Nat → Int32)) _ _ _ _ dX6_image_17 hF hV
abbrev rmX6_undo : Room := { frames := 2, cells := 0, slots := 0, locals := 81 }
theorem mdX6_undo : gMd yX6_undo wsX6_undo cX6_undo 1 (some .int) 0 := ⟨⟨_, rfl⟩, by decide +kernel⟩
theorem flX6_undo_307 : gFL wsX6_undo RX6 307 6 8 RX6 TX6 9 := ⟨rfl, fun w h => List.mem_cons_of_mem _ (List.mem_append_left _ (List.mem_append_right _ (h))), Nat.le_of_ble_eq_true rfl, List.mem_cons_of_mem _ (List.mem_append_left _ (List.mem_append_left _ (List.mem_append_left _ (List.mem_of_getElem? (i := 0) rfl))))⟩
theorem flX6_undo_12 : gFL wsX6_undo RX6 12 6 0 RX6 TX6 9 := ⟨rfl, fun w h => List.mem_cons_of_mem _ (List.mem_append_left _ (List.mem_append_right _ (h))), Nat.le_of_ble_eq_true rfl, List.mem_cons_of_mem _ (List.mem_append_left _ (List.mem_append_left _ (List.mem_append_left _ (List.mem_of_getElem? (i := 2) rfl))))⟩
theorem flX6_undo_16 : gFL wsX6_undo RX6 16 6 1 RX6 TX6 9 := ⟨rfl, fun w h => List.mem_cons_of_mem _ (List.mem_append_left _ (List.mem_append_right _ (h))), Nat.le_of_ble_eq_true rfl, List.mem_cons_of_mem _ (List.mem_append_left _ (List.mem_append_left _ (List.mem_append_left _ (List.mem_of_getElem? (i := 3) rfl))))⟩
theorem flX6_undo_161 : gFL wsX6_undo RX6 161 0 8 RX0 TX0 10 := ⟨rfl, fun w h => List.mem_cons_of_mem _ (List.mem_append_right _ (h)), Nat.le_of_ble_eq_true rfl, List.mem_cons_of_mem _ (List.mem_append_left _ (List.mem_append_left _ (List.mem_append_left _ (List.mem_of_getElem? (i := 4) rfl))))⟩
theorem ctX6_undo_148 : Cond.constant RX6 148 (-1000004) ∈ wsX6_undo := List.mem_cons_of_mem _ (List.mem_append_left _ (List.mem_append_left _ (List.mem_append_left _ (List.mem_of_getElem? (i := 1) rfl))))
def F_X6_undo (n0 : Nat) (v_isKept : Int32) (v_camp_tents : Int32) (v_camp_said : Int32) (v_camp_wall : Int32) (v_camp_bridge : Int32) (v_camp_counted : Int32) (v_camp_day : Int32) (v_camp_z : Int32) (f_found : Nat → Int32) (v_kept_tents : Int32) (v_kept_said : Int32) (v_kept_wall : Int32) (v_kept_bridge : Int32) (v_kept_counted : Int32) (v_kept_day : Int32) (v_kept_z : Int32) (f_camp_kinds : Nat → Int32) (f_camp_spots : Nat → Int32) (f_camp_yards : Nat → Int32) (f_kept_kinds : Nat → Int32) (f_kept_spots : Nat → Int32) (f_kept_yards : Nat → Int32) : Option (Int32 × Int32 × Int32 × Int32 × Int32 × Int32 × Int32 × Int32 × (Nat → Int32) × (Nat → Int32) × (Nat → Int32) × (Nat → Int32)) := (if v_isKept = 0 then bd2 (F_X6_finding n0 f_found ((-1000004))) (fun x11 g12 => some (x11, v_camp_tents, v_camp_said, v_camp_wall, v_camp_bridge, v_camp_counted, v_camp_day, v_camp_z, g12, f_camp_kinds, f_camp_spots, f_camp_yards)) else bd10 (F_X0_become n0 v_camp_tents v_camp_said v_camp_wall v_camp_bridge v_camp_counted v_camp_day v_camp_z f_camp_kinds f_camp_spots f_camp_yards v_kept_tents v_kept_said v_kept_wall v_kept_bridge v_kept_counted v_kept_day v_kept_z f_kept_kinds f_kept_spots f_kept_yards) (fun x1 x2 x3 x4 x5 x6 x7 g8 g9 g10 => some (x6, x1, x2, x3, x4, x5, x6, x7, f_found, g8, g9, g10)))
set_option maxRecDepth 100000 in
set_option maxHeartbeats 4000000 in
theorem k_X6_undo (l : Launch) (dC : Nat → ClassId) (dI : Nat → Nat → Nat) (cI cB cO : ClassId) (n0 sz : Nat) (a_t : Nat) (a_camp : Nat) (a_kept : Nat) (a_ears : Nat) (a_walk : Nat) (a_trials : Nat) (a_tape : Nat) (a_sheets : Nat) (a_found : Nat) (a_camp_kinds : Nat) (a_camp_yards : Nat) (a_camp_spots : Nat) (a_kept_kinds : Nat) (a_kept_yards : Nat) (a_kept_spots : Nat)   (v_isKept : Int32) (v_camp_tents : Int32) (v_camp_said : Int32) (v_camp_wall : Int32) (v_camp_bridge : Int32) (v_camp_counted : Int32) (v_camp_day : Int32) (v_camp_z : Int32) (f_found : Nat → Int32) (v_kept_tents : Int32) (v_kept_said : Int32) (v_kept_wall : Int32) (v_kept_bridge : Int32) (v_kept_counted : Int32) (v_kept_day : Int32) (v_kept_z : Int32) (f_camp_kinds : Nat → Int32) (f_camp_spots : Nat → Int32) (f_camp_yards : Nat → Int32) (f_kept_kinds : Nat → Int32) (f_kept_spots : Nat → Int32) (f_kept_yards : Nat → Int32)   {ro : Int32} {o0 : Int32} {o1 : Int32} {o2 : Int32} {o3 : Int32} {o4 : Int32} {o5 : Int32} {o6 : Int32} {o7 : Nat → Int32} {o8 : Nat → Int32} {o9 : Nat → Int32} {o10 : Nat → Int32} (hF : F_X6_undo n0 v_isKept v_camp_tents v_camp_said v_camp_wall v_camp_bridge v_camp_counted v_camp_day v_camp_z f_found v_kept_tents v_kept_said v_kept_wall v_kept_bridge v_kept_counted v_kept_day v_kept_z f_camp_kinds f_camp_spots f_camp_yards f_kept_kinds f_kept_spots f_kept_yards = some (ro, o0, o1, o2, o3, o4, o5, o6, o7, o8, o9, o10)) : Met l yX6_undo wsX6_undo rmX6_undo (va_Pc [.ref a_t] (gPre (dC, dI) (gT cI cB cO) sz [oX6 a_t a_camp a_kept a_ears a_walk a_trials a_tape a_sheets a_found v_isKept, oX0 a_camp a_camp_kinds a_camp_yards a_camp_spots v_camp_tents v_camp_said v_camp_wall v_camp_bridge v_camp_counted v_camp_day v_camp_z, aA cI a_found 7 f_found, oX0 a_kept a_kept_kinds a_kept_yards a_kept_spots v_kept_tents v_kept_said v_kept_wall v_kept_bridge v_kept_counted v_kept_day v_kept_z, aA cI a_camp_kinds 10 f_camp_kinds, aA cI a_camp_spots 10 f_camp_spots, aA cI a_camp_yards 10 f_camp_yards, aA cI a_kept_kinds 10 f_kept_kinds, aA cI a_kept_spots 10 f_kept_spots, aA cI a_kept_yards 10 f_kept_yards])) (gQi (dC, dI) (gT cI cB cO) sz [oX6 a_t a_camp a_kept a_ears a_walk a_trials a_tape a_sheets a_found v_isKept, oX0 a_camp a_camp_kinds a_camp_yards a_camp_spots v_camp_tents v_camp_said v_camp_wall v_camp_bridge v_camp_counted v_camp_day v_camp_z, aA cI a_found 7 f_found, oX0 a_kept a_kept_kinds a_kept_yards a_kept_spots v_kept_tents v_kept_said v_kept_wall v_kept_bridge v_kept_counted v_kept_day v_kept_z, aA cI a_camp_kinds 10 f_camp_kinds, aA cI a_camp_spots 10 f_camp_spots, aA cI a_camp_yards 10 f_camp_yards, aA cI a_kept_kinds 10 f_kept_kinds, aA cI a_kept_spots 10 f_kept_spots, aA cI a_kept_yards 10 f_kept_yards] ro [oX6 a_t a_camp a_kept a_ears a_walk a_trials a_tape a_sheets a_found v_isKept, oX0 a_camp a_camp_kinds a_camp_yards a_camp_spots o0 o1 o2 o3 o4 o5 o6, aA cI a_found 7 o7, oX0 a_kept a_kept_kinds a_kept_yards a_kept_spots v_kept_tents v_kept_said v_kept_wall v_kept_bridge v_kept_counted v_kept_day v_kept_z, aA cI a_camp_kinds 10 o8, aA cI a_camp_spots 10 o9, aA cI a_camp_yards 10 o10, aA cI a_kept_kinds 10 f_kept_kinds, aA cI a_kept_spots 10 f_kept_spots, aA cI a_kept_yards 10 f_kept_yards]) 0 0 (va_A [oX6 a_t a_camp a_kept a_ears a_walk a_trials a_tape a_sheets a_found v_isKept, oX0 a_camp a_camp_kinds a_camp_yards a_camp_spots v_camp_tents v_camp_said v_camp_wall v_camp_bridge v_camp_counted v_camp_day v_camp_z, aA cI a_found 7 f_found, oX0 a_kept a_kept_kinds a_kept_yards a_kept_spots v_kept_tents v_kept_said v_kept_wall v_kept_bridge v_kept_counted v_kept_day v_kept_z, aA cI a_camp_kinds 10 f_camp_kinds, aA cI a_camp_spots 10 f_camp_spots, aA cI a_camp_yards 10 f_camp_yards, aA cI a_kept_kinds 10 f_kept_kinds, aA cI a_kept_spots 10 f_kept_spots, aA cI a_kept_yards 10 f_kept_yards] sz) := by
  refine g_metI (Out := Int32 × Int32 × Int32 × Int32 × Int32 × Int32 × Int32 × Int32 × (Nat → Int32) × (Nat → Int32) × (Nat → Int32) × (Nat → Int32)) (fun oo => oo.1) (fun oo => [oX6 a_t a_camp a_kept a_ears a_walk a_trials a_tape a_sheets a_found v_isKept, oX0 a_camp a_camp_kinds a_camp_yards a_camp_spots oo.2.1 oo.2.2.1 oo.2.2.2.1 oo.2.2.2.2.1 oo.2.2.2.2.2.1 oo.2.2.2.2.2.2.1 oo.2.2.2.2.2.2.2.1, aA cI a_found 7 oo.2.2.2.2.2.2.2.2.1, oX0 a_kept a_kept_kinds a_kept_yards a_kept_spots v_kept_tents v_kept_said v_kept_wall v_kept_bridge v_kept_counted v_kept_day v_kept_z, aA cI a_camp_kinds 10 oo.2.2.2.2.2.2.2.2.2.1, aA cI a_camp_spots 10 oo.2.2.2.2.2.2.2.2.2.2.1, aA cI a_camp_yards 10 oo.2.2.2.2.2.2.2.2.2.2.2, aA cI a_kept_kinds 10 f_kept_kinds, aA cI a_kept_spots 10 f_kept_spots, aA cI a_kept_yards 10 f_kept_yards]) (ro, o0, o1, o2, o3, o4, o5, o6, o7, o8, o9, o10) (own := RX6) (lv := [(0, .ref a_t)]) (by decide) rfl rfl (Nat.le_of_ble_eq_true rfl) rfl ?_
  intro p e s m args below meth c Q ls C hret hV hl
  obtain ⟨out, hout⟩ : ∃ z : Int32 × Int32 × Int32 × Int32 × Int32 × Int32 × Int32 × Int32 × (Nat → Int32) × (Nat → Int32) × (Nat → Int32) × (Nat → Int32), z = (ro, o0, o1, o2, o3, o4, o5, o6, o7, o8, o9, o10) := ⟨_, rfl⟩
  rw [← hout] at hF hret
  obtain ⟨H0, hH0⟩ : ∃ z : Heap, z = s.heap := ⟨_, rfl⟩
  obtain ⟨A0, hA0⟩ : ∃ z : Nat → Prop, z = va_A [oX6 a_t a_camp a_kept a_ears a_walk a_trials a_tape a_sheets a_found v_isKept, oX0 a_camp a_camp_kinds a_camp_yards a_camp_spots v_camp_tents v_camp_said v_camp_wall v_camp_bridge v_camp_counted v_camp_day v_camp_z, aA cI a_found 7 f_found, oX0 a_kept a_kept_kinds a_kept_yards a_kept_spots v_kept_tents v_kept_said v_kept_wall v_kept_bridge v_kept_counted v_kept_day v_kept_z, aA cI a_camp_kinds 10 f_camp_kinds, aA cI a_camp_spots 10 f_camp_spots, aA cI a_camp_yards 10 f_camp_yards, aA cI a_kept_kinds 10 f_kept_kinds, aA cI a_kept_spots 10 f_kept_spots, aA cI a_kept_yards 10 f_kept_yards] s.heap.size := ⟨_, rfl⟩
  rw [← hA0] at hret hV
  rw [← hH0] at hret hV
  rw [← hH0]
  obtain ⟨H, locs, hH⟩ : ∃ (z : Heap) (y : List Loc), z = H0 ∧ y = [] := ⟨_, _, rfl, rfl⟩
  rw [← hH.1, ← hH.2]
  have hV : gV (dC, dI) (gT cI cB cO) A0 H0 s [oX6 a_t a_camp a_kept a_ears a_walk a_trials a_tape a_sheets a_found v_isKept, oX0 a_camp a_camp_kinds a_camp_yards a_camp_spots v_camp_tents v_camp_said v_camp_wall v_camp_bridge v_camp_counted v_camp_day v_camp_z, aA cI a_found 7 f_found, oX0 a_kept a_kept_kinds a_kept_yards a_kept_spots v_kept_tents v_kept_said v_kept_wall v_kept_bridge v_kept_counted v_kept_day v_kept_z, aA cI a_camp_kinds 10 f_camp_kinds, aA cI a_camp_spots 10 f_camp_spots, aA cI a_camp_yards 10 f_camp_yards, aA cI a_kept_kinds 10 f_kept_kinds, aA cI a_kept_spots 10 f_kept_spots, aA cI a_kept_yards 10 f_kept_yards] H locs := by rw [hH.1, hH.2]; exact hV
  unfold F_X6_undo at hF
  refine lv_aload_n C.1 C.2.1 dX6_undo_0 rfl (lv_at hl 0 rfl) ?_
  refine g_get C hV flX6_undo_307 0 rfl rfl dX6_undo_1 ?_
  refine g_if_ne (tgt := 14) C hF dX6_undo_4 rfl (fun hF => ?_) (fun hF => ?_)
  · refine lv_aload_n C.1 C.2.1 dX6_undo_14 rfl (lv_at hl 0 rfl) ?_
    refine g_get C hV flX6_undo_12 0 rfl rfl dX6_undo_15 ?_
    refine lv_aload_n C.1 C.2.1 dX6_undo_18 rfl (lv_at hl 0 rfl) ?_
    refine g_get C hV flX6_undo_16 0 rfl rfl dX6_undo_19 ?_
    obtain ⟨x1, x2, x3, x4, x5, x6, x7, g8, g9, g10, hc, hF⟩ := bd10_s hF
    refine g_cVv (ws' := [oX6 a_t a_camp a_kept a_ears a_walk a_trials a_tape a_sheets a_found v_isKept, oX0 a_camp a_camp_kinds a_camp_yards a_camp_spots x1 x2 x3 x4 x5 x6 x7, aA cI a_found 7 f_found, oX0 a_kept a_kept_kinds a_kept_yards a_kept_spots v_kept_tents v_kept_said v_kept_wall v_kept_bridge v_kept_counted v_kept_day v_kept_z, aA cI a_camp_kinds 10 g8, aA cI a_camp_spots 10 g9, aA cI a_camp_yards 10 g10, aA cI a_kept_kinds 10 f_kept_kinds, aA cI a_kept_spots 10 f_kept_spots, aA cI a_kept_yards 10 f_kept_yards]) (wr := [oX6 a_t a_camp a_kept a_ears a_walk a_trials a_tape a_sheets a_found v_isKept, aA cI a_found 7 f_found]) C hV (k_X0_become l dC dI cI cB cO n0 H.size a_camp a_camp_kinds a_camp_yards a_camp_spots a_kept a_kept_kinds a_kept_yards a_kept_spots v_camp_tents v_camp_said v_camp_wall v_camp_bridge v_camp_counted v_camp_day v_camp_z f_camp_kinds f_camp_spots f_camp_yards v_kept_tents v_kept_said v_kept_wall v_kept_bridge v_kept_counted v_kept_day v_kept_z f_kept_kinds f_kept_spots f_kept_yards hc) mdX0_become gX6_undo_X0_become rfl rfl ⟨Nat.le_of_ble_eq_true rfl, Nat.le_of_ble_eq_true rfl⟩ [1, 4, 5, 6, 3, 7, 8, 9] [0, 2] [0, 2, 1, 6, 3, 4, 5, 7, 8, 9] rfl rfl rfl rfl rfl rfl rfl rfl rfl rfl hl.1 (Nat.le_of_ble_eq_true rfl) rfl dX6_undo_22 (fun H locs hV => ?_)
    refine lv_aload_n C.1 C.2.1 dX6_undo_25 rfl (lv_at hl 0 rfl) ?_
    refine g_get C hV flX6_undo_12 0 rfl rfl dX6_undo_26 ?_
    refine g_get C hV flX6_undo_161 1 rfl rfl dX6_undo_29 ?_
    exact hret (x6, x1, x2, x3, x4, x5, x6, x7, f_found, g8, g9, g10) _ _ _ _ dX6_undo_32 hF hV
  refine lv_aload_n C.1 C.2.1 dX6_undo_7 rfl (lv_at hl 0 rfl) ?_
  refine lv_ldc (v := (-1000004)) C.1 C.2.1 C.2.2.2.1 (C.2.2.2.2 _ ctX6_undo_148) dX6_undo_8 ?_
  obtain ⟨x11, g12, hc, hF⟩ := bd2_s hF
  refine g_cVi (ws' := [oX6 a_t a_camp a_kept a_ears a_walk a_trials a_tape a_sheets a_found v_isKept, oX0 a_camp a_camp_kinds a_camp_yards a_camp_spots v_camp_tents v_camp_said v_camp_wall v_camp_bridge v_camp_counted v_camp_day v_camp_z, aA cI a_found 7 g12, oX0 a_kept a_kept_kinds a_kept_yards a_kept_spots v_kept_tents v_kept_said v_kept_wall v_kept_bridge v_kept_counted v_kept_day v_kept_z, aA cI a_camp_kinds 10 f_camp_kinds, aA cI a_camp_spots 10 f_camp_spots, aA cI a_camp_yards 10 f_camp_yards, aA cI a_kept_kinds 10 f_kept_kinds, aA cI a_kept_spots 10 f_kept_spots, aA cI a_kept_yards 10 f_kept_yards]) (wr := [oX0 a_camp a_camp_kinds a_camp_yards a_camp_spots v_camp_tents v_camp_said v_camp_wall v_camp_bridge v_camp_counted v_camp_day v_camp_z, oX0 a_kept a_kept_kinds a_kept_yards a_kept_spots v_kept_tents v_kept_said v_kept_wall v_kept_bridge v_kept_counted v_kept_day v_kept_z, aA cI a_camp_kinds 10 f_camp_kinds, aA cI a_camp_spots 10 f_camp_spots, aA cI a_camp_yards 10 f_camp_yards, aA cI a_kept_kinds 10 f_kept_kinds, aA cI a_kept_spots 10 f_kept_spots, aA cI a_kept_yards 10 f_kept_yards]) C hV (k_X6_finding l dC dI cI cB cO n0 H.size a_t a_camp a_kept a_ears a_walk a_trials a_tape a_sheets a_found v_isKept f_found ((-1000004)) hc) mdX6_finding gX6_undo_X6_finding rfl rfl ⟨Nat.le_of_ble_eq_true rfl, Nat.le_of_ble_eq_true rfl⟩ [0, 2] [1, 3, 4, 5, 6, 7, 8, 9] [8, 0, 9, 1, 2, 3, 4, 5, 6, 7] rfl rfl rfl rfl rfl rfl rfl rfl rfl rfl hl.1 (Nat.le_of_ble_eq_true rfl) rfl dX6_undo_10 (fun H locs hV => ?_)
  exact hret (x11, v_camp_tents, v_camp_said, v_camp_wall, v_camp_bridge, v_camp_counted, v_camp_day, v_camp_z, g12, f_camp_kinds, f_camp_spots, f_camp_yards) _ _ _ _ dX6_undo_13 hF hV
abbrev rmX6_tear : Room := { frames := 0, cells := 0, slots := 0, locals := 0 }
theorem mdX6_tear : gMd yX6_tear wsX6_tear cX6_tear 2 (some .int) 0 := ⟨⟨_, rfl⟩, by decide +kernel⟩
theorem flX6_tear_307 : gFL wsX6_tear RX6 307 6 8 RX6 TX6 9 := ⟨rfl, fun w h => List.mem_cons_of_mem _ (List.mem_append_right _ (h)), Nat.le_of_ble_eq_true rfl, List.mem_cons_of_mem _ (List.mem_append_left _ (List.mem_of_getElem? (i := 0) rfl))⟩
theorem fpX6_tear_307 : gFP wsX6_tear RX6 307 6 8 RX6 TX6 9 .boolean := ⟨flX6_tear_307, ⟨tyX6, tyX6_ok⟩, nmX6, rfl, by decide +kernel⟩
def F_X6_tear (n0 : Nat) (v_isKept : Int32) : Option (Int32 × Int32) := (if v_isKept = 0 then some ((0, 0) : Int32 × Int32) else some ((1, 0) : Int32 × Int32))
set_option maxRecDepth 100000 in
set_option maxHeartbeats 4000000 in
theorem k_X6_tear (l : Launch) (dC : Nat → ClassId) (dI : Nat → Nat → Nat) (cI cB cO : ClassId) (n0 sz : Nat) (a_t : Nat) (a_camp : Nat) (a_kept : Nat) (a_ears : Nat) (a_walk : Nat) (a_trials : Nat) (a_tape : Nat) (a_sheets : Nat) (a_found : Nat)   (v_isKept : Int32)   {ro : Int32} {o0 : Int32} (hF : F_X6_tear n0 v_isKept = some (ro, o0)) : Met l yX6_tear wsX6_tear rmX6_tear (va_Pc [.ref a_t] (gPre (dC, dI) (gT cI cB cO) sz [oX6 a_t a_camp a_kept a_ears a_walk a_trials a_tape a_sheets a_found v_isKept])) (gQi (dC, dI) (gT cI cB cO) sz [oX6 a_t a_camp a_kept a_ears a_walk a_trials a_tape a_sheets a_found v_isKept] ro [oX6 a_t a_camp a_kept a_ears a_walk a_trials a_tape a_sheets a_found o0]) 0 0 (va_A [oX6 a_t a_camp a_kept a_ears a_walk a_trials a_tape a_sheets a_found v_isKept] sz) := by
  refine g_metI (Out := Int32 × Int32) (fun oo => oo.1) (fun oo => [oX6 a_t a_camp a_kept a_ears a_walk a_trials a_tape a_sheets a_found oo.2]) (ro, o0) (own := RX6) (lv := [(0, .ref a_t)]) (by decide) rfl rfl (Nat.le_of_ble_eq_true rfl) rfl ?_
  intro p e s m args below meth c Q ls C hret hV hl
  obtain ⟨out, hout⟩ : ∃ z : Int32 × Int32, z = (ro, o0) := ⟨_, rfl⟩
  rw [← hout] at hF hret
  obtain ⟨H0, hH0⟩ : ∃ z : Heap, z = s.heap := ⟨_, rfl⟩
  obtain ⟨A0, hA0⟩ : ∃ z : Nat → Prop, z = va_A [oX6 a_t a_camp a_kept a_ears a_walk a_trials a_tape a_sheets a_found v_isKept] s.heap.size := ⟨_, rfl⟩
  rw [← hA0] at hret hV
  rw [← hH0] at hret hV
  rw [← hH0]
  obtain ⟨H, locs, hH⟩ : ∃ (z : Heap) (y : List Loc), z = H0 ∧ y = [] := ⟨_, _, rfl, rfl⟩
  rw [← hH.1, ← hH.2]
  have hV : gV (dC, dI) (gT cI cB cO) A0 H0 s [oX6 a_t a_camp a_kept a_ears a_walk a_trials a_tape a_sheets a_found v_isKept] H locs := by rw [hH.1, hH.2]; exact hV
  unfold F_X6_tear at hF
  refine lv_aload_n C.1 C.2.1 dX6_tear_0 rfl (lv_at hl 0 rfl) ?_
  refine g_get C hV flX6_tear_307 0 rfl rfl dX6_tear_1 ?_
  refine g_if_eq (tgt := 11) C hF dX6_tear_4 rfl (fun hF => ?_) (fun hF => ?_)
  · refine lv_iconst (v := 0) C.1 C.2.1 dX6_tear_11 rfl ?_
    refine lv_istore_n (lv' := [(1, .int 0), (0, .ref a_t)]) C.1 C.2.1 dX6_tear_12 rfl hl (by decide) rfl (fun ls hl => ?_)
    refine lv_aload_n C.1 C.2.1 dX6_tear_13 rfl (lv_at hl 1 rfl) ?_
    refine lv_iconst (v := 0) C.1 C.2.1 dX6_tear_14 rfl ?_
    refine g_put (ws' := [oX6 a_t a_camp a_kept a_ears a_walk a_trials a_tape a_sheets a_found 0]) C hV fpX6_tear_307 0 rfl rfl rfl (Nat.le_of_ble_eq_true rfl) rfl dX6_tear_15 (fun H locs hV => ?_)
    refine lv_iload_n C.1 C.2.1 dX6_tear_18 rfl (lv_at hl 0 rfl) ?_
    exact hret ((0, 0) : Int32 × Int32) _ _ _ _ dX6_tear_19 hF hV
  refine lv_iconst (v := 1) C.1 C.2.1 dX6_tear_7 rfl ?_
  refine lv_goto (tgt := 12) C.1 C.2.1 dX6_tear_8 rfl ?_
  refine lv_istore_n (lv' := [(1, .int 1), (0, .ref a_t)]) C.1 C.2.1 dX6_tear_12 rfl hl (by decide) rfl (fun ls hl => ?_)
  refine lv_aload_n C.1 C.2.1 dX6_tear_13 rfl (lv_at hl 1 rfl) ?_
  refine lv_iconst (v := 0) C.1 C.2.1 dX6_tear_14 rfl ?_
  refine g_put (ws' := [oX6 a_t a_camp a_kept a_ears a_walk a_trials a_tape a_sheets a_found 0]) C hV fpX6_tear_307 0 rfl rfl rfl (Nat.le_of_ble_eq_true rfl) rfl dX6_tear_15 (fun H locs hV => ?_)
  refine lv_iload_n C.1 C.2.1 dX6_tear_18 rfl (lv_at hl 0 rfl) ?_
  exact hret ((1, 0) : Int32 × Int32) _ _ _ _ dX6_tear_19 hF hV
abbrev rmX6_count : Room := { frames := 2, cells := 0, slots := 0, locals := 44 }
theorem mdX6_count : gMd yX6_count wsX6_count cX6_count 2 (some .int) 1 := ⟨⟨_, rfl⟩, by decide +kernel⟩
theorem flX6_count_12 : gFL wsX6_count RX6 12 6 0 RX6 TX6 9 := ⟨rfl, fun w h => List.mem_cons_of_mem _ (List.mem_append_left _ (List.mem_append_left _ (List.mem_append_right _ (h)))), Nat.le_of_ble_eq_true rfl, List.mem_cons_of_mem _ (List.mem_append_left _ (List.mem_append_left _ (List.mem_append_left _ (List.mem_append_left _ (List.mem_of_getElem? (i := 0) rfl)))))⟩
theorem flX6_count_161 : gFL wsX6_count RX6 161 0 8 RX0 TX0 10 := ⟨rfl, fun w h => List.mem_cons_of_mem _ (List.mem_append_left _ (List.mem_append_right _ (h))), Nat.le_of_ble_eq_true rfl, List.mem_cons_of_mem _ (List.mem_append_left _ (List.mem_append_left _ (List.mem_append_left _ (List.mem_append_left _ (List.mem_of_getElem? (i := 1) rfl)))))⟩
theorem flX6_count_83 : gFL wsX6_count RX6 83 0 3 RX0 TX0 10 := ⟨rfl, fun w h => List.mem_cons_of_mem _ (List.mem_append_left _ (List.mem_append_right _ (h))), Nat.le_of_ble_eq_true rfl, List.mem_cons_of_mem _ (List.mem_append_left _ (List.mem_append_left _ (List.mem_append_left _ (List.mem_append_left _ (List.mem_of_getElem? (i := 2) rfl)))))⟩
theorem flX6_count_138 : gFL wsX6_count RX6 138 0 5 RX0 TX0 10 := ⟨rfl, fun w h => List.mem_cons_of_mem _ (List.mem_append_left _ (List.mem_append_right _ (h))), Nat.le_of_ble_eq_true rfl, List.mem_cons_of_mem _ (List.mem_append_left _ (List.mem_append_left _ (List.mem_append_left _ (List.mem_append_left _ (List.mem_of_getElem? (i := 3) rfl)))))⟩
theorem flX6_count_141 : gFL wsX6_count RX6 141 0 6 RX0 TX0 10 := ⟨rfl, fun w h => List.mem_cons_of_mem _ (List.mem_append_left _ (List.mem_append_right _ (h))), Nat.le_of_ble_eq_true rfl, List.mem_cons_of_mem _ (List.mem_append_left _ (List.mem_append_left _ (List.mem_append_left _ (List.mem_append_left _ (List.mem_of_getElem? (i := 4) rfl)))))⟩
theorem flX6_count_47 : gFL wsX6_count RX6 47 6 5 RX6 TX6 9 := ⟨rfl, fun w h => List.mem_cons_of_mem _ (List.mem_append_left _ (List.mem_append_left _ (List.mem_append_right _ (h)))), Nat.le_of_ble_eq_true rfl, List.mem_cons_of_mem _ (List.mem_append_left _ (List.mem_append_left _ (List.mem_append_left _ (List.mem_append_left _ (List.mem_of_getElem? (i := 5) rfl)))))⟩
theorem flX6_count_245 : gFL wsX6_count RX6 245 3 0 RX3 TX3 6 := ⟨rfl, fun w h => List.mem_cons_of_mem _ (List.mem_append_right _ (h)), Nat.le_of_ble_eq_true rfl, List.mem_cons_of_mem _ (List.mem_append_left _ (List.mem_append_left _ (List.mem_append_left _ (List.mem_append_left _ (List.mem_of_getElem? (i := 6) rfl)))))⟩
theorem flX6_count_242 : gFL wsX6_count RX6 242 0 9 RX0 TX0 10 := ⟨rfl, fun w h => List.mem_cons_of_mem _ (List.mem_append_left _ (List.mem_append_right _ (h))), Nat.le_of_ble_eq_true rfl, List.mem_cons_of_mem _ (List.mem_append_left _ (List.mem_append_left _ (List.mem_append_left _ (List.mem_append_left _ (List.mem_of_getElem? (i := 7) rfl)))))⟩
theorem ctX6_count_70 : Cond.constant RX6 70 (-1000001) ∈ wsX6_count := List.mem_cons_of_mem _ (List.mem_append_left _ (List.mem_append_left _ (List.mem_append_left _ (List.mem_append_left _ (List.mem_of_getElem? (i := 8) rfl)))))
def F_X6_count (n0 : Nat) (v_camp_tents : Int32) (v_camp_said : Int32) (v_camp_wall : Int32) (v_camp_bridge : Int32) (v_camp_day : Int32) (v_camp_z : Int32) (f_found : Nat → Int32) (v_tape_size : Int32) (f_camp_spots : Nat → Int32) (p1 : Int32) : Option (Int32 × (Nat → Int32)) := (if p1 = 0 then some (v_camp_day, f_found) else (if p1 = 1 then some (v_camp_tents, f_found) else (if p1 = 2 then bd1 (F_X0_vote n0 v_camp_said) (fun x1 => some (x1, f_found)) else (if p1 = 3 then some (v_camp_wall, f_found) else (if p1 = 4 then some (v_camp_bridge, f_found) else (if p1 = 5 then some (v_tape_size, f_found) else (if p1 = 6 then some (v_camp_z, f_found) else (if p1 = 7 then bd1 (F_X0_countHolding n0 f_camp_spots) (fun x2 => some (x2, f_found)) else bd2 (F_X6_finding n0 f_found ((-1000001))) (fun x3 g4 => some (x3, g4))))))))))
set_option maxRecDepth 100000 in
set_option maxHeartbeats 4000000 in
theorem k_X6_count (l : Launch) (dC : Nat → ClassId) (dI : Nat → Nat → Nat) (cI cB cO : ClassId) (n0 sz : Nat) (a_t : Nat) (a_camp : Nat) (a_kept : Nat) (a_ears : Nat) (a_walk : Nat) (a_trials : Nat) (a_tape : Nat) (a_sheets : Nat) (a_found : Nat) (a_camp_kinds : Nat) (a_camp_yards : Nat) (a_camp_spots : Nat) (a_tape_bytes : Nat)   (v_isKept : Int32) (v_camp_tents : Int32) (v_camp_said : Int32) (v_camp_wall : Int32) (v_camp_bridge : Int32) (v_camp_counted : Int32) (v_camp_day : Int32) (v_camp_z : Int32) (f_found : Nat → Int32) (v_tape_size : Int32) (v_tape_start : Int32) (v_tape_behind : Int32) (v_tape_sort : Int32) (v_tape_number : Int32) (f_camp_spots : Nat → Int32) (p1 : Int32)  {ro : Int32} {o0 : Nat → Int32} (hF : F_X6_count n0 v_camp_tents v_camp_said v_camp_wall v_camp_bridge v_camp_day v_camp_z f_found v_tape_size f_camp_spots p1 = some (ro, o0)) : Met l yX6_count wsX6_count rmX6_count (va_Pc [.ref a_t, .int p1] (gPre (dC, dI) (gT cI cB cO) sz [oX6 a_t a_camp a_kept a_ears a_walk a_trials a_tape a_sheets a_found v_isKept, oX0 a_camp a_camp_kinds a_camp_yards a_camp_spots v_camp_tents v_camp_said v_camp_wall v_camp_bridge v_camp_counted v_camp_day v_camp_z, aA cI a_found 7 f_found, oX3 a_tape v_tape_size a_tape_bytes v_tape_start v_tape_behind v_tape_sort v_tape_number, aA cI a_camp_spots 10 f_camp_spots])) (gQi (dC, dI) (gT cI cB cO) sz [oX6 a_t a_camp a_kept a_ears a_walk a_trials a_tape a_sheets a_found v_isKept, oX0 a_camp a_camp_kinds a_camp_yards a_camp_spots v_camp_tents v_camp_said v_camp_wall v_camp_bridge v_camp_counted v_camp_day v_camp_z, aA cI a_found 7 f_found, oX3 a_tape v_tape_size a_tape_bytes v_tape_start v_tape_behind v_tape_sort v_tape_number, aA cI a_camp_spots 10 f_camp_spots] ro [oX6 a_t a_camp a_kept a_ears a_walk a_trials a_tape a_sheets a_found v_isKept, oX0 a_camp a_camp_kinds a_camp_yards a_camp_spots v_camp_tents v_camp_said v_camp_wall v_camp_bridge v_camp_counted v_camp_day v_camp_z, aA cI a_found 7 o0, oX3 a_tape v_tape_size a_tape_bytes v_tape_start v_tape_behind v_tape_sort v_tape_number, aA cI a_camp_spots 10 f_camp_spots]) 0 0 (va_A [oX6 a_t a_camp a_kept a_ears a_walk a_trials a_tape a_sheets a_found v_isKept, oX0 a_camp a_camp_kinds a_camp_yards a_camp_spots v_camp_tents v_camp_said v_camp_wall v_camp_bridge v_camp_counted v_camp_day v_camp_z, aA cI a_found 7 f_found, oX3 a_tape v_tape_size a_tape_bytes v_tape_start v_tape_behind v_tape_sort v_tape_number, aA cI a_camp_spots 10 f_camp_spots] sz) := by
  refine g_metI (Out := Int32 × (Nat → Int32)) (fun oo => oo.1) (fun oo => [oX6 a_t a_camp a_kept a_ears a_walk a_trials a_tape a_sheets a_found v_isKept, oX0 a_camp a_camp_kinds a_camp_yards a_camp_spots v_camp_tents v_camp_said v_camp_wall v_camp_bridge v_camp_counted v_camp_day v_camp_z, aA cI a_found 7 oo.2, oX3 a_tape v_tape_size a_tape_bytes v_tape_start v_tape_behind v_tape_sort v_tape_number, aA cI a_camp_spots 10 f_camp_spots]) (ro, o0) (own := RX6) (lv := [(0, .ref a_t), (1, .int p1)]) (by decide) rfl rfl (Nat.le_of_ble_eq_true rfl) rfl ?_
  intro p e s m args below meth c Q ls C hret hV hl
  obtain ⟨out, hout⟩ : ∃ z : Int32 × (Nat → Int32), z = (ro, o0) := ⟨_, rfl⟩
  rw [← hout] at hF hret
  obtain ⟨H0, hH0⟩ : ∃ z : Heap, z = s.heap := ⟨_, rfl⟩
  obtain ⟨A0, hA0⟩ : ∃ z : Nat → Prop, z = va_A [oX6 a_t a_camp a_kept a_ears a_walk a_trials a_tape a_sheets a_found v_isKept, oX0 a_camp a_camp_kinds a_camp_yards a_camp_spots v_camp_tents v_camp_said v_camp_wall v_camp_bridge v_camp_counted v_camp_day v_camp_z, aA cI a_found 7 f_found, oX3 a_tape v_tape_size a_tape_bytes v_tape_start v_tape_behind v_tape_sort v_tape_number, aA cI a_camp_spots 10 f_camp_spots] s.heap.size := ⟨_, rfl⟩
  rw [← hA0] at hret hV
  rw [← hH0] at hret hV
  rw [← hH0]
  obtain ⟨H, locs, hH⟩ : ∃ (z : Heap) (y : List Loc), z = H0 ∧ y = [] := ⟨_, _, rfl, rfl⟩
  rw [← hH.1, ← hH.2]
  have hV : gV (dC, dI) (gT cI cB cO) A0 H0 s [oX6 a_t a_camp a_kept a_ears a_walk a_trials a_tape a_sheets a_found v_isKept, oX0 a_camp a_camp_kinds a_camp_yards a_camp_spots v_camp_tents v_camp_said v_camp_wall v_camp_bridge v_camp_counted v_camp_day v_camp_z, aA cI a_found 7 f_found, oX3 a_tape v_tape_size a_tape_bytes v_tape_start v_tape_behind v_tape_sort v_tape_number, aA cI a_camp_spots 10 f_camp_spots] H locs := by rw [hH.1, hH.2]; exact hV
  unfold F_X6_count at hF
  refine lv_iload_n C.1 C.2.1 dX6_count_0 rfl (lv_at hl 1 rfl) ?_
  rcases ite_or hF with ⟨hc, hF⟩ | ⟨hc1_0, hF⟩
  · refine lv_tableIn (off := 47) (tgt := 48) C.1 C.2.1 dX6_count_1 (by rw [hc]; decide) (by rw [hc]; decide) (by rw [hc]; rfl) rfl ?_
    refine lv_aload_n C.1 C.2.1 dX6_count_48 rfl (lv_at hl 0 rfl) ?_
    refine g_get C hV flX6_count_12 0 rfl rfl dX6_count_49 ?_
    refine g_get C hV flX6_count_161 1 rfl rfl dX6_count_52 ?_
    exact hret (v_camp_day, f_found) _ _ _ _ dX6_count_55 hF hV
  rcases ite_or hF with ⟨hc, hF⟩ | ⟨hc1_1, hF⟩
  · refine lv_tableIn (off := 55) (tgt := 56) C.1 C.2.1 dX6_count_1 (by rw [hc]; decide) (by rw [hc]; decide) (by rw [hc]; rfl) rfl ?_
    refine lv_aload_n C.1 C.2.1 dX6_count_56 rfl (lv_at hl 0 rfl) ?_
    refine g_get C hV flX6_count_12 0 rfl rfl dX6_count_57 ?_
    refine g_get C hV flX6_count_83 1 rfl rfl dX6_count_60 ?_
    exact hret (v_camp_tents, f_found) _ _ _ _ dX6_count_63 hF hV
  rcases ite_or hF with ⟨hc, hF⟩ | ⟨hc1_2, hF⟩
  · refine lv_tableIn (off := 63) (tgt := 64) C.1 C.2.1 dX6_count_1 (by rw [hc]; decide) (by rw [hc]; decide) (by rw [hc]; rfl) rfl ?_
    refine lv_aload_n C.1 C.2.1 dX6_count_64 rfl (lv_at hl 0 rfl) ?_
    refine g_get C hV flX6_count_12 0 rfl rfl dX6_count_65 ?_
    obtain ⟨x1, hc, hF⟩ := bd1_s hF
    refine g_cVi (ws' := [oX6 a_t a_camp a_kept a_ears a_walk a_trials a_tape a_sheets a_found v_isKept, oX0 a_camp a_camp_kinds a_camp_yards a_camp_spots v_camp_tents v_camp_said v_camp_wall v_camp_bridge v_camp_counted v_camp_day v_camp_z, aA cI a_found 7 f_found, oX3 a_tape v_tape_size a_tape_bytes v_tape_start v_tape_behind v_tape_sort v_tape_number, aA cI a_camp_spots 10 f_camp_spots]) (wr := [oX6 a_t a_camp a_kept a_ears a_walk a_trials a_tape a_sheets a_found v_isKept, aA cI a_found 7 f_found, oX3 a_tape v_tape_size a_tape_bytes v_tape_start v_tape_behind v_tape_sort v_tape_number, aA cI a_camp_spots 10 f_camp_spots]) C hV (k_X0_vote l dC dI cI cB cO n0 H.size a_camp a_camp_kinds a_camp_yards a_camp_spots v_camp_tents v_camp_said v_camp_wall v_camp_bridge v_camp_counted v_camp_day v_camp_z hc) mdX0_vote gX6_count_X0_vote rfl rfl ⟨Nat.le_of_ble_eq_true rfl, Nat.le_of_ble_eq_true rfl⟩ [1] [0, 2, 3, 4] [0, 4, 1, 2, 3] rfl rfl rfl rfl rfl rfl rfl rfl rfl rfl hl.1 (Nat.le_of_ble_eq_true rfl) rfl dX6_count_68 (fun H locs hV => ?_)
    exact hret (x1, f_found) _ _ _ _ dX6_count_71 hF hV
  rcases ite_or hF with ⟨hc, hF⟩ | ⟨hc1_3, hF⟩
  · refine lv_tableIn (off := 71) (tgt := 72) C.1 C.2.1 dX6_count_1 (by rw [hc]; decide) (by rw [hc]; decide) (by rw [hc]; rfl) rfl ?_
    refine lv_aload_n C.1 C.2.1 dX6_count_72 rfl (lv_at hl 0 rfl) ?_
    refine g_get C hV flX6_count_12 0 rfl rfl dX6_count_73 ?_
    refine g_get C hV flX6_count_138 1 rfl rfl dX6_count_76 ?_
    exact hret (v_camp_wall, f_found) _ _ _ _ dX6_count_79 hF hV
  rcases ite_or hF with ⟨hc, hF⟩ | ⟨hc1_4, hF⟩
  · refine lv_tableIn (off := 79) (tgt := 80) C.1 C.2.1 dX6_count_1 (by rw [hc]; decide) (by rw [hc]; decide) (by rw [hc]; rfl) rfl ?_
    refine lv_aload_n C.1 C.2.1 dX6_count_80 rfl (lv_at hl 0 rfl) ?_
    refine g_get C hV flX6_count_12 0 rfl rfl dX6_count_81 ?_
    refine g_get C hV flX6_count_141 1 rfl rfl dX6_count_84 ?_
    exact hret (v_camp_bridge, f_found) _ _ _ _ dX6_count_87 hF hV
  rcases ite_or hF with ⟨hc, hF⟩ | ⟨hc1_5, hF⟩
  · refine lv_tableIn (off := 87) (tgt := 88) C.1 C.2.1 dX6_count_1 (by rw [hc]; decide) (by rw [hc]; decide) (by rw [hc]; rfl) rfl ?_
    refine lv_aload_n C.1 C.2.1 dX6_count_88 rfl (lv_at hl 0 rfl) ?_
    refine g_get C hV flX6_count_47 0 rfl rfl dX6_count_89 ?_
    refine g_get C hV flX6_count_245 3 rfl rfl dX6_count_92 ?_
    exact hret (v_tape_size, f_found) _ _ _ _ dX6_count_95 hF hV
  rcases ite_or hF with ⟨hc, hF⟩ | ⟨hc1_6, hF⟩
  · refine lv_tableIn (off := 95) (tgt := 96) C.1 C.2.1 dX6_count_1 (by rw [hc]; decide) (by rw [hc]; decide) (by rw [hc]; rfl) rfl ?_
    refine lv_aload_n C.1 C.2.1 dX6_count_96 rfl (lv_at hl 0 rfl) ?_
    refine g_get C hV flX6_count_12 0 rfl rfl dX6_count_97 ?_
    refine g_get C hV flX6_count_242 1 rfl rfl dX6_count_100 ?_
    exact hret (v_camp_z, f_found) _ _ _ _ dX6_count_103 hF hV
  rcases ite_or hF with ⟨hc, hF⟩ | ⟨hc1_7, hF⟩
  · refine lv_tableIn (off := 103) (tgt := 104) C.1 C.2.1 dX6_count_1 (by rw [hc]; decide) (by rw [hc]; decide) (by rw [hc]; rfl) rfl ?_
    refine lv_aload_n C.1 C.2.1 dX6_count_104 rfl (lv_at hl 0 rfl) ?_
    refine g_get C hV flX6_count_12 0 rfl rfl dX6_count_105 ?_
    obtain ⟨x2, hc, hF⟩ := bd1_s hF
    refine g_cVi (ws' := [oX6 a_t a_camp a_kept a_ears a_walk a_trials a_tape a_sheets a_found v_isKept, oX0 a_camp a_camp_kinds a_camp_yards a_camp_spots v_camp_tents v_camp_said v_camp_wall v_camp_bridge v_camp_counted v_camp_day v_camp_z, aA cI a_found 7 f_found, oX3 a_tape v_tape_size a_tape_bytes v_tape_start v_tape_behind v_tape_sort v_tape_number, aA cI a_camp_spots 10 f_camp_spots]) (wr := [oX6 a_t a_camp a_kept a_ears a_walk a_trials a_tape a_sheets a_found v_isKept, aA cI a_found 7 f_found, oX3 a_tape v_tape_size a_tape_bytes v_tape_start v_tape_behind v_tape_sort v_tape_number]) C hV (k_X0_countHolding l dC dI cI cB cO n0 H.size a_camp a_camp_kinds a_camp_yards a_camp_spots v_camp_tents v_camp_said v_camp_wall v_camp_bridge v_camp_counted v_camp_day v_camp_z f_camp_spots hc) mdX0_countHolding gX6_count_X0_countHolding rfl rfl ⟨Nat.le_of_ble_eq_true rfl, Nat.le_of_ble_eq_true rfl⟩ [1, 4] [0, 2, 3] [0, 3, 1, 2, 4] rfl rfl rfl rfl rfl rfl rfl rfl rfl rfl hl.1 (Nat.le_of_ble_eq_true rfl) rfl dX6_count_108 (fun H locs hV => ?_)
    exact hret (x2, f_found) _ _ _ _ dX6_count_111 hF hV
  refine lv_tableOut (tgt := 112) C.1 C.2.1 dX6_count_1 (sw_out (fun j h1 h2 => by rcases (show j = 0 ∨ j = 1 ∨ j = 2 ∨ j = 3 ∨ j = 4 ∨ j = 5 ∨ j = 6 ∨ j = 7 by omega) with rfl | rfl | rfl | rfl | rfl | rfl | rfl | rfl <;> first | exact hc1_0 | exact hc1_1 | exact hc1_2 | exact hc1_3 | exact hc1_4 | exact hc1_5 | exact hc1_6 | exact hc1_7)) rfl ?_
  refine lv_aload_n C.1 C.2.1 dX6_count_112 rfl (lv_at hl 0 rfl) ?_
  refine lv_ldc (v := (-1000001)) C.1 C.2.1 C.2.2.2.1 (C.2.2.2.2 _ ctX6_count_70) dX6_count_113 ?_
  obtain ⟨x3, g4, hc, hF⟩ := bd2_s hF
  refine g_cVi (ws' := [oX6 a_t a_camp a_kept a_ears a_walk a_trials a_tape a_sheets a_found v_isKept, oX0 a_camp a_camp_kinds a_camp_yards a_camp_spots v_camp_tents v_camp_said v_camp_wall v_camp_bridge v_camp_counted v_camp_day v_camp_z, aA cI a_found 7 g4, oX3 a_tape v_tape_size a_tape_bytes v_tape_start v_tape_behind v_tape_sort v_tape_number, aA cI a_camp_spots 10 f_camp_spots]) (wr := [oX0 a_camp a_camp_kinds a_camp_yards a_camp_spots v_camp_tents v_camp_said v_camp_wall v_camp_bridge v_camp_counted v_camp_day v_camp_z, oX3 a_tape v_tape_size a_tape_bytes v_tape_start v_tape_behind v_tape_sort v_tape_number, aA cI a_camp_spots 10 f_camp_spots]) C hV (k_X6_finding l dC dI cI cB cO n0 H.size a_t a_camp a_kept a_ears a_walk a_trials a_tape a_sheets a_found v_isKept f_found ((-1000001)) hc) mdX6_finding gX6_count_X6_finding rfl rfl ⟨Nat.le_of_ble_eq_true rfl, Nat.le_of_ble_eq_true rfl⟩ [0, 2] [1, 3, 4] [3, 0, 4, 1, 2] rfl rfl rfl rfl rfl rfl rfl rfl rfl rfl hl.1 (Nat.le_of_ble_eq_true rfl) rfl dX6_count_115 (fun H locs hV => ?_)
  exact hret (x3, g4) _ _ _ _ dX6_count_118 hF hV
abbrev rmX6_status : Room := { frames := 2, cells := 0, slots := 0, locals := 44 }
theorem mdX6_status : gMd yX6_status wsX6_status cX6_status 4 (some .int) 1 := ⟨⟨_, rfl⟩, by decide +kernel⟩
theorem ctX6_status_70 : Cond.constant RX6 70 (-1000001) ∈ wsX6_status := List.mem_cons_of_mem _ (List.mem_append_left _ (List.mem_of_getElem? (i := 1) rfl))
theorem flX6_status_57 : gFL wsX6_status RX6 57 6 7 RX6 TX6 9 := ⟨rfl, fun w h => List.mem_cons_of_mem _ (List.mem_append_right _ (h)), Nat.le_of_ble_eq_true rfl, List.mem_cons_of_mem _ (List.mem_append_left _ (List.mem_of_getElem? (i := 0) rfl))⟩
def L_X6_status_9 (f_found : Nat → Int32) : Nat → Int32 → Int32 → Option (Int32 × (Nat → Int32)) := lpp2 (fun s5 s6 kk9 => (if 7 ≤ s6 then some (s5, f_found) else rd f_found 7 s6 (fun x7 => nm (s5 + x7) (fun x8 => nm (s6 + 1) (fun x9 => kk9 x8 x9)))))
def F_X6_status (n0 : Nat) (f_found : Nat → Int32) (p1 : Int32) : Option (Int32 × (Nat → Int32)) := (if p1 = ((-1)) then L_X6_status_9 f_found n0 0 0 else bd1 (F_X6_isFrom n0 0 p1 6) (fun x1 => (if x1 = 0 then bd2 (F_X6_finding n0 f_found ((-1000001))) (fun x2 g3 => some (x2, g3)) else rd f_found 7 p1 (fun x4 => some (x4, f_found)))))
set_option maxRecDepth 100000 in
set_option maxHeartbeats 4000000 in
theorem k_X6_status (l : Launch) (dC : Nat → ClassId) (dI : Nat → Nat → Nat) (cI cB cO : ClassId) (n0 sz : Nat) (a_t : Nat) (a_camp : Nat) (a_kept : Nat) (a_ears : Nat) (a_walk : Nat) (a_trials : Nat) (a_tape : Nat) (a_sheets : Nat) (a_found : Nat)   (v_isKept : Int32) (f_found : Nat → Int32) (p1 : Int32)  {ro : Int32} {o0 : Nat → Int32} (hF : F_X6_status n0 f_found p1 = some (ro, o0)) : Met l yX6_status wsX6_status rmX6_status (va_Pc [.ref a_t, .int p1] (gPre (dC, dI) (gT cI cB cO) sz [oX6 a_t a_camp a_kept a_ears a_walk a_trials a_tape a_sheets a_found v_isKept, aA cI a_found 7 f_found])) (gQi (dC, dI) (gT cI cB cO) sz [oX6 a_t a_camp a_kept a_ears a_walk a_trials a_tape a_sheets a_found v_isKept, aA cI a_found 7 f_found] ro [oX6 a_t a_camp a_kept a_ears a_walk a_trials a_tape a_sheets a_found v_isKept, aA cI a_found 7 o0]) 0 0 (va_A [oX6 a_t a_camp a_kept a_ears a_walk a_trials a_tape a_sheets a_found v_isKept, aA cI a_found 7 f_found] sz) := by
  refine g_metI (Out := Int32 × (Nat → Int32)) (fun oo => oo.1) (fun oo => [oX6 a_t a_camp a_kept a_ears a_walk a_trials a_tape a_sheets a_found v_isKept, aA cI a_found 7 oo.2]) (ro, o0) (own := RX6) (lv := [(0, .ref a_t), (1, .int p1)]) (by decide) rfl rfl (Nat.le_of_ble_eq_true rfl) rfl ?_
  intro p e s m args below meth c Q ls C hret hV hl
  obtain ⟨out, hout⟩ : ∃ z : Int32 × (Nat → Int32), z = (ro, o0) := ⟨_, rfl⟩
  rw [← hout] at hF hret
  obtain ⟨H0, hH0⟩ : ∃ z : Heap, z = s.heap := ⟨_, rfl⟩
  obtain ⟨A0, hA0⟩ : ∃ z : Nat → Prop, z = va_A [oX6 a_t a_camp a_kept a_ears a_walk a_trials a_tape a_sheets a_found v_isKept, aA cI a_found 7 f_found] s.heap.size := ⟨_, rfl⟩
  rw [← hA0] at hret hV
  rw [← hH0] at hret hV
  rw [← hH0]
  obtain ⟨H, locs, hH⟩ : ∃ (z : Heap) (y : List Loc), z = H0 ∧ y = [] := ⟨_, _, rfl, rfl⟩
  rw [← hH.1, ← hH.2]
  have hV : gV (dC, dI) (gT cI cB cO) A0 H0 s [oX6 a_t a_camp a_kept a_ears a_walk a_trials a_tape a_sheets a_found v_isKept, aA cI a_found 7 f_found] H locs := by rw [hH.1, hH.2]; exact hV
  unfold F_X6_status at hF
  refine lv_iload_n C.1 C.2.1 dX6_status_0 rfl (lv_at hl 1 rfl) ?_
  refine lv_iconst (v := (-1)) C.1 C.2.1 dX6_status_1 rfl ?_
  refine g_icmp_ne (tgt := 32) C hF dX6_status_2 rfl (fun hF => ?_) (fun hF => ?_)
  · refine lv_iconst (v := 0) C.1 C.2.1 dX6_status_32 rfl ?_
    refine lv_iload_n C.1 C.2.1 dX6_status_33 rfl (lv_at hl 1 rfl) ?_
    refine lv_bipush (v := 6) C.1 C.2.1 dX6_status_34 rfl ?_
    obtain ⟨x1, hc, hF⟩ := bd1_s hF
    refine g_cSi (ws' := [oX6 a_t a_camp a_kept a_ears a_walk a_trials a_tape a_sheets a_found v_isKept, aA cI a_found 7 f_found]) (wr := [oX6 a_t a_camp a_kept a_ears a_walk a_trials a_tape a_sheets a_found v_isKept, aA cI a_found 7 f_found]) C hV (k_X6_isFrom l dC dI cI cB cO n0 H.size 0 p1 6 hc) mdX6_isFrom gX6_status_X6_isFrom rfl rfl ⟨Nat.le_of_ble_eq_true rfl, Nat.le_of_ble_eq_true rfl⟩ [] [0, 1] [0, 1] rfl rfl rfl rfl rfl rfl rfl rfl hl.1 (Nat.le_of_ble_eq_true rfl) rfl dX6_status_36 (fun H locs hV => ?_)
    refine g_if_eq (tgt := 51) C hF dX6_status_39 rfl (fun hF => ?_) (fun hF => ?_)
    · refine lv_aload_n C.1 C.2.1 dX6_status_51 rfl (lv_at hl 0 rfl) ?_
      refine lv_ldc (v := (-1000001)) C.1 C.2.1 C.2.2.2.1 (C.2.2.2.2 _ ctX6_status_70) dX6_status_52 ?_
      obtain ⟨x2, g3, hc, hF⟩ := bd2_s hF
      refine g_cVi (ws' := [oX6 a_t a_camp a_kept a_ears a_walk a_trials a_tape a_sheets a_found v_isKept, aA cI a_found 7 g3]) (wr := []) C hV (k_X6_finding l dC dI cI cB cO n0 H.size a_t a_camp a_kept a_ears a_walk a_trials a_tape a_sheets a_found v_isKept f_found ((-1000001)) hc) mdX6_finding gX6_status_X6_finding rfl rfl ⟨Nat.le_of_ble_eq_true rfl, Nat.le_of_ble_eq_true rfl⟩ [0, 1] [] [0, 1] rfl rfl rfl rfl rfl rfl rfl rfl rfl rfl hl.1 (Nat.le_of_ble_eq_true rfl) rfl dX6_status_54 (fun H locs hV => ?_)
      exact hret (x2, g3) _ _ _ _ dX6_status_57 hF hV
    refine lv_aload_n C.1 C.2.1 dX6_status_42 rfl (lv_at hl 0 rfl) ?_
    refine g_get C hV flX6_status_57 0 rfl rfl dX6_status_43 ?_
    refine lv_iload_n C.1 C.2.1 dX6_status_46 rfl (lv_at hl 1 rfl) ?_
    refine g_iald C hV 1 rfl hF dX6_status_47 (fun x4 hF => ?_)
    refine lv_goto (tgt := 57) C.1 C.2.1 dX6_status_48 rfl ?_
    exact hret (x4, f_found) _ _ _ _ dX6_status_57 hF hV
  refine lv_iconst (v := 0) C.1 C.2.1 dX6_status_5 rfl ?_
  refine lv_istore_n (lv' := [(2, .int 0), (0, .ref a_t), (1, .int p1)]) C.1 C.2.1 dX6_status_6 rfl hl (by decide) rfl (fun ls hl => ?_)
  refine lv_iconst (v := 0) C.1 C.2.1 dX6_status_7 rfl ?_
  refine lv_istore_n (lv' := [(3, .int 0), (2, .int 0), (0, .ref a_t), (1, .int p1)]) C.1 C.2.1 dX6_status_8 rfl hl (by decide) rfl (fun ls hl => ?_)
  have hL9 : ∀ (n : Nat) (s5 : Int32) (s6 : Int32) (H : Heap) (locs : List Loc) (ls : Array Slot), gV (dC, dI) (gT cI cB cO) A0 H0 s [oX6 a_t a_camp a_kept a_ears a_walk a_trials a_tape a_sheets a_found v_isKept, aA cI a_found 7 f_found] H locs → lv_has ls 4 [(0, .ref a_t), (2, .int s5), (3, .int s6)] → L_X6_status_9 f_found n s5 s6 = some out → W p l e rmX6_status s m args below meth c H locs 0 0 Q (F0 m 9 ls []) := by
    intro n
    induction n with
    | zero => intro s5 s6 H locs ls hV hl hF; exact lpp2_z hF
    | succ n ih9 =>
      intro s5 s6 H locs ls hV hl hF
      obtain ⟨kk9, hk9, hF⟩ := lpp2_g hF
      have hq9 : ∀ (s5 : Int32) (s6 : Int32), kk9 s5 s6 = some out → L_X6_status_9 f_found n s5 s6 = some out := fun _ _ h => by rw [hk9] at h; exact h
      refine lv_iload_n C.1 C.2.1 dX6_status_9 rfl (lv_at hl 2 rfl) ?_
      refine lv_bipush (v := 7) C.1 C.2.1 dX6_status_10 rfl ?_
      refine g_icmp_ge (tgt := 30) C hF dX6_status_12 rfl (fun hF => ?_) (fun hF => ?_)
      · refine lv_iload_n C.1 C.2.1 dX6_status_30 rfl (lv_at hl 1 rfl) ?_
        exact hret (s5, f_found) _ _ _ _ dX6_status_31 hF hV
      refine lv_iload_n C.1 C.2.1 dX6_status_15 rfl (lv_at hl 1 rfl) ?_
      refine lv_aload_n C.1 C.2.1 dX6_status_16 rfl (lv_at hl 0 rfl) ?_
      refine g_get C hV flX6_status_57 0 rfl rfl dX6_status_17 ?_
      refine lv_iload_n C.1 C.2.1 dX6_status_20 rfl (lv_at hl 2 rfl) ?_
      refine g_iald C hV 1 rfl hF dX6_status_21 (fun x7 hF => ?_)
      refine g_iadd C hF dX6_status_22 (fun x8 hF => ?_)
      refine lv_istore_n (lv' := [(2, .int x8), (0, .ref a_t), (3, .int s6)]) C.1 C.2.1 dX6_status_23 rfl hl (by decide) rfl (fun ls hl => ?_)
      refine g_iinc C hF dX6_status_24 (d := 1) rfl hl (j := 2) rfl (by decide) (fun y => [(3, .int y), (2, .int x8), (0, .ref a_t)]) (fun _ => rfl) (fun x9 ls hF hl => ?_)
      refine lv_goto (tgt := 9) C.1 C.2.1 dX6_status_27 rfl ?_
      exact ih9 x8 x9 H locs ls hV (lv_sub hl [2, 1, 0] rfl) (hq9 x8 x9 hF)
  exact hL9 n0 0 0 H locs ls hV (lv_sub hl [2, 1, 0] rfl) hF
