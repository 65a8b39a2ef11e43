abbrev rmX1_measure : Room := { frames := 2, cells := 0, slots := 0, locals := 57 }
theorem mdX1_measure : gMd yX1_measure wsX1_measure cX1_measure 5 none 2 := ⟨⟨_, rfl⟩, by decide +kernel⟩
theorem flX1_measure_21 : gFL wsX1_measure RX1 21 1 0 RX1 TX1 4 := ⟨rfl, fun w h => List.mem_cons_of_mem _ (List.mem_append_left _ (List.mem_append_right _ (h))), Nat.le_of_ble_eq_true rfl, List.mem_cons_of_mem _ (List.mem_append_left _ (List.mem_append_left _ (List.mem_of_getElem? (i := 0) rfl)))⟩
theorem flX1_measure_42 : gFL wsX1_measure RX1 42 0 1 RX0 TX0 10 := ⟨rfl, fun w h => List.mem_cons_of_mem _ (List.mem_append_right _ (h)), Nat.le_of_ble_eq_true rfl, List.mem_cons_of_mem _ (List.mem_append_left _ (List.mem_append_left _ (List.mem_of_getElem? (i := 1) rfl)))⟩
theorem flX1_measure_18 : gFL wsX1_measure RX1 18 1 3 RX1 TX1 4 := ⟨rfl, fun w h => List.mem_cons_of_mem _ (List.mem_append_left _ (List.mem_append_right _ (h))), Nat.le_of_ble_eq_true rfl, List.mem_cons_of_mem _ (List.mem_append_left _ (List.mem_append_left _ (List.mem_of_getElem? (i := 2) rfl)))⟩
def L_X1_measure_2 (p2 : Int32) (f_camp_yards : Nat → Int32) (p1 : Int32) (n0 : Nat) (v_camp_wall : Int32) (v_camp_bridge : Int32) (v_camp_counted : Int32) : Nat → Int32 → (Nat → Int32) → Option ((Nat → Int32)) := lpp2 (fun s1 t2 kk2 => (if p2 ≤ s1 then some t2 else rd f_camp_yards 10 p1 (fun x3 => rd f_camp_yards 10 s1 (fun x4 => bd1 (F_X0_apart n0 v_camp_wall v_camp_bridge v_camp_counted x3 x4) (fun x5 => nm (10 * p1) (fun x6 => nm (x6 + s1) (fun x7 => wrt t2 100 x7 x5 (fun g8 => nm (10 * s1) (fun x9 => nm (x9 + p1) (fun x10 => wrt g8 100 x10 x5 (fun g11 => nm (s1 + 1) (fun x12 => kk2 x12 g11))))))))))))
def F_X1_measure (n0 : Nat) (v_camp_wall : Int32) (v_camp_bridge : Int32) (v_camp_counted : Int32) (f_gaps : Nat → Int32) (f_camp_yards : Nat → Int32) (p1 : Int32) (p2 : Int32) : Option ((Nat → Int32)) := L_X1_measure_2 p2 f_camp_yards p1 n0 v_camp_wall v_camp_bridge v_camp_counted n0 0 f_gaps
set_option maxRecDepth 100000 in
set_option maxHeartbeats 4000000 in
theorem k_X1_measure (l : Launch) (dC : Nat → ClassId) (dI : Nat → Nat → Nat) (cI cB cO : ClassId) (n0 sz : Nat) (a_t : Nat) (a_camp : Nat) (a_hears : Nat) (a_near : Nat) (a_gaps : Nat) (a_camp_kinds : Nat) (a_camp_yards : Nat) (a_camp_spots : Nat)   (v_camp_tents : Int32) (v_camp_said : Int32) (v_camp_wall : Int32) (v_camp_bridge : Int32) (v_camp_counted : Int32) (v_camp_day : Int32) (v_camp_z : Int32) (f_gaps : Nat → Int32) (f_camp_yards : Nat → Int32) (p1 : Int32) (p2 : Int32)  {o0 : Nat → Int32} (hF : F_X1_measure n0 v_camp_wall v_camp_bridge v_camp_counted f_gaps f_camp_yards p1 p2 = some o0) : Met l yX1_measure wsX1_measure rmX1_measure (va_Pc [.ref a_t, .int p1, .int p2] (gPre (dC, dI) (gT cI cB cO) sz [oX1 a_t a_camp a_hears a_near a_gaps, oX0 a_camp a_camp_kinds a_camp_yards a_camp_spots v_camp_tents v_camp_said v_camp_wall v_camp_bridge v_camp_counted v_camp_day v_camp_z, aA cI a_gaps 100 f_gaps, aA cI a_camp_yards 10 f_camp_yards])) (gQv (dC, dI) (gT cI cB cO) sz [oX1 a_t a_camp a_hears a_near a_gaps, oX0 a_camp a_camp_kinds a_camp_yards a_camp_spots v_camp_tents v_camp_said v_camp_wall v_camp_bridge v_camp_counted v_camp_day v_camp_z, aA cI a_gaps 100 f_gaps, aA cI a_camp_yards 10 f_camp_yards] [oX1 a_t a_camp a_hears a_near a_gaps, oX0 a_camp a_camp_kinds a_camp_yards a_camp_spots v_camp_tents v_camp_said v_camp_wall v_camp_bridge v_camp_counted v_camp_day v_camp_z, aA cI a_gaps 100 o0, aA cI a_camp_yards 10 f_camp_yards]) 0 0 (va_A [oX1 a_t a_camp a_hears a_near a_gaps, oX0 a_camp a_camp_kinds a_camp_yards a_camp_spots v_camp_tents v_camp_said v_camp_wall v_camp_bridge v_camp_counted v_camp_day v_camp_z, aA cI a_gaps 100 f_gaps, aA cI a_camp_yards 10 f_camp_yards] sz) := by
  refine g_metV (Out := (Nat → Int32)) (fun oo => [oX1 a_t a_camp a_hears a_near a_gaps, oX0 a_camp a_camp_kinds a_camp_yards a_camp_spots v_camp_tents v_camp_said v_camp_wall v_camp_bridge v_camp_counted v_camp_day v_camp_z, aA cI a_gaps 100 oo, aA cI a_camp_yards 10 f_camp_yards]) o0 (own := RX1) (lv := [(0, .ref a_t), (1, .int p1), (2, .int p2)]) (by decide) rfl rfl (Nat.le_of_ble_eq_true rfl) rfl ?_
  intro p e s m args below meth c Q ls C hret hV hl
  obtain ⟨out, hout⟩ : ∃ z : (Nat → Int32), z = o0 := ⟨_, rfl⟩
  rw [← hout] at hF hret
  obtain ⟨H0, hH0⟩ : ∃ z : Heap, z = s.heap := ⟨_, rfl⟩
  obtain ⟨A0, hA0⟩ : ∃ z : Nat → Prop, z = va_A [oX1 a_t a_camp a_hears a_near a_gaps, oX0 a_camp a_camp_kinds a_camp_yards a_camp_spots v_camp_tents v_camp_said v_camp_wall v_camp_bridge v_camp_counted v_camp_day v_camp_z, aA cI a_gaps 100 f_gaps, aA cI a_camp_yards 10 f_camp_yards] s.heap.size := ⟨_, rfl⟩
  rw [← hA0] at hret hV
  rw [← hH0] at hret hV
  rw [← hH0]
  obtain ⟨H, locs, hH⟩ : ∃ (z : Heap) (y : List Loc), z = H0 ∧ y = [] := ⟨_, _, rfl, rfl⟩
  rw [← hH.1, ← hH.2]
  have hV : gV (dC, dI) (gT cI cB cO) A0 H0 s [oX1 a_t a_camp a_hears a_near a_gaps, oX0 a_camp a_camp_kinds a_camp_yards a_camp_spots v_camp_tents v_camp_said v_camp_wall v_camp_bridge v_camp_counted v_camp_day v_camp_z, aA cI a_gaps 100 f_gaps, aA cI a_camp_yards 10 f_camp_yards] H locs := by rw [hH.1, hH.2]; exact hV
  unfold F_X1_measure at hF
  refine lv_iconst (v := 0) C.1 C.2.1 dX1_measure_0 rfl ?_
  refine lv_istore_n (lv' := [(3, .int 0), (0, .ref a_t), (1, .int p1), (2, .int p2)]) C.1 C.2.1 dX1_measure_1 rfl hl (by decide) rfl (fun ls hl => ?_)
  have hL2 : ∀ (n : Nat) (s1 : Int32) (t2 : Nat → Int32) (H : Heap) (locs : List Loc) (ls : Array Slot), gV (dC, dI) (gT cI cB cO) A0 H0 s [oX1 a_t a_camp a_hears a_near a_gaps, oX0 a_camp a_camp_kinds a_camp_yards a_camp_spots v_camp_tents v_camp_said v_camp_wall v_camp_bridge v_camp_counted v_camp_day v_camp_z, aA cI a_gaps 100 t2, aA cI a_camp_yards 10 f_camp_yards] H locs → lv_has ls 5 [(0, .ref a_t), (1, .int p1), (2, .int p2), (3, .int s1)] → L_X1_measure_2 p2 f_camp_yards p1 n0 v_camp_wall v_camp_bridge v_camp_counted n s1 t2 = some out → W p l e rmX1_measure s m args below meth c H locs 0 0 Q (F0 m 2 ls []) := by
    intro n
    induction n with
    | zero => intro s1 t2 H locs ls hV hl hF; exact lpp2_z hF
    | succ n ih2 =>
      intro s1 t2 H locs ls hV hl hF
      obtain ⟨kk2, hk2, hF⟩ := lpp2_g hF
      have hq2 : ∀ (s1 : Int32) (t2 : Nat → Int32), kk2 s1 t2 = some out → L_X1_measure_2 p2 f_camp_yards p1 n0 v_camp_wall v_camp_bridge v_camp_counted n s1 t2 = some out := fun _ _ h => by rw [hk2] at h; exact h
      refine lv_iload_n C.1 C.2.1 dX1_measure_2 rfl (lv_at hl 3 rfl) ?_
      refine lv_iload_n C.1 C.2.1 dX1_measure_3 rfl (lv_at hl 2 rfl) ?_
      refine g_icmp_ge (tgt := 66) C hF dX1_measure_4 rfl (fun hF => ?_) (fun hF => ?_)
      · exact hret t2 _ _ _ _ dX1_measure_66 hF hV
      refine lv_aload_n C.1 C.2.1 dX1_measure_7 rfl (lv_at hl 0 rfl) ?_
      refine g_get C hV flX1_measure_21 0 rfl rfl dX1_measure_8 ?_
      refine lv_aload_n C.1 C.2.1 dX1_measure_11 rfl (lv_at hl 0 rfl) ?_
      refine g_get C hV flX1_measure_21 0 rfl rfl dX1_measure_12 ?_
      refine g_get C hV flX1_measure_42 1 rfl rfl dX1_measure_15 ?_
      refine lv_iload_n C.1 C.2.1 dX1_measure_18 rfl (lv_at hl 1 rfl) ?_
      refine g_iald C hV 3 rfl hF dX1_measure_19 (fun x3 hF => ?_)
      refine lv_aload_n C.1 C.2.1 dX1_measure_20 rfl (lv_at hl 0 rfl) ?_
      refine g_get C hV flX1_measure_21 0 rfl rfl dX1_measure_21 ?_
      refine g_get C hV flX1_measure_42 1 rfl rfl dX1_measure_24 ?_
      refine lv_iload_n C.1 C.2.1 dX1_measure_27 rfl (lv_at hl 3 rfl) ?_
      refine g_iald C hV 3 rfl hF dX1_measure_28 (fun x4 hF => ?_)
      obtain ⟨x5, hc, hF⟩ := bd1_s hF
      refine g_cVi (ws' := [oX1 a_t a_camp a_hears a_near a_gaps, oX0 a_camp a_camp_kinds a_camp_yards a_camp_spots v_camp_tents v_camp_said v_camp_wall v_camp_bridge v_camp_counted v_camp_day v_camp_z, aA cI a_gaps 100 t2, aA cI a_camp_yards 10 f_camp_yards]) (wr := [oX1 a_t a_camp a_hears a_near a_gaps, aA cI a_gaps 100 t2, aA cI a_camp_yards 10 f_camp_yards]) C hV (k_X0_apart l dC dI cI cB cO n0 H.size a_camp a_camp_kinds a_camp_yards a_camp_spots v_camp_tents v_camp_said v_camp_wall v_camp_bridge v_camp_counted v_camp_day v_camp_z x3 x4 hc) mdX0_apart gX1_measure_X0_apart rfl rfl ⟨Nat.le_of_ble_eq_true rfl, Nat.le_of_ble_eq_true rfl⟩ [1] [0, 2, 3] [0, 3, 1, 2] rfl rfl rfl rfl rfl rfl rfl rfl rfl rfl hl.1 (Nat.le_of_ble_eq_true rfl) rfl dX1_measure_29 (fun H locs hV => ?_)
      refine lv_istore (lv' := [(4, .int x5), (0, .ref a_t), (1, .int p1), (2, .int p2), (3, .int s1)]) C.1 C.2.1 dX1_measure_32 hl (by decide) rfl (fun ls hl => ?_)
      refine lv_aload_n C.1 C.2.1 dX1_measure_34 rfl (lv_at hl 1 rfl) ?_
      refine g_get C hV flX1_measure_18 0 rfl rfl dX1_measure_35 ?_
      refine lv_bipush (v := 10) C.1 C.2.1 dX1_measure_38 rfl ?_
      refine lv_iload_n C.1 C.2.1 dX1_measure_40 rfl (lv_at hl 2 rfl) ?_
      refine g_imul C hF dX1_measure_41 (fun x6 hF => ?_)
      refine lv_iload_n C.1 C.2.1 dX1_measure_42 rfl (lv_at hl 4 rfl) ?_
      refine g_iadd C hF dX1_measure_43 (fun x7 hF => ?_)
      refine lv_iload C.1 C.2.1 dX1_measure_44 (lv_at hl 0 rfl) ?_
      refine g_iast C hV 2 rfl hF (fun gq => [oX1 a_t a_camp a_hears a_near a_gaps, oX0 a_camp a_camp_kinds a_camp_yards a_camp_spots v_camp_tents v_camp_said v_camp_wall v_camp_bridge v_camp_counted v_camp_day v_camp_z, aA cI a_gaps 100 gq, aA cI a_camp_yards 10 f_camp_yards]) (fun _ => rfl) dX1_measure_46 (fun g8 H locs hF hV => ?_)
      refine lv_aload_n C.1 C.2.1 dX1_measure_47 rfl (lv_at hl 1 rfl) ?_
      refine g_get C hV flX1_measure_18 0 rfl rfl dX1_measure_48 ?_
      refine lv_bipush (v := 10) C.1 C.2.1 dX1_measure_51 rfl ?_
      refine lv_iload_n C.1 C.2.1 dX1_measure_53 rfl (lv_at hl 4 rfl) ?_
      refine g_imul C hF dX1_measure_54 (fun x9 hF => ?_)
      refine lv_iload_n C.1 C.2.1 dX1_measure_55 rfl (lv_at hl 2 rfl) ?_
      refine g_iadd C hF dX1_measure_56 (fun x10 hF => ?_)
      refine lv_iload C.1 C.2.1 dX1_measure_57 (lv_at hl 0 rfl) ?_
      refine g_iast C hV 2 rfl hF (fun gq => [oX1 a_t a_camp a_hears a_near a_gaps, oX0 a_camp a_camp_kinds a_camp_yards a_camp_spots v_camp_tents v_camp_said v_camp_wall v_camp_bridge v_camp_counted v_camp_day v_camp_z, aA cI a_gaps 100 gq, aA cI a_camp_yards 10 f_camp_yards]) (fun _ => rfl) dX1_measure_59 (fun g11 H locs hF hV => ?_)
      refine g_iinc C hF dX1_measure_60 (d := 1) rfl hl (j := 4) rfl (by decide) (fun y => [(3, .int y), (4, .int x5), (0, .ref a_t), (1, .int p1), (2, .int p2)]) (fun _ => rfl) (fun x12 ls hF hl => ?_)
      refine lv_goto (tgt := 2) C.1 C.2.1 dX1_measure_63 rfl ?_
      exact ih2 x12 g11 H locs ls hV (lv_sub hl [2, 3, 4, 0] rfl) (hq2 x12 g11 hF)
  exact hL2 n0 0 f_gaps H locs ls hV (lv_sub hl [1, 2, 3, 0] rfl) hF
abbrev rmX1_nearestBelow : Room := { frames := 0, cells := 0, slots := 0, locals := 0 }
theorem mdX1_nearestBelow : gMd yX1_nearestBelow wsX1_nearestBelow cX1_nearestBelow 7 (some .int) 2 := ⟨⟨_, rfl⟩, by decide +kernel⟩
theorem ctX1_nearestBelow_62 : Cond.constant RX1 62 1000000 ∈ wsX1_nearestBelow := List.mem_cons_of_mem _ (List.mem_append_left _ (List.mem_of_getElem? (i := 0) rfl))
theorem flX1_nearestBelow_18 : gFL wsX1_nearestBelow RX1 18 1 3 RX1 TX1 4 := ⟨rfl, fun w h => List.mem_cons_of_mem _ (List.mem_append_right _ (h)), Nat.le_of_ble_eq_true rfl, List.mem_cons_of_mem _ (List.mem_append_left _ (List.mem_of_getElem? (i := 1) rfl))⟩
def L_X1_nearestBelow_9 (p2 : Int32) (p1 : Int32) (f_gaps : Nat → Int32) : Nat → Int32 → Int32 → Int32 → Option (Int32) := lpp3 (fun s1 s2 s3 kk9 => (if p2 ≤ s3 then some s1 else nm (10 * p1) (fun x4 => nm (x4 + s3) (fun x5 => rd f_gaps 100 x5 (fun x6 => (if s3 = p1 then nm (s3 + 1) (fun x7 => kk9 s1 s2 x7) else (if s2 ≤ x6 then nm (s3 + 1) (fun x8 => kk9 s1 s2 x8) else nm (s3 + 1) (fun x9 => kk9 s3 x6 x9))))))))
def F_X1_nearestBelow (n0 : Nat) (f_gaps : Nat → Int32) (p1 : Int32) (p2 : Int32) : Option (Int32) := L_X1_nearestBelow_9 p2 p1 f_gaps n0 ((-1)) 1000000 0
set_option maxRecDepth 100000 in
set_option maxHeartbeats 4000000 in
theorem k_X1_nearestBelow (l : Launch) (dC : Nat → ClassId) (dI : Nat → Nat → Nat) (cI cB cO : ClassId) (n0 sz : Nat) (a_t : Nat) (a_camp : Nat) (a_hears : Nat) (a_near : Nat) (a_gaps : Nat)   (f_gaps : Nat → Int32) (p1 : Int32) (p2 : Int32)  {ro : Int32} (hF : F_X1_nearestBelow n0 f_gaps p1 p2 = some ro) : Met l yX1_nearestBelow wsX1_nearestBelow rmX1_nearestBelow (va_Pc [.ref a_t, .int p1, .int p2] (gPre (dC, dI) (gT cI cB cO) sz [oX1 a_t a_camp a_hears a_near a_gaps, aA cI a_gaps 100 f_gaps])) (gQi (dC, dI) (gT cI cB cO) sz [oX1 a_t a_camp a_hears a_near a_gaps, aA cI a_gaps 100 f_gaps] ro [oX1 a_t a_camp a_hears a_near a_gaps, aA cI a_gaps 100 f_gaps]) 0 0 (va_A [oX1 a_t a_camp a_hears a_near a_gaps, aA cI a_gaps 100 f_gaps] sz) := by
  refine g_metI (Out := Int32) (fun oo => oo) (fun oo => [oX1 a_t a_camp a_hears a_near a_gaps, aA cI a_gaps 100 f_gaps]) ro (own := RX1) (lv := [(0, .ref a_t), (1, .int p1), (2, .int p2)]) (by decide) rfl rfl (Nat.le_of_ble_eq_true rfl) rfl ?_
  intro p e s m args below meth c Q ls C hret hV hl
  obtain ⟨out, hout⟩ : ∃ z : Int32, z = ro := ⟨_, rfl⟩
  rw [← hout] at hF hret
  obtain ⟨H0, hH0⟩ : ∃ z : Heap, z = s.heap := ⟨_, rfl⟩
  obtain ⟨A0, hA0⟩ : ∃ z : Nat → Prop, z = va_A [oX1 a_t a_camp a_hears a_near a_gaps, aA cI a_gaps 100 f_gaps] s.heap.size := ⟨_, rfl⟩
  rw [← hA0] at hret hV
  rw [← hH0] at hret hV
  rw [← hH0]
  obtain ⟨H, locs, hH⟩ : ∃ (z : Heap) (y : List Loc), z = H0 ∧ y = [] := ⟨_, _, rfl, rfl⟩
  rw [← hH.1, ← hH.2]
  have hV : gV (dC, dI) (gT cI cB cO) A0 H0 s [oX1 a_t a_camp a_hears a_near a_gaps, aA cI a_gaps 100 f_gaps] H locs := by rw [hH.1, hH.2]; exact hV
  unfold F_X1_nearestBelow at hF
  refine lv_iconst (v := (-1)) C.1 C.2.1 dX1_nearestBelow_0 rfl ?_
  refine lv_istore_n (lv' := [(3, .int ((-1))), (0, .ref a_t), (1, .int p1), (2, .int p2)]) C.1 C.2.1 dX1_nearestBelow_1 rfl hl (by decide) rfl (fun ls hl => ?_)
  refine lv_ldc (v := 1000000) C.1 C.2.1 C.2.2.2.1 (C.2.2.2.2 _ ctX1_nearestBelow_62) dX1_nearestBelow_2 ?_
  refine lv_istore (lv' := [(4, .int 1000000), (3, .int ((-1))), (0, .ref a_t), (1, .int p1), (2, .int p2)]) C.1 C.2.1 dX1_nearestBelow_4 hl (by decide) rfl (fun ls hl => ?_)
  refine lv_iconst (v := 0) C.1 C.2.1 dX1_nearestBelow_6 rfl ?_
  refine lv_istore (lv' := [(5, .int 0), (4, .int 1000000), (3, .int ((-1))), (0, .ref a_t), (1, .int p1), (2, .int p2)]) C.1 C.2.1 dX1_nearestBelow_7 hl (by decide) rfl (fun ls hl => ?_)
  have hL9 : ∀ (n : Nat) (s1 : Int32) (s2 : Int32) (s3 : Int32) (H : Heap) (locs : List Loc) (ls : Array Slot), gV (dC, dI) (gT cI cB cO) A0 H0 s [oX1 a_t a_camp a_hears a_near a_gaps, aA cI a_gaps 100 f_gaps] H locs → lv_has ls 7 [(0, .ref a_t), (1, .int p1), (2, .int p2), (3, .int s1), (4, .int s2), (5, .int s3)] → L_X1_nearestBelow_9 p2 p1 f_gaps n s1 s2 s3 = some out → W p l e rmX1_nearestBelow s m args below meth c H locs 0 0 Q (F0 m 9 ls []) := by
    intro n
    induction n with
    | zero => intro s1 s2 s3 H locs ls hV hl hF; exact lpp3_z hF
    | succ n ih9 =>
      intro s1 s2 s3 H locs ls hV hl hF
      obtain ⟨kk9, hk9, hF⟩ := lpp3_g hF
      have hq9 : ∀ (s1 : Int32) (s2 : Int32) (s3 : Int32), kk9 s1 s2 s3 = some out → L_X1_nearestBelow_9 p2 p1 f_gaps n s1 s2 s3 = some out := fun _ _ _ h => by rw [hk9] at h; exact h
      refine lv_iload C.1 C.2.1 dX1_nearestBelow_9 (lv_at hl 5 rfl) ?_
      refine lv_iload_n C.1 C.2.1 dX1_nearestBelow_11 rfl (lv_at hl 2 rfl) ?_
      refine g_icmp_ge (tgt := 55) C hF dX1_nearestBelow_12 rfl (fun hF => ?_) (fun hF => ?_)
      · refine lv_iload_n C.1 C.2.1 dX1_nearestBelow_55 rfl (lv_at hl 3 rfl) ?_
        exact hret s1 _ _ _ _ dX1_nearestBelow_56 hF hV
      refine lv_aload_n C.1 C.2.1 dX1_nearestBelow_15 rfl (lv_at hl 0 rfl) ?_
      refine g_get C hV flX1_nearestBelow_18 0 rfl rfl dX1_nearestBelow_16 ?_
      refine lv_bipush (v := 10) C.1 C.2.1 dX1_nearestBelow_19 rfl ?_
      refine lv_iload_n C.1 C.2.1 dX1_nearestBelow_21 rfl (lv_at hl 1 rfl) ?_
      refine g_imul C hF dX1_nearestBelow_22 (fun x4 hF => ?_)
      refine lv_iload C.1 C.2.1 dX1_nearestBelow_23 (lv_at hl 5 rfl) ?_
      refine g_iadd C hF dX1_nearestBelow_25 (fun x5 hF => ?_)
      refine g_iald C hV 1 rfl hF dX1_nearestBelow_26 (fun x6 hF => ?_)
      refine lv_istore (lv' := [(6, .int x6), (0, .ref a_t), (1, .int p1), (2, .int p2), (3, .int s1), (4, .int s2), (5, .int s3)]) C.1 C.2.1 dX1_nearestBelow_27 hl (by decide) rfl (fun ls hl => ?_)
      refine lv_iload C.1 C.2.1 dX1_nearestBelow_29 (lv_at hl 6 rfl) ?_
      refine lv_iload_n C.1 C.2.1 dX1_nearestBelow_31 rfl (lv_at hl 2 rfl) ?_
      refine g_icmp_eq (tgt := 49) C hF dX1_nearestBelow_32 rfl (fun hF => ?_) (fun hF => ?_)
      · refine g_iinc C hF dX1_nearestBelow_49 (d := 1) rfl hl (j := 6) rfl (by decide) (fun y => [(5, .int y), (6, .int x6), (0, .ref a_t), (1, .int p1), (2, .int p2), (3, .int s1), (4, .int s2)]) (fun _ => rfl) (fun x7 ls hF hl => ?_)
        refine lv_goto (tgt := 9) C.1 C.2.1 dX1_nearestBelow_52 rfl ?_
        exact ih9 s1 s2 x7 H locs ls hV (lv_sub hl [2, 3, 4, 5, 6, 0] rfl) (hq9 s1 s2 x7 hF)
      refine lv_iload C.1 C.2.1 dX1_nearestBelow_35 (lv_at hl 0 rfl) ?_
      refine lv_iload C.1 C.2.1 dX1_nearestBelow_37 (lv_at hl 5 rfl) ?_
      refine g_icmp_ge (tgt := 49) C hF dX1_nearestBelow_39 rfl (fun hF => ?_) (fun hF => ?_)
      · refine g_iinc C hF dX1_nearestBelow_49 (d := 1) rfl hl (j := 6) rfl (by decide) (fun y => [(5, .int y), (6, .int x6), (0, .ref a_t), (1, .int p1), (2, .int p2), (3, .int s1), (4, .int s2)]) (fun _ => rfl) (fun x8 ls hF hl => ?_)
        refine lv_goto (tgt := 9) C.1 C.2.1 dX1_nearestBelow_52 rfl ?_
        exact ih9 s1 s2 x8 H locs ls hV (lv_sub hl [2, 3, 4, 5, 6, 0] rfl) (hq9 s1 s2 x8 hF)
      refine lv_iload C.1 C.2.1 dX1_nearestBelow_42 (lv_at hl 6 rfl) ?_
      refine lv_istore_n (lv' := [(3, .int s3), (6, .int x6), (0, .ref a_t), (1, .int p1), (2, .int p2), (4, .int s2), (5, .int s3)]) C.1 C.2.1 dX1_nearestBelow_44 rfl hl (by decide) rfl (fun ls hl => ?_)
      refine lv_iload C.1 C.2.1 dX1_nearestBelow_45 (lv_at hl 1 rfl) ?_
      refine lv_istore (lv' := [(4, .int x6), (3, .int s3), (6, .int x6), (0, .ref a_t), (1, .int p1), (2, .int p2), (5, .int s3)]) C.1 C.2.1 dX1_nearestBelow_47 hl (by decide) rfl (fun ls hl => ?_)
      refine g_iinc C hF dX1_nearestBelow_49 (d := 1) rfl hl (j := 6) rfl (by decide) (fun y => [(5, .int y), (4, .int x6), (3, .int s3), (6, .int x6), (0, .ref a_t), (1, .int p1), (2, .int p2)]) (fun _ => rfl) (fun x9 ls hF hl => ?_)
      refine lv_goto (tgt := 9) C.1 C.2.1 dX1_nearestBelow_52 rfl ?_
      exact ih9 s3 x6 x9 H locs ls hV (lv_sub hl [4, 5, 6, 2, 1, 0] rfl) (hq9 s3 x6 x9 hF)
  exact hL9 n0 ((-1)) 1000000 0 H locs ls hV (lv_sub hl [3, 4, 5, 2, 1, 0] rfl) hF
abbrev rmX1_farthest : Room := { frames := 0, cells := 0, slots := 0, locals := 0 }
theorem mdX1_farthest : gMd yX1_farthest wsX1_farthest cX1_farthest 6 (some .int) 1 := ⟨⟨_, rfl⟩, by decide +kernel⟩
theorem flX1_farthest_21 : gFL wsX1_farthest RX1 21 1 0 RX1 TX1 4 := ⟨rfl, fun w h => List.mem_cons_of_mem _ (List.mem_append_left _ (List.mem_append_right _ (h))), Nat.le_of_ble_eq_true rfl, List.mem_cons_of_mem _ (List.mem_append_left _ (List.mem_append_left _ (List.mem_of_getElem? (i := 0) rfl)))⟩
theorem flX1_farthest_25 : gFL wsX1_farthest RX1 25 0 3 RX0 TX0 10 := ⟨rfl, fun w h => List.mem_cons_of_mem _ (List.mem_append_right _ (h)), Nat.le_of_ble_eq_true rfl, List.mem_cons_of_mem _ (List.mem_append_left _ (List.mem_append_left _ (List.mem_of_getElem? (i := 1) rfl)))⟩
theorem flX1_farthest_18 : gFL wsX1_farthest RX1 18 1 3 RX1 TX1 4 := ⟨rfl, fun w h => List.mem_cons_of_mem _ (List.mem_append_left _ (List.mem_append_right _ (h))), Nat.le_of_ble_eq_true rfl, List.mem_cons_of_mem _ (List.mem_append_left _ (List.mem_append_left _ (List.mem_of_getElem? (i := 2) rfl)))⟩
def L_X1_farthest_7 (v_camp_tents : Int32) (p1 : Int32) (f_gaps : Nat → Int32) : Nat → Int32 → Int32 → Int32 → Option (Int32) := lpp3 (fun s1 s2 s3 kk7 => (if v_camp_tents ≤ s3 then some s1 else nm (10 * p1) (fun x4 => nm (x4 + s3) (fun x5 => rd f_gaps 100 x5 (fun x6 => (if s3 = p1 then nm (s3 + 1) (fun x7 => kk7 s1 s2 x7) else (if x6 ≤ s2 then nm (s3 + 1) (fun x8 => kk7 s1 s2 x8) else nm (s3 + 1) (fun x9 => kk7 s3 x6 x9))))))))
def F_X1_farthest (n0 : Nat) (v_camp_tents : Int32) (f_gaps : Nat → Int32) (p1 : Int32) : Option (Int32) := L_X1_farthest_7 v_camp_tents p1 f_gaps n0 ((-1)) ((-1)) 0
set_option maxRecDepth 100000 in
set_option maxHeartbeats 4000000 in
theorem k_X1_farthest (l : Launch) (dC : Nat → ClassId) (dI : Nat → Nat → Nat) (cI cB cO : ClassId) (n0 sz : Nat) (a_t : Nat) (a_camp : Nat) (a_hears : Nat) (a_near : Nat) (a_gaps : Nat) (a_camp_kinds : Nat) (a_camp_yards : Nat) (a_camp_spots : Nat)   (v_camp_tents : Int32) (v_camp_said : Int32) (v_camp_wall : Int32) (v_camp_bridge : Int32) (v_camp_counted : Int32) (v_camp_day : Int32) (v_camp_z : Int32) (f_gaps : Nat → Int32) (p1 : Int32)  {ro : Int32} (hF : F_X1_farthest n0 v_camp_tents f_gaps p1 = some ro) : Met l yX1_farthest wsX1_farthest rmX1_farthest (va_Pc [.ref a_t, .int p1] (gPre (dC, dI) (gT cI cB cO) sz [oX1 a_t a_camp a_hears a_near a_gaps, oX0 a_camp a_camp_kinds a_camp_yards a_camp_spots v_camp_tents v_camp_said v_camp_wall v_camp_bridge v_camp_counted v_camp_day v_camp_z, aA cI a_gaps 100 f_gaps])) (gQi (dC, dI) (gT cI cB cO) sz [oX1 a_t a_camp a_hears a_near a_gaps, oX0 a_camp a_camp_kinds a_camp_yards a_camp_spots v_camp_tents v_camp_said v_camp_wall v_camp_bridge v_camp_counted v_camp_day v_camp_z, aA cI a_gaps 100 f_gaps] ro [oX1 a_t a_camp a_hears a_near a_gaps, oX0 a_camp a_camp_kinds a_camp_yards a_camp_spots v_camp_tents v_camp_said v_camp_wall v_camp_bridge v_camp_counted v_camp_day v_camp_z, aA cI a_gaps 100 f_gaps]) 0 0 (va_A [oX1 a_t a_camp a_hears a_near a_gaps, oX0 a_camp a_camp_kinds a_camp_yards a_camp_spots v_camp_tents v_camp_said v_camp_wall v_camp_bridge v_camp_counted v_camp_day v_camp_z, aA cI a_gaps 100 f_gaps] sz) := by
  refine g_metI (Out := Int32) (fun oo => oo) (fun oo => [oX1 a_t a_camp a_hears a_near a_gaps, oX0 a_camp a_camp_kinds a_camp_yards a_camp_spots v_camp_tents v_camp_said v_camp_wall v_camp_bridge v_camp_counted v_camp_day v_camp_z, aA cI a_gaps 100 f_gaps]) ro (own := RX1) (lv := [(0, .ref a_t), (1, .int p1)]) (by decide) rfl rfl (Nat.le_of_ble_eq_true rfl) rfl ?_
  intro p e s m args below meth c Q ls C hret hV hl
  obtain ⟨out, hout⟩ : ∃ z : Int32, z = ro := ⟨_, rfl⟩
  rw [← hout] at hF hret
  obtain ⟨H0, hH0⟩ : ∃ z : Heap, z = s.heap := ⟨_, rfl⟩
  obtain ⟨A0, hA0⟩ : ∃ z : Nat → Prop, z = va_A [oX1 a_t a_camp a_hears a_near a_gaps, oX0 a_camp a_camp_kinds a_camp_yards a_camp_spots v_camp_tents v_camp_said v_camp_wall v_camp_bridge v_camp_counted v_camp_day v_camp_z, aA cI a_gaps 100 f_gaps] s.heap.size := ⟨_, rfl⟩
  rw [← hA0] at hret hV
  rw [← hH0] at hret hV
  rw [← hH0]
  obtain ⟨H, locs, hH⟩ : ∃ (z : Heap) (y : List Loc), z = H0 ∧ y = [] := ⟨_, _, rfl, rfl⟩
  rw [← hH.1, ← hH.2]
  have hV : gV (dC, dI) (gT cI cB cO) A0 H0 s [oX1 a_t a_camp a_hears a_near a_gaps, oX0 a_camp a_camp_kinds a_camp_yards a_camp_spots v_camp_tents v_camp_said v_camp_wall v_camp_bridge v_camp_counted v_camp_day v_camp_z, aA cI a_gaps 100 f_gaps] H locs := by rw [hH.1, hH.2]; exact hV
  unfold F_X1_farthest at hF
  refine lv_iconst (v := (-1)) C.1 C.2.1 dX1_farthest_0 rfl ?_
  refine lv_istore_n (lv' := [(2, .int ((-1))), (0, .ref a_t), (1, .int p1)]) C.1 C.2.1 dX1_farthest_1 rfl hl (by decide) rfl (fun ls hl => ?_)
  refine lv_iconst (v := (-1)) C.1 C.2.1 dX1_farthest_2 rfl ?_
  refine lv_istore_n (lv' := [(3, .int ((-1))), (2, .int ((-1))), (0, .ref a_t), (1, .int p1)]) C.1 C.2.1 dX1_farthest_3 rfl hl (by decide) rfl (fun ls hl => ?_)
  refine lv_iconst (v := 0) C.1 C.2.1 dX1_farthest_4 rfl ?_
  refine lv_istore (lv' := [(4, .int 0), (3, .int ((-1))), (2, .int ((-1))), (0, .ref a_t), (1, .int p1)]) C.1 C.2.1 dX1_farthest_5 hl (by decide) rfl (fun ls hl => ?_)
  have hL7 : ∀ (n : Nat) (s1 : Int32) (s2 : Int32) (s3 : Int32) (H : Heap) (locs : List Loc) (ls : Array Slot), gV (dC, dI) (gT cI cB cO) A0 H0 s [oX1 a_t a_camp a_hears a_near a_gaps, oX0 a_camp a_camp_kinds a_camp_yards a_camp_spots v_camp_tents v_camp_said v_camp_wall v_camp_bridge v_camp_counted v_camp_day v_camp_z, aA cI a_gaps 100 f_gaps] H locs → lv_has ls 6 [(0, .ref a_t), (1, .int p1), (2, .int s1), (3, .int s2), (4, .int s3)] → L_X1_farthest_7 v_camp_tents p1 f_gaps n s1 s2 s3 = some out → W p l e rmX1_farthest s m args below meth c H locs 0 0 Q (F0 m 7 ls []) := by
    intro n
    induction n with
    | zero => intro s1 s2 s3 H locs ls hV hl hF; exact lpp3_z hF
    | succ n ih7 =>
      intro s1 s2 s3 H locs ls hV hl hF
      obtain ⟨kk7, hk7, hF⟩ := lpp3_g hF
      have hq7 : ∀ (s1 : Int32) (s2 : Int32) (s3 : Int32), kk7 s1 s2 s3 = some out → L_X1_farthest_7 v_camp_tents p1 f_gaps n s1 s2 s3 = some out := fun _ _ _ h => by rw [hk7] at h; exact h
      refine lv_iload C.1 C.2.1 dX1_farthest_7 (lv_at hl 4 rfl) ?_
      refine lv_aload_n C.1 C.2.1 dX1_farthest_9 rfl (lv_at hl 0 rfl) ?_
      refine g_get C hV flX1_farthest_21 0 rfl rfl dX1_farthest_10 ?_
      refine g_get C hV flX1_farthest_25 1 rfl rfl dX1_farthest_13 ?_
      refine g_icmp_ge (tgt := 57) C hF dX1_farthest_16 rfl (fun hF => ?_) (fun hF => ?_)
      · refine lv_iload_n C.1 C.2.1 dX1_farthest_57 rfl (lv_at hl 2 rfl) ?_
        exact hret s1 _ _ _ _ dX1_farthest_58 hF hV
      refine lv_aload_n C.1 C.2.1 dX1_farthest_19 rfl (lv_at hl 0 rfl) ?_
      refine g_get C hV flX1_farthest_18 0 rfl rfl dX1_farthest_20 ?_
      refine lv_bipush (v := 10) C.1 C.2.1 dX1_farthest_23 rfl ?_
      refine lv_iload_n C.1 C.2.1 dX1_farthest_25 rfl (lv_at hl 1 rfl) ?_
      refine g_imul C hF dX1_farthest_26 (fun x4 hF => ?_)
      refine lv_iload C.1 C.2.1 dX1_farthest_27 (lv_at hl 4 rfl) ?_
      refine g_iadd C hF dX1_farthest_29 (fun x5 hF => ?_)
      refine g_iald C hV 2 rfl hF dX1_farthest_30 (fun x6 hF => ?_)
      refine lv_istore (lv' := [(5, .int x6), (0, .ref a_t), (1, .int p1), (2, .int s1), (3, .int s2), (4, .int s3)]) C.1 C.2.1 dX1_farthest_31 hl (by decide) rfl (fun ls hl => ?_)
      refine lv_iload C.1 C.2.1 dX1_farthest_33 (lv_at hl 5 rfl) ?_
      refine lv_iload_n C.1 C.2.1 dX1_farthest_35 rfl (lv_at hl 2 rfl) ?_
      refine g_icmp_eq (tgt := 51) C hF dX1_farthest_36 rfl (fun hF => ?_) (fun hF => ?_)
      · refine g_iinc C hF dX1_farthest_51 (d := 1) rfl hl (j := 5) rfl (by decide) (fun y => [(4, .int y), (5, .int x6), (0, .ref a_t), (1, .int p1), (2, .int s1), (3, .int s2)]) (fun _ => rfl) (fun x7 ls hF hl => ?_)
        refine lv_goto (tgt := 7) C.1 C.2.1 dX1_farthest_54 rfl ?_
        exact ih7 s1 s2 x7 H locs ls hV (lv_sub hl [2, 3, 4, 5, 0] rfl) (hq7 s1 s2 x7 hF)
      refine lv_iload C.1 C.2.1 dX1_farthest_39 (lv_at hl 0 rfl) ?_
      refine lv_iload_n C.1 C.2.1 dX1_farthest_41 rfl (lv_at hl 4 rfl) ?_
      refine g_icmp_le (tgt := 51) C hF dX1_farthest_42 rfl (fun hF => ?_) (fun hF => ?_)
      · refine g_iinc C hF dX1_farthest_51 (d := 1) rfl hl (j := 5) rfl (by decide) (fun y => [(4, .int y), (5, .int x6), (0, .ref a_t), (1, .int p1), (2, .int s1), (3, .int s2)]) (fun _ => rfl) (fun x8 ls hF hl => ?_)
        refine lv_goto (tgt := 7) C.1 C.2.1 dX1_farthest_54 rfl ?_
        exact ih7 s1 s2 x8 H locs ls hV (lv_sub hl [2, 3, 4, 5, 0] rfl) (hq7 s1 s2 x8 hF)
      refine lv_iload C.1 C.2.1 dX1_farthest_45 (lv_at hl 5 rfl) ?_
      refine lv_istore_n (lv' := [(2, .int s3), (5, .int x6), (0, .ref a_t), (1, .int p1), (3, .int s2), (4, .int s3)]) C.1 C.2.1 dX1_farthest_47 rfl hl (by decide) rfl (fun ls hl => ?_)
      refine lv_iload C.1 C.2.1 dX1_farthest_48 (lv_at hl 1 rfl) ?_
      refine lv_istore_n (lv' := [(3, .int x6), (2, .int s3), (5, .int x6), (0, .ref a_t), (1, .int p1), (4, .int s3)]) C.1 C.2.1 dX1_farthest_50 rfl hl (by decide) rfl (fun ls hl => ?_)
      refine g_iinc C hF dX1_farthest_51 (d := 1) rfl hl (j := 5) rfl (by decide) (fun y => [(4, .int y), (3, .int x6), (2, .int s3), (5, .int x6), (0, .ref a_t), (1, .int p1)]) (fun _ => rfl) (fun x9 ls hF hl => ?_)
      refine lv_goto (tgt := 7) C.1 C.2.1 dX1_farthest_54 rfl ?_
      exact ih7 s3 x6 x9 H locs ls hV (lv_sub hl [4, 5, 2, 1, 0] rfl) (hq7 s3 x6 x9 hF)
  exact hL7 n0 ((-1)) ((-1)) 0 H locs ls hV (lv_sub hl [3, 4, 2, 1, 0] rfl) hF
abbrev rmX1_whomHeard : Room := { frames := 1, cells := 0, slots := 0, locals := 26 }
theorem mdX1_whomHeard : gMd yX1_whomHeard wsX1_whomHeard cX1_whomHeard 2 (some .int) 1 := ⟨⟨_, rfl⟩, by decide +kernel⟩
theorem flX1_whomHeard_21 : gFL wsX1_whomHeard RX1 21 1 0 RX1 TX1 4 := ⟨rfl, fun w h => List.mem_cons_of_mem _ (List.mem_append_left _ (List.mem_append_right _ (h))), Nat.le_of_ble_eq_true rfl, List.mem_cons_of_mem _ (List.mem_append_left _ (List.mem_append_left _ (List.mem_of_getElem? (i := 0) rfl)))⟩
theorem flX1_whomHeard_56 : gFL wsX1_whomHeard RX1 56 0 0 RX0 TX0 10 := ⟨rfl, fun w h => List.mem_cons_of_mem _ (List.mem_append_right _ (h)), Nat.le_of_ble_eq_true rfl, List.mem_cons_of_mem _ (List.mem_append_left _ (List.mem_append_left _ (List.mem_of_getElem? (i := 1) rfl)))⟩
theorem flX1_whomHeard_15 : gFL wsX1_whomHeard RX1 15 1 2 RX1 TX1 4 := ⟨rfl, fun w h => List.mem_cons_of_mem _ (List.mem_append_left _ (List.mem_append_right _ (h))), Nat.le_of_ble_eq_true rfl, List.mem_cons_of_mem _ (List.mem_append_left _ (List.mem_append_left _ (List.mem_of_getElem? (i := 2) rfl)))⟩
def F_X1_whomHeard (n0 : Nat) (v_camp_tents : Int32) (f_gaps : Nat → Int32) (f_near : Nat → Int32) (f_camp_kinds : Nat → Int32) (p1 : Int32) : Option (Int32) := rd f_camp_kinds 10 p1 (fun x1 => (if x1 = 1 then bd1 (F_X1_nearestBelow n0 f_gaps p1 p1) (fun x2 => some x2) else (if x1 = 4 then bd1 (F_X1_nearestBelow n0 f_gaps p1 p1) (fun x3 => some x3) else (if x1 = 6 then bd1 (F_X1_farthest n0 v_camp_tents f_gaps p1) (fun x4 => some x4) else rd f_near 10 p1 (fun x5 => some x5)))))
set_option maxRecDepth 100000 in
set_option maxHeartbeats 4000000 in
theorem k_X1_whomHeard (l : Launch) (dC : Nat → ClassId) (dI : Nat → Nat → Nat) (cI cB cO : ClassId) (n0 sz : Nat) (a_t : Nat) (a_camp : Nat) (a_hears : Nat) (a_near : Nat) (a_gaps : Nat) (a_camp_kinds : Nat) (a_camp_yards : Nat) (a_camp_spots : Nat)   (v_camp_tents : Int32) (v_camp_said : Int32) (v_camp_wall : Int32) (v_camp_bridge : Int32) (v_camp_counted : Int32) (v_camp_day : Int32) (v_camp_z : Int32) (f_gaps : Nat → Int32) (f_near : Nat → Int32) (f_camp_kinds : Nat → Int32) (p1 : Int32)  {ro : Int32} (hF : F_X1_whomHeard n0 v_camp_tents f_gaps f_near f_camp_kinds p1 = some ro) : Met l yX1_whomHeard wsX1_whomHeard rmX1_whomHeard (va_Pc [.ref a_t, .int p1] (gPre (dC, dI) (gT cI cB cO) sz [oX1 a_t a_camp a_hears a_near a_gaps, oX0 a_camp a_camp_kinds a_camp_yards a_camp_spots v_camp_tents v_camp_said v_camp_wall v_camp_bridge v_camp_counted v_camp_day v_camp_z, aA cI a_gaps 100 f_gaps, aA cI a_near 10 f_near, aA cI a_camp_kinds 10 f_camp_kinds])) (gQi (dC, dI) (gT cI cB cO) sz [oX1 a_t a_camp a_hears a_near a_gaps, oX0 a_camp a_camp_kinds a_camp_yards a_camp_spots v_camp_tents v_camp_said v_camp_wall v_camp_bridge v_camp_counted v_camp_day v_camp_z, aA cI a_gaps 100 f_gaps, aA cI a_near 10 f_near, aA cI a_camp_kinds 10 f_camp_kinds] ro [oX1 a_t a_camp a_hears a_near a_gaps, oX0 a_camp a_camp_kinds a_camp_yards a_camp_spots v_camp_tents v_camp_said v_camp_wall v_camp_bridge v_camp_counted v_camp_day v_camp_z, aA cI a_gaps 100 f_gaps, aA cI a_near 10 f_near, aA cI a_camp_kinds 10 f_camp_kinds]) 0 0 (va_A [oX1 a_t a_camp a_hears a_near a_gaps, oX0 a_camp a_camp_kinds a_camp_yards a_camp_spots v_camp_tents v_camp_said v_camp_wall v_camp_bridge v_camp_counted v_camp_day v_camp_z, aA cI a_gaps 100 f_gaps, aA cI a_near 10 f_near, aA cI a_camp_kinds 10 f_camp_kinds] sz) := by
  refine g_metI (Out := Int32) (fun oo => oo) (fun oo => [oX1 a_t a_camp a_hears a_near a_gaps, oX0 a_camp a_camp_kinds a_camp_yards a_camp_spots v_camp_tents v_camp_said v_camp_wall v_camp_bridge v_camp_counted v_camp_day v_camp_z, aA cI a_gaps 100 f_gaps, aA cI a_near 10 f_near, aA cI a_camp_kinds 10 f_camp_kinds]) ro (own := RX1) (lv := [(0, .ref a_t), (1, .int p1)]) (by decide) rfl rfl (Nat.le_of_ble_eq_true rfl) rfl ?_
  intro p e s m args below meth c Q ls C hret hV hl
  obtain ⟨out, hout⟩ : ∃ z : Int32, z = ro := ⟨_, rfl⟩
  rw [← hout] at hF hret
  obtain ⟨H0, hH0⟩ : ∃ z : Heap, z = s.heap := ⟨_, rfl⟩
  obtain ⟨A0, hA0⟩ : ∃ z : Nat → Prop, z = va_A [oX1 a_t a_camp a_hears a_near a_gaps, oX0 a_camp a_camp_kinds a_camp_yards a_camp_spots v_camp_tents v_camp_said v_camp_wall v_camp_bridge v_camp_counted v_camp_day v_camp_z, aA cI a_gaps 100 f_gaps, aA cI a_near 10 f_near, aA cI a_camp_kinds 10 f_camp_kinds] s.heap.size := ⟨_, rfl⟩
  rw [← hA0] at hret hV
  rw [← hH0] at hret hV
  rw [← hH0]
  obtain ⟨H, locs, hH⟩ : ∃ (z : Heap) (y : List Loc), z = H0 ∧ y = [] := ⟨_, _, rfl, rfl⟩
  rw [← hH.1, ← hH.2]
  have hV : gV (dC, dI) (gT cI cB cO) A0 H0 s [oX1 a_t a_camp a_hears a_near a_gaps, oX0 a_camp a_camp_kinds a_camp_yards a_camp_spots v_camp_tents v_camp_said v_camp_wall v_camp_bridge v_camp_counted v_camp_day v_camp_z, aA cI a_gaps 100 f_gaps, aA cI a_near 10 f_near, aA cI a_camp_kinds 10 f_camp_kinds] H locs := by rw [hH.1, hH.2]; exact hV
  unfold F_X1_whomHeard at hF
  refine lv_aload_n C.1 C.2.1 dX1_whomHeard_0 rfl (lv_at hl 0 rfl) ?_
  refine g_get C hV flX1_whomHeard_21 0 rfl rfl dX1_whomHeard_1 ?_
  refine g_get C hV flX1_whomHeard_56 1 rfl rfl dX1_whomHeard_4 ?_
  refine lv_iload_n C.1 C.2.1 dX1_whomHeard_7 rfl (lv_at hl 1 rfl) ?_
  refine g_iald C hV 4 rfl hF dX1_whomHeard_8 (fun x1 hF => ?_)
  rcases ite_or hF with ⟨hc, hF⟩ | ⟨hc9_1, hF⟩
  · refine lv_lookup (off := 35) (tgt := 44) C.1 C.2.1 dX1_whomHeard_9 rfl (by rw [hc]; rfl) rfl ?_
    refine lv_aload_n C.1 C.2.1 dX1_whomHeard_44 rfl (lv_at hl 0 rfl) ?_
    refine lv_iload_n C.1 C.2.1 dX1_whomHeard_45 rfl (lv_at hl 1 rfl) ?_
    refine lv_iload_n C.1 C.2.1 dX1_whomHeard_46 rfl (lv_at hl 1 rfl) ?_
    obtain ⟨x2, hc, hF⟩ := bd1_s hF
    refine g_cVi (ws' := [oX1 a_t a_camp a_hears a_near a_gaps, oX0 a_camp a_camp_kinds a_camp_yards a_camp_spots v_camp_tents v_camp_said v_camp_wall v_camp_bridge v_camp_counted v_camp_day v_camp_z, aA cI a_gaps 100 f_gaps, aA cI a_near 10 f_near, aA cI a_camp_kinds 10 f_camp_kinds]) (wr := [oX0 a_camp a_camp_kinds a_camp_yards a_camp_spots v_camp_tents v_camp_said v_camp_wall v_camp_bridge v_camp_counted v_camp_day v_camp_z, aA cI a_near 10 f_near, aA cI a_camp_kinds 10 f_camp_kinds]) C hV (k_X1_nearestBelow l dC dI cI cB cO n0 H.size a_t a_camp a_hears a_near a_gaps f_gaps p1 p1 hc) mdX1_nearestBelow gX1_whomHeard_X1_nearestBelow rfl rfl ⟨Nat.le_of_ble_eq_true rfl, Nat.le_of_ble_eq_true rfl⟩ [0, 2] [1, 3, 4] [3, 0, 4, 1, 2] rfl rfl rfl rfl rfl rfl rfl rfl rfl rfl hl.1 (Nat.le_of_ble_eq_true rfl) rfl dX1_whomHeard_47 (fun H locs hV => ?_)
    exact hret x2 _ _ _ _ dX1_whomHeard_50 hF hV
  rcases ite_or hF with ⟨hc, hF⟩ | ⟨hc9_4, hF⟩
  · refine lv_lookup (off := 35) (tgt := 44) C.1 C.2.1 dX1_whomHeard_9 rfl (by rw [hc]; rfl) rfl ?_
    refine lv_aload_n C.1 C.2.1 dX1_whomHeard_44 rfl (lv_at hl 0 rfl) ?_
    refine lv_iload_n C.1 C.2.1 dX1_whomHeard_45 rfl (lv_at hl 1 rfl) ?_
    refine lv_iload_n C.1 C.2.1 dX1_whomHeard_46 rfl (lv_at hl 1 rfl) ?_
    obtain ⟨x3, hc, hF⟩ := bd1_s hF
    refine g_cVi (ws' := [oX1 a_t a_camp a_hears a_near a_gaps, oX0 a_camp a_camp_kinds a_camp_yards a_camp_spots v_camp_tents v_camp_said v_camp_wall v_camp_bridge v_camp_counted v_camp_day v_camp_z, aA cI a_gaps 100 f_gaps, aA cI a_near 10 f_near, aA cI a_camp_kinds 10 f_camp_kinds]) (wr := [oX0 a_camp a_camp_kinds a_camp_yards a_camp_spots v_camp_tents v_camp_said v_camp_wall v_camp_bridge v_camp_counted v_camp_day v_camp_z, aA cI a_near 10 f_near, aA cI a_camp_kinds 10 f_camp_kinds]) C hV (k_X1_nearestBelow l dC dI cI cB cO n0 H.size a_t a_camp a_hears a_near a_gaps f_gaps p1 p1 hc) mdX1_nearestBelow gX1_whomHeard_X1_nearestBelow rfl rfl ⟨Nat.le_of_ble_eq_true rfl, Nat.le_of_ble_eq_true rfl⟩ [0, 2] [1, 3, 4] [3, 0, 4, 1, 2] rfl rfl rfl rfl rfl rfl rfl rfl rfl rfl hl.1 (Nat.le_of_ble_eq_true rfl) rfl dX1_whomHeard_47 (fun H locs hV => ?_)
    exact hret x3 _ _ _ _ dX1_whomHeard_50 hF hV
  rcases ite_or hF with ⟨hc, hF⟩ | ⟨hc9_6, hF⟩
  · refine lv_lookup (off := 42) (tgt := 51) C.1 C.2.1 dX1_whomHeard_9 rfl (by rw [hc]; rfl) rfl ?_
    refine lv_aload_n C.1 C.2.1 dX1_whomHeard_51 rfl (lv_at hl 0 rfl) ?_
    refine lv_iload_n C.1 C.2.1 dX1_whomHeard_52 rfl (lv_at hl 1 rfl) ?_
    obtain ⟨x4, hc, hF⟩ := bd1_s hF
    refine g_cVi (ws' := [oX1 a_t a_camp a_hears a_near a_gaps, oX0 a_camp a_camp_kinds a_camp_yards a_camp_spots v_camp_tents v_camp_said v_camp_wall v_camp_bridge v_camp_counted v_camp_day v_camp_z, aA cI a_gaps 100 f_gaps, aA cI a_near 10 f_near, aA cI a_camp_kinds 10 f_camp_kinds]) (wr := [aA cI a_near 10 f_near, aA cI a_camp_kinds 10 f_camp_kinds]) C hV (k_X1_farthest l dC dI cI cB cO n0 H.size a_t a_camp a_hears a_near a_gaps a_camp_kinds a_camp_yards a_camp_spots v_camp_tents v_camp_said v_camp_wall v_camp_bridge v_camp_counted v_camp_day v_camp_z f_gaps p1 hc) mdX1_farthest gX1_whomHeard_X1_farthest rfl rfl ⟨Nat.le_of_ble_eq_true rfl, Nat.le_of_ble_eq_true rfl⟩ [0, 1, 2] [3, 4] [2, 3, 4, 0, 1] rfl rfl rfl rfl rfl rfl rfl rfl rfl rfl hl.1 (Nat.le_of_ble_eq_true rfl) rfl dX1_whomHeard_53 (fun H locs hV => ?_)
    exact hret x4 _ _ _ _ dX1_whomHeard_56 hF hV
  refine lv_lookup (off := 48) (tgt := 57) C.1 C.2.1 dX1_whomHeard_9 rfl (by simp [Op.lookupswitch.offset, sw_nq (j := 1) hc9_1 rfl, sw_nq (j := 4) hc9_4 rfl, sw_nq (j := 6) hc9_6 rfl]) rfl ?_
  refine lv_aload_n C.1 C.2.1 dX1_whomHeard_57 rfl (lv_at hl 0 rfl) ?_
  refine g_get C hV flX1_whomHeard_15 0 rfl rfl dX1_whomHeard_58 ?_
  refine lv_iload_n C.1 C.2.1 dX1_whomHeard_61 rfl (lv_at hl 1 rfl) ?_
  refine g_iald C hV 3 rfl hF dX1_whomHeard_62 (fun x5 hF => ?_)
  exact hret x5 _ _ _ _ dX1_whomHeard_63 hF hV
abbrev rmX1_hearAll : Room := { frames := 2, cells := 0, slots := 0, locals := 47 }
theorem mdX1_hearAll : gMd yX1_hearAll wsX1_hearAll cX1_hearAll 2 none 0 := ⟨⟨_, rfl⟩, by decide +kernel⟩
theorem flX1_hearAll_21 : gFL wsX1_hearAll RX1 21 1 0 RX1 TX1 4 := ⟨rfl, fun w h => List.mem_cons_of_mem _ (List.mem_append_left _ (List.mem_append_right _ (h))), Nat.le_of_ble_eq_true rfl, List.mem_cons_of_mem _ (List.mem_append_left _ (List.mem_append_left _ (List.mem_of_getElem? (i := 0) rfl)))⟩
theorem flX1_hearAll_25 : gFL wsX1_hearAll RX1 25 0 3 RX0 TX0 10 := ⟨rfl, fun w h => List.mem_cons_of_mem _ (List.mem_append_right _ (h)), Nat.le_of_ble_eq_true rfl, List.mem_cons_of_mem _ (List.mem_append_left _ (List.mem_append_left _ (List.mem_of_getElem? (i := 1) rfl)))⟩
theorem flX1_hearAll_15 : gFL wsX1_hearAll RX1 15 1 2 RX1 TX1 4 := ⟨rfl, fun w h => List.mem_cons_of_mem _ (List.mem_append_left _ (List.mem_append_right _ (h))), Nat.le_of_ble_eq_true rfl, List.mem_cons_of_mem _ (List.mem_append_left _ (List.mem_append_left _ (List.mem_of_getElem? (i := 2) rfl)))⟩
theorem flX1_hearAll_9 : gFL wsX1_hearAll RX1 9 1 1 RX1 TX1 4 := ⟨rfl, fun w h => List.mem_cons_of_mem _ (List.mem_append_left _ (List.mem_append_right _ (h))), Nat.le_of_ble_eq_true rfl, List.mem_cons_of_mem _ (List.mem_append_left _ (List.mem_append_left _ (List.mem_of_getElem? (i := 3) rfl)))⟩
def L_X1_hearAll_2 (v_camp_tents : Int32) (n0 : Nat) (f_gaps : Nat → Int32) (f_camp_kinds : Nat → Int32) : Nat → Int32 → (Nat → Int32) → (Nat → Int32) → Option ((Nat → Int32) × (Nat → Int32)) := lpp3 (fun s1 t2 t3 kk2 => (if v_camp_tents ≤ s1 then some (t2, t3) else bd1 (F_X1_nearestBelow n0 f_gaps s1 v_camp_tents) (fun x4 => wrt t3 10 s1 x4 (fun g5 => bd1 (F_X1_whomHeard n0 v_camp_tents f_gaps g5 f_camp_kinds s1) (fun x6 => wrt t2 10 s1 x6 (fun g7 => nm (s1 + 1) (fun x8 => kk2 x8 g7 g5)))))))
def F_X1_hearAll (n0 : Nat) (v_camp_tents : Int32) (f_gaps : Nat → Int32) (f_hears : Nat → Int32) (f_near : Nat → Int32) (f_camp_kinds : Nat → Int32) : Option ((Nat → Int32) × (Nat → Int32)) := L_X1_hearAll_2 v_camp_tents n0 f_gaps f_camp_kinds n0 0 f_hears f_near
set_option maxRecDepth 100000 in
set_option maxHeartbeats 4000000 in
theorem k_X1_hearAll (l : Launch) (dC : Nat → ClassId) (dI : Nat → Nat → Nat) (cI cB cO : ClassId) (n0 sz : Nat) (a_t : Nat) (a_camp : Nat) (a_hears : Nat) (a_near : Nat) (a_gaps : Nat) (a_camp_kinds : Nat) (a_camp_yards : Nat) (a_camp_spots : Nat)   (v_camp_tents : Int32) (v_camp_said : Int32) (v_camp_wall : Int32) (v_camp_bridge : Int32) (v_camp_counted : Int32) (v_camp_day : Int32) (v_camp_z : Int32) (f_gaps : Nat → Int32) (f_hears : Nat → Int32) (f_near : Nat → Int32) (f_camp_kinds : Nat → Int32)   {o0 : Nat → Int32} {o1 : Nat → Int32} (hF : F_X1_hearAll n0 v_camp_tents f_gaps f_hears f_near f_camp_kinds = some (o0, o1)) : Met l yX1_hearAll wsX1_hearAll rmX1_hearAll (va_Pc [.ref a_t] (gPre (dC, dI) (gT cI cB cO) sz [oX1 a_t a_camp a_hears a_near a_gaps, oX0 a_camp a_camp_kinds a_camp_yards a_camp_spots v_camp_tents v_camp_said v_camp_wall v_camp_bridge v_camp_counted v_camp_day v_camp_z, aA cI a_gaps 100 f_gaps, aA cI a_hears 10 f_hears, aA cI a_near 10 f_near, aA cI a_camp_kinds 10 f_camp_kinds])) (gQv (dC, dI) (gT cI cB cO) sz [oX1 a_t a_camp a_hears a_near a_gaps, oX0 a_camp a_camp_kinds a_camp_yards a_camp_spots v_camp_tents v_camp_said v_camp_wall v_camp_bridge v_camp_counted v_camp_day v_camp_z, aA cI a_gaps 100 f_gaps, aA cI a_hears 10 f_hears, aA cI a_near 10 f_near, aA cI a_camp_kinds 10 f_camp_kinds] [oX1 a_t a_camp a_hears a_near a_gaps, oX0 a_camp a_camp_kinds a_camp_yards a_camp_spots v_camp_tents v_camp_said v_camp_wall v_camp_bridge v_camp_counted v_camp_day v_camp_z, aA cI a_gaps 100 f_gaps, aA cI a_hears 10 o0, aA cI a_near 10 o1, aA cI a_camp_kinds 10 f_camp_kinds]) 0 0 (va_A [oX1 a_t a_camp a_hears a_near a_gaps, oX0 a_camp a_camp_kinds a_camp_yards a_camp_spots v_camp_tents v_camp_said v_camp_wall v_camp_bridge v_camp_counted v_camp_day v_camp_z, aA cI a_gaps 100 f_gaps, aA cI a_hears 10 f_hears, aA cI a_near 10 f_near, aA cI a_camp_kinds 10 f_camp_kinds] sz) := by
  refine g_metV (Out := (Nat → Int32) × (Nat → Int32)) (fun oo => [oX1 a_t a_camp a_hears a_near a_gaps, oX0 a_camp a_camp_kinds a_camp_yards a_camp_spots v_camp_tents v_camp_said v_camp_wall v_camp_bridge v_camp_counted v_camp_day v_camp_z, aA cI a_gaps 100 f_gaps, aA cI a_hears 10 oo.1, aA cI a_near 10 oo.2, aA cI a_camp_kinds 10 f_camp_kinds]) (o0, o1) (own := RX1) (lv := [(0, .ref a_t)]) (by decide) rfl rfl (Nat.le_of_ble_eq_true rfl) rfl ?_
  intro p e s m args below meth c Q ls C hret hV hl
  obtain ⟨out, hout⟩ : ∃ z : (Nat → Int32) × (Nat → Int32), z = (o0, o1) := ⟨_, rfl⟩
  rw [← hout] at hF hret
  obtain ⟨H0, hH0⟩ : ∃ z : Heap, z = s.heap := ⟨_, rfl⟩
  obtain ⟨A0, hA0⟩ : ∃ z : Nat → Prop, z = va_A [oX1 a_t a_camp a_hears a_near a_gaps, oX0 a_camp a_camp_kinds a_camp_yards a_camp_spots v_camp_tents v_camp_said v_camp_wall v_camp_bridge v_camp_counted v_camp_day v_camp_z, aA cI a_gaps 100 f_gaps, aA cI a_hears 10 f_hears, aA cI a_near 10 f_near, aA cI a_camp_kinds 10 f_camp_kinds] s.heap.size := ⟨_, rfl⟩
  rw [← hA0] at hret hV
  rw [← hH0] at hret hV
  rw [← hH0]
  obtain ⟨H, locs, hH⟩ : ∃ (z : Heap) (y : List Loc), z = H0 ∧ y = [] := ⟨_, _, rfl, rfl⟩
  rw [← hH.1, ← hH.2]
  have hV : gV (dC, dI) (gT cI cB cO) A0 H0 s [oX1 a_t a_camp a_hears a_near a_gaps, oX0 a_camp a_camp_kinds a_camp_yards a_camp_spots v_camp_tents v_camp_said v_camp_wall v_camp_bridge v_camp_counted v_camp_day v_camp_z, aA cI a_gaps 100 f_gaps, aA cI a_hears 10 f_hears, aA cI a_near 10 f_near, aA cI a_camp_kinds 10 f_camp_kinds] H locs := by rw [hH.1, hH.2]; exact hV
  unfold F_X1_hearAll at hF
  refine lv_iconst (v := 0) C.1 C.2.1 dX1_hearAll_0 rfl ?_
  refine lv_istore_n (lv' := [(1, .int 0), (0, .ref a_t)]) C.1 C.2.1 dX1_hearAll_1 rfl hl (by decide) rfl (fun ls hl => ?_)
  have hL2 : ∀ (n : Nat) (s1 : Int32) (t2 : Nat → Int32) (t3 : Nat → Int32) (H : Heap) (locs : List Loc) (ls : Array Slot), gV (dC, dI) (gT cI cB cO) A0 H0 s [oX1 a_t a_camp a_hears a_near a_gaps, oX0 a_camp a_camp_kinds a_camp_yards a_camp_spots v_camp_tents v_camp_said v_camp_wall v_camp_bridge v_camp_counted v_camp_day v_camp_z, aA cI a_gaps 100 f_gaps, aA cI a_hears 10 t2, aA cI a_near 10 t3, aA cI a_camp_kinds 10 f_camp_kinds] H locs → lv_has ls 2 [(0, .ref a_t), (1, .int s1)] → L_X1_hearAll_2 v_camp_tents n0 f_gaps f_camp_kinds n s1 t2 t3 = some out → W p l e rmX1_hearAll s m args below meth c H locs 0 0 Q (F0 m 2 ls []) := by
    intro n
    induction n with
    | zero => intro s1 t2 t3 H locs ls hV hl hF; exact lpp3_z hF
    | succ n ih2 =>
      intro s1 t2 t3 H locs ls hV hl hF
      obtain ⟨kk2, hk2, hF⟩ := lpp3_g hF
      have hq2 : ∀ (s1 : Int32) (t2 : Nat → Int32) (t3 : Nat → Int32), kk2 s1 t2 t3 = some out → L_X1_hearAll_2 v_camp_tents n0 f_gaps f_camp_kinds n s1 t2 t3 = some out := fun _ _ _ h => by rw [hk2] at h; exact h
      refine lv_iload_n C.1 C.2.1 dX1_hearAll_2 rfl (lv_at hl 1 rfl) ?_
      refine lv_aload_n C.1 C.2.1 dX1_hearAll_3 rfl (lv_at hl 0 rfl) ?_
      refine g_get C hV flX1_hearAll_21 0 rfl rfl dX1_hearAll_4 ?_
      refine g_get C hV flX1_hearAll_25 1 rfl rfl dX1_hearAll_7 ?_
      refine g_icmp_ge (tgt := 48) C hF dX1_hearAll_10 rfl (fun hF => ?_) (fun hF => ?_)
      · exact hret (t2, t3) _ _ _ _ dX1_hearAll_48 hF hV
      refine lv_aload_n C.1 C.2.1 dX1_hearAll_13 rfl (lv_at hl 0 rfl) ?_
      refine g_get C hV flX1_hearAll_15 0 rfl rfl dX1_hearAll_14 ?_
      refine lv_iload_n C.1 C.2.1 dX1_hearAll_17 rfl (lv_at hl 1 rfl) ?_
      refine lv_aload_n C.1 C.2.1 dX1_hearAll_18 rfl (lv_at hl 0 rfl) ?_
      refine lv_iload_n C.1 C.2.1 dX1_hearAll_19 rfl (lv_at hl 1 rfl) ?_
      refine lv_aload_n C.1 C.2.1 dX1_hearAll_20 rfl (lv_at hl 0 rfl) ?_
      refine g_get C hV flX1_hearAll_21 0 rfl rfl dX1_hearAll_21 ?_
      refine g_get C hV flX1_hearAll_25 1 rfl rfl dX1_hearAll_24 ?_
      obtain ⟨x4, hc, hF⟩ := bd1_s hF
      refine g_cVi (ws' := [oX1 a_t a_camp a_hears a_near a_gaps, oX0 a_camp a_camp_kinds a_camp_yards a_camp_spots v_camp_tents v_camp_said v_camp_wall v_camp_bridge v_camp_counted v_camp_day v_camp_z, aA cI a_gaps 100 f_gaps, aA cI a_hears 10 t2, aA cI a_near 10 t3, aA cI a_camp_kinds 10 f_camp_kinds]) (wr := [oX0 a_camp a_camp_kinds a_camp_yards a_camp_spots v_camp_tents v_camp_said v_camp_wall v_camp_bridge v_camp_counted v_camp_day v_camp_z, aA cI a_hears 10 t2, aA cI a_near 10 t3, aA cI a_camp_kinds 10 f_camp_kinds]) C hV (k_X1_nearestBelow l dC dI cI cB cO n0 H.size a_t a_camp a_hears a_near a_gaps f_gaps s1 v_camp_tents hc) mdX1_nearestBelow gX1_hearAll_X1_nearestBelow rfl rfl ⟨Nat.le_of_ble_eq_true rfl, Nat.le_of_ble_eq_true rfl⟩ [0, 2] [1, 3, 4, 5] [4, 0, 5, 1, 2, 3] rfl rfl rfl rfl rfl rfl rfl rfl rfl rfl hl.1 (Nat.le_of_ble_eq_true rfl) rfl dX1_hearAll_27 (fun H locs hV => ?_)
      refine g_iast C hV 4 rfl hF (fun gq => [oX1 a_t a_camp a_hears a_near a_gaps, oX0 a_camp a_camp_kinds a_camp_yards a_camp_spots v_camp_tents v_camp_said v_camp_wall v_camp_bridge v_camp_counted v_camp_day v_camp_z, aA cI a_gaps 100 f_gaps, aA cI a_hears 10 t2, aA cI a_near 10 gq, aA cI a_camp_kinds 10 f_camp_kinds]) (fun _ => rfl) dX1_hearAll_30 (fun g5 H locs hF hV => ?_)
      refine lv_aload_n C.1 C.2.1 dX1_hearAll_31 rfl (lv_at hl 0 rfl) ?_
      refine g_get C hV flX1_hearAll_9 0 rfl rfl dX1_hearAll_32 ?_
      refine lv_iload_n C.1 C.2.1 dX1_hearAll_35 rfl (lv_at hl 1 rfl) ?_
      refine lv_aload_n C.1 C.2.1 dX1_hearAll_36 rfl (lv_at hl 0 rfl) ?_
      refine lv_iload_n C.1 C.2.1 dX1_hearAll_37 rfl (lv_at hl 1 rfl) ?_
      obtain ⟨x6, hc, hF⟩ := bd1_s hF
      refine g_cVi (ws' := [oX1 a_t a_camp a_hears a_near a_gaps, oX0 a_camp a_camp_kinds a_camp_yards a_camp_spots v_camp_tents v_camp_said v_camp_wall v_camp_bridge v_camp_counted v_camp_day v_camp_z, aA cI a_gaps 100 f_gaps, aA cI a_hears 10 t2, aA cI a_near 10 g5, aA cI a_camp_kinds 10 f_camp_kinds]) (wr := [aA cI a_hears 10 t2]) C hV (k_X1_whomHeard l dC dI cI cB cO n0 H.size a_t a_camp a_hears a_near a_gaps a_camp_kinds a_camp_yards a_camp_spots v_camp_tents v_camp_said v_camp_wall v_camp_bridge v_camp_counted v_camp_day v_camp_z f_gaps g5 f_camp_kinds s1 hc) mdX1_whomHeard gX1_hearAll_X1_whomHeard rfl rfl ⟨Nat.le_of_ble_eq_true rfl, Nat.le_of_ble_eq_true rfl⟩ [0, 1, 2, 4, 5] [3] [1, 2, 3, 0, 4, 5] rfl rfl rfl rfl rfl rfl rfl rfl rfl rfl hl.1 (Nat.le_of_ble_eq_true rfl) rfl dX1_hearAll_38 (fun H locs hV => ?_)
      refine g_iast C hV 3 rfl hF (fun gq => [oX1 a_t a_camp a_hears a_near a_gaps, oX0 a_camp a_camp_kinds a_camp_yards a_camp_spots v_camp_tents v_camp_said v_camp_wall v_camp_bridge v_camp_counted v_camp_day v_camp_z, aA cI a_gaps 100 f_gaps, aA cI a_hears 10 gq, aA cI a_near 10 g5, aA cI a_camp_kinds 10 f_camp_kinds]) (fun _ => rfl) dX1_hearAll_41 (fun g7 H locs hF hV => ?_)
      refine g_iinc C hF dX1_hearAll_42 (d := 1) rfl hl (j := 1) rfl (by decide) (fun y => [(1, .int y), (0, .ref a_t)]) (fun _ => rfl) (fun x8 ls hF hl => ?_)
      refine lv_goto (tgt := 2) C.1 C.2.1 dX1_hearAll_45 rfl ?_
      exact ih2 x8 g7 g5 H locs ls hV (lv_sub hl [1, 0] rfl) (hq2 x8 g7 g5 hF)
  exact hL2 n0 0 f_hears f_near H locs ls hV (lv_sub hl [1, 0] rfl) hF
abbrev rmX1_listen : Room := { frames := 3, cells := 0, slots := 0, locals := 81 }
theorem mdX1_listen : gMd yX1_listen wsX1_listen cX1_listen 2 none 0 := ⟨⟨_, rfl⟩, by decide +kernel⟩
theorem flX1_listen_21 : gFL wsX1_listen RX1 21 1 0 RX1 TX1 4 := ⟨rfl, fun w h => List.mem_cons_of_mem _ (List.mem_append_left _ (List.mem_append_right _ (h))), Nat.le_of_ble_eq_true rfl, List.mem_cons_of_mem _ (List.mem_append_left _ (List.mem_append_left _ (List.mem_append_left _ (List.mem_of_getElem? (i := 0) rfl))))⟩
theorem flX1_listen_25 : gFL wsX1_listen RX1 25 0 3 RX0 TX0 10 := ⟨rfl, fun w h => List.mem_cons_of_mem _ (List.mem_append_right _ (h)), Nat.le_of_ble_eq_true rfl, List.mem_cons_of_mem _ (List.mem_append_left _ (List.mem_append_left _ (List.mem_append_left _ (List.mem_of_getElem? (i := 1) rfl))))⟩
def L_X1_listen_2 (v_camp_tents : Int32) (n0 : Nat) (f_hears : Nat → Int32) (f_near : Nat → Int32) (f_camp_kinds : Nat → Int32) (v_camp_wall : Int32) (v_camp_bridge : Int32) (v_camp_counted : Int32) (f_camp_yards : Nat → Int32) : Nat → Int32 → (Nat → Int32) → Option ((Nat → Int32) × (Nat → Int32) × (Nat → Int32)) := lpp2 (fun s1 t2 kk2 => (if v_camp_tents ≤ s1 then bd2 (F_X1_hearAll n0 v_camp_tents t2 f_hears f_near f_camp_kinds) (fun g3 g4 => some (t2, g3, g4)) else bd1 (F_X1_measure n0 v_camp_wall v_camp_bridge v_camp_counted t2 f_camp_yards s1 s1) (fun g5 => nm (s1 + 1) (fun x6 => kk2 x6 g5))))
def F_X1_listen (n0 : Nat) (v_camp_tents : Int32) (v_camp_wall : Int32) (v_camp_bridge : Int32) (v_camp_counted : Int32) (f_gaps : Nat → Int32) (f_hears : Nat → Int32) (f_near : Nat → Int32) (f_camp_kinds : Nat → Int32) (f_camp_yards : Nat → Int32) : Option ((Nat → Int32) × (Nat → Int32) × (Nat → Int32)) := L_X1_listen_2 v_camp_tents n0 f_hears f_near f_camp_kinds v_camp_wall v_camp_bridge v_camp_counted f_camp_yards n0 0 f_gaps
set_option maxRecDepth 100000 in
set_option maxHeartbeats 4000000 in
theorem k_X1_listen (l : Launch) (dC : Nat → ClassId) (dI : Nat → Nat → Nat) (cI cB cO : ClassId) (n0 sz : Nat) (a_t : Nat) (a_camp : Nat) (a_hears : Nat) (a_near : Nat) (a_gaps : Nat) (a_camp_kinds : Nat) (a_camp_yards : Nat) (a_camp_spots : Nat)   (v_camp_tents : Int32) (v_camp_said : Int32) (v_camp_wall : Int32) (v_camp_bridge : Int32) (v_camp_counted : Int32) (v_camp_day : Int32) (v_camp_z : Int32) (f_gaps : Nat → Int32) (f_hears : Nat → Int32) (f_near : Nat → Int32) (f_camp_kinds : Nat → Int32) (f_camp_yards : Nat → Int32)   {o0 : Nat → Int32} {o1 : Nat → Int32} {o2 : Nat → Int32} (hF : F_X1_listen n0 v_camp_tents v_camp_wall v_camp_bridge v_camp_counted f_gaps f_hears f_near f_camp_kinds f_camp_yards = some (o0, o1, o2)) : Met l yX1_listen wsX1_listen rmX1_listen (va_Pc [.ref a_t] (gPre (dC, dI) (gT cI cB cO) sz [oX1 a_t a_camp a_hears a_near a_gaps, oX0 a_camp a_camp_kinds a_camp_yards a_camp_spots v_camp_tents v_camp_said v_camp_wall v_camp_bridge v_camp_counted v_camp_day v_camp_z, aA cI a_gaps 100 f_gaps, aA cI a_hears 10 f_hears, aA cI a_near 10 f_near, aA cI a_camp_kinds 10 f_camp_kinds, aA cI a_camp_yards 10 f_camp_yards])) (gQv (dC, dI) (gT cI cB cO) sz [oX1 a_t a_camp a_hears a_near a_gaps, oX0 a_camp a_camp_kinds a_camp_yards a_camp_spots v_camp_tents v_camp_said v_camp_wall v_camp_bridge v_camp_counted v_camp_day v_camp_z, aA cI a_gaps 100 f_gaps, aA cI a_hears 10 f_hears, aA cI a_near 10 f_near, aA cI a_camp_kinds 10 f_camp_kinds, aA cI a_camp_yards 10 f_camp_yards] [oX1 a_t a_camp a_hears a_near a_gaps, oX0 a_camp a_camp_kinds a_camp_yards a_camp_spots v_camp_tents v_camp_said v_camp_wall v_camp_bridge v_camp_counted v_camp_day v_camp_z, aA cI a_gaps 100 o0, aA cI a_hears 10 o1, aA cI a_near 10 o2, aA cI a_camp_kinds 10 f_camp_kinds, aA cI a_camp_yards 10 f_camp_yards]) 0 0 (va_A [oX1 a_t a_camp a_hears a_near a_gaps, oX0 a_camp a_camp_kinds a_camp_yards a_camp_spots v_camp_tents v_camp_said v_camp_wall v_camp_bridge v_camp_counted v_camp_day v_camp_z, aA cI a_gaps 100 f_gaps, aA cI a_hears 10 f_hears, aA cI a_near 10 f_near, aA cI a_camp_kinds 10 f_camp_kinds, aA cI a_camp_yards 10 f_camp_yards] sz) := by
  refine g_metV (Out := (Nat → Int32) × (Nat → Int32) × (Nat → Int32)) (fun oo => [oX1 a_t a_camp a_hears a_near a_gaps, oX0 a_camp a_camp_kinds a_camp_yards a_camp_spots v_camp_tents v_camp_said v_camp_wall v_camp_bridge v_camp_counted v_camp_day v_camp_z, aA cI a_gaps 100 oo.1, aA cI a_hears 10 oo.2.1, aA cI a_near 10 oo.2.2, aA cI a_camp_kinds 10 f_camp_kinds, aA cI a_camp_yards 10 f_camp_yards]) (o0, o1, o2) (own := RX1) (lv := [(0, .ref a_t)]) (by decide) rfl rfl (Nat.le_of_ble_eq_true rfl) rfl ?_
  intro p e s m args below meth c Q ls C hret hV hl
  obtain ⟨out, hout⟩ : ∃ z : (Nat → Int32) × (Nat → Int32) × (Nat → Int32), z = (o0, o1, o2) := ⟨_, rfl⟩
  rw [← hout] at hF hret
  obtain ⟨H0, hH0⟩ : ∃ z : Heap, z = s.heap := ⟨_, rfl⟩
  obtain ⟨A0, hA0⟩ : ∃ z : Nat → Prop, z = va_A [oX1 a_t a_camp a_hears a_near a_gaps, oX0 a_camp a_camp_kinds a_camp_yards a_camp_spots v_camp_tents v_camp_said v_camp_wall v_camp_bridge v_camp_counted v_camp_day v_camp_z, aA cI a_gaps 100 f_gaps, aA cI a_hears 10 f_hears, aA cI a_near 10 f_near, aA cI a_camp_kinds 10 f_camp_kinds, aA cI a_camp_yards 10 f_camp_yards] s.heap.size := ⟨_, rfl⟩
  rw [← hA0] at hret hV
  rw [← hH0] at hret hV
  rw [← hH0]
  obtain ⟨H, locs, hH⟩ : ∃ (z : Heap) (y : List Loc), z = H0 ∧ y = [] := ⟨_, _, rfl, rfl⟩
  rw [← hH.1, ← hH.2]
  have hV : gV (dC, dI) (gT cI cB cO) A0 H0 s [oX1 a_t a_camp a_hears a_near a_gaps, oX0 a_camp a_camp_kinds a_camp_yards a_camp_spots v_camp_tents v_camp_said v_camp_wall v_camp_bridge v_camp_counted v_camp_day v_camp_z, aA cI a_gaps 100 f_gaps, aA cI a_hears 10 f_hears, aA cI a_near 10 f_near, aA cI a_camp_kinds 10 f_camp_kinds, aA cI a_camp_yards 10 f_camp_yards] H locs := by rw [hH.1, hH.2]; exact hV
  unfold F_X1_listen at hF
  refine lv_iconst (v := 0) C.1 C.2.1 dX1_listen_0 rfl ?_
  refine lv_istore_n (lv' := [(1, .int 0), (0, .ref a_t)]) C.1 C.2.1 dX1_listen_1 rfl hl (by decide) rfl (fun ls hl => ?_)
  have hL2 : ∀ (n : Nat) (s1 : Int32) (t2 : Nat → Int32) (H : Heap) (locs : List Loc) (ls : Array Slot), gV (dC, dI) (gT cI cB cO) A0 H0 s [oX1 a_t a_camp a_hears a_near a_gaps, oX0 a_camp a_camp_kinds a_camp_yards a_camp_spots v_camp_tents v_camp_said v_camp_wall v_camp_bridge v_camp_counted v_camp_day v_camp_z, aA cI a_gaps 100 t2, aA cI a_hears 10 f_hears, aA cI a_near 10 f_near, aA cI a_camp_kinds 10 f_camp_kinds, aA cI a_camp_yards 10 f_camp_yards] H locs → lv_has ls 2 [(0, .ref a_t), (1, .int s1)] → L_X1_listen_2 v_camp_tents n0 f_hears f_near f_camp_kinds v_camp_wall v_camp_bridge v_camp_counted f_camp_yards n s1 t2 = some out → W p l e rmX1_listen s m args below meth c H locs 0 0 Q (F0 m 2 ls []) := by
    intro n
    induction n with
    | zero => intro s1 t2 H locs ls hV hl hF; exact lpp2_z hF
    | succ n ih2 =>
      intro s1 t2 H locs ls hV hl hF
      obtain ⟨kk2, hk2, hF⟩ := lpp2_g hF
      have hq2 : ∀ (s1 : Int32) (t2 : Nat → Int32), kk2 s1 t2 = some out → L_X1_listen_2 v_camp_tents n0 f_hears f_near f_camp_kinds v_camp_wall v_camp_bridge v_camp_counted f_camp_yards n s1 t2 = some out := fun _ _ h => by rw [hk2] at h; exact h
      refine lv_iload_n C.1 C.2.1 dX1_listen_2 rfl (lv_at hl 1 rfl) ?_
      refine lv_aload_n C.1 C.2.1 dX1_listen_3 rfl (lv_at hl 0 rfl) ?_
      refine g_get C hV flX1_listen_21 0 rfl rfl dX1_listen_4 ?_
      refine g_get C hV flX1_listen_25 1 rfl rfl dX1_listen_7 ?_
      refine g_icmp_ge (tgt := 25) C hF dX1_listen_10 rfl (fun hF => ?_) (fun hF => ?_)
      · refine lv_aload_n C.1 C.2.1 dX1_listen_25 rfl (lv_at hl 0 rfl) ?_
        obtain ⟨g3, g4, hc, hF⟩ := bd2_s hF
        refine g_cVv (ws' := [oX1 a_t a_camp a_hears a_near a_gaps, oX0 a_camp a_camp_kinds a_camp_yards a_camp_spots v_camp_tents v_camp_said v_camp_wall v_camp_bridge v_camp_counted v_camp_day v_camp_z, aA cI a_gaps 100 t2, aA cI a_hears 10 g3, aA cI a_near 10 g4, aA cI a_camp_kinds 10 f_camp_kinds, aA cI a_camp_yards 10 f_camp_yards]) (wr := [aA cI a_camp_yards 10 f_camp_yards]) C hV (k_X1_hearAll l dC dI cI cB cO n0 H.size a_t a_camp a_hears a_near a_gaps a_camp_kinds a_camp_yards a_camp_spots v_camp_tents v_camp_said v_camp_wall v_camp_bridge v_camp_counted v_camp_day v_camp_z t2 f_hears f_near f_camp_kinds hc) mdX1_hearAll gX1_listen_X1_hearAll rfl rfl ⟨Nat.le_of_ble_eq_true rfl, Nat.le_of_ble_eq_true rfl⟩ [0, 1, 2, 3, 4, 5] [6] [1, 2, 3, 4, 5, 6, 0] rfl rfl rfl rfl rfl rfl rfl rfl rfl rfl hl.1 (Nat.le_of_ble_eq_true rfl) rfl dX1_listen_26 (fun H locs hV => ?_)
        exact hret (t2, g3, g4) _ _ _ _ dX1_listen_29 hF hV
      refine lv_aload_n C.1 C.2.1 dX1_listen_13 rfl (lv_at hl 0 rfl) ?_
      refine lv_iload_n C.1 C.2.1 dX1_listen_14 rfl (lv_at hl 1 rfl) ?_
      refine lv_iload_n C.1 C.2.1 dX1_listen_15 rfl (lv_at hl 1 rfl) ?_
      obtain ⟨g5, hc, hF⟩ := bd1_s hF
      refine g_cVv (ws' := [oX1 a_t a_camp a_hears a_near a_gaps, oX0 a_camp a_camp_kinds a_camp_yards a_camp_spots v_camp_tents v_camp_said v_camp_wall v_camp_bridge v_camp_counted v_camp_day v_camp_z, aA cI a_gaps 100 g5, aA cI a_hears 10 f_hears, aA cI a_near 10 f_near, aA cI a_camp_kinds 10 f_camp_kinds, aA cI a_camp_yards 10 f_camp_yards]) (wr := [aA cI a_hears 10 f_hears, aA cI a_near 10 f_near, aA cI a_camp_kinds 10 f_camp_kinds]) C hV (k_X1_measure l dC dI cI cB cO n0 H.size a_t a_camp a_hears a_near a_gaps a_camp_kinds a_camp_yards a_camp_spots v_camp_tents v_camp_said v_camp_wall v_camp_bridge v_camp_counted v_camp_day v_camp_z t2 f_camp_yards s1 s1 hc) mdX1_measure gX1_listen_X1_measure rfl rfl ⟨Nat.le_of_ble_eq_true rfl, Nat.le_of_ble_eq_true rfl⟩ [0, 1, 2, 6] [3, 4, 5] [3, 4, 5, 0, 1, 2, 6] rfl rfl rfl rfl rfl rfl rfl rfl rfl rfl hl.1 (Nat.le_of_ble_eq_true rfl) rfl dX1_listen_16 (fun H locs hV => ?_)
      refine g_iinc C hF dX1_listen_19 (d := 1) rfl hl (j := 1) rfl (by decide) (fun y => [(1, .int y), (0, .ref a_t)]) (fun _ => rfl) (fun x6 ls hF hl => ?_)
      refine lv_goto (tgt := 2) C.1 C.2.1 dX1_listen_22 rfl ?_
      exact ih2 x6 g5 H locs ls hV (lv_sub hl [1, 0] rfl) (hq2 x6 g5 hF)
  exact hL2 n0 0 f_gaps H locs ls hV (lv_sub hl [1, 0] rfl) hF
abbrev rmX1_listenAgain : Room := { frames := 3, cells := 0, slots := 0, locals := 81 }
theorem mdX1_listenAgain : gMd yX1_listenAgain wsX1_listenAgain cX1_listenAgain 2 none 1 := ⟨⟨_, rfl⟩, by decide +kernel⟩
theorem flX1_listenAgain_21 : gFL wsX1_listenAgain RX1 21 1 0 RX1 TX1 4 := ⟨rfl, fun w h => List.mem_cons_of_mem _ (List.mem_append_left _ (List.mem_append_right _ (h))), Nat.le_of_ble_eq_true rfl, List.mem_cons_of_mem _ (List.mem_append_left _ (List.mem_append_left _ (List.mem_append_left _ (List.mem_of_getElem? (i := 0) rfl))))⟩
theorem flX1_listenAgain_25 : gFL wsX1_listenAgain RX1 25 0 3 RX0 TX0 10 := ⟨rfl, fun w h => List.mem_cons_of_mem _ (List.mem_append_right _ (h)), Nat.le_of_ble_eq_true rfl, List.mem_cons_of_mem _ (List.mem_append_left _ (List.mem_append_left _ (List.mem_append_left _ (List.mem_of_getElem? (i := 1) rfl))))⟩
def F_X1_listenAgain (n0 : Nat) (v_camp_tents : Int32) (v_camp_wall : Int32) (v_camp_bridge : Int32) (v_camp_counted : Int32) (f_gaps : Nat → Int32) (f_hears : Nat → Int32) (f_near : Nat → Int32) (f_camp_kinds : Nat → Int32) (f_camp_yards : Nat → Int32) (p1 : Int32) : Option ((Nat → Int32) × (Nat → Int32) × (Nat → Int32)) := bd1 (F_X0_has n0 v_camp_tents p1) (fun x1 => (if x1 = 0 then some (f_gaps, f_hears, f_near) else bd1 (F_X1_measure n0 v_camp_wall v_camp_bridge v_camp_counted f_gaps f_camp_yards p1 v_camp_tents) (fun g2 => bd2 (F_X1_hearAll n0 v_camp_tents g2 f_hears f_near f_camp_kinds) (fun g3 g4 => some (g2, g3, g4)))))
set_option maxRecDepth 100000 in
set_option maxHeartbeats 4000000 in
theorem k_X1_listenAgain (l : Launch) (dC : Nat → ClassId) (dI : Nat → Nat → Nat) (cI cB cO : ClassId) (n0 sz : Nat) (a_t : Nat) (a_camp : Nat) (a_hears : Nat) (a_near : Nat) (a_gaps : Nat) (a_camp_kinds : Nat) (a_camp_yards : Nat) (a_camp_spots : Nat)   (v_camp_tents : Int32) (v_camp_said : Int32) (v_camp_wall : Int32) (v_camp_bridge : Int32) (v_camp_counted : Int32) (v_camp_day : Int32) (v_camp_z : Int32) (f_gaps : Nat → Int32) (f_hears : Nat → Int32) (f_near : Nat → Int32) (f_camp_kinds : Nat → Int32) (f_camp_yards : Nat → Int32) (p1 : Int32)  {o0 : Nat → Int32} {o1 : Nat → Int32} {o2 : Nat → Int32} (hF : F_X1_listenAgain n0 v_camp_tents v_camp_wall v_camp_bridge v_camp_counted f_gaps f_hears f_near f_camp_kinds f_camp_yards p1 = some (o0, o1, o2)) : Met l yX1_listenAgain wsX1_listenAgain rmX1_listenAgain (va_Pc [.ref a_t, .int p1] (gPre (dC, dI) (gT cI cB cO) sz [oX1 a_t a_camp a_hears a_near a_gaps, oX0 a_camp a_camp_kinds a_camp_yards a_camp_spots v_camp_tents v_camp_said v_camp_wall v_camp_bridge v_camp_counted v_camp_day v_camp_z, aA cI a_gaps 100 f_gaps, aA cI a_hears 10 f_hears, aA cI a_near 10 f_near, aA cI a_camp_kinds 10 f_camp_kinds, aA cI a_camp_yards 10 f_camp_yards])) (gQv (dC, dI) (gT cI cB cO) sz [oX1 a_t a_camp a_hears a_near a_gaps, oX0 a_camp a_camp_kinds a_camp_yards a_camp_spots v_camp_tents v_camp_said v_camp_wall v_camp_bridge v_camp_counted v_camp_day v_camp_z, aA cI a_gaps 100 f_gaps, aA cI a_hears 10 f_hears, aA cI a_near 10 f_near, aA cI a_camp_kinds 10 f_camp_kinds, aA cI a_camp_yards 10 f_camp_yards] [oX1 a_t a_camp a_hears a_near a_gaps, oX0 a_camp a_camp_kinds a_camp_yards a_camp_spots v_camp_tents v_camp_said v_camp_wall v_camp_bridge v_camp_counted v_camp_day v_camp_z, aA cI a_gaps 100 o0, aA cI a_hears 10 o1, aA cI a_near 10 o2, aA cI a_camp_kinds 10 f_camp_kinds, aA cI a_camp_yards 10 f_camp_yards]) 0 0 (va_A [oX1 a_t a_camp a_hears a_near a_gaps, oX0 a_camp a_camp_kinds a_camp_yards a_camp_spots v_camp_tents v_camp_said v_camp_wall v_camp_bridge v_camp_counted v_camp_day v_camp_z, aA cI a_gaps 100 f_gaps, aA cI a_hears 10 f_hears, aA cI a_near 10 f_near, aA cI a_camp_kinds 10 f_camp_kinds, aA cI a_camp_yards 10 f_camp_yards] sz) := by
  refine g_metV (Out := (Nat → Int32) × (Nat → Int32) × (Nat → Int32)) (fun oo => [oX1 a_t a_camp a_hears a_near a_gaps, oX0 a_camp a_camp_kinds a_camp_yards a_camp_spots v_camp_tents v_camp_said v_camp_wall v_camp_bridge v_camp_counted v_camp_day v_camp_z, aA cI a_gaps 100 oo.1, aA cI a_hears 10 oo.2.1, aA cI a_near 10 oo.2.2, aA cI a_camp_kinds 10 f_camp_kinds, aA cI a_camp_yards 10 f_camp_yards]) (o0, o1, o2) (own := RX1) (lv := [(0, .ref a_t), (1, .int p1)]) (by decide) rfl rfl (Nat.le_of_ble_eq_true rfl) rfl ?_
  intro p e s m args below meth c Q ls C hret hV hl
  obtain ⟨out, hout⟩ : ∃ z : (Nat → Int32) × (Nat → Int32) × (Nat → Int32), z = (o0, o1, o2) := ⟨_, rfl⟩
  rw [← hout] at hF hret
  obtain ⟨H0, hH0⟩ : ∃ z : Heap, z = s.heap := ⟨_, rfl⟩
  obtain ⟨A0, hA0⟩ : ∃ z : Nat → Prop, z = va_A [oX1 a_t a_camp a_hears a_near a_gaps, oX0 a_camp a_camp_kinds a_camp_yards a_camp_spots v_camp_tents v_camp_said v_camp_wall v_camp_bridge v_camp_counted v_camp_day v_camp_z, aA cI a_gaps 100 f_gaps, aA cI a_hears 10 f_hears, aA cI a_near 10 f_near, aA cI a_camp_kinds 10 f_camp_kinds, aA cI a_camp_yards 10 f_camp_yards] s.heap.size := ⟨_, rfl⟩
  rw [← hA0] at hret hV
  rw [← hH0] at hret hV
  rw [← hH0]
  obtain ⟨H, locs, hH⟩ : ∃ (z : Heap) (y : List Loc), z = H0 ∧ y = [] := ⟨_, _, rfl, rfl⟩
  rw [← hH.1, ← hH.2]
  have hV : gV (dC, dI) (gT cI cB cO) A0 H0 s [oX1 a_t a_camp a_hears a_near a_gaps, oX0 a_camp a_camp_kinds a_camp_yards a_camp_spots v_camp_tents v_camp_said v_camp_wall v_camp_bridge v_camp_counted v_camp_day v_camp_z, aA cI a_gaps 100 f_gaps, aA cI a_hears 10 f_hears, aA cI a_near 10 f_near, aA cI a_camp_kinds 10 f_camp_kinds, aA cI a_camp_yards 10 f_camp_yards] H locs := by rw [hH.1, hH.2]; exact hV
  unfold F_X1_listenAgain at hF
  refine lv_aload_n C.1 C.2.1 dX1_listenAgain_0 rfl (lv_at hl 0 rfl) ?_
  refine g_get C hV flX1_listenAgain_21 0 rfl rfl dX1_listenAgain_1 ?_
  refine lv_iload_n C.1 C.2.1 dX1_listenAgain_4 rfl (lv_at hl 1 rfl) ?_
  obtain ⟨x1, hc, hF⟩ := bd1_s hF
  refine g_cVi (ws' := [oX1 a_t a_camp a_hears a_near a_gaps, oX0 a_camp a_camp_kinds a_camp_yards a_camp_spots v_camp_tents v_camp_said v_camp_wall v_camp_bridge v_camp_counted v_camp_day v_camp_z, aA cI a_gaps 100 f_gaps, aA cI a_hears 10 f_hears, aA cI a_near 10 f_near, aA cI a_camp_kinds 10 f_camp_kinds, aA cI a_camp_yards 10 f_camp_yards]) (wr := [oX1 a_t a_camp a_hears a_near a_gaps, aA cI a_gaps 100 f_gaps, aA cI a_hears 10 f_hears, aA cI a_near 10 f_near, aA cI a_camp_kinds 10 f_camp_kinds, aA cI a_camp_yards 10 f_camp_yards]) C hV (k_X0_has l dC dI cI cB cO n0 H.size a_camp a_camp_kinds a_camp_yards a_camp_spots v_camp_tents v_camp_said v_camp_wall v_camp_bridge v_camp_counted v_camp_day v_camp_z p1 hc) mdX0_has gX1_listenAgain_X0_has rfl rfl ⟨Nat.le_of_ble_eq_true rfl, Nat.le_of_ble_eq_true rfl⟩ [1] [0, 2, 3, 4, 5, 6] [0, 6, 1, 2, 3, 4, 5] rfl rfl rfl rfl rfl rfl rfl rfl rfl rfl hl.1 (Nat.le_of_ble_eq_true rfl) rfl dX1_listenAgain_5 (fun H locs hV => ?_)
  refine g_if_eq (tgt := 27) C hF dX1_listenAgain_8 rfl (fun hF => ?_) (fun hF => ?_)
  · exact hret (f_gaps, f_hears, f_near) _ _ _ _ dX1_listenAgain_27 hF hV
  refine lv_aload_n C.1 C.2.1 dX1_listenAgain_11 rfl (lv_at hl 0 rfl) ?_
  refine lv_iload_n C.1 C.2.1 dX1_listenAgain_12 rfl (lv_at hl 1 rfl) ?_
  refine lv_aload_n C.1 C.2.1 dX1_listenAgain_13 rfl (lv_at hl 0 rfl) ?_
  refine g_get C hV flX1_listenAgain_21 0 rfl rfl dX1_listenAgain_14 ?_
  refine g_get C hV flX1_listenAgain_25 1 rfl rfl dX1_listenAgain_17 ?_
  obtain ⟨g2, hc, hF⟩ := bd1_s hF
  refine g_cVv (ws' := [oX1 a_t a_camp a_hears a_near a_gaps, oX0 a_camp a_camp_kinds a_camp_yards a_camp_spots v_camp_tents v_camp_said v_camp_wall v_camp_bridge v_camp_counted v_camp_day v_camp_z, aA cI a_gaps 100 g2, aA cI a_hears 10 f_hears, aA cI a_near 10 f_near, aA cI a_camp_kinds 10 f_camp_kinds, aA cI a_camp_yards 10 f_camp_yards]) (wr := [aA cI a_hears 10 f_hears, aA cI a_near 10 f_near, aA cI a_camp_kinds 10 f_camp_kinds]) C hV (k_X1_measure l dC dI cI cB cO n0 H.size a_t a_camp a_hears a_near a_gaps a_camp_kinds a_camp_yards a_camp_spots v_camp_tents v_camp_said v_camp_wall v_camp_bridge v_camp_counted v_camp_day v_camp_z f_gaps f_camp_yards p1 v_camp_tents hc) mdX1_measure gX1_listenAgain_X1_measure rfl rfl ⟨Nat.le_of_ble_eq_true rfl, Nat.le_of_ble_eq_true rfl⟩ [0, 1, 2, 6] [3, 4, 5] [3, 4, 5, 0, 1, 2, 6] rfl rfl rfl rfl rfl rfl rfl rfl rfl rfl hl.1 (Nat.le_of_ble_eq_true rfl) rfl dX1_listenAgain_20 (fun H locs hV => ?_)
  refine lv_aload_n C.1 C.2.1 dX1_listenAgain_23 rfl (lv_at hl 0 rfl) ?_
  obtain ⟨g3, g4, hc, hF⟩ := bd2_s hF
  refine g_cVv (ws' := [oX1 a_t a_camp a_hears a_near a_gaps, oX0 a_camp a_camp_kinds a_camp_yards a_camp_spots v_camp_tents v_camp_said v_camp_wall v_camp_bridge v_camp_counted v_camp_day v_camp_z, aA cI a_gaps 100 g2, aA cI a_hears 10 g3, aA cI a_near 10 g4, aA cI a_camp_kinds 10 f_camp_kinds, aA cI a_camp_yards 10 f_camp_yards]) (wr := [aA cI a_camp_yards 10 f_camp_yards]) C hV (k_X1_hearAll l dC dI cI cB cO n0 H.size a_t a_camp a_hears a_near a_gaps a_camp_kinds a_camp_yards a_camp_spots v_camp_tents v_camp_said v_camp_wall v_camp_bridge v_camp_counted v_camp_day v_camp_z g2 f_hears f_near f_camp_kinds hc) mdX1_hearAll gX1_listenAgain_X1_hearAll rfl rfl ⟨Nat.le_of_ble_eq_true rfl, Nat.le_of_ble_eq_true rfl⟩ [0, 1, 2, 3, 4, 5] [6] [1, 2, 3, 4, 5, 6, 0] rfl rfl rfl rfl rfl rfl rfl rfl rfl rfl hl.1 (Nat.le_of_ble_eq_true rfl) rfl dX1_listenAgain_24 (fun H locs hV => ?_)
  exact hret (g2, g3, g4) _ _ _ _ dX1_listenAgain_27 hF hV
abbrev rmX1_willSay : Room := { frames := 0, cells := 0, slots := 0, locals := 0 }
theorem mdX1_willSay : gMd yX1_willSay wsX1_willSay cX1_willSay 6 (some .int) 2 := ⟨⟨_, rfl⟩, by decide +kernel⟩
theorem flX1_willSay_21 : gFL wsX1_willSay RX1 21 1 0 RX1 TX1 4 := ⟨rfl, fun w h => List.mem_cons_of_mem _ (List.mem_append_left _ (List.mem_append_right _ (h))), Nat.le_of_ble_eq_true rfl, List.mem_cons_of_mem _ (List.mem_append_left _ (List.mem_append_left _ (List.mem_of_getElem? (i := 0) rfl)))⟩
theorem flX1_willSay_56 : gFL wsX1_willSay RX1 56 0 0 RX0 TX0 10 := ⟨rfl, fun w h => List.mem_cons_of_mem _ (List.mem_append_right _ (h)), Nat.le_of_ble_eq_true rfl, List.mem_cons_of_mem _ (List.mem_append_left _ (List.mem_append_left _ (List.mem_of_getElem? (i := 1) rfl)))⟩
theorem flX1_willSay_9 : gFL wsX1_willSay RX1 9 1 1 RX1 TX1 4 := ⟨rfl, fun w h => List.mem_cons_of_mem _ (List.mem_append_left _ (List.mem_append_right _ (h))), Nat.le_of_ble_eq_true rfl, List.mem_cons_of_mem _ (List.mem_append_left _ (List.mem_append_left _ (List.mem_of_getElem? (i := 2) rfl)))⟩
theorem flX1_willSay_15 : gFL wsX1_willSay RX1 15 1 2 RX1 TX1 4 := ⟨rfl, fun w h => List.mem_cons_of_mem _ (List.mem_append_left _ (List.mem_append_right _ (h))), Nat.le_of_ble_eq_true rfl, List.mem_cons_of_mem _ (List.mem_append_left _ (List.mem_append_left _ (List.mem_of_getElem? (i := 3) rfl)))⟩
def F_X1_willSay (n0 : Nat) (f_hears : Nat → Int32) (f_near : Nat → Int32) (f_camp_kinds : Nat → Int32) (p1 : Int32) (p2 : Int32) : Option (Int32) := nm (p2 >>> (p1 &&& 31)) (fun x1 => nm (x1 &&& 1) (fun x2 => rd f_camp_kinds 10 p1 (fun x3 => (if x3 = 2 then some (1 : Int32) else (if x3 = 3 then some x2 else rd f_hears 10 p1 (fun x4 => (if x4 = ((-1)) then some x2 else rd f_hears 10 p1 (fun x5 => nm (p2 >>> (x5 &&& 31)) (fun x6 => nm (x6 &&& 1) (fun x7 => (if x3 = 5 then nm (1 - x7) (fun x8 => some x8) else (if x3 = 6 then nm (1 - x7) (fun x13 => some x13) else (if x3 = 4 then rd f_near 10 p1 (fun x9 => (if x9 = ((-1)) then some x7 else rd f_near 10 p1 (fun x10 => nm (p2 >>> (x10 &&& 31)) (fun x11 => nm (x11 &&& 1) (fun x12 => (if x12 = x7 then some x7 else some x2)))))) else some x7)))))))))))))
set_option maxRecDepth 100000 in
set_option maxHeartbeats 4000000 in
theorem k_X1_willSay (l : Launch) (dC : Nat → ClassId) (dI : Nat → Nat → Nat) (cI cB cO : ClassId) (n0 sz : Nat) (a_t : Nat) (a_camp : Nat) (a_hears : Nat) (a_near : Nat) (a_gaps : Nat) (a_camp_kinds : Nat) (a_camp_yards : Nat) (a_camp_spots : Nat)   (v_camp_tents : Int32) (v_camp_said : Int32) (v_camp_wall : Int32) (v_camp_bridge : Int32) (v_camp_counted : Int32) (v_camp_day : Int32) (v_camp_z : Int32) (f_hears : Nat → Int32) (f_near : Nat → Int32) (f_camp_kinds : Nat → Int32) (p1 : Int32) (p2 : Int32)  {ro : Int32} (hF : F_X1_willSay n0 f_hears f_near f_camp_kinds p1 p2 = some ro) : Met l yX1_willSay wsX1_willSay rmX1_willSay (va_Pc [.ref a_t, .int p1, .int p2] (gPre (dC, dI) (gT cI cB cO) sz [oX1 a_t a_camp a_hears a_near a_gaps, oX0 a_camp a_camp_kinds a_camp_yards a_camp_spots v_camp_tents v_camp_said v_camp_wall v_camp_bridge v_camp_counted v_camp_day v_camp_z, aA cI a_hears 10 f_hears, aA cI a_near 10 f_near, aA cI a_camp_kinds 10 f_camp_kinds])) (gQi (dC, dI) (gT cI cB cO) sz [oX1 a_t a_camp a_hears a_near a_gaps, oX0 a_camp a_camp_kinds a_camp_yards a_camp_spots v_camp_tents v_camp_said v_camp_wall v_camp_bridge v_camp_counted v_camp_day v_camp_z, aA cI a_hears 10 f_hears, aA cI a_near 10 f_near, aA cI a_camp_kinds 10 f_camp_kinds] ro [oX1 a_t a_camp a_hears a_near a_gaps, oX0 a_camp a_camp_kinds a_camp_yards a_camp_spots v_camp_tents v_camp_said v_camp_wall v_camp_bridge v_camp_counted v_camp_day v_camp_z, aA cI a_hears 10 f_hears, aA cI a_near 10 f_near, aA cI a_camp_kinds 10 f_camp_kinds]) 0 0 (va_A [oX1 a_t a_camp a_hears a_near a_gaps, oX0 a_camp a_camp_kinds a_camp_yards a_camp_spots v_camp_tents v_camp_said v_camp_wall v_camp_bridge v_camp_counted v_camp_day v_camp_z, aA cI a_hears 10 f_hears, aA cI a_near 10 f_near, aA cI a_camp_kinds 10 f_camp_kinds] sz) := by
  refine g_metI (Out := Int32) (fun oo => oo) (fun oo => [oX1 a_t a_camp a_hears a_near a_gaps, oX0 a_camp a_camp_kinds a_camp_yards a_camp_spots v_camp_tents v_camp_said v_camp_wall v_camp_bridge v_camp_counted v_camp_day v_camp_z, aA cI a_hears 10 f_hears, aA cI a_near 10 f_near, aA cI a_camp_kinds 10 f_camp_kinds]) ro (own := RX1) (lv := [(0, .ref a_t), (1, .int p1), (2, .int p2)]) (by decide) rfl rfl (Nat.le_of_ble_eq_true rfl) rfl ?_
  intro p e s m args below meth c Q ls C hret hV hl
  obtain ⟨out, hout⟩ : ∃ z : Int32, z = ro := ⟨_, rfl⟩
  rw [← hout] at hF hret
  obtain ⟨H0, hH0⟩ : ∃ z : Heap, z = s.heap := ⟨_, rfl⟩
  obtain ⟨A0, hA0⟩ : ∃ z : Nat → Prop, z = va_A [oX1 a_t a_camp a_hears a_near a_gaps, oX0 a_camp a_camp_kinds a_camp_yards a_camp_spots v_camp_tents v_camp_said v_camp_wall v_camp_bridge v_camp_counted v_camp_day v_camp_z, aA cI a_hears 10 f_hears, aA cI a_near 10 f_near, aA cI a_camp_kinds 10 f_camp_kinds] s.heap.size := ⟨_, rfl⟩
  rw [← hA0] at hret hV
  rw [← hH0] at hret hV
  rw [← hH0]
  obtain ⟨H, locs, hH⟩ : ∃ (z : Heap) (y : List Loc), z = H0 ∧ y = [] := ⟨_, _, rfl, rfl⟩
  rw [← hH.1, ← hH.2]
  have hV : gV (dC, dI) (gT cI cB cO) A0 H0 s [oX1 a_t a_camp a_hears a_near a_gaps, oX0 a_camp a_camp_kinds a_camp_yards a_camp_spots v_camp_tents v_camp_said v_camp_wall v_camp_bridge v_camp_counted v_camp_day v_camp_z, aA cI a_hears 10 f_hears, aA cI a_near 10 f_near, aA cI a_camp_kinds 10 f_camp_kinds] H locs := by rw [hH.1, hH.2]; exact hV
  unfold F_X1_willSay at hF
  refine lv_iload_n C.1 C.2.1 dX1_willSay_0 rfl (lv_at hl 2 rfl) ?_
  refine lv_iload_n C.1 C.2.1 dX1_willSay_1 rfl (lv_at hl 1 rfl) ?_
  refine g_ishr C hF dX1_willSay_2 (fun x1 hF => ?_)
  refine lv_iconst (v := 1) C.1 C.2.1 dX1_willSay_3 rfl ?_
  refine g_iand C hF dX1_willSay_4 (fun x2 hF => ?_)
  refine lv_istore_n (lv' := [(3, .int x2), (0, .ref a_t), (1, .int p1), (2, .int p2)]) C.1 C.2.1 dX1_willSay_5 rfl hl (by decide) rfl (fun ls hl => ?_)
  refine lv_aload_n C.1 C.2.1 dX1_willSay_6 rfl (lv_at hl 1 rfl) ?_
  refine g_get C hV flX1_willSay_21 0 rfl rfl dX1_willSay_7 ?_
  refine g_get C hV flX1_willSay_56 1 rfl rfl dX1_willSay_10 ?_
  refine lv_iload_n C.1 C.2.1 dX1_willSay_13 rfl (lv_at hl 2 rfl) ?_
  refine g_iald C hV 4 rfl hF dX1_willSay_14 (fun x3 hF => ?_)
  refine lv_istore (lv' := [(4, .int x3), (3, .int x2), (0, .ref a_t), (1, .int p1), (2, .int p2)]) C.1 C.2.1 dX1_willSay_15 hl (by decide) rfl (fun ls hl => ?_)
  refine lv_iload C.1 C.2.1 dX1_willSay_17 (lv_at hl 0 rfl) ?_
  refine lv_iconst (v := 2) C.1 C.2.1 dX1_willSay_19 rfl ?_
  refine g_icmp_ne (tgt := 25) C hF dX1_willSay_20 rfl (fun hF => ?_) (fun hF => ?_)
  · refine lv_iload C.1 C.2.1 dX1_willSay_25 (lv_at hl 0 rfl) ?_
    refine lv_iconst (v := 3) C.1 C.2.1 dX1_willSay_27 rfl ?_
    refine g_icmp_eq (tgt := 41) C hF dX1_willSay_28 rfl (fun hF => ?_) (fun hF => ?_)
    · refine lv_iload_n C.1 C.2.1 dX1_willSay_41 rfl (lv_at hl 1 rfl) ?_
      exact hret x2 _ _ _ _ dX1_willSay_42 hF hV
    refine lv_aload_n C.1 C.2.1 dX1_willSay_31 rfl (lv_at hl 2 rfl) ?_
    refine g_get C hV flX1_willSay_9 0 rfl rfl dX1_willSay_32 ?_
    refine lv_iload_n C.1 C.2.1 dX1_willSay_35 rfl (lv_at hl 3 rfl) ?_
    refine g_iald C hV 2 rfl hF dX1_willSay_36 (fun x4 hF => ?_)
    refine lv_iconst (v := (-1)) C.1 C.2.1 dX1_willSay_37 rfl ?_
    refine g_icmp_ne (tgt := 43) C hF dX1_willSay_38 rfl (fun hF => ?_) (fun hF => ?_)
    · refine lv_iload_n C.1 C.2.1 dX1_willSay_43 rfl (lv_at hl 4 rfl) ?_
      refine lv_aload_n C.1 C.2.1 dX1_willSay_44 rfl (lv_at hl 2 rfl) ?_
      refine g_get C hV flX1_willSay_9 0 rfl rfl dX1_willSay_45 ?_
      refine lv_iload_n C.1 C.2.1 dX1_willSay_48 rfl (lv_at hl 3 rfl) ?_
      refine g_iald C hV 2 rfl hF dX1_willSay_49 (fun x5 hF => ?_)
      refine g_ishr C hF dX1_willSay_50 (fun x6 hF => ?_)
      refine lv_iconst (v := 1) C.1 C.2.1 dX1_willSay_51 rfl ?_
      refine g_iand C hF dX1_willSay_52 (fun x7 hF => ?_)
      refine lv_istore (lv' := [(5, .int x7), (4, .int x3), (3, .int x2), (0, .ref a_t), (1, .int p1), (2, .int p2)]) C.1 C.2.1 dX1_willSay_53 hl (by decide) rfl (fun ls hl => ?_)
      refine lv_iload C.1 C.2.1 dX1_willSay_55 (lv_at hl 1 rfl) ?_
      refine lv_iconst (v := 5) C.1 C.2.1 dX1_willSay_57 rfl ?_
      refine g_icmp_eq (tgt := 68) C hF dX1_willSay_58 rfl (fun hF => ?_) (fun hF => ?_)
      · refine lv_iconst (v := 1) C.1 C.2.1 dX1_willSay_68 rfl ?_
        refine lv_iload C.1 C.2.1 dX1_willSay_69 (lv_at hl 0 rfl) ?_
        refine g_isub C hF dX1_willSay_71 (fun x8 hF => ?_)
        exact hret x8 _ _ _ _ dX1_willSay_72 hF hV
      refine lv_iload C.1 C.2.1 dX1_willSay_61 (lv_at hl 1 rfl) ?_
      refine lv_bipush (v := 6) C.1 C.2.1 dX1_willSay_63 rfl ?_
      refine g_icmp_ne (tgt := 73) C hF dX1_willSay_65 rfl (fun hF => ?_) (fun hF => ?_)
      · refine lv_iload C.1 C.2.1 dX1_willSay_73 (lv_at hl 1 rfl) ?_
        refine lv_iconst (v := 4) C.1 C.2.1 dX1_willSay_75 rfl ?_
        refine g_icmp_ne (tgt := 106) C hF dX1_willSay_76 rfl (fun hF => ?_) (fun hF => ?_)
        · refine lv_iload C.1 C.2.1 dX1_willSay_106 (lv_at hl 0 rfl) ?_
          exact hret x7 _ _ _ _ dX1_willSay_108 hF hV
        refine lv_aload_n C.1 C.2.1 dX1_willSay_79 rfl (lv_at hl 3 rfl) ?_
        refine g_get C hV flX1_willSay_15 0 rfl rfl dX1_willSay_80 ?_
        refine lv_iload_n C.1 C.2.1 dX1_willSay_83 rfl (lv_at hl 4 rfl) ?_
        refine g_iald C hV 3 rfl hF dX1_willSay_84 (fun x9 hF => ?_)
        refine lv_iconst (v := (-1)) C.1 C.2.1 dX1_willSay_85 rfl ?_
        refine g_icmp_eq (tgt := 106) C hF dX1_willSay_86 rfl (fun hF => ?_) (fun hF => ?_)
        · refine lv_iload C.1 C.2.1 dX1_willSay_106 (lv_at hl 0 rfl) ?_
          exact hret x7 _ _ _ _ dX1_willSay_108 hF hV
        refine lv_iload_n C.1 C.2.1 dX1_willSay_89 rfl (lv_at hl 5 rfl) ?_
        refine lv_aload_n C.1 C.2.1 dX1_willSay_90 rfl (lv_at hl 3 rfl) ?_
        refine g_get C hV flX1_willSay_15 0 rfl rfl dX1_willSay_91 ?_
        refine lv_iload_n C.1 C.2.1 dX1_willSay_94 rfl (lv_at hl 4 rfl) ?_
        refine g_iald C hV 3 rfl hF dX1_willSay_95 (fun x10 hF => ?_)
        refine g_ishr C hF dX1_willSay_96 (fun x11 hF => ?_)
        refine lv_iconst (v := 1) C.1 C.2.1 dX1_willSay_97 rfl ?_
        refine g_iand C hF dX1_willSay_98 (fun x12 hF => ?_)
        refine lv_iload C.1 C.2.1 dX1_willSay_99 (lv_at hl 0 rfl) ?_
        refine g_icmp_eq (tgt := 106) C hF dX1_willSay_101 rfl (fun hF => ?_) (fun hF => ?_)
        · refine lv_iload C.1 C.2.1 dX1_willSay_106 (lv_at hl 0 rfl) ?_
          exact hret x7 _ _ _ _ dX1_willSay_108 hF hV
        refine lv_iload_n C.1 C.2.1 dX1_willSay_104 rfl (lv_at hl 2 rfl) ?_
        exact hret x2 _ _ _ _ dX1_willSay_105 hF hV
      refine lv_iconst (v := 1) C.1 C.2.1 dX1_willSay_68 rfl ?_
      refine lv_iload C.1 C.2.1 dX1_willSay_69 (lv_at hl 0 rfl) ?_
      refine g_isub C hF dX1_willSay_71 (fun x13 hF => ?_)
      exact hret x13 _ _ _ _ dX1_willSay_72 hF hV
    refine lv_iload_n C.1 C.2.1 dX1_willSay_41 rfl (lv_at hl 1 rfl) ?_
    exact hret x2 _ _ _ _ dX1_willSay_42 hF hV
  refine lv_iconst (v := 1) C.1 C.2.1 dX1_willSay_23 rfl ?_
  exact hret (1 : Int32) _ _ _ _ dX1_willSay_24 hF hV
abbrev rmX1_nextSaid : Room := { frames := 1, cells := 0, slots := 0, locals := 25 }
theorem mdX1_nextSaid : gMd yX1_nextSaid wsX1_nextSaid cX1_nextSaid 4 (some .int) 1 := ⟨⟨_, rfl⟩, by decide +kernel⟩
theorem flX1_nextSaid_21 : gFL wsX1_nextSaid RX1 21 1 0 RX1 TX1 4 := ⟨rfl, fun w h => List.mem_cons_of_mem _ (List.mem_append_left _ (List.mem_append_right _ (h))), Nat.le_of_ble_eq_true rfl, List.mem_cons_of_mem _ (List.mem_append_left _ (List.mem_append_left _ (List.mem_of_getElem? (i := 0) rfl)))⟩
theorem flX1_nextSaid_25 : gFL wsX1_nextSaid RX1 25 0 3 RX0 TX0 10 := ⟨rfl, fun w h => List.mem_cons_of_mem _ (List.mem_append_right _ (h)), Nat.le_of_ble_eq_true rfl, List.mem_cons_of_mem _ (List.mem_append_left _ (List.mem_append_left _ (List.mem_of_getElem? (i := 1) rfl)))⟩
def L_X1_nextSaid_4 (v_camp_tents : Int32) (n0 : Nat) (f_hears : Nat → Int32) (f_near : Nat → Int32) (f_camp_kinds : Nat → Int32) (p1 : Int32) : Nat → Int32 → Int32 → Option (Int32) := lpp2 (fun s1 s2 kk4 => (if v_camp_tents ≤ s2 then some s1 else bd1 (F_X1_willSay n0 f_hears f_near f_camp_kinds s2 p1) (fun x3 => nm (x3 <<< (s2 &&& 31)) (fun x4 => nm (s1 ||| x4) (fun x5 => nm (s2 + 1) (fun x6 => kk4 x5 x6))))))
def F_X1_nextSaid (n0 : Nat) (v_camp_tents : Int32) (f_hears : Nat → Int32) (f_near : Nat → Int32) (f_camp_kinds : Nat → Int32) (p1 : Int32) : Option (Int32) := L_X1_nextSaid_4 v_camp_tents n0 f_hears f_near f_camp_kinds p1 n0 0 0
set_option maxRecDepth 100000 in
set_option maxHeartbeats 4000000 in
theorem k_X1_nextSaid (l : Launch) (dC : Nat → ClassId) (dI : Nat → Nat → Nat) (cI cB cO : ClassId) (n0 sz : Nat) (a_t : Nat) (a_camp : Nat) (a_hears : Nat) (a_near : Nat) (a_gaps : Nat) (a_camp_kinds : Nat) (a_camp_yards : Nat) (a_camp_spots : Nat)   (v_camp_tents : Int32) (v_camp_said : Int32) (v_camp_wall : Int32) (v_camp_bridge : Int32) (v_camp_counted : Int32) (v_camp_day : Int32) (v_camp_z : Int32) (f_hears : Nat → Int32) (f_near : Nat → Int32) (f_camp_kinds : Nat → Int32) (p1 : Int32)  {ro : Int32} (hF : F_X1_nextSaid n0 v_camp_tents f_hears f_near f_camp_kinds p1 = some ro) : Met l yX1_nextSaid wsX1_nextSaid rmX1_nextSaid (va_Pc [.ref a_t, .int p1] (gPre (dC, dI) (gT cI cB cO) sz [oX1 a_t a_camp a_hears a_near a_gaps, oX0 a_camp a_camp_kinds a_camp_yards a_camp_spots v_camp_tents v_camp_said v_camp_wall v_camp_bridge v_camp_counted v_camp_day v_camp_z, aA cI a_hears 10 f_hears, aA cI a_near 10 f_near, aA cI a_camp_kinds 10 f_camp_kinds])) (gQi (dC, dI) (gT cI cB cO) sz [oX1 a_t a_camp a_hears a_near a_gaps, oX0 a_camp a_camp_kinds a_camp_yards a_camp_spots v_camp_tents v_camp_said v_camp_wall v_camp_bridge v_camp_counted v_camp_day v_camp_z, aA cI a_hears 10 f_hears, aA cI a_near 10 f_near, aA cI a_camp_kinds 10 f_camp_kinds] ro [oX1 a_t a_camp a_hears a_near a_gaps, oX0 a_camp a_camp_kinds a_camp_yards a_camp_spots v_camp_tents v_camp_said v_camp_wall v_camp_bridge v_camp_counted v_camp_day v_camp_z, aA cI a_hears 10 f_hears, aA cI a_near 10 f_near, aA cI a_camp_kinds 10 f_camp_kinds]) 0 0 (va_A [oX1 a_t a_camp a_hears a_near a_gaps, oX0 a_camp a_camp_kinds a_camp_yards a_camp_spots v_camp_tents v_camp_said v_camp_wall v_camp_bridge v_camp_counted v_camp_day v_camp_z, aA cI a_hears 10 f_hears, aA cI a_near 10 f_near, aA cI a_camp_kinds 10 f_camp_kinds] sz) := by
  refine g_metI (Out := Int32) (fun oo => oo) (fun oo => [oX1 a_t a_camp a_hears a_near a_gaps, oX0 a_camp a_camp_kinds a_camp_yards a_camp_spots v_camp_tents v_camp_said v_camp_wall v_camp_bridge v_camp_counted v_camp_day v_camp_z, aA cI a_hears 10 f_hears, aA cI a_near 10 f_near, aA cI a_camp_kinds 10 f_camp_kinds]) ro (own := RX1) (lv := [(0, .ref a_t), (1, .int p1)]) (by decide) rfl rfl (Nat.le_of_ble_eq_true rfl) rfl ?_
  intro p e s m args below meth c Q ls C hret hV hl
  obtain ⟨out, hout⟩ : ∃ z : Int32, z = ro := ⟨_, rfl⟩
  rw [← hout] at hF hret
  obtain ⟨H0, hH0⟩ : ∃ z : Heap, z = s.heap := ⟨_, rfl⟩
  obtain ⟨A0, hA0⟩ : ∃ z : Nat → Prop, z = va_A [oX1 a_t a_camp a_hears a_near a_gaps, oX0 a_camp a_camp_kinds a_camp_yards a_camp_spots v_camp_tents v_camp_said v_camp_wall v_camp_bridge v_camp_counted v_camp_day v_camp_z, aA cI a_hears 10 f_hears, aA cI a_near 10 f_near, aA cI a_camp_kinds 10 f_camp_kinds] s.heap.size := ⟨_, rfl⟩
  rw [← hA0] at hret hV
  rw [← hH0] at hret hV
  rw [← hH0]
  obtain ⟨H, locs, hH⟩ : ∃ (z : Heap) (y : List Loc), z = H0 ∧ y = [] := ⟨_, _, rfl, rfl⟩
  rw [← hH.1, ← hH.2]
  have hV : gV (dC, dI) (gT cI cB cO) A0 H0 s [oX1 a_t a_camp a_hears a_near a_gaps, oX0 a_camp a_camp_kinds a_camp_yards a_camp_spots v_camp_tents v_camp_said v_camp_wall v_camp_bridge v_camp_counted v_camp_day v_camp_z, aA cI a_hears 10 f_hears, aA cI a_near 10 f_near, aA cI a_camp_kinds 10 f_camp_kinds] H locs := by rw [hH.1, hH.2]; exact hV
  unfold F_X1_nextSaid at hF
  refine lv_iconst (v := 0) C.1 C.2.1 dX1_nextSaid_0 rfl ?_
  refine lv_istore_n (lv' := [(2, .int 0), (0, .ref a_t), (1, .int p1)]) C.1 C.2.1 dX1_nextSaid_1 rfl hl (by decide) rfl (fun ls hl => ?_)
  refine lv_iconst (v := 0) C.1 C.2.1 dX1_nextSaid_2 rfl ?_
  refine lv_istore_n (lv' := [(3, .int 0), (2, .int 0), (0, .ref a_t), (1, .int p1)]) C.1 C.2.1 dX1_nextSaid_3 rfl hl (by decide) rfl (fun ls hl => ?_)
  have hL4 : ∀ (n : Nat) (s1 : Int32) (s2 : Int32) (H : Heap) (locs : List Loc) (ls : Array Slot), gV (dC, dI) (gT cI cB cO) A0 H0 s [oX1 a_t a_camp a_hears a_near a_gaps, oX0 a_camp a_camp_kinds a_camp_yards a_camp_spots v_camp_tents v_camp_said v_camp_wall v_camp_bridge v_camp_counted v_camp_day v_camp_z, aA cI a_hears 10 f_hears, aA cI a_near 10 f_near, aA cI a_camp_kinds 10 f_camp_kinds] H locs → lv_has ls 4 [(0, .ref a_t), (1, .int p1), (2, .int s1), (3, .int s2)] → L_X1_nextSaid_4 v_camp_tents n0 f_hears f_near f_camp_kinds p1 n s1 s2 = some out → W p l e rmX1_nextSaid s m args below meth c H locs 0 0 Q (F0 m 4 ls []) := by
    intro n
    induction n with
    | zero => intro s1 s2 H locs ls hV hl hF; exact lpp2_z hF
    | succ n ih4 =>
      intro s1 s2 H locs ls hV hl hF
      obtain ⟨kk4, hk4, hF⟩ := lpp2_g hF
      have hq4 : ∀ (s1 : Int32) (s2 : Int32), kk4 s1 s2 = some out → L_X1_nextSaid_4 v_camp_tents n0 f_hears f_near f_camp_kinds p1 n s1 s2 = some out := fun _ _ h => by rw [hk4] at h; exact h
      refine lv_iload_n C.1 C.2.1 dX1_nextSaid_4 rfl (lv_at hl 3 rfl) ?_
      refine lv_aload_n C.1 C.2.1 dX1_nextSaid_5 rfl (lv_at hl 0 rfl) ?_
      refine g_get C hV flX1_nextSaid_21 0 rfl rfl dX1_nextSaid_6 ?_
      refine g_get C hV flX1_nextSaid_25 1 rfl rfl dX1_nextSaid_9 ?_
      refine g_icmp_ge (tgt := 32) C hF dX1_nextSaid_12 rfl (fun hF => ?_) (fun hF => ?_)
      · refine lv_iload_n C.1 C.2.1 dX1_nextSaid_32 rfl (lv_at hl 2 rfl) ?_
        exact hret s1 _ _ _ _ dX1_nextSaid_33 hF hV
      refine lv_iload_n C.1 C.2.1 dX1_nextSaid_15 rfl (lv_at hl 2 rfl) ?_
      refine lv_aload_n C.1 C.2.1 dX1_nextSaid_16 rfl (lv_at hl 0 rfl) ?_
      refine lv_iload_n C.1 C.2.1 dX1_nextSaid_17 rfl (lv_at hl 3 rfl) ?_
      refine lv_iload_n C.1 C.2.1 dX1_nextSaid_18 rfl (lv_at hl 1 rfl) ?_
      obtain ⟨x3, hc, hF⟩ := bd1_s hF
      refine g_cVi (ws' := [oX1 a_t a_camp a_hears a_near a_gaps, oX0 a_camp a_camp_kinds a_camp_yards a_camp_spots v_camp_tents v_camp_said v_camp_wall v_camp_bridge v_camp_counted v_camp_day v_camp_z, aA cI a_hears 10 f_hears, aA cI a_near 10 f_near, aA cI a_camp_kinds 10 f_camp_kinds]) (wr := []) C hV (k_X1_willSay l dC dI cI cB cO n0 H.size a_t a_camp a_hears a_near a_gaps a_camp_kinds a_camp_yards a_camp_spots v_camp_tents v_camp_said v_camp_wall v_camp_bridge v_camp_counted v_camp_day v_camp_z f_hears f_near f_camp_kinds s2 p1 hc) mdX1_willSay gX1_nextSaid_X1_willSay rfl rfl ⟨Nat.le_of_ble_eq_true rfl, Nat.le_of_ble_eq_true rfl⟩ [0, 1, 2, 3, 4] [] [0, 1, 2, 3, 4] rfl rfl rfl rfl rfl rfl rfl rfl rfl rfl hl.1 (Nat.le_of_ble_eq_true rfl) rfl dX1_nextSaid_19 (fun H locs hV => ?_)
      refine lv_iload_n C.1 C.2.1 dX1_nextSaid_22 rfl (lv_at hl 3 rfl) ?_
      refine g_ishl C hF dX1_nextSaid_23 (fun x4 hF => ?_)
      refine g_ior C hF dX1_nextSaid_24 (fun x5 hF => ?_)
      refine lv_istore_n (lv' := [(2, .int x5), (0, .ref a_t), (1, .int p1), (3, .int s2)]) C.1 C.2.1 dX1_nextSaid_25 rfl hl (by decide) rfl (fun ls hl => ?_)
      refine g_iinc C hF dX1_nextSaid_26 (d := 1) rfl hl (j := 3) rfl (by decide) (fun y => [(3, .int y), (2, .int x5), (0, .ref a_t), (1, .int p1)]) (fun _ => rfl) (fun x6 ls hF hl => ?_)
      refine lv_goto (tgt := 4) C.1 C.2.1 dX1_nextSaid_29 rfl ?_
      exact ih4 x5 x6 H locs ls hV (lv_sub hl [2, 3, 1, 0] rfl) (hq4 x5 x6 hF)
  exact hL4 n0 0 0 H locs ls hV (lv_sub hl [2, 3, 1, 0] rfl) hF
abbrev rmX1_saidAfter : Room := { frames := 2, cells := 0, slots := 0, locals := 48 }
theorem mdX1_saidAfter : gMd yX1_saidAfter wsX1_saidAfter cX1_saidAfter 8 (some .int) 2 := ⟨⟨_, rfl⟩, by decide +kernel⟩
def L_X1_saidAfter_14 (n0 : Nat) (v_camp_tents : Int32) (f_hears : Nat → Int32) (f_near : Nat → Int32) (f_camp_kinds : Nat → Int32) : Nat → Int32 → Int32 → Int32 → Int32 → Int32 → Option (Int32) := lpp5 (fun s1 s2 s3 s4 s5 kk14 => (if s5 ≤ 0 then some s1 else bd1 (F_X1_nextSaid n0 v_camp_tents f_hears f_near f_camp_kinds s1) (fun x6 => nm (s5 + (-1)) (fun x7 => nm (s3 + 1) (fun x8 => (if x6 = s2 then dvn x8 (x7 - x7 / x8 * x8) (fun x10 => kk14 x6 s2 x8 s4 x10) else (if x8 < s4 then kk14 x6 s2 x8 s4 x7 else nm (s4 * 2) (fun x9 => kk14 x6 x6 0 x9 x7))))))))
def F_X1_saidAfter (n0 : Nat) (v_camp_tents : Int32) (f_hears : Nat → Int32) (f_near : Nat → Int32) (f_camp_kinds : Nat → Int32) (p1 : Int32) (p2 : Int32) : Option (Int32) := L_X1_saidAfter_14 n0 v_camp_tents f_hears f_near f_camp_kinds n0 p1 p1 0 1 p2
set_option maxRecDepth 100000 in
set_option maxHeartbeats 4000000 in
theorem k_X1_saidAfter (l : Launch) (dC : Nat → ClassId) (dI : Nat → Nat → Nat) (cI cB cO : ClassId) (n0 sz : Nat) (a_t : Nat) (a_camp : Nat) (a_hears : Nat) (a_near : Nat) (a_gaps : Nat) (a_camp_kinds : Nat) (a_camp_yards : Nat) (a_camp_spots : Nat)   (v_camp_tents : Int32) (v_camp_said : Int32) (v_camp_wall : Int32) (v_camp_bridge : Int32) (v_camp_counted : Int32) (v_camp_day : Int32) (v_camp_z : Int32) (f_hears : Nat → Int32) (f_near : Nat → Int32) (f_camp_kinds : Nat → Int32) (p1 : Int32) (p2 : Int32)  {ro : Int32} (hF : F_X1_saidAfter n0 v_camp_tents f_hears f_near f_camp_kinds p1 p2 = some ro) : Met l yX1_saidAfter wsX1_saidAfter rmX1_saidAfter (va_Pc [.ref a_t, .int p1, .int p2] (gPre (dC, dI) (gT cI cB cO) sz [oX1 a_t a_camp a_hears a_near a_gaps, oX0 a_camp a_camp_kinds a_camp_yards a_camp_spots v_camp_tents v_camp_said v_camp_wall v_camp_bridge v_camp_counted v_camp_day v_camp_z, aA cI a_hears 10 f_hears, aA cI a_near 10 f_near, aA cI a_camp_kinds 10 f_camp_kinds])) (gQi (dC, dI) (gT cI cB cO) sz [oX1 a_t a_camp a_hears a_near a_gaps, oX0 a_camp a_camp_kinds a_camp_yards a_camp_spots v_camp_tents v_camp_said v_camp_wall v_camp_bridge v_camp_counted v_camp_day v_camp_z, aA cI a_hears 10 f_hears, aA cI a_near 10 f_near, aA cI a_camp_kinds 10 f_camp_kinds] ro [oX1 a_t a_camp a_hears a_near a_gaps, oX0 a_camp a_camp_kinds a_camp_yards a_camp_spots v_camp_tents v_camp_said v_camp_wall v_camp_bridge v_camp_counted v_camp_day v_camp_z, aA cI a_hears 10 f_hears, aA cI a_near 10 f_near, aA cI a_camp_kinds 10 f_camp_kinds]) 0 0 (va_A [oX1 a_t a_camp a_hears a_near a_gaps, oX0 a_camp a_camp_kinds a_camp_yards a_camp_spots v_camp_tents v_camp_said v_camp_wall v_camp_bridge v_camp_counted v_camp_day v_camp_z, aA cI a_hears 10 f_hears, aA cI a_near 10 f_near, aA cI a_camp_kinds 10 f_camp_kinds] sz) := by
  refine g_metI (Out := Int32) (fun oo => oo) (fun oo => [oX1 a_t a_camp a_hears a_near a_gaps, oX0 a_camp a_camp_kinds a_camp_yards a_camp_spots v_camp_tents v_camp_said v_camp_wall v_camp_bridge v_camp_counted v_camp_day v_camp_z, aA cI a_hears 10 f_hears, aA cI a_near 10 f_near, aA cI a_camp_kinds 10 f_camp_kinds]) ro (own := RX1) (lv := [(0, .ref a_t), (1, .int p1), (2, .int p2)]) (by decide) rfl rfl (Nat.le_of_ble_eq_true rfl) rfl ?_
  intro p e s m args below meth c Q ls C hret hV hl
  obtain ⟨out, hout⟩ : ∃ z : Int32, z = ro := ⟨_, rfl⟩
  rw [← hout] at hF hret
  obtain ⟨H0, hH0⟩ : ∃ z : Heap, z = s.heap := ⟨_, rfl⟩
  obtain ⟨A0, hA0⟩ : ∃ z : Nat → Prop, z = va_A [oX1 a_t a_camp a_hears a_near a_gaps, oX0 a_camp a_camp_kinds a_camp_yards a_camp_spots v_camp_tents v_camp_said v_camp_wall v_camp_bridge v_camp_counted v_camp_day v_camp_z, aA cI a_hears 10 f_hears, aA cI a_near 10 f_near, aA cI a_camp_kinds 10 f_camp_kinds] s.heap.size := ⟨_, rfl⟩
  rw [← hA0] at hret hV
  rw [← hH0] at hret hV
  rw [← hH0]
  obtain ⟨H, locs, hH⟩ : ∃ (z : Heap) (y : List Loc), z = H0 ∧ y = [] := ⟨_, _, rfl, rfl⟩
  rw [← hH.1, ← hH.2]
  have hV : gV (dC, dI) (gT cI cB cO) A0 H0 s [oX1 a_t a_camp a_hears a_near a_gaps, oX0 a_camp a_camp_kinds a_camp_yards a_camp_spots v_camp_tents v_camp_said v_camp_wall v_camp_bridge v_camp_counted v_camp_day v_camp_z, aA cI a_hears 10 f_hears, aA cI a_near 10 f_near, aA cI a_camp_kinds 10 f_camp_kinds] H locs := by rw [hH.1, hH.2]; exact hV
  unfold F_X1_saidAfter at hF
  refine lv_iload_n C.1 C.2.1 dX1_saidAfter_0 rfl (lv_at hl 1 rfl) ?_
  refine lv_istore_n (lv' := [(3, .int p1), (0, .ref a_t), (1, .int p1), (2, .int p2)]) C.1 C.2.1 dX1_saidAfter_1 rfl hl (by decide) rfl (fun ls hl => ?_)
  refine lv_iload_n C.1 C.2.1 dX1_saidAfter_2 rfl (lv_at hl 2 rfl) ?_
  refine lv_istore (lv' := [(4, .int p1), (3, .int p1), (0, .ref a_t), (1, .int p1), (2, .int p2)]) C.1 C.2.1 dX1_saidAfter_3 hl (by decide) rfl (fun ls hl => ?_)
  refine lv_iconst (v := 0) C.1 C.2.1 dX1_saidAfter_5 rfl ?_
  refine lv_istore (lv' := [(5, .int 0), (4, .int p1), (3, .int p1), (0, .ref a_t), (1, .int p1), (2, .int p2)]) C.1 C.2.1 dX1_saidAfter_6 hl (by decide) rfl (fun ls hl => ?_)
  refine lv_iconst (v := 1) C.1 C.2.1 dX1_saidAfter_8 rfl ?_
  refine lv_istore (lv' := [(6, .int 1), (5, .int 0), (4, .int p1), (3, .int p1), (0, .ref a_t), (1, .int p1), (2, .int p2)]) C.1 C.2.1 dX1_saidAfter_9 hl (by decide) rfl (fun ls hl => ?_)
  refine lv_iload_n C.1 C.2.1 dX1_saidAfter_11 rfl (lv_at hl 6 rfl) ?_
  refine lv_istore (lv' := [(7, .int p2), (6, .int 1), (5, .int 0), (4, .int p1), (3, .int p1), (0, .ref a_t), (1, .int p1), (2, .int p2)]) C.1 C.2.1 dX1_saidAfter_12 hl (by decide) rfl (fun ls hl => ?_)
  have hL14 : ∀ (n : Nat) (s1 : Int32) (s2 : Int32) (s3 : Int32) (s4 : Int32) (s5 : Int32) (H : Heap) (locs : List Loc) (ls : Array Slot), gV (dC, dI) (gT cI cB cO) A0 H0 s [oX1 a_t a_camp a_hears a_near a_gaps, oX0 a_camp a_camp_kinds a_camp_yards a_camp_spots v_camp_tents v_camp_said v_camp_wall v_camp_bridge v_camp_counted v_camp_day v_camp_z, aA cI a_hears 10 f_hears, aA cI a_near 10 f_near, aA cI a_camp_kinds 10 f_camp_kinds] H locs → lv_has ls 8 [(0, .ref a_t), (3, .int s1), (4, .int s2), (5, .int s3), (6, .int s4), (7, .int s5)] → L_X1_saidAfter_14 n0 v_camp_tents f_hears f_near f_camp_kinds n s1 s2 s3 s4 s5 = some out → W p l e rmX1_saidAfter s m args below meth c H locs 0 0 Q (F0 m 14 ls []) := by
    intro n
    induction n with
    | zero => intro s1 s2 s3 s4 s5 H locs ls hV hl hF; exact lpp5_z hF
    | succ n ih14 =>
      intro s1 s2 s3 s4 s5 H locs ls hV hl hF
      obtain ⟨kk14, hk14, hF⟩ := lpp5_g hF
      have hq14 : ∀ (s1 : Int32) (s2 : Int32) (s3 : Int32) (s4 : Int32) (s5 : Int32), kk14 s1 s2 s3 s4 s5 = some out → L_X1_saidAfter_14 n0 v_camp_tents f_hears f_near f_camp_kinds n s1 s2 s3 s4 s5 = some out := fun _ _ _ _ _ h => by rw [hk14] at h; exact h
      refine lv_iload C.1 C.2.1 dX1_saidAfter_14 (lv_at hl 5 rfl) ?_
      refine g_if_le (tgt := 69) C hF dX1_saidAfter_16 rfl (fun hF => ?_) (fun hF => ?_)
      · refine lv_iload_n C.1 C.2.1 dX1_saidAfter_69 rfl (lv_at hl 1 rfl) ?_
        exact hret s1 _ _ _ _ dX1_saidAfter_70 hF hV
      refine lv_aload_n C.1 C.2.1 dX1_saidAfter_19 rfl (lv_at hl 0 rfl) ?_
      refine lv_iload_n C.1 C.2.1 dX1_saidAfter_20 rfl (lv_at hl 1 rfl) ?_
      obtain ⟨x6, hc, hF⟩ := bd1_s hF
      refine g_cVi (ws' := [oX1 a_t a_camp a_hears a_near a_gaps, oX0 a_camp a_camp_kinds a_camp_yards a_camp_spots v_camp_tents v_camp_said v_camp_wall v_camp_bridge v_camp_counted v_camp_day v_camp_z, aA cI a_hears 10 f_hears, aA cI a_near 10 f_near, aA cI a_camp_kinds 10 f_camp_kinds]) (wr := []) C hV (k_X1_nextSaid l dC dI cI cB cO n0 H.size a_t a_camp a_hears a_near a_gaps a_camp_kinds a_camp_yards a_camp_spots v_camp_tents v_camp_said v_camp_wall v_camp_bridge v_camp_counted v_camp_day v_camp_z f_hears f_near f_camp_kinds s1 hc) mdX1_nextSaid gX1_saidAfter_X1_nextSaid rfl rfl ⟨Nat.le_of_ble_eq_true rfl, Nat.le_of_ble_eq_true rfl⟩ [0, 1, 2, 3, 4] [] [0, 1, 2, 3, 4] rfl rfl rfl rfl rfl rfl rfl rfl rfl rfl hl.1 (Nat.le_of_ble_eq_true rfl) rfl dX1_saidAfter_21 (fun H locs hV => ?_)
      refine lv_istore_n (lv' := [(3, .int x6), (0, .ref a_t), (4, .int s2), (5, .int s3), (6, .int s4), (7, .int s5)]) C.1 C.2.1 dX1_saidAfter_24 rfl hl (by decide) rfl (fun ls hl => ?_)
      refine g_iinc C hF dX1_saidAfter_25 (d := (-1)) rfl hl (j := 5) rfl (by decide) (fun y => [(7, .int y), (3, .int x6), (0, .ref a_t), (4, .int s2), (5, .int s3), (6, .int s4)]) (fun _ => rfl) (fun x7 ls hF hl => ?_)
      refine g_iinc C hF dX1_saidAfter_28 (d := 1) rfl hl (j := 4) rfl (by decide) (fun y => [(5, .int y), (7, .int x7), (3, .int x6), (0, .ref a_t), (4, .int s2), (6, .int s4)]) (fun _ => rfl) (fun x8 ls hF hl => ?_)
      refine lv_iload_n C.1 C.2.1 dX1_saidAfter_31 rfl (lv_at hl 2 rfl) ?_
      refine lv_iload C.1 C.2.1 dX1_saidAfter_32 (lv_at hl 4 rfl) ?_
      refine g_icmp_ne (tgt := 47) C hF dX1_saidAfter_34 rfl (fun hF => ?_) (fun hF => ?_)
      · refine lv_iload C.1 C.2.1 dX1_saidAfter_47 (lv_at hl 0 rfl) ?_
        refine lv_iload C.1 C.2.1 dX1_saidAfter_49 (lv_at hl 5 rfl) ?_
        refine g_icmp_lt (tgt := 14) C hF dX1_saidAfter_51 rfl (fun hF => ?_) (fun hF => ?_)
        · exact ih14 x6 s2 x8 s4 x7 H locs ls hV (lv_sub hl [3, 2, 4, 0, 5, 1] rfl) (hq14 x6 s2 x8 s4 x7 hF)
        refine lv_iload_n C.1 C.2.1 dX1_saidAfter_54 rfl (lv_at hl 2 rfl) ?_
        refine lv_istore (lv' := [(4, .int x6), (5, .int x8), (7, .int x7), (3, .int x6), (0, .ref a_t), (6, .int s4)]) C.1 C.2.1 dX1_saidAfter_55 hl (by decide) rfl (fun ls hl => ?_)
        refine lv_iconst (v := 0) C.1 C.2.1 dX1_saidAfter_57 rfl ?_
        refine lv_istore (lv' := [(5, .int 0), (4, .int x6), (7, .int x7), (3, .int x6), (0, .ref a_t), (6, .int s4)]) C.1 C.2.1 dX1_saidAfter_58 hl (by decide) rfl (fun ls hl => ?_)
        refine lv_iload C.1 C.2.1 dX1_saidAfter_60 (lv_at hl 5 rfl) ?_
        refine lv_iconst (v := 2) C.1 C.2.1 dX1_saidAfter_62 rfl ?_
        refine g_imul C hF dX1_saidAfter_63 (fun x9 hF => ?_)
        refine lv_istore (lv' := [(6, .int x9), (5, .int 0), (4, .int x6), (7, .int x7), (3, .int x6), (0, .ref a_t)]) C.1 C.2.1 dX1_saidAfter_64 hl (by decide) rfl (fun ls hl => ?_)
        refine lv_goto (tgt := 14) C.1 C.2.1 dX1_saidAfter_66 rfl ?_
        exact ih14 x6 x6 0 x9 x7 H locs ls hV (lv_sub hl [5, 4, 2, 1, 0, 3] rfl) (hq14 x6 x6 0 x9 x7 hF)
      refine lv_iload C.1 C.2.1 dX1_saidAfter_37 (lv_at hl 1 rfl) ?_
      refine lv_iload C.1 C.2.1 dX1_saidAfter_39 (lv_at hl 0 rfl) ?_
      refine g_irem C hF dX1_saidAfter_41 (fun x10 hF => ?_)
      refine lv_istore (lv' := [(7, .int x10), (5, .int x8), (3, .int x6), (0, .ref a_t), (4, .int s2), (6, .int s4)]) C.1 C.2.1 dX1_saidAfter_42 hl (by decide) rfl (fun ls hl => ?_)
      refine lv_goto (tgt := 14) C.1 C.2.1 dX1_saidAfter_44 rfl ?_
      exact ih14 x6 s2 x8 s4 x10 H locs ls hV (lv_sub hl [3, 2, 4, 1, 5, 0] rfl) (hq14 x6 s2 x8 s4 x10 hF)
  exact hL14 n0 p1 p1 0 1 p2 H locs ls hV (lv_sub hl [5, 4, 3, 2, 1, 0] rfl) hF
abbrev rmX1_isOfPair : Room := { frames := 0, cells := 0, slots := 0, locals := 0 }
theorem mdX1_isOfPair : gMd yX1_isOfPair wsX1_isOfPair cX1_isOfPair 3 (some .boolean) 1 := ⟨⟨_, rfl⟩, by decide +kernel⟩
theorem flX1_isOfPair_9 : gFL wsX1_isOfPair RX1 9 1 1 RX1 TX1 4 := ⟨rfl, fun w h => List.mem_cons_of_mem _ (List.mem_append_right _ (h)), Nat.le_of_ble_eq_true rfl, List.mem_cons_of_mem _ (List.mem_append_left _ (List.mem_of_getElem? (i := 0) rfl))⟩
def F_X1_isOfPair (n0 : Nat) (f_hears : Nat → Int32) (p1 : Int32) : Option (Int32) := rd f_hears 10 p1 (fun x1 => (if x1 = ((-1)) then some (0 : Int32) else rd f_hears 10 x1 (fun x2 => (if x2 = p1 then some (1 : Int32) else some (0 : Int32)))))
set_option maxRecDepth 100000 in
set_option maxHeartbeats 4000000 in
theorem k_X1_isOfPair (l : Launch) (dC : Nat → ClassId) (dI : Nat → Nat → Nat) (cI cB cO : ClassId) (n0 sz : Nat) (a_t : Nat) (a_camp : Nat) (a_hears : Nat) (a_near : Nat) (a_gaps : Nat)   (f_hears : Nat → Int32) (p1 : Int32)  {ro : Int32} (hF : F_X1_isOfPair n0 f_hears p1 = some ro) : Met l yX1_isOfPair wsX1_isOfPair rmX1_isOfPair (va_Pc [.ref a_t, .int p1] (gPre (dC, dI) (gT cI cB cO) sz [oX1 a_t a_camp a_hears a_near a_gaps, aA cI a_hears 10 f_hears])) (gQi (dC, dI) (gT cI cB cO) sz [oX1 a_t a_camp a_hears a_near a_gaps, aA cI a_hears 10 f_hears] ro [oX1 a_t a_camp a_hears a_near a_gaps, aA cI a_hears 10 f_hears]) 0 0 (va_A [oX1 a_t a_camp a_hears a_near a_gaps, aA cI a_hears 10 f_hears] sz) := by
  refine g_metZ (Out := Int32) (fun oo => oo) (fun oo => [oX1 a_t a_camp a_hears a_near a_gaps, aA cI a_hears 10 f_hears]) ro (own := RX1) (lv := [(0, .ref a_t), (1, .int p1)]) (by decide) rfl rfl (Nat.le_of_ble_eq_true rfl) rfl ?_
  intro p e s m args below meth c Q ls C hret hV hl
  obtain ⟨out, hout⟩ : ∃ z : Int32, z = ro := ⟨_, rfl⟩
  rw [← hout] at hF hret
  obtain ⟨H0, hH0⟩ : ∃ z : Heap, z = s.heap := ⟨_, rfl⟩
  obtain ⟨A0, hA0⟩ : ∃ z : Nat → Prop, z = va_A [oX1 a_t a_camp a_hears a_near a_gaps, aA cI a_hears 10 f_hears] s.heap.size := ⟨_, rfl⟩
  rw [← hA0] at hret hV
  rw [← hH0] at hret hV
  rw [← hH0]
  obtain ⟨H, locs, hH⟩ : ∃ (z : Heap) (y : List Loc), z = H0 ∧ y = [] := ⟨_, _, rfl, rfl⟩
  rw [← hH.1, ← hH.2]
  have hV : gV (dC, dI) (gT cI cB cO) A0 H0 s [oX1 a_t a_camp a_hears a_near a_gaps, aA cI a_hears 10 f_hears] H locs := by rw [hH.1, hH.2]; exact hV
  unfold F_X1_isOfPair at hF
  refine lv_aload_n C.1 C.2.1 dX1_isOfPair_0 rfl (lv_at hl 0 rfl) ?_
  refine g_get C hV flX1_isOfPair_9 0 rfl rfl dX1_isOfPair_1 ?_
  refine lv_iload_n C.1 C.2.1 dX1_isOfPair_4 rfl (lv_at hl 1 rfl) ?_
  refine g_iald C hV 1 rfl hF dX1_isOfPair_5 (fun x1 hF => ?_)
  refine lv_istore_n (lv' := [(2, .int x1), (0, .ref a_t), (1, .int p1)]) C.1 C.2.1 dX1_isOfPair_6 rfl hl (by decide) rfl (fun ls hl => ?_)
  refine lv_iload_n C.1 C.2.1 dX1_isOfPair_7 rfl (lv_at hl 0 rfl) ?_
  refine lv_iconst (v := (-1)) C.1 C.2.1 dX1_isOfPair_8 rfl ?_
  refine g_icmp_eq (tgt := 26) C hF dX1_isOfPair_9 rfl (fun hF => ?_) (fun hF => ?_)
  · refine lv_iconst (v := 0) C.1 C.2.1 dX1_isOfPair_26 rfl ?_
    exact hret (0 : Int32) _ _ _ _ dX1_isOfPair_27 hF (Or.inl rfl) hV
  refine lv_aload_n C.1 C.2.1 dX1_isOfPair_12 rfl (lv_at hl 1 rfl) ?_
  refine g_get C hV flX1_isOfPair_9 0 rfl rfl dX1_isOfPair_13 ?_
  refine lv_iload_n C.1 C.2.1 dX1_isOfPair_16 rfl (lv_at hl 0 rfl) ?_
  refine g_iald C hV 1 rfl hF dX1_isOfPair_17 (fun x2 hF => ?_)
  refine lv_iload_n C.1 C.2.1 dX1_isOfPair_18 rfl (lv_at hl 2 rfl) ?_
  refine g_icmp_ne (tgt := 26) C hF dX1_isOfPair_19 rfl (fun hF => ?_) (fun hF => ?_)
  · refine lv_iconst (v := 0) C.1 C.2.1 dX1_isOfPair_26 rfl ?_
    exact hret (0 : Int32) _ _ _ _ dX1_isOfPair_27 hF (Or.inl rfl) hV
  refine lv_iconst (v := 1) C.1 C.2.1 dX1_isOfPair_22 rfl ?_
  refine lv_goto (tgt := 27) C.1 C.2.1 dX1_isOfPair_23 rfl ?_
  exact hret (1 : Int32) _ _ _ _ dX1_isOfPair_27 hF (Or.inr rfl) hV
abbrev rmX1_ofPairs : Room := { frames := 1, cells := 0, slots := 0, locals := 22 }
theorem mdX1_ofPairs : gMd yX1_ofPairs wsX1_ofPairs cX1_ofPairs 3 (some .int) 0 := ⟨⟨_, rfl⟩, by decide +kernel⟩
theorem flX1_ofPairs_21 : gFL wsX1_ofPairs RX1 21 1 0 RX1 TX1 4 := ⟨rfl, fun w h => List.mem_cons_of_mem _ (List.mem_append_left _ (List.mem_append_right _ (h))), Nat.le_of_ble_eq_true rfl, List.mem_cons_of_mem _ (List.mem_append_left _ (List.mem_append_left _ (List.mem_of_getElem? (i := 0) rfl)))⟩
theorem flX1_ofPairs_25 : gFL wsX1_ofPairs RX1 25 0 3 RX0 TX0 10 := ⟨rfl, fun w h => List.mem_cons_of_mem _ (List.mem_append_right _ (h)), Nat.le_of_ble_eq_true rfl, List.mem_cons_of_mem _ (List.mem_append_left _ (List.mem_append_left _ (List.mem_of_getElem? (i := 1) rfl)))⟩
def L_X1_ofPairs_4 (v_camp_tents : Int32) (n0 : Nat) (f_hears : Nat → Int32) : Nat → Int32 → Int32 → Option (Int32) := lpp2 (fun s1 s2 kk4 => (if v_camp_tents ≤ s2 then some s1 else bd1 (F_X1_isOfPair n0 f_hears s2) (fun x3 => (if x3 = 0 then nm (s2 + 1) (fun x4 => kk4 s1 x4) else nm (1 <<< (s2 &&& 31)) (fun x5 => nm (s1 ||| x5) (fun x6 => nm (s2 + 1) (fun x7 => kk4 x6 x7)))))))
def F_X1_ofPairs (n0 : Nat) (v_camp_tents : Int32) (f_hears : Nat → Int32) : Option (Int32) := L_X1_ofPairs_4 v_camp_tents n0 f_hears n0 0 0
set_option maxRecDepth 100000 in
set_option maxHeartbeats 4000000 in
theorem k_X1_ofPairs (l : Launch) (dC : Nat → ClassId) (dI : Nat → Nat → Nat) (cI cB cO : ClassId) (n0 sz : Nat) (a_t : Nat) (a_camp : Nat) (a_hears : Nat) (a_near : Nat) (a_gaps : Nat) (a_camp_kinds : Nat) (a_camp_yards : Nat) (a_camp_spots : Nat)   (v_camp_tents : Int32) (v_camp_said : Int32) (v_camp_wall : Int32) (v_camp_bridge : Int32) (v_camp_counted : Int32) (v_camp_day : Int32) (v_camp_z : Int32) (f_hears : Nat → Int32)   {ro : Int32} (hF : F_X1_ofPairs n0 v_camp_tents f_hears = some ro) : Met l yX1_ofPairs wsX1_ofPairs rmX1_ofPairs (va_Pc [.ref a_t] (gPre (dC, dI) (gT cI cB cO) sz [oX1 a_t a_camp a_hears a_near a_gaps, oX0 a_camp a_camp_kinds a_camp_yards a_camp_spots v_camp_tents v_camp_said v_camp_wall v_camp_bridge v_camp_counted v_camp_day v_camp_z, aA cI a_hears 10 f_hears])) (gQi (dC, dI) (gT cI cB cO) sz [oX1 a_t a_camp a_hears a_near a_gaps, oX0 a_camp a_camp_kinds a_camp_yards a_camp_spots v_camp_tents v_camp_said v_camp_wall v_camp_bridge v_camp_counted v_camp_day v_camp_z, aA cI a_hears 10 f_hears] ro [oX1 a_t a_camp a_hears a_near a_gaps, oX0 a_camp a_camp_kinds a_camp_yards a_camp_spots v_camp_tents v_camp_said v_camp_wall v_camp_bridge v_camp_counted v_camp_day v_camp_z, aA cI a_hears 10 f_hears]) 0 0 (va_A [oX1 a_t a_camp a_hears a_near a_gaps, oX0 a_camp a_camp_kinds a_camp_yards a_camp_spots v_camp_tents v_camp_said v_camp_wall v_camp_bridge v_camp_counted v_camp_day v_camp_z, aA cI a_hears 10 f_hears] sz) := by
  refine g_metI (Out := Int32) (fun oo => oo) (fun oo => [oX1 a_t a_camp a_hears a_near a_gaps, oX0 a_camp a_camp_kinds a_camp_yards a_camp_spots v_camp_tents v_camp_said v_camp_wall v_camp_bridge v_camp_counted v_camp_day v_camp_z, aA cI a_hears 10 f_hears]) ro (own := RX1) (lv := [(0, .ref a_t)]) (by decide) rfl rfl (Nat.le_of_ble_eq_true rfl) rfl ?_
  intro p e s m args below meth c Q ls C hret hV hl
  obtain ⟨out, hout⟩ : ∃ z : Int32, z = ro := ⟨_, rfl⟩
  rw [← hout] at hF hret
  obtain ⟨H0, hH0⟩ : ∃ z : Heap, z = s.heap := ⟨_, rfl⟩
  obtain ⟨A0, hA0⟩ : ∃ z : Nat → Prop, z = va_A [oX1 a_t a_camp a_hears a_near a_gaps, oX0 a_camp a_camp_kinds a_camp_yards a_camp_spots v_camp_tents v_camp_said v_camp_wall v_camp_bridge v_camp_counted v_camp_day v_camp_z, aA cI a_hears 10 f_hears] s.heap.size := ⟨_, rfl⟩
  rw [← hA0] at hret hV
  rw [← hH0] at hret hV
  rw [← hH0]
  obtain ⟨H, locs, hH⟩ : ∃ (z : Heap) (y : List Loc), z = H0 ∧ y = [] := ⟨_, _, rfl, rfl⟩
  rw [← hH.1, ← hH.2]
  have hV : gV (dC, dI) (gT cI cB cO) A0 H0 s [oX1 a_t a_camp a_hears a_near a_gaps, oX0 a_camp a_camp_kinds a_camp_yards a_camp_spots v_camp_tents v_camp_said v_camp_wall v_camp_bridge v_camp_counted v_camp_day v_camp_z, aA cI a_hears 10 f_hears] H locs := by rw [hH.1, hH.2]; exact hV
  unfold F_X1_ofPairs at hF
  refine lv_iconst (v := 0) C.1 C.2.1 dX1_ofPairs_0 rfl ?_
  refine lv_istore_n (lv' := [(1, .int 0), (0, .ref a_t)]) C.1 C.2.1 dX1_ofPairs_1 rfl hl (by decide) rfl (fun ls hl => ?_)
  refine lv_iconst (v := 0) C.1 C.2.1 dX1_ofPairs_2 rfl ?_
  refine lv_istore_n (lv' := [(2, .int 0), (1, .int 0), (0, .ref a_t)]) C.1 C.2.1 dX1_ofPairs_3 rfl hl (by decide) rfl (fun ls hl => ?_)
  have hL4 : ∀ (n : Nat) (s1 : Int32) (s2 : Int32) (H : Heap) (locs : List Loc) (ls : Array Slot), gV (dC, dI) (gT cI cB cO) A0 H0 s [oX1 a_t a_camp a_hears a_near a_gaps, oX0 a_camp a_camp_kinds a_camp_yards a_camp_spots v_camp_tents v_camp_said v_camp_wall v_camp_bridge v_camp_counted v_camp_day v_camp_z, aA cI a_hears 10 f_hears] H locs → lv_has ls 3 [(0, .ref a_t), (1, .int s1), (2, .int s2)] → L_X1_ofPairs_4 v_camp_tents n0 f_hears n s1 s2 = some out → W p l e rmX1_ofPairs s m args below meth c H locs 0 0 Q (F0 m 4 ls []) := by
    intro n
    induction n with
    | zero => intro s1 s2 H locs ls hV hl hF; exact lpp2_z hF
    | succ n ih4 =>
      intro s1 s2 H locs ls hV hl hF
      obtain ⟨kk4, hk4, hF⟩ := lpp2_g hF
      have hq4 : ∀ (s1 : Int32) (s2 : Int32), kk4 s1 s2 = some out → L_X1_ofPairs_4 v_camp_tents n0 f_hears n s1 s2 = some out := fun _ _ h => by rw [hk4] at h; exact h
      refine lv_iload_n C.1 C.2.1 dX1_ofPairs_4 rfl (lv_at hl 2 rfl) ?_
      refine lv_aload_n C.1 C.2.1 dX1_ofPairs_5 rfl (lv_at hl 0 rfl) ?_
      refine g_get C hV flX1_ofPairs_21 0 rfl rfl dX1_ofPairs_6 ?_
      refine g_get C hV flX1_ofPairs_25 1 rfl rfl dX1_ofPairs_9 ?_
      refine g_icmp_ge (tgt := 35) C hF dX1_ofPairs_12 rfl (fun hF => ?_) (fun hF => ?_)
      · refine lv_iload_n C.1 C.2.1 dX1_ofPairs_35 rfl (lv_at hl 1 rfl) ?_
        exact hret s1 _ _ _ _ dX1_ofPairs_36 hF hV
      refine lv_aload_n C.1 C.2.1 dX1_ofPairs_15 rfl (lv_at hl 0 rfl) ?_
      refine lv_iload_n C.1 C.2.1 dX1_ofPairs_16 rfl (lv_at hl 2 rfl) ?_
      obtain ⟨x3, hc, hF⟩ := bd1_s hF
      refine g_cVi (ws' := [oX1 a_t a_camp a_hears a_near a_gaps, oX0 a_camp a_camp_kinds a_camp_yards a_camp_spots v_camp_tents v_camp_said v_camp_wall v_camp_bridge v_camp_counted v_camp_day v_camp_z, aA cI a_hears 10 f_hears]) (wr := [oX0 a_camp a_camp_kinds a_camp_yards a_camp_spots v_camp_tents v_camp_said v_camp_wall v_camp_bridge v_camp_counted v_camp_day v_camp_z]) C hV (k_X1_isOfPair l dC dI cI cB cO n0 H.size a_t a_camp a_hears a_near a_gaps f_hears s2 hc) mdX1_isOfPair gX1_ofPairs_X1_isOfPair rfl rfl ⟨Nat.le_of_ble_eq_true rfl, Nat.le_of_ble_eq_true rfl⟩ [0, 2] [1] [1, 0, 2] rfl rfl rfl rfl rfl rfl rfl rfl rfl rfl hl.1 (Nat.le_of_ble_eq_true rfl) rfl dX1_ofPairs_17 (fun H locs hV => ?_)
      refine g_if_eq (tgt := 29) C hF dX1_ofPairs_20 rfl (fun hF => ?_) (fun hF => ?_)
      · refine g_iinc C hF dX1_ofPairs_29 (d := 1) rfl hl (j := 2) rfl (by decide) (fun y => [(2, .int y), (0, .ref a_t), (1, .int s1)]) (fun _ => rfl) (fun x4 ls hF hl => ?_)
        refine lv_goto (tgt := 4) C.1 C.2.1 dX1_ofPairs_32 rfl ?_
        exact ih4 s1 x4 H locs ls hV (lv_sub hl [1, 2, 0] rfl) (hq4 s1 x4 hF)
      refine lv_iload_n C.1 C.2.1 dX1_ofPairs_23 rfl (lv_at hl 1 rfl) ?_
      refine lv_iconst (v := 1) C.1 C.2.1 dX1_ofPairs_24 rfl ?_
      refine lv_iload_n C.1 C.2.1 dX1_ofPairs_25 rfl (lv_at hl 2 rfl) ?_
      refine g_ishl C hF dX1_ofPairs_26 (fun x5 hF => ?_)
      refine g_ior C hF dX1_ofPairs_27 (fun x6 hF => ?_)
      refine lv_istore_n (lv' := [(1, .int x6), (0, .ref a_t), (2, .int s2)]) C.1 C.2.1 dX1_ofPairs_28 rfl hl (by decide) rfl (fun ls hl => ?_)
      refine g_iinc C hF dX1_ofPairs_29 (d := 1) rfl hl (j := 2) rfl (by decide) (fun y => [(2, .int y), (1, .int x6), (0, .ref a_t)]) (fun _ => rfl) (fun x7 ls hF hl => ?_)
      refine lv_goto (tgt := 4) C.1 C.2.1 dX1_ofPairs_32 rfl ?_
      exact ih4 x6 x7 H locs ls hV (lv_sub hl [2, 1, 0] rfl) (hq4 x6 x7 hF)
  exact hL4 n0 0 0 H locs ls hV (lv_sub hl [2, 1, 0] rfl) hF
abbrev rmX1_countPairs : Room := { frames := 2, cells := 0, slots := 0, locals := 44 }
theorem mdX1_countPairs : gMd yX1_countPairs wsX1_countPairs cX1_countPairs 1 (some .int) 0 := ⟨⟨_, rfl⟩, by decide +kernel⟩
def F_X1_countPairs (n0 : Nat) (v_camp_tents : Int32) (f_hears : Nat → Int32) : Option (Int32) := bd1 (F_X1_ofPairs n0 v_camp_tents f_hears) (fun x1 => bd1 (F_J6_bitCount_0f7a4 n0 x1) (fun x2 => dvn 2 (x2 / 2) (fun x3 => some x3)))
set_option maxRecDepth 100000 in
set_option maxHeartbeats 4000000 in
theorem k_X1_countPairs (l : Launch) (dC : Nat → ClassId) (dI : Nat → Nat → Nat) (cI cB cO : ClassId) (n0 sz : Nat) (a_t : Nat) (a_camp : Nat) (a_hears : Nat) (a_near : Nat) (a_gaps : Nat) (a_camp_kinds : Nat) (a_camp_yards : Nat) (a_camp_spots : Nat)   (v_camp_tents : Int32) (v_camp_said : Int32) (v_camp_wall : Int32) (v_camp_bridge : Int32) (v_camp_counted : Int32) (v_camp_day : Int32) (v_camp_z : Int32) (f_hears : Nat → Int32)   {ro : Int32} (hF : F_X1_countPairs n0 v_camp_tents f_hears = some ro) : Met l yX1_countPairs wsX1_countPairs rmX1_countPairs (va_Pc [.ref a_t] (gPre (dC, dI) (gT cI cB cO) sz [oX1 a_t a_camp a_hears a_near a_gaps, oX0 a_camp a_camp_kinds a_camp_yards a_camp_spots v_camp_tents v_camp_said v_camp_wall v_camp_bridge v_camp_counted v_camp_day v_camp_z, aA cI a_hears 10 f_hears])) (gQi (dC, dI) (gT cI cB cO) sz [oX1 a_t a_camp a_hears a_near a_gaps, oX0 a_camp a_camp_kinds a_camp_yards a_camp_spots v_camp_tents v_camp_said v_camp_wall v_camp_bridge v_camp_counted v_camp_day v_camp_z, aA cI a_hears 10 f_hears] ro [oX1 a_t a_camp a_hears a_near a_gaps, oX0 a_camp a_camp_kinds a_camp_yards a_camp_spots v_camp_tents v_camp_said v_camp_wall v_camp_bridge v_camp_counted v_camp_day v_camp_z, aA cI a_hears 10 f_hears]) 0 0 (va_A [oX1 a_t a_camp a_hears a_near a_gaps, oX0 a_camp a_camp_kinds a_camp_yards a_camp_spots v_camp_tents v_camp_said v_camp_wall v_camp_bridge v_camp_counted v_camp_day v_camp_z, aA cI a_hears 10 f_hears] sz) := by
  refine g_metI (Out := Int32) (fun oo => oo) (fun oo => [oX1 a_t a_camp a_hears a_near a_gaps, oX0 a_camp a_camp_kinds a_camp_yards a_camp_spots v_camp_tents v_camp_said v_camp_wall v_camp_bridge v_camp_counted v_camp_day v_camp_z, aA cI a_hears 10 f_hears]) ro (own := RX1) (lv := [(0, .ref a_t)]) (by decide) rfl rfl (Nat.le_of_ble_eq_true rfl) rfl ?_
  intro p e s m args below meth c Q ls C hret hV hl
  obtain ⟨out, hout⟩ : ∃ z : Int32, z = ro := ⟨_, rfl⟩
  rw [← hout] at hF hret
  obtain ⟨H0, hH0⟩ : ∃ z : Heap, z = s.heap := ⟨_, rfl⟩
  obtain ⟨A0, hA0⟩ : ∃ z : Nat → Prop, z = va_A [oX1 a_t a_camp a_hears a_near a_gaps, oX0 a_camp a_camp_kinds a_camp_yards a_camp_spots v_camp_tents v_camp_said v_camp_wall v_camp_bridge v_camp_counted v_camp_day v_camp_z, aA cI a_hears 10 f_hears] s.heap.size := ⟨_, rfl⟩
  rw [← hA0] at hret hV
  rw [← hH0] at hret hV
  rw [← hH0]
  obtain ⟨H, locs, hH⟩ : ∃ (z : Heap) (y : List Loc), z = H0 ∧ y = [] := ⟨_, _, rfl, rfl⟩
  rw [← hH.1, ← hH.2]
  have hV : gV (dC, dI) (gT cI cB cO) A0 H0 s [oX1 a_t a_camp a_hears a_near a_gaps, oX0 a_camp a_camp_kinds a_camp_yards a_camp_spots v_camp_tents v_camp_said v_camp_wall v_camp_bridge v_camp_counted v_camp_day v_camp_z, aA cI a_hears 10 f_hears] H locs := by rw [hH.1, hH.2]; exact hV
  unfold F_X1_countPairs at hF
  refine lv_aload_n C.1 C.2.1 dX1_countPairs_0 rfl (lv_at hl 0 rfl) ?_
  obtain ⟨x1, hc, hF⟩ := bd1_s hF
  refine g_cVi (ws' := [oX1 a_t a_camp a_hears a_near a_gaps, oX0 a_camp a_camp_kinds a_camp_yards a_camp_spots v_camp_tents v_camp_said v_camp_wall v_camp_bridge v_camp_counted v_camp_day v_camp_z, aA cI a_hears 10 f_hears]) (wr := []) C hV (k_X1_ofPairs l dC dI cI cB cO n0 H.size a_t a_camp a_hears a_near a_gaps a_camp_kinds a_camp_yards a_camp_spots v_camp_tents v_camp_said v_camp_wall v_camp_bridge v_camp_counted v_camp_day v_camp_z f_hears hc) mdX1_ofPairs gX1_countPairs_X1_ofPairs rfl rfl ⟨Nat.le_of_ble_eq_true rfl, Nat.le_of_ble_eq_true rfl⟩ [0, 1, 2] [] [0, 1, 2] rfl rfl rfl rfl rfl rfl rfl rfl rfl rfl hl.1 (Nat.le_of_ble_eq_true rfl) rfl dX1_countPairs_1 (fun H locs hV => ?_)
  obtain ⟨x2, hc, hF⟩ := bd1_s hF
  refine g_cSi (ws' := [oX1 a_t a_camp a_hears a_near a_gaps, oX0 a_camp a_camp_kinds a_camp_yards a_camp_spots v_camp_tents v_camp_said v_camp_wall v_camp_bridge v_camp_counted v_camp_day v_camp_z, aA cI a_hears 10 f_hears]) (wr := [oX1 a_t a_camp a_hears a_near a_gaps, oX0 a_camp a_camp_kinds a_camp_yards a_camp_spots v_camp_tents v_camp_said v_camp_wall v_camp_bridge v_camp_counted v_camp_day v_camp_z, aA cI a_hears 10 f_hears]) C hV (k_J6_bitCount_0f7a4 l dC dI cI cB cO n0 H.size x1 hc) mdJ6_bitCount_0f7a4 gX1_countPairs_J6_bitCount_0f7a4 rfl rfl ⟨Nat.le_of_ble_eq_true rfl, Nat.le_of_ble_eq_true rfl⟩ [] [0, 1, 2] [0, 1, 2] rfl rfl rfl rfl rfl rfl rfl rfl hl.1 (Nat.le_of_ble_eq_true rfl) rfl dX1_countPairs_4 (fun H locs hV => ?_)
  refine lv_iconst (v := 2) C.1 C.2.1 dX1_countPairs_7 rfl ?_
  refine g_idiv C hF dX1_countPairs_8 (fun x3 hF => ?_)
  exact hret x3 _ _ _ _ dX1_countPairs_9 hF hV
abbrev rmX1_lineOf : Room := { frames := 1, cells := 0, slots := 0, locals := 22 }
theorem mdX1_lineOf : gMd yX1_lineOf wsX1_lineOf cX1_lineOf 4 (some .int) 1 := ⟨⟨_, rfl⟩, by decide +kernel⟩
theorem flX1_lineOf_21 : gFL wsX1_lineOf RX1 21 1 0 RX1 TX1 4 := ⟨rfl, fun w h => List.mem_cons_of_mem _ (List.mem_append_left _ (List.mem_append_right _ (h))), Nat.le_of_ble_eq_true rfl, List.mem_cons_of_mem _ (List.mem_append_left _ (List.mem_append_left _ (List.mem_of_getElem? (i := 0) rfl)))⟩
theorem flX1_lineOf_25 : gFL wsX1_lineOf RX1 25 0 3 RX0 TX0 10 := ⟨rfl, fun w h => List.mem_cons_of_mem _ (List.mem_append_right _ (h)), Nat.le_of_ble_eq_true rfl, List.mem_cons_of_mem _ (List.mem_append_left _ (List.mem_append_left _ (List.mem_of_getElem? (i := 1) rfl)))⟩
theorem flX1_lineOf_9 : gFL wsX1_lineOf RX1 9 1 1 RX1 TX1 4 := ⟨rfl, fun w h => List.mem_cons_of_mem _ (List.mem_append_left _ (List.mem_append_right _ (h))), Nat.le_of_ble_eq_true rfl, List.mem_cons_of_mem _ (List.mem_append_left _ (List.mem_append_left _ (List.mem_of_getElem? (i := 2) rfl)))⟩
def L_X1_lineOf_4 (v_camp_tents : Int32) (n0 : Nat) (f_hears : Nat → Int32) : Nat → Int32 → Int32 → Option (Int32) := lpp2 (fun s1 s2 kk4 => (if v_camp_tents < s2 then some ((-1)) else (if s1 = ((-1)) then some ((-1)) else bd1 (F_X1_isOfPair n0 f_hears s1) (fun x3 => (if x3 = 0 then rd f_hears 10 s1 (fun x4 => nm (s2 + 1) (fun x5 => kk4 x4 x5)) else some s2)))))
def F_X1_lineOf (n0 : Nat) (v_camp_tents : Int32) (f_hears : Nat → Int32) (p1 : Int32) : Option (Int32) := L_X1_lineOf_4 v_camp_tents n0 f_hears n0 p1 0
set_option maxRecDepth 100000 in
set_option maxHeartbeats 4000000 in
theorem k_X1_lineOf (l : Launch) (dC : Nat → ClassId) (dI : Nat → Nat → Nat) (cI cB cO : ClassId) (n0 sz : Nat) (a_t : Nat) (a_camp : Nat) (a_hears : Nat) (a_near : Nat) (a_gaps : Nat) (a_camp_kinds : Nat) (a_camp_yards : Nat) (a_camp_spots : Nat)   (v_camp_tents : Int32) (v_camp_said : Int32) (v_camp_wall : Int32) (v_camp_bridge : Int32) (v_camp_counted : Int32) (v_camp_day : Int32) (v_camp_z : Int32) (f_hears : Nat → Int32) (p1 : Int32)  {ro : Int32} (hF : F_X1_lineOf n0 v_camp_tents f_hears p1 = some ro) : Met l yX1_lineOf wsX1_lineOf rmX1_lineOf (va_Pc [.ref a_t, .int p1] (gPre (dC, dI) (gT cI cB cO) sz [oX1 a_t a_camp a_hears a_near a_gaps, oX0 a_camp a_camp_kinds a_camp_yards a_camp_spots v_camp_tents v_camp_said v_camp_wall v_camp_bridge v_camp_counted v_camp_day v_camp_z, aA cI a_hears 10 f_hears])) (gQi (dC, dI) (gT cI cB cO) sz [oX1 a_t a_camp a_hears a_near a_gaps, oX0 a_camp a_camp_kinds a_camp_yards a_camp_spots v_camp_tents v_camp_said v_camp_wall v_camp_bridge v_camp_counted v_camp_day v_camp_z, aA cI a_hears 10 f_hears] ro [oX1 a_t a_camp a_hears a_near a_gaps, oX0 a_camp a_camp_kinds a_camp_yards a_camp_spots v_camp_tents v_camp_said v_camp_wall v_camp_bridge v_camp_counted v_camp_day v_camp_z, aA cI a_hears 10 f_hears]) 0 0 (va_A [oX1 a_t a_camp a_hears a_near a_gaps, oX0 a_camp a_camp_kinds a_camp_yards a_camp_spots v_camp_tents v_camp_said v_camp_wall v_camp_bridge v_camp_counted v_camp_day v_camp_z, aA cI a_hears 10 f_hears] sz) := by
  refine g_metI (Out := Int32) (fun oo => oo) (fun oo => [oX1 a_t a_camp a_hears a_near a_gaps, oX0 a_camp a_camp_kinds a_camp_yards a_camp_spots v_camp_tents v_camp_said v_camp_wall v_camp_bridge v_camp_counted v_camp_day v_camp_z, aA cI a_hears 10 f_hears]) ro (own := RX1) (lv := [(0, .ref a_t), (1, .int p1)]) (by decide) rfl rfl (Nat.le_of_ble_eq_true rfl) rfl ?_
  intro p e s m args below meth c Q ls C hret hV hl
  obtain ⟨out, hout⟩ : ∃ z : Int32, z = ro := ⟨_, rfl⟩
  rw [← hout] at hF hret
  obtain ⟨H0, hH0⟩ : ∃ z : Heap, z = s.heap := ⟨_, rfl⟩
  obtain ⟨A0, hA0⟩ : ∃ z : Nat → Prop, z = va_A [oX1 a_t a_camp a_hears a_near a_gaps, oX0 a_camp a_camp_kinds a_camp_yards a_camp_spots v_camp_tents v_camp_said v_camp_wall v_camp_bridge v_camp_counted v_camp_day v_camp_z, aA cI a_hears 10 f_hears] s.heap.size := ⟨_, rfl⟩
  rw [← hA0] at hret hV
  rw [← hH0] at hret hV
  rw [← hH0]
  obtain ⟨H, locs, hH⟩ : ∃ (z : Heap) (y : List Loc), z = H0 ∧ y = [] := ⟨_, _, rfl, rfl⟩
  rw [← hH.1, ← hH.2]
  have hV : gV (dC, dI) (gT cI cB cO) A0 H0 s [oX1 a_t a_camp a_hears a_near a_gaps, oX0 a_camp a_camp_kinds a_camp_yards a_camp_spots v_camp_tents v_camp_said v_camp_wall v_camp_bridge v_camp_counted v_camp_day v_camp_z, aA cI a_hears 10 f_hears] H locs := by rw [hH.1, hH.2]; exact hV
  unfold F_X1_lineOf at hF
  refine lv_iload_n C.1 C.2.1 dX1_lineOf_0 rfl (lv_at hl 1 rfl) ?_
  refine lv_istore_n (lv' := [(2, .int p1), (0, .ref a_t), (1, .int p1)]) C.1 C.2.1 dX1_lineOf_1 rfl hl (by decide) rfl (fun ls hl => ?_)
  refine lv_iconst (v := 0) C.1 C.2.1 dX1_lineOf_2 rfl ?_
  refine lv_istore_n (lv' := [(3, .int 0), (2, .int p1), (0, .ref a_t), (1, .int p1)]) C.1 C.2.1 dX1_lineOf_3 rfl hl (by decide) rfl (fun ls hl => ?_)
  have hL4 : ∀ (n : Nat) (s1 : Int32) (s2 : Int32) (H : Heap) (locs : List Loc) (ls : Array Slot), gV (dC, dI) (gT cI cB cO) A0 H0 s [oX1 a_t a_camp a_hears a_near a_gaps, oX0 a_camp a_camp_kinds a_camp_yards a_camp_spots v_camp_tents v_camp_said v_camp_wall v_camp_bridge v_camp_counted v_camp_day v_camp_z, aA cI a_hears 10 f_hears] H locs → lv_has ls 4 [(0, .ref a_t), (2, .int s1), (3, .int s2)] → L_X1_lineOf_4 v_camp_tents n0 f_hears n s1 s2 = some out → W p l e rmX1_lineOf s m args below meth c H locs 0 0 Q (F0 m 4 ls []) := by
    intro n
    induction n with
    | zero => intro s1 s2 H locs ls hV hl hF; exact lpp2_z hF
    | succ n ih4 =>
      intro s1 s2 H locs ls hV hl hF
      obtain ⟨kk4, hk4, hF⟩ := lpp2_g hF
      have hq4 : ∀ (s1 : Int32) (s2 : Int32), kk4 s1 s2 = some out → L_X1_lineOf_4 v_camp_tents n0 f_hears n s1 s2 = some out := fun _ _ h => by rw [hk4] at h; exact h
      refine lv_iload_n C.1 C.2.1 dX1_lineOf_4 rfl (lv_at hl 2 rfl) ?_
      refine lv_aload_n C.1 C.2.1 dX1_lineOf_5 rfl (lv_at hl 0 rfl) ?_
      refine g_get C hV flX1_lineOf_21 0 rfl rfl dX1_lineOf_6 ?_
      refine g_get C hV flX1_lineOf_25 1 rfl rfl dX1_lineOf_9 ?_
      refine g_icmp_gt (tgt := 43) C hF dX1_lineOf_12 rfl (fun hF => ?_) (fun hF => ?_)
      · refine lv_iconst (v := (-1)) C.1 C.2.1 dX1_lineOf_43 rfl ?_
        exact hret ((-1)) _ _ _ _ dX1_lineOf_44 hF hV
      refine lv_iload_n C.1 C.2.1 dX1_lineOf_15 rfl (lv_at hl 1 rfl) ?_
      refine lv_iconst (v := (-1)) C.1 C.2.1 dX1_lineOf_16 rfl ?_
      refine g_icmp_eq (tgt := 43) C hF dX1_lineOf_17 rfl (fun hF => ?_) (fun hF => ?_)
      · refine lv_iconst (v := (-1)) C.1 C.2.1 dX1_lineOf_43 rfl ?_
        exact hret ((-1)) _ _ _ _ dX1_lineOf_44 hF hV
      refine lv_aload_n C.1 C.2.1 dX1_lineOf_20 rfl (lv_at hl 0 rfl) ?_
      refine lv_iload_n C.1 C.2.1 dX1_lineOf_21 rfl (lv_at hl 1 rfl) ?_
      obtain ⟨x3, hc, hF⟩ := bd1_s hF
      refine g_cVi (ws' := [oX1 a_t a_camp a_hears a_near a_gaps, oX0 a_camp a_camp_kinds a_camp_yards a_camp_spots v_camp_tents v_camp_said v_camp_wall v_camp_bridge v_camp_counted v_camp_day v_camp_z, aA cI a_hears 10 f_hears]) (wr := [oX0 a_camp a_camp_kinds a_camp_yards a_camp_spots v_camp_tents v_camp_said v_camp_wall v_camp_bridge v_camp_counted v_camp_day v_camp_z]) C hV (k_X1_isOfPair l dC dI cI cB cO n0 H.size a_t a_camp a_hears a_near a_gaps f_hears s1 hc) mdX1_isOfPair gX1_lineOf_X1_isOfPair rfl rfl ⟨Nat.le_of_ble_eq_true rfl, Nat.le_of_ble_eq_true rfl⟩ [0, 2] [1] [1, 0, 2] rfl rfl rfl rfl rfl rfl rfl rfl rfl rfl hl.1 (Nat.le_of_ble_eq_true rfl) rfl dX1_lineOf_22 (fun H locs hV => ?_)
      refine g_if_eq (tgt := 30) C hF dX1_lineOf_25 rfl (fun hF => ?_) (fun hF => ?_)
      · refine lv_aload_n C.1 C.2.1 dX1_lineOf_30 rfl (lv_at hl 0 rfl) ?_
        refine g_get C hV flX1_lineOf_9 0 rfl rfl dX1_lineOf_31 ?_
        refine lv_iload_n C.1 C.2.1 dX1_lineOf_34 rfl (lv_at hl 1 rfl) ?_
        refine g_iald C hV 2 rfl hF dX1_lineOf_35 (fun x4 hF => ?_)
        refine lv_istore_n (lv' := [(2, .int x4), (0, .ref a_t), (3, .int s2)]) C.1 C.2.1 dX1_lineOf_36 rfl hl (by decide) rfl (fun ls hl => ?_)
        refine g_iinc C hF dX1_lineOf_37 (d := 1) rfl hl (j := 2) rfl (by decide) (fun y => [(3, .int y), (2, .int x4), (0, .ref a_t)]) (fun _ => rfl) (fun x5 ls hF hl => ?_)
        refine lv_goto (tgt := 4) C.1 C.2.1 dX1_lineOf_40 rfl ?_
        exact ih4 x4 x5 H locs ls hV (lv_sub hl [2, 1, 0] rfl) (hq4 x4 x5 hF)
      refine lv_iload_n C.1 C.2.1 dX1_lineOf_28 rfl (lv_at hl 2 rfl) ?_
      exact hret s2 _ _ _ _ dX1_lineOf_29 hF hV
  exact hL4 n0 p1 0 H locs ls hV (lv_sub hl [2, 1, 0] rfl) hF
abbrev rmX1_longestLine : Room := { frames := 2, cells := 0, slots := 0, locals := 45 }
theorem mdX1_longestLine : gMd yX1_longestLine wsX1_longestLine cX1_longestLine 3 (some .int) 0 := ⟨⟨_, rfl⟩, by decide +kernel⟩
theorem flX1_longestLine_21 : gFL wsX1_longestLine RX1 21 1 0 RX1 TX1 4 := ⟨rfl, fun w h => List.mem_cons_of_mem _ (List.mem_append_left _ (List.mem_append_right _ (h))), Nat.le_of_ble_eq_true rfl, List.mem_cons_of_mem _ (List.mem_append_left _ (List.mem_append_left _ (List.mem_of_getElem? (i := 0) rfl)))⟩
theorem flX1_longestLine_25 : gFL wsX1_longestLine RX1 25 0 3 RX0 TX0 10 := ⟨rfl, fun w h => List.mem_cons_of_mem _ (List.mem_append_right _ (h)), Nat.le_of_ble_eq_true rfl, List.mem_cons_of_mem _ (List.mem_append_left _ (List.mem_append_left _ (List.mem_of_getElem? (i := 1) rfl)))⟩
theorem mxX1_longestLine_84 : gMth wsX1_longestLine RX1 84 Lib.Math.max.name Lib.Math.max.code 2 := ⟨List.mem_cons_of_mem _ (List.mem_append_left _ (List.mem_append_left _ (List.mem_of_getElem? (i := 2) rfl))), List.mem_cons_of_mem _ (List.mem_append_left _ (List.mem_append_left _ (List.mem_of_getElem? (i := 3) rfl))), List.mem_cons_of_mem _ (List.mem_append_left _ (List.mem_append_left _ (List.mem_of_getElem? (i := 4) rfl))), List.mem_cons_of_mem _ (List.mem_append_left _ (List.mem_append_left _ (List.mem_of_getElem? (i := 5) rfl)))⟩
def L_X1_longestLine_4 (v_camp_tents : Int32) (n0 : Nat) (f_hears : Nat → Int32) : Nat → Int32 → Int32 → Option (Int32) := lpp2 (fun s1 s2 kk4 => (if v_camp_tents ≤ s2 then some s1 else bd1 (F_X1_lineOf n0 v_camp_tents f_hears s2) (fun x3 => nm (if s1 < x3 then x3 else s1) (fun x4 => nm (s2 + 1) (fun x5 => kk4 x4 x5)))))
def F_X1_longestLine (n0 : Nat) (v_camp_tents : Int32) (f_hears : Nat → Int32) : Option (Int32) := L_X1_longestLine_4 v_camp_tents n0 f_hears n0 ((-1)) 0
set_option maxRecDepth 100000 in
set_option maxHeartbeats 4000000 in
theorem k_X1_longestLine (l : Launch) (dC : Nat → ClassId) (dI : Nat → Nat → Nat) (cI cB cO : ClassId) (n0 sz : Nat) (a_t : Nat) (a_camp : Nat) (a_hears : Nat) (a_near : Nat) (a_gaps : Nat) (a_camp_kinds : Nat) (a_camp_yards : Nat) (a_camp_spots : Nat)   (v_camp_tents : Int32) (v_camp_said : Int32) (v_camp_wall : Int32) (v_camp_bridge : Int32) (v_camp_counted : Int32) (v_camp_day : Int32) (v_camp_z : Int32) (f_hears : Nat → Int32)   {ro : Int32} (hF : F_X1_longestLine n0 v_camp_tents f_hears = some ro) : Met l yX1_longestLine wsX1_longestLine rmX1_longestLine (va_Pc [.ref a_t] (gPre (dC, dI) (gT cI cB cO) sz [oX1 a_t a_camp a_hears a_near a_gaps, oX0 a_camp a_camp_kinds a_camp_yards a_camp_spots v_camp_tents v_camp_said v_camp_wall v_camp_bridge v_camp_counted v_camp_day v_camp_z, aA cI a_hears 10 f_hears])) (gQi (dC, dI) (gT cI cB cO) sz [oX1 a_t a_camp a_hears a_near a_gaps, oX0 a_camp a_camp_kinds a_camp_yards a_camp_spots v_camp_tents v_camp_said v_camp_wall v_camp_bridge v_camp_counted v_camp_day v_camp_z, aA cI a_hears 10 f_hears] ro [oX1 a_t a_camp a_hears a_near a_gaps, oX0 a_camp a_camp_kinds a_camp_yards a_camp_spots v_camp_tents v_camp_said v_camp_wall v_camp_bridge v_camp_counted v_camp_day v_camp_z, aA cI a_hears 10 f_hears]) 0 0 (va_A [oX1 a_t a_camp a_hears a_near a_gaps, oX0 a_camp a_camp_kinds a_camp_yards a_camp_spots v_camp_tents v_camp_said v_camp_wall v_camp_bridge v_camp_counted v_camp_day v_camp_z, aA cI a_hears 10 f_hears] sz) := by
  refine g_metI (Out := Int32) (fun oo => oo) (fun oo => [oX1 a_t a_camp a_hears a_near a_gaps, oX0 a_camp a_camp_kinds a_camp_yards a_camp_spots v_camp_tents v_camp_said v_camp_wall v_camp_bridge v_camp_counted v_camp_day v_camp_z, aA cI a_hears 10 f_hears]) ro (own := RX1) (lv := [(0, .ref a_t)]) (by decide) rfl rfl (Nat.le_of_ble_eq_true rfl) rfl ?_
  intro p e s m args below meth c Q ls C hret hV hl
  obtain ⟨out, hout⟩ : ∃ z : Int32, z = ro := ⟨_, rfl⟩
  rw [← hout] at hF hret
  obtain ⟨H0, hH0⟩ : ∃ z : Heap, z = s.heap := ⟨_, rfl⟩
  obtain ⟨A0, hA0⟩ : ∃ z : Nat → Prop, z = va_A [oX1 a_t a_camp a_hears a_near a_gaps, oX0 a_camp a_camp_kinds a_camp_yards a_camp_spots v_camp_tents v_camp_said v_camp_wall v_camp_bridge v_camp_counted v_camp_day v_camp_z, aA cI a_hears 10 f_hears] s.heap.size := ⟨_, rfl⟩
  rw [← hA0] at hret hV
  rw [← hH0] at hret hV
  rw [← hH0]
  obtain ⟨H, locs, hH⟩ : ∃ (z : Heap) (y : List Loc), z = H0 ∧ y = [] := ⟨_, _, rfl, rfl⟩
  rw [← hH.1, ← hH.2]
  have hV : gV (dC, dI) (gT cI cB cO) A0 H0 s [oX1 a_t a_camp a_hears a_near a_gaps, oX0 a_camp a_camp_kinds a_camp_yards a_camp_spots v_camp_tents v_camp_said v_camp_wall v_camp_bridge v_camp_counted v_camp_day v_camp_z, aA cI a_hears 10 f_hears] H locs := by rw [hH.1, hH.2]; exact hV
  unfold F_X1_longestLine at hF
  refine lv_iconst (v := (-1)) C.1 C.2.1 dX1_longestLine_0 rfl ?_
  refine lv_istore_n (lv' := [(1, .int ((-1))), (0, .ref a_t)]) C.1 C.2.1 dX1_longestLine_1 rfl hl (by decide) rfl (fun ls hl => ?_)
  refine lv_iconst (v := 0) C.1 C.2.1 dX1_longestLine_2 rfl ?_
  refine lv_istore_n (lv' := [(2, .int 0), (1, .int ((-1))), (0, .ref a_t)]) C.1 C.2.1 dX1_longestLine_3 rfl hl (by decide) rfl (fun ls hl => ?_)
  have hL4 : ∀ (n : Nat) (s1 : Int32) (s2 : Int32) (H : Heap) (locs : List Loc) (ls : Array Slot), gV (dC, dI) (gT cI cB cO) A0 H0 s [oX1 a_t a_camp a_hears a_near a_gaps, oX0 a_camp a_camp_kinds a_camp_yards a_camp_spots v_camp_tents v_camp_said v_camp_wall v_camp_bridge v_camp_counted v_camp_day v_camp_z, aA cI a_hears 10 f_hears] H locs → lv_has ls 3 [(0, .ref a_t), (1, .int s1), (2, .int s2)] → L_X1_longestLine_4 v_camp_tents n0 f_hears n s1 s2 = some out → W p l e rmX1_longestLine s m args below meth c H locs 0 0 Q (F0 m 4 ls []) := by
    intro n
    induction n with
    | zero => intro s1 s2 H locs ls hV hl hF; exact lpp2_z hF
    | succ n ih4 =>
      intro s1 s2 H locs ls hV hl hF
      obtain ⟨kk4, hk4, hF⟩ := lpp2_g hF
      have hq4 : ∀ (s1 : Int32) (s2 : Int32), kk4 s1 s2 = some out → L_X1_longestLine_4 v_camp_tents n0 f_hears n s1 s2 = some out := fun _ _ h => by rw [hk4] at h; exact h
      refine lv_iload_n C.1 C.2.1 dX1_longestLine_4 rfl (lv_at hl 2 rfl) ?_
      refine lv_aload_n C.1 C.2.1 dX1_longestLine_5 rfl (lv_at hl 0 rfl) ?_
      refine g_get C hV flX1_longestLine_21 0 rfl rfl dX1_longestLine_6 ?_
      refine g_get C hV flX1_longestLine_25 1 rfl rfl dX1_longestLine_9 ?_
      refine g_icmp_ge (tgt := 31) C hF dX1_longestLine_12 rfl (fun hF => ?_) (fun hF => ?_)
      · refine lv_iload_n C.1 C.2.1 dX1_longestLine_31 rfl (lv_at hl 1 rfl) ?_
        exact hret s1 _ _ _ _ dX1_longestLine_32 hF hV
      refine lv_iload_n C.1 C.2.1 dX1_longestLine_15 rfl (lv_at hl 1 rfl) ?_
      refine lv_aload_n C.1 C.2.1 dX1_longestLine_16 rfl (lv_at hl 0 rfl) ?_
      refine lv_iload_n C.1 C.2.1 dX1_longestLine_17 rfl (lv_at hl 2 rfl) ?_
      obtain ⟨x3, hc, hF⟩ := bd1_s hF
      refine g_cVi (ws' := [oX1 a_t a_camp a_hears a_near a_gaps, oX0 a_camp a_camp_kinds a_camp_yards a_camp_spots v_camp_tents v_camp_said v_camp_wall v_camp_bridge v_camp_counted v_camp_day v_camp_z, aA cI a_hears 10 f_hears]) (wr := []) C hV (k_X1_lineOf l dC dI cI cB cO n0 H.size a_t a_camp a_hears a_near a_gaps a_camp_kinds a_camp_yards a_camp_spots v_camp_tents v_camp_said v_camp_wall v_camp_bridge v_camp_counted v_camp_day v_camp_z f_hears s2 hc) mdX1_lineOf gX1_longestLine_X1_lineOf rfl rfl ⟨Nat.le_of_ble_eq_true rfl, Nat.le_of_ble_eq_true rfl⟩ [0, 1, 2] [] [0, 1, 2] rfl rfl rfl rfl rfl rfl rfl rfl rfl rfl hl.1 (Nat.le_of_ble_eq_true rfl) rfl dX1_longestLine_18 (fun H locs hV => ?_)
      refine g_mmax C hl mxX1_longestLine_84 (Nat.le_of_ble_eq_true rfl) (Nat.le_of_ble_eq_true rfl) hF dX1_longestLine_21 (fun x4 hF => ?_)
      refine lv_istore_n (lv' := [(1, .int x4), (0, .ref a_t), (2, .int s2)]) C.1 C.2.1 dX1_longestLine_24 rfl hl (by decide) rfl (fun ls hl => ?_)
      refine g_iinc C hF dX1_longestLine_25 (d := 1) rfl hl (j := 2) rfl (by decide) (fun y => [(2, .int y), (1, .int x4), (0, .ref a_t)]) (fun _ => rfl) (fun x5 ls hF hl => ?_)
      refine lv_goto (tgt := 4) C.1 C.2.1 dX1_longestLine_28 rfl ?_
      exact ih4 x4 x5 H locs ls hV (lv_sub hl [2, 1, 0] rfl) (hq4 x4 x5 hF)
  exact hL4 n0 ((-1)) 0 H locs ls hV (lv_sub hl [2, 1, 0] rfl) hF
abbrev rmX1_countLined : Room := { frames := 2, cells := 0, slots := 0, locals := 45 }
theorem mdX1_countLined : gMd yX1_countLined wsX1_countLined cX1_countLined 3 (some .int) 0 := ⟨⟨_, rfl⟩, by decide +kernel⟩
theorem flX1_countLined_21 : gFL wsX1_countLined RX1 21 1 0 RX1 TX1 4 := ⟨rfl, fun w h => List.mem_cons_of_mem _ (List.mem_append_left _ (List.mem_append_right _ (h))), Nat.le_of_ble_eq_true rfl, List.mem_cons_of_mem _ (List.mem_append_left _ (List.mem_append_left _ (List.mem_of_getElem? (i := 0) rfl)))⟩
theorem flX1_countLined_25 : gFL wsX1_countLined RX1 25 0 3 RX0 TX0 10 := ⟨rfl, fun w h => List.mem_cons_of_mem _ (List.mem_append_right _ (h)), Nat.le_of_ble_eq_true rfl, List.mem_cons_of_mem _ (List.mem_append_left _ (List.mem_append_left _ (List.mem_of_getElem? (i := 1) rfl)))⟩
def L_X1_countLined_4 (v_camp_tents : Int32) (n0 : Nat) (f_hears : Nat → Int32) : Nat → Int32 → Int32 → Option (Int32) := lpp2 (fun s1 s2 kk4 => (if v_camp_tents ≤ s2 then some s1 else bd1 (F_X1_lineOf n0 v_camp_tents f_hears s2) (fun x3 => (if x3 < 0 then nm (s2 + 1) (fun x4 => kk4 s1 x4) else nm (s1 + 1) (fun x5 => nm (s2 + 1) (fun x6 => kk4 x5 x6))))))
def F_X1_countLined (n0 : Nat) (v_camp_tents : Int32) (f_hears : Nat → Int32) : Option (Int32) := L_X1_countLined_4 v_camp_tents n0 f_hears n0 0 0
set_option maxRecDepth 100000 in
set_option maxHeartbeats 4000000 in
theorem k_X1_countLined (l : Launch) (dC : Nat → ClassId) (dI : Nat → Nat → Nat) (cI cB cO : ClassId) (n0 sz : Nat) (a_t : Nat) (a_camp : Nat) (a_hears : Nat) (a_near : Nat) (a_gaps : Nat) (a_camp_kinds : Nat) (a_camp_yards : Nat) (a_camp_spots : Nat)   (v_camp_tents : Int32) (v_camp_said : Int32) (v_camp_wall : Int32) (v_camp_bridge : Int32) (v_camp_counted : Int32) (v_camp_day : Int32) (v_camp_z : Int32) (f_hears : Nat → Int32)   {ro : Int32} (hF : F_X1_countLined n0 v_camp_tents f_hears = some ro) : Met l yX1_countLined wsX1_countLined rmX1_countLined (va_Pc [.ref a_t] (gPre (dC, dI) (gT cI cB cO) sz [oX1 a_t a_camp a_hears a_near a_gaps, oX0 a_camp a_camp_kinds a_camp_yards a_camp_spots v_camp_tents v_camp_said v_camp_wall v_camp_bridge v_camp_counted v_camp_day v_camp_z, aA cI a_hears 10 f_hears])) (gQi (dC, dI) (gT cI cB cO) sz [oX1 a_t a_camp a_hears a_near a_gaps, oX0 a_camp a_camp_kinds a_camp_yards a_camp_spots v_camp_tents v_camp_said v_camp_wall v_camp_bridge v_camp_counted v_camp_day v_camp_z, aA cI a_hears 10 f_hears] ro [oX1 a_t a_camp a_hears a_near a_gaps, oX0 a_camp a_camp_kinds a_camp_yards a_camp_spots v_camp_tents v_camp_said v_camp_wall v_camp_bridge v_camp_counted v_camp_day v_camp_z, aA cI a_hears 10 f_hears]) 0 0 (va_A [oX1 a_t a_camp a_hears a_near a_gaps, oX0 a_camp a_camp_kinds a_camp_yards a_camp_spots v_camp_tents v_camp_said v_camp_wall v_camp_bridge v_camp_counted v_camp_day v_camp_z, aA cI a_hears 10 f_hears] sz) := by
  refine g_metI (Out := Int32) (fun oo => oo) (fun oo => [oX1 a_t a_camp a_hears a_near a_gaps, oX0 a_camp a_camp_kinds a_camp_yards a_camp_spots v_camp_tents v_camp_said v_camp_wall v_camp_bridge v_camp_counted v_camp_day v_camp_z, aA cI a_hears 10 f_hears]) ro (own := RX1) (lv := [(0, .ref a_t)]) (by decide) rfl rfl (Nat.le_of_ble_eq_true rfl) rfl ?_
  intro p e s m args below meth c Q ls C hret hV hl
  obtain ⟨out, hout⟩ : ∃ z : Int32, z = ro := ⟨_, rfl⟩
  rw [← hout] at hF hret
  obtain ⟨H0, hH0⟩ : ∃ z : Heap, z = s.heap := ⟨_, rfl⟩
  obtain ⟨A0, hA0⟩ : ∃ z : Nat → Prop, z = va_A [oX1 a_t a_camp a_hears a_near a_gaps, oX0 a_camp a_camp_kinds a_camp_yards a_camp_spots v_camp_tents v_camp_said v_camp_wall v_camp_bridge v_camp_counted v_camp_day v_camp_z, aA cI a_hears 10 f_hears] s.heap.size := ⟨_, rfl⟩
  rw [← hA0] at hret hV
  rw [← hH0] at hret hV
  rw [← hH0]
  obtain ⟨H, locs, hH⟩ : ∃ (z : Heap) (y : List Loc), z = H0 ∧ y = [] := ⟨_, _, rfl, rfl⟩
  rw [← hH.1, ← hH.2]
  have hV : gV (dC, dI) (gT cI cB cO) A0 H0 s [oX1 a_t a_camp a_hears a_near a_gaps, oX0 a_camp a_camp_kinds a_camp_yards a_camp_spots v_camp_tents v_camp_said v_camp_wall v_camp_bridge v_camp_counted v_camp_day v_camp_z, aA cI a_hears 10 f_hears] H locs := by rw [hH.1, hH.2]; exact hV
  unfold F_X1_countLined at hF
  refine lv_iconst (v := 0) C.1 C.2.1 dX1_countLined_0 rfl ?_
  refine lv_istore_n (lv' := [(1, .int 0), (0, .ref a_t)]) C.1 C.2.1 dX1_countLined_1 rfl hl (by decide) rfl (fun ls hl => ?_)
  refine lv_iconst (v := 0) C.1 C.2.1 dX1_countLined_2 rfl ?_
  refine lv_istore_n (lv' := [(2, .int 0), (1, .int 0), (0, .ref a_t)]) C.1 C.2.1 dX1_countLined_3 rfl hl (by decide) rfl (fun ls hl => ?_)
  have hL4 : ∀ (n : Nat) (s1 : Int32) (s2 : Int32) (H : Heap) (locs : List Loc) (ls : Array Slot), gV (dC, dI) (gT cI cB cO) A0 H0 s [oX1 a_t a_camp a_hears a_near a_gaps, oX0 a_camp a_camp_kinds a_camp_yards a_camp_spots v_camp_tents v_camp_said v_camp_wall v_camp_bridge v_camp_counted v_camp_day v_camp_z, aA cI a_hears 10 f_hears] H locs → lv_has ls 3 [(0, .ref a_t), (1, .int s1), (2, .int s2)] → L_X1_countLined_4 v_camp_tents n0 f_hears n s1 s2 = some out → W p l e rmX1_countLined s m args below meth c H locs 0 0 Q (F0 m 4 ls []) := by
    intro n
    induction n with
    | zero => intro s1 s2 H locs ls hV hl hF; exact lpp2_z hF
    | succ n ih4 =>
      intro s1 s2 H locs ls hV hl hF
      obtain ⟨kk4, hk4, hF⟩ := lpp2_g hF
      have hq4 : ∀ (s1 : Int32) (s2 : Int32), kk4 s1 s2 = some out → L_X1_countLined_4 v_camp_tents n0 f_hears n s1 s2 = some out := fun _ _ h => by rw [hk4] at h; exact h
      refine lv_iload_n C.1 C.2.1 dX1_countLined_4 rfl (lv_at hl 2 rfl) ?_
      refine lv_aload_n C.1 C.2.1 dX1_countLined_5 rfl (lv_at hl 0 rfl) ?_
      refine g_get C hV flX1_countLined_21 0 rfl rfl dX1_countLined_6 ?_
      refine g_get C hV flX1_countLined_25 1 rfl rfl dX1_countLined_9 ?_
      refine g_icmp_ge (tgt := 32) C hF dX1_countLined_12 rfl (fun hF => ?_) (fun hF => ?_)
      · refine lv_iload_n C.1 C.2.1 dX1_countLined_32 rfl (lv_at hl 1 rfl) ?_
        exact hret s1 _ _ _ _ dX1_countLined_33 hF hV
      refine lv_aload_n C.1 C.2.1 dX1_countLined_15 rfl (lv_at hl 0 rfl) ?_
      refine lv_iload_n C.1 C.2.1 dX1_countLined_16 rfl (lv_at hl 2 rfl) ?_
      obtain ⟨x3, hc, hF⟩ := bd1_s hF
      refine g_cVi (ws' := [oX1 a_t a_camp a_hears a_near a_gaps, oX0 a_camp a_camp_kinds a_camp_yards a_camp_spots v_camp_tents v_camp_said v_camp_wall v_camp_bridge v_camp_counted v_camp_day v_camp_z, aA cI a_hears 10 f_hears]) (wr := []) C hV (k_X1_lineOf l dC dI cI cB cO n0 H.size a_t a_camp a_hears a_near a_gaps a_camp_kinds a_camp_yards a_camp_spots v_camp_tents v_camp_said v_camp_wall v_camp_bridge v_camp_counted v_camp_day v_camp_z f_hears s2 hc) mdX1_lineOf gX1_countLined_X1_lineOf rfl rfl ⟨Nat.le_of_ble_eq_true rfl, Nat.le_of_ble_eq_true rfl⟩ [0, 1, 2] [] [0, 1, 2] rfl rfl rfl rfl rfl rfl rfl rfl rfl rfl hl.1 (Nat.le_of_ble_eq_true rfl) rfl dX1_countLined_17 (fun H locs hV => ?_)
      refine g_if_lt (tgt := 26) C hF dX1_countLined_20 rfl (fun hF => ?_) (fun hF => ?_)
      · refine g_iinc C hF dX1_countLined_26 (d := 1) rfl hl (j := 2) rfl (by decide) (fun y => [(2, .int y), (0, .ref a_t), (1, .int s1)]) (fun _ => rfl) (fun x4 ls hF hl => ?_)
        refine lv_goto (tgt := 4) C.1 C.2.1 dX1_countLined_29 rfl ?_
        exact ih4 s1 x4 H locs ls hV (lv_sub hl [1, 2, 0] rfl) (hq4 s1 x4 hF)
      refine g_iinc C hF dX1_countLined_23 (d := 1) rfl hl (j := 1) rfl (by decide) (fun y => [(1, .int y), (0, .ref a_t), (2, .int s2)]) (fun _ => rfl) (fun x5 ls hF hl => ?_)
      refine g_iinc C hF dX1_countLined_26 (d := 1) rfl hl (j := 2) rfl (by decide) (fun y => [(2, .int y), (1, .int x5), (0, .ref a_t)]) (fun _ => rfl) (fun x6 ls hF hl => ?_)
      refine lv_goto (tgt := 4) C.1 C.2.1 dX1_countLined_29 rfl ?_
      exact ih4 x5 x6 H locs ls hV (lv_sub hl [2, 1, 0] rfl) (hq4 x5 x6 hF)
  exact hL4 n0 0 0 H locs ls hV (lv_sub hl [2, 1, 0] rfl) hF
abbrev rmX1_hearersOf : Room := { frames := 0, cells := 0, slots := 0, locals := 0 }
theorem mdX1_hearersOf : gMd yX1_hearersOf wsX1_hearersOf cX1_hearersOf 4 (some .int) 1 := ⟨⟨_, rfl⟩, by decide +kernel⟩
theorem flX1_hearersOf_21 : gFL wsX1_hearersOf RX1 21 1 0 RX1 TX1 4 := ⟨rfl, fun w h => List.mem_cons_of_mem _ (List.mem_append_left _ (List.mem_append_right _ (h))), Nat.le_of_ble_eq_true rfl, List.mem_cons_of_mem _ (List.mem_append_left _ (List.mem_append_left _ (List.mem_of_getElem? (i := 0) rfl)))⟩
theorem flX1_hearersOf_25 : gFL wsX1_hearersOf RX1 25 0 3 RX0 TX0 10 := ⟨rfl, fun w h => List.mem_cons_of_mem _ (List.mem_append_right _ (h)), Nat.le_of_ble_eq_true rfl, List.mem_cons_of_mem _ (List.mem_append_left _ (List.mem_append_left _ (List.mem_of_getElem? (i := 1) rfl)))⟩
theorem flX1_hearersOf_9 : gFL wsX1_hearersOf RX1 9 1 1 RX1 TX1 4 := ⟨rfl, fun w h => List.mem_cons_of_mem _ (List.mem_append_left _ (List.mem_append_right _ (h))), Nat.le_of_ble_eq_true rfl, List.mem_cons_of_mem _ (List.mem_append_left _ (List.mem_append_left _ (List.mem_of_getElem? (i := 2) rfl)))⟩
def L_X1_hearersOf_4 (v_camp_tents : Int32) (f_hears : Nat → Int32) (p1 : Int32) : Nat → Int32 → Int32 → Option (Int32) := lpp2 (fun s1 s2 kk4 => (if v_camp_tents ≤ s2 then some s1 else rd f_hears 10 s2 (fun x3 => (if x3 = p1 then nm (1 <<< (s2 &&& 31)) (fun x5 => nm (s1 ||| x5) (fun x6 => nm (s2 + 1) (fun x7 => kk4 x6 x7))) else nm (s2 + 1) (fun x4 => kk4 s1 x4)))))
def F_X1_hearersOf (n0 : Nat) (v_camp_tents : Int32) (f_hears : Nat → Int32) (p1 : Int32) : Option (Int32) := L_X1_hearersOf_4 v_camp_tents f_hears p1 n0 0 0
set_option maxRecDepth 100000 in
set_option maxHeartbeats 4000000 in
theorem k_X1_hearersOf (l : Launch) (dC : Nat → ClassId) (dI : Nat → Nat → Nat) (cI cB cO : ClassId) (n0 sz : Nat) (a_t : Nat) (a_camp : Nat) (a_hears : Nat) (a_near : Nat) (a_gaps : Nat) (a_camp_kinds : Nat) (a_camp_yards : Nat) (a_camp_spots : Nat)   (v_camp_tents : Int32) (v_camp_said : Int32) (v_camp_wall : Int32) (v_camp_bridge : Int32) (v_camp_counted : Int32) (v_camp_day : Int32) (v_camp_z : Int32) (f_hears : Nat → Int32) (p1 : Int32)  {ro : Int32} (hF : F_X1_hearersOf n0 v_camp_tents f_hears p1 = some ro) : Met l yX1_hearersOf wsX1_hearersOf rmX1_hearersOf (va_Pc [.ref a_t, .int p1] (gPre (dC, dI) (gT cI cB cO) sz [oX1 a_t a_camp a_hears a_near a_gaps, oX0 a_camp a_camp_kinds a_camp_yards a_camp_spots v_camp_tents v_camp_said v_camp_wall v_camp_bridge v_camp_counted v_camp_day v_camp_z, aA cI a_hears 10 f_hears])) (gQi (dC, dI) (gT cI cB cO) sz [oX1 a_t a_camp a_hears a_near a_gaps, oX0 a_camp a_camp_kinds a_camp_yards a_camp_spots v_camp_tents v_camp_said v_camp_wall v_camp_bridge v_camp_counted v_camp_day v_camp_z, aA cI a_hears 10 f_hears] ro [oX1 a_t a_camp a_hears a_near a_gaps, oX0 a_camp a_camp_kinds a_camp_yards a_camp_spots v_camp_tents v_camp_said v_camp_wall v_camp_bridge v_camp_counted v_camp_day v_camp_z, aA cI a_hears 10 f_hears]) 0 0 (va_A [oX1 a_t a_camp a_hears a_near a_gaps, oX0 a_camp a_camp_kinds a_camp_yards a_camp_spots v_camp_tents v_camp_said v_camp_wall v_camp_bridge v_camp_counted v_camp_day v_camp_z, aA cI a_hears 10 f_hears] sz) := by
  refine g_metI (Out := Int32) (fun oo => oo) (fun oo => [oX1 a_t a_camp a_hears a_near a_gaps, oX0 a_camp a_camp_kinds a_camp_yards a_camp_spots v_camp_tents v_camp_said v_camp_wall v_camp_bridge v_camp_counted v_camp_day v_camp_z, aA cI a_hears 10 f_hears]) ro (own := RX1) (lv := [(0, .ref a_t), (1, .int p1)]) (by decide) rfl rfl (Nat.le_of_ble_eq_true rfl) rfl ?_
  intro p e s m args below meth c Q ls C hret hV hl
  obtain ⟨out, hout⟩ : ∃ z : Int32, z = ro := ⟨_, rfl⟩
  rw [← hout] at hF hret
  obtain ⟨H0, hH0⟩ : ∃ z : Heap, z = s.heap := ⟨_, rfl⟩
  obtain ⟨A0, hA0⟩ : ∃ z : Nat → Prop, z = va_A [oX1 a_t a_camp a_hears a_near a_gaps, oX0 a_camp a_camp_kinds a_camp_yards a_camp_spots v_camp_tents v_camp_said v_camp_wall v_camp_bridge v_camp_counted v_camp_day v_camp_z, aA cI a_hears 10 f_hears] s.heap.size := ⟨_, rfl⟩
  rw [← hA0] at hret hV
  rw [← hH0] at hret hV
  rw [← hH0]
  obtain ⟨H, locs, hH⟩ : ∃ (z : Heap) (y : List Loc), z = H0 ∧ y = [] := ⟨_, _, rfl, rfl⟩
  rw [← hH.1, ← hH.2]
  have hV : gV (dC, dI) (gT cI cB cO) A0 H0 s [oX1 a_t a_camp a_hears a_near a_gaps, oX0 a_camp a_camp_kinds a_camp_yards a_camp_spots v_camp_tents v_camp_said v_camp_wall v_camp_bridge v_camp_counted v_camp_day v_camp_z, aA cI a_hears 10 f_hears] H locs := by rw [hH.1, hH.2]; exact hV
  unfold F_X1_hearersOf at hF
  refine lv_iconst (v := 0) C.1 C.2.1 dX1_hearersOf_0 rfl ?_
  refine lv_istore_n (lv' := [(2, .int 0), (0, .ref a_t), (1, .int p1)]) C.1 C.2.1 dX1_hearersOf_1 rfl hl (by decide) rfl (fun ls hl => ?_)
  refine lv_iconst (v := 0) C.1 C.2.1 dX1_hearersOf_2 rfl ?_
  refine lv_istore_n (lv' := [(3, .int 0), (2, .int 0), (0, .ref a_t), (1, .int p1)]) C.1 C.2.1 dX1_hearersOf_3 rfl hl (by decide) rfl (fun ls hl => ?_)
  have hL4 : ∀ (n : Nat) (s1 : Int32) (s2 : Int32) (H : Heap) (locs : List Loc) (ls : Array Slot), gV (dC, dI) (gT cI cB cO) A0 H0 s [oX1 a_t a_camp a_hears a_near a_gaps, oX0 a_camp a_camp_kinds a_camp_yards a_camp_spots v_camp_tents v_camp_said v_camp_wall v_camp_bridge v_camp_counted v_camp_day v_camp_z, aA cI a_hears 10 f_hears] H locs → lv_has ls 4 [(0, .ref a_t), (1, .int p1), (2, .int s1), (3, .int s2)] → L_X1_hearersOf_4 v_camp_tents f_hears p1 n s1 s2 = some out → W p l e rmX1_hearersOf s m args below meth c H locs 0 0 Q (F0 m 4 ls []) := by
    intro n
    induction n with
    | zero => intro s1 s2 H locs ls hV hl hF; exact lpp2_z hF
    | succ n ih4 =>
      intro s1 s2 H locs ls hV hl hF
      obtain ⟨kk4, hk4, hF⟩ := lpp2_g hF
      have hq4 : ∀ (s1 : Int32) (s2 : Int32), kk4 s1 s2 = some out → L_X1_hearersOf_4 v_camp_tents f_hears p1 n s1 s2 = some out := fun _ _ h => by rw [hk4] at h; exact h
      refine lv_iload_n C.1 C.2.1 dX1_hearersOf_4 rfl (lv_at hl 3 rfl) ?_
      refine lv_aload_n C.1 C.2.1 dX1_hearersOf_5 rfl (lv_at hl 0 rfl) ?_
      refine g_get C hV flX1_hearersOf_21 0 rfl rfl dX1_hearersOf_6 ?_
      refine g_get C hV flX1_hearersOf_25 1 rfl rfl dX1_hearersOf_9 ?_
      refine g_icmp_ge (tgt := 37) C hF dX1_hearersOf_12 rfl (fun hF => ?_) (fun hF => ?_)
      · refine lv_iload_n C.1 C.2.1 dX1_hearersOf_37 rfl (lv_at hl 2 rfl) ?_
        exact hret s1 _ _ _ _ dX1_hearersOf_38 hF hV
      refine lv_aload_n C.1 C.2.1 dX1_hearersOf_15 rfl (lv_at hl 0 rfl) ?_
      refine g_get C hV flX1_hearersOf_9 0 rfl rfl dX1_hearersOf_16 ?_
      refine lv_iload_n C.1 C.2.1 dX1_hearersOf_19 rfl (lv_at hl 3 rfl) ?_
      refine g_iald C hV 2 rfl hF dX1_hearersOf_20 (fun x3 hF => ?_)
      refine lv_iload_n C.1 C.2.1 dX1_hearersOf_21 rfl (lv_at hl 1 rfl) ?_
      refine g_icmp_ne (tgt := 31) C hF dX1_hearersOf_22 rfl (fun hF => ?_) (fun hF => ?_)
      · refine g_iinc C hF dX1_hearersOf_31 (d := 1) rfl hl (j := 3) rfl (by decide) (fun y => [(3, .int y), (0, .ref a_t), (1, .int p1), (2, .int s1)]) (fun _ => rfl) (fun x4 ls hF hl => ?_)
        refine lv_goto (tgt := 4) C.1 C.2.1 dX1_hearersOf_34 rfl ?_
        exact ih4 s1 x4 H locs ls hV (lv_sub hl [1, 2, 3, 0] rfl) (hq4 s1 x4 hF)
      refine lv_iload_n C.1 C.2.1 dX1_hearersOf_25 rfl (lv_at hl 2 rfl) ?_
      refine lv_iconst (v := 1) C.1 C.2.1 dX1_hearersOf_26 rfl ?_
      refine lv_iload_n C.1 C.2.1 dX1_hearersOf_27 rfl (lv_at hl 3 rfl) ?_
      refine g_ishl C hF dX1_hearersOf_28 (fun x5 hF => ?_)
      refine g_ior C hF dX1_hearersOf_29 (fun x6 hF => ?_)
      refine lv_istore_n (lv' := [(2, .int x6), (0, .ref a_t), (1, .int p1), (3, .int s2)]) C.1 C.2.1 dX1_hearersOf_30 rfl hl (by decide) rfl (fun ls hl => ?_)
      refine g_iinc C hF dX1_hearersOf_31 (d := 1) rfl hl (j := 3) rfl (by decide) (fun y => [(3, .int y), (2, .int x6), (0, .ref a_t), (1, .int p1)]) (fun _ => rfl) (fun x7 ls hF hl => ?_)
      refine lv_goto (tgt := 4) C.1 C.2.1 dX1_hearersOf_34 rfl ?_
      exact ih4 x6 x7 H locs ls hV (lv_sub hl [2, 3, 1, 0] rfl) (hq4 x6 x7 hF)
  exact hL4 n0 0 0 H locs ls hV (lv_sub hl [2, 3, 1, 0] rfl) hF
abbrev rmX1_unheard : Room := { frames := 1, cells := 0, slots := 0, locals := 20 }
theorem mdX1_unheard : gMd yX1_unheard wsX1_unheard cX1_unheard 3 (some .int) 0 := ⟨⟨_, rfl⟩, by decide +kernel⟩
theorem flX1_unheard_21 : gFL wsX1_unheard RX1 21 1 0 RX1 TX1 4 := ⟨rfl, fun w h => List.mem_cons_of_mem _ (List.mem_append_left _ (List.mem_append_right _ (h))), Nat.le_of_ble_eq_true rfl, List.mem_cons_of_mem _ (List.mem_append_left _ (List.mem_append_left _ (List.mem_of_getElem? (i := 0) rfl)))⟩
theorem flX1_unheard_25 : gFL wsX1_unheard RX1 25 0 3 RX0 TX0 10 := ⟨rfl, fun w h => List.mem_cons_of_mem _ (List.mem_append_right _ (h)), Nat.le_of_ble_eq_true rfl, List.mem_cons_of_mem _ (List.mem_append_left _ (List.mem_append_left _ (List.mem_of_getElem? (i := 1) rfl)))⟩
theorem flX1_unheard_9 : gFL wsX1_unheard RX1 9 1 1 RX1 TX1 4 := ⟨rfl, fun w h => List.mem_cons_of_mem _ (List.mem_append_left _ (List.mem_append_right _ (h))), Nat.le_of_ble_eq_true rfl, List.mem_cons_of_mem _ (List.mem_append_left _ (List.mem_append_left _ (List.mem_of_getElem? (i := 2) rfl)))⟩
def L_X1_unheard_10 (v_camp_tents : Int32) (f_hears : Nat → Int32) : Nat → Int32 → Int32 → Option (Int32) := lpp2 (fun s2 s3 kk10 => (if v_camp_tents ≤ s3 then some s2 else rd f_hears 10 s3 (fun x4 => (if x4 = ((-1)) then nm (s3 + 1) (fun x5 => kk10 s2 x5) else rd f_hears 10 s3 (fun x6 => nm (1 <<< (x6 &&& 31)) (fun x7 => nm (x7 ^^^ ((-1))) (fun x8 => nm (s2 &&& x8) (fun x9 => nm (s3 + 1) (fun x10 => kk10 x9 x10)))))))))
def F_X1_unheard (n0 : Nat) (v_camp_tents : Int32) (f_hears : Nat → Int32) : Option (Int32) := bd1 (F_X0_all n0 v_camp_tents) (fun x1 => L_X1_unheard_10 v_camp_tents f_hears n0 x1 0)
set_option maxRecDepth 100000 in
set_option maxHeartbeats 4000000 in
theorem k_X1_unheard (l : Launch) (dC : Nat → ClassId) (dI : Nat → Nat → Nat) (cI cB cO : ClassId) (n0 sz : Nat) (a_t : Nat) (a_camp : Nat) (a_hears : Nat) (a_near : Nat) (a_gaps : Nat) (a_camp_kinds : Nat) (a_camp_yards : Nat) (a_camp_spots : Nat)   (v_camp_tents : Int32) (v_camp_said : Int32) (v_camp_wall : Int32) (v_camp_bridge : Int32) (v_camp_counted : Int32) (v_camp_day : Int32) (v_camp_z : Int32) (f_hears : Nat → Int32)   {ro : Int32} (hF : F_X1_unheard n0 v_camp_tents f_hears = some ro) : Met l yX1_unheard wsX1_unheard rmX1_unheard (va_Pc [.ref a_t] (gPre (dC, dI) (gT cI cB cO) sz [oX1 a_t a_camp a_hears a_near a_gaps, oX0 a_camp a_camp_kinds a_camp_yards a_camp_spots v_camp_tents v_camp_said v_camp_wall v_camp_bridge v_camp_counted v_camp_day v_camp_z, aA cI a_hears 10 f_hears])) (gQi (dC, dI) (gT cI cB cO) sz [oX1 a_t a_camp a_hears a_near a_gaps, oX0 a_camp a_camp_kinds a_camp_yards a_camp_spots v_camp_tents v_camp_said v_camp_wall v_camp_bridge v_camp_counted v_camp_day v_camp_z, aA cI a_hears 10 f_hears] ro [oX1 a_t a_camp a_hears a_near a_gaps, oX0 a_camp a_camp_kinds a_camp_yards a_camp_spots v_camp_tents v_camp_said v_camp_wall v_camp_bridge v_camp_counted v_camp_day v_camp_z, aA cI a_hears 10 f_hears]) 0 0 (va_A [oX1 a_t a_camp a_hears a_near a_gaps, oX0 a_camp a_camp_kinds a_camp_yards a_camp_spots v_camp_tents v_camp_said v_camp_wall v_camp_bridge v_camp_counted v_camp_day v_camp_z, aA cI a_hears 10 f_hears] sz) := by
  refine g_metI (Out := Int32) (fun oo => oo) (fun oo => [oX1 a_t a_camp a_hears a_near a_gaps, oX0 a_camp a_camp_kinds a_camp_yards a_camp_spots v_camp_tents v_camp_said v_camp_wall v_camp_bridge v_camp_counted v_camp_day v_camp_z, aA cI a_hears 10 f_hears]) ro (own := RX1) (lv := [(0, .ref a_t)]) (by decide) rfl rfl (Nat.le_of_ble_eq_true rfl) rfl ?_
  intro p e s m args below meth c Q ls C hret hV hl
  obtain ⟨out, hout⟩ : ∃ z : Int32, z = ro := ⟨_, rfl⟩
  rw [← hout] at hF hret
  obtain ⟨H0, hH0⟩ : ∃ z : Heap, z = s.heap := ⟨_, rfl⟩
  obtain ⟨A0, hA0⟩ : ∃ z : Nat → Prop, z = va_A [oX1 a_t a_camp a_hears a_near a_gaps, oX0 a_camp a_camp_kinds a_camp_yards a_camp_spots v_camp_tents v_camp_said v_camp_wall v_camp_bridge v_camp_counted v_camp_day v_camp_z, aA cI a_hears 10 f_hears] s.heap.size := ⟨_, rfl⟩
  rw [← hA0] at hret hV
  rw [← hH0] at hret hV
  rw [← hH0]
  obtain ⟨H, locs, hH⟩ : ∃ (z : Heap) (y : List Loc), z = H0 ∧ y = [] := ⟨_, _, rfl, rfl⟩
  rw [← hH.1, ← hH.2]
  have hV : gV (dC, dI) (gT cI cB cO) A0 H0 s [oX1 a_t a_camp a_hears a_near a_gaps, oX0 a_camp a_camp_kinds a_camp_yards a_camp_spots v_camp_tents v_camp_said v_camp_wall v_camp_bridge v_camp_counted v_camp_day v_camp_z, aA cI a_hears 10 f_hears] H locs := by rw [hH.1, hH.2]; exact hV
  unfold F_X1_unheard at hF
  refine lv_aload_n C.1 C.2.1 dX1_unheard_0 rfl (lv_at hl 0 rfl) ?_
  refine g_get C hV flX1_unheard_21 0 rfl rfl dX1_unheard_1 ?_
  obtain ⟨x1, hc, hF⟩ := bd1_s hF
  refine g_cVi (ws' := [oX1 a_t a_camp a_hears a_near a_gaps, oX0 a_camp a_camp_kinds a_camp_yards a_camp_spots v_camp_tents v_camp_said v_camp_wall v_camp_bridge v_camp_counted v_camp_day v_camp_z, aA cI a_hears 10 f_hears]) (wr := [oX1 a_t a_camp a_hears a_near a_gaps, aA cI a_hears 10 f_hears]) C hV (k_X0_all l dC dI cI cB cO n0 H.size a_camp a_camp_kinds a_camp_yards a_camp_spots v_camp_tents v_camp_said v_camp_wall v_camp_bridge v_camp_counted v_camp_day v_camp_z hc) mdX0_all gX1_unheard_X0_all rfl rfl ⟨Nat.le_of_ble_eq_true rfl, Nat.le_of_ble_eq_true rfl⟩ [1] [0, 2] [0, 2, 1] rfl rfl rfl rfl rfl rfl rfl rfl rfl rfl hl.1 (Nat.le_of_ble_eq_true rfl) rfl dX1_unheard_4 (fun H locs hV => ?_)
  refine lv_istore_n (lv' := [(1, .int x1), (0, .ref a_t)]) C.1 C.2.1 dX1_unheard_7 rfl hl (by decide) rfl (fun ls hl => ?_)
  refine lv_iconst (v := 0) C.1 C.2.1 dX1_unheard_8 rfl ?_
  refine lv_istore_n (lv' := [(2, .int 0), (1, .int x1), (0, .ref a_t)]) C.1 C.2.1 dX1_unheard_9 rfl hl (by decide) rfl (fun ls hl => ?_)
  have hL10 : ∀ (n : Nat) (s2 : Int32) (s3 : Int32) (H : Heap) (locs : List Loc) (ls : Array Slot), gV (dC, dI) (gT cI cB cO) A0 H0 s [oX1 a_t a_camp a_hears a_near a_gaps, oX0 a_camp a_camp_kinds a_camp_yards a_camp_spots v_camp_tents v_camp_said v_camp_wall v_camp_bridge v_camp_counted v_camp_day v_camp_z, aA cI a_hears 10 f_hears] H locs → lv_has ls 3 [(0, .ref a_t), (1, .int s2), (2, .int s3)] → L_X1_unheard_10 v_camp_tents f_hears n s2 s3 = some out → W p l e rmX1_unheard s m args below meth c H locs 0 0 Q (F0 m 10 ls []) := by
    intro n
    induction n with
    | zero => intro s2 s3 H locs ls hV hl hF; exact lpp2_z hF
    | succ n ih10 =>
      intro s2 s3 H locs ls hV hl hF
      obtain ⟨kk10, hk10, hF⟩ := lpp2_g hF
      have hq10 : ∀ (s2 : Int32) (s3 : Int32), kk10 s2 s3 = some out → L_X1_unheard_10 v_camp_tents f_hears n s2 s3 = some out := fun _ _ h => by rw [hk10] at h; exact h
      refine lv_iload_n C.1 C.2.1 dX1_unheard_10 rfl (lv_at hl 2 rfl) ?_
      refine lv_aload_n C.1 C.2.1 dX1_unheard_11 rfl (lv_at hl 0 rfl) ?_
      refine g_get C hV flX1_unheard_21 0 rfl rfl dX1_unheard_12 ?_
      refine g_get C hV flX1_unheard_25 1 rfl rfl dX1_unheard_15 ?_
      refine g_icmp_ge (tgt := 50) C hF dX1_unheard_18 rfl (fun hF => ?_) (fun hF => ?_)
      · refine lv_iload_n C.1 C.2.1 dX1_unheard_50 rfl (lv_at hl 1 rfl) ?_
        exact hret s2 _ _ _ _ dX1_unheard_51 hF hV
      refine lv_aload_n C.1 C.2.1 dX1_unheard_21 rfl (lv_at hl 0 rfl) ?_
      refine g_get C hV flX1_unheard_9 0 rfl rfl dX1_unheard_22 ?_
      refine lv_iload_n C.1 C.2.1 dX1_unheard_25 rfl (lv_at hl 2 rfl) ?_
      refine g_iald C hV 2 rfl hF dX1_unheard_26 (fun x4 hF => ?_)
      refine lv_iconst (v := (-1)) C.1 C.2.1 dX1_unheard_27 rfl ?_
      refine g_icmp_eq (tgt := 44) C hF dX1_unheard_28 rfl (fun hF => ?_) (fun hF => ?_)
      · refine g_iinc C hF dX1_unheard_44 (d := 1) rfl hl (j := 2) rfl (by decide) (fun y => [(2, .int y), (0, .ref a_t), (1, .int s2)]) (fun _ => rfl) (fun x5 ls hF hl => ?_)
        refine lv_goto (tgt := 10) C.1 C.2.1 dX1_unheard_47 rfl ?_
        exact ih10 s2 x5 H locs ls hV (lv_sub hl [1, 2, 0] rfl) (hq10 s2 x5 hF)
      refine lv_iload_n C.1 C.2.1 dX1_unheard_31 rfl (lv_at hl 1 rfl) ?_
      refine lv_iconst (v := 1) C.1 C.2.1 dX1_unheard_32 rfl ?_
      refine lv_aload_n C.1 C.2.1 dX1_unheard_33 rfl (lv_at hl 0 rfl) ?_
      refine g_get C hV flX1_unheard_9 0 rfl rfl dX1_unheard_34 ?_
      refine lv_iload_n C.1 C.2.1 dX1_unheard_37 rfl (lv_at hl 2 rfl) ?_
      refine g_iald C hV 2 rfl hF dX1_unheard_38 (fun x6 hF => ?_)
      refine g_ishl C hF dX1_unheard_39 (fun x7 hF => ?_)
      refine lv_iconst (v := (-1)) C.1 C.2.1 dX1_unheard_40 rfl ?_
      refine g_ixor C hF dX1_unheard_41 (fun x8 hF => ?_)
      refine g_iand C hF dX1_unheard_42 (fun x9 hF => ?_)
      refine lv_istore_n (lv' := [(1, .int x9), (0, .ref a_t), (2, .int s3)]) C.1 C.2.1 dX1_unheard_43 rfl hl (by decide) rfl (fun ls hl => ?_)
      refine g_iinc C hF dX1_unheard_44 (d := 1) rfl hl (j := 2) rfl (by decide) (fun y => [(2, .int y), (1, .int x9), (0, .ref a_t)]) (fun _ => rfl) (fun x10 ls hF hl => ?_)
      refine lv_goto (tgt := 10) C.1 C.2.1 dX1_unheard_47 rfl ?_
      exact ih10 x9 x10 H locs ls hV (lv_sub hl [2, 1, 0] rfl) (hq10 x9 x10 hF)
  exact hL10 n0 x1 0 H locs ls hV (lv_sub hl [2, 1, 0] rfl) hF
abbrev rmX1_comesTo : Room := { frames := 0, cells := 0, slots := 0, locals := 0 }
theorem mdX1_comesTo : gMd yX1_comesTo wsX1_comesTo cX1_comesTo 5 (some .boolean) 2 := ⟨⟨_, rfl⟩, by decide +kernel⟩
theorem flX1_comesTo_9 : gFL wsX1_comesTo RX1 9 1 1 RX1 TX1 4 := ⟨rfl, fun w h => List.mem_cons_of_mem _ (List.mem_append_left _ (List.mem_append_right _ (h))), Nat.le_of_ble_eq_true rfl, List.mem_cons_of_mem _ (List.mem_append_left _ (List.mem_append_left _ (List.mem_of_getElem? (i := 0) rfl)))⟩
theorem flX1_comesTo_21 : gFL wsX1_comesTo RX1 21 1 0 RX1 TX1 4 := ⟨rfl, fun w h => List.mem_cons_of_mem _ (List.mem_append_left _ (List.mem_append_right _ (h))), Nat.le_of_ble_eq_true rfl, List.mem_cons_of_mem _ (List.mem_append_left _ (List.mem_append_left _ (List.mem_of_getElem? (i := 1) rfl)))⟩
theorem flX1_comesTo_25 : gFL wsX1_comesTo RX1 25 0 3 RX0 TX0 10 := ⟨rfl, fun w h => List.mem_cons_of_mem _ (List.mem_append_right _ (h)), Nat.le_of_ble_eq_true rfl, List.mem_cons_of_mem _ (List.mem_append_left _ (List.mem_append_left _ (List.mem_of_getElem? (i := 2) rfl)))⟩
def L_X1_comesTo_10 (v_camp_tents : Int32) (p2 : Int32) (f_hears : Nat → Int32) : Nat → Int32 → Int32 → Option (Int32) := lpp2 (fun s2 s3 kk10 => (if v_camp_tents ≤ s3 then some (0 : Int32) else (if s2 = ((-1)) then some (0 : Int32) else (if s2 = p2 then some (1 : Int32) else rd f_hears 10 s2 (fun x4 => nm (s3 + 1) (fun x5 => kk10 x4 x5))))))
def F_X1_comesTo (n0 : Nat) (v_camp_tents : Int32) (f_hears : Nat → Int32) (p1 : Int32) (p2 : Int32) : Option (Int32) := rd f_hears 10 p1 (fun x1 => L_X1_comesTo_10 v_camp_tents p2 f_hears n0 x1 0)
set_option maxRecDepth 100000 in
set_option maxHeartbeats 4000000 in
theorem k_X1_comesTo (l : Launch) (dC : Nat → ClassId) (dI : Nat → Nat → Nat) (cI cB cO : ClassId) (n0 sz : Nat) (a_t : Nat) (a_camp : Nat) (a_hears : Nat) (a_near : Nat) (a_gaps : Nat) (a_camp_kinds : Nat) (a_camp_yards : Nat) (a_camp_spots : Nat)   (v_camp_tents : Int32) (v_camp_said : Int32) (v_camp_wall : Int32) (v_camp_bridge : Int32) (v_camp_counted : Int32) (v_camp_day : Int32) (v_camp_z : Int32) (f_hears : Nat → Int32) (p1 : Int32) (p2 : Int32)  {ro : Int32} (hF : F_X1_comesTo n0 v_camp_tents f_hears p1 p2 = some ro) : Met l yX1_comesTo wsX1_comesTo rmX1_comesTo (va_Pc [.ref a_t, .int p1, .int p2] (gPre (dC, dI) (gT cI cB cO) sz [oX1 a_t a_camp a_hears a_near a_gaps, oX0 a_camp a_camp_kinds a_camp_yards a_camp_spots v_camp_tents v_camp_said v_camp_wall v_camp_bridge v_camp_counted v_camp_day v_camp_z, aA cI a_hears 10 f_hears])) (gQi (dC, dI) (gT cI cB cO) sz [oX1 a_t a_camp a_hears a_near a_gaps, oX0 a_camp a_camp_kinds a_camp_yards a_camp_spots v_camp_tents v_camp_said v_camp_wall v_camp_bridge v_camp_counted v_camp_day v_camp_z, aA cI a_hears 10 f_hears] ro [oX1 a_t a_camp a_hears a_near a_gaps, oX0 a_camp a_camp_kinds a_camp_yards a_camp_spots v_camp_tents v_camp_said v_camp_wall v_camp_bridge v_camp_counted v_camp_day v_camp_z, aA cI a_hears 10 f_hears]) 0 0 (va_A [oX1 a_t a_camp a_hears a_near a_gaps, oX0 a_camp a_camp_kinds a_camp_yards a_camp_spots v_camp_tents v_camp_said v_camp_wall v_camp_bridge v_camp_counted v_camp_day v_camp_z, aA cI a_hears 10 f_hears] sz) := by
  refine g_metZ (Out := Int32) (fun oo => oo) (fun oo => [oX1 a_t a_camp a_hears a_near a_gaps, oX0 a_camp a_camp_kinds a_camp_yards a_camp_spots v_camp_tents v_camp_said v_camp_wall v_camp_bridge v_camp_counted v_camp_day v_camp_z, aA cI a_hears 10 f_hears]) ro (own := RX1) (lv := [(0, .ref a_t), (1, .int p1), (2, .int p2)]) (by decide) rfl rfl (Nat.le_of_ble_eq_true rfl) rfl ?_
  intro p e s m args below meth c Q ls C hret hV hl
  obtain ⟨out, hout⟩ : ∃ z : Int32, z = ro := ⟨_, rfl⟩
  rw [← hout] at hF hret
  obtain ⟨H0, hH0⟩ : ∃ z : Heap, z = s.heap := ⟨_, rfl⟩
  obtain ⟨A0, hA0⟩ : ∃ z : Nat → Prop, z = va_A [oX1 a_t a_camp a_hears a_near a_gaps, oX0 a_camp a_camp_kinds a_camp_yards a_camp_spots v_camp_tents v_camp_said v_camp_wall v_camp_bridge v_camp_counted v_camp_day v_camp_z, aA cI a_hears 10 f_hears] s.heap.size := ⟨_, rfl⟩
  rw [← hA0] at hret hV
  rw [← hH0] at hret hV
  rw [← hH0]
  obtain ⟨H, locs, hH⟩ : ∃ (z : Heap) (y : List Loc), z = H0 ∧ y = [] := ⟨_, _, rfl, rfl⟩
  rw [← hH.1, ← hH.2]
  have hV : gV (dC, dI) (gT cI cB cO) A0 H0 s [oX1 a_t a_camp a_hears a_near a_gaps, oX0 a_camp a_camp_kinds a_camp_yards a_camp_spots v_camp_tents v_camp_said v_camp_wall v_camp_bridge v_camp_counted v_camp_day v_camp_z, aA cI a_hears 10 f_hears] H locs := by rw [hH.1, hH.2]; exact hV
  unfold F_X1_comesTo at hF
  refine lv_aload_n C.1 C.2.1 dX1_comesTo_0 rfl (lv_at hl 0 rfl) ?_
  refine g_get C hV flX1_comesTo_9 0 rfl rfl dX1_comesTo_1 ?_
  refine lv_iload_n C.1 C.2.1 dX1_comesTo_4 rfl (lv_at hl 1 rfl) ?_
  refine g_iald C hV 2 rfl hF dX1_comesTo_5 (fun x1 hF => ?_)
  refine lv_istore_n (lv' := [(3, .int x1), (0, .ref a_t), (1, .int p1), (2, .int p2)]) C.1 C.2.1 dX1_comesTo_6 rfl hl (by decide) rfl (fun ls hl => ?_)
  refine lv_iconst (v := 0) C.1 C.2.1 dX1_comesTo_7 rfl ?_
  refine lv_istore (lv' := [(4, .int 0), (3, .int x1), (0, .ref a_t), (1, .int p1), (2, .int p2)]) C.1 C.2.1 dX1_comesTo_8 hl (by decide) rfl (fun ls hl => ?_)
  have hL10 : ∀ (n : Nat) (s2 : Int32) (s3 : Int32) (H : Heap) (locs : List Loc) (ls : Array Slot), gV (dC, dI) (gT cI cB cO) A0 H0 s [oX1 a_t a_camp a_hears a_near a_gaps, oX0 a_camp a_camp_kinds a_camp_yards a_camp_spots v_camp_tents v_camp_said v_camp_wall v_camp_bridge v_camp_counted v_camp_day v_camp_z, aA cI a_hears 10 f_hears] H locs → lv_has ls 5 [(0, .ref a_t), (2, .int p2), (3, .int s2), (4, .int s3)] → L_X1_comesTo_10 v_camp_tents p2 f_hears n s2 s3 = some out → W p l e rmX1_comesTo s m args below meth c H locs 0 0 Q (F0 m 10 ls []) := by
    intro n
    induction n with
    | zero => intro s2 s3 H locs ls hV hl hF; exact lpp2_z hF
    | succ n ih10 =>
      intro s2 s3 H locs ls hV hl hF
      obtain ⟨kk10, hk10, hF⟩ := lpp2_g hF
      have hq10 : ∀ (s2 : Int32) (s3 : Int32), kk10 s2 s3 = some out → L_X1_comesTo_10 v_camp_tents p2 f_hears n s2 s3 = some out := fun _ _ h => by rw [hk10] at h; exact h
      refine lv_iload C.1 C.2.1 dX1_comesTo_10 (lv_at hl 3 rfl) ?_
      refine lv_aload_n C.1 C.2.1 dX1_comesTo_12 rfl (lv_at hl 0 rfl) ?_
      refine g_get C hV flX1_comesTo_21 0 rfl rfl dX1_comesTo_13 ?_
      refine g_get C hV flX1_comesTo_25 1 rfl rfl dX1_comesTo_16 ?_
      refine g_icmp_ge (tgt := 47) C hF dX1_comesTo_19 rfl (fun hF => ?_) (fun hF => ?_)
      · refine lv_iconst (v := 0) C.1 C.2.1 dX1_comesTo_47 rfl ?_
        exact hret (0 : Int32) _ _ _ _ dX1_comesTo_48 hF (Or.inl rfl) hV
      refine lv_iload_n C.1 C.2.1 dX1_comesTo_22 rfl (lv_at hl 2 rfl) ?_
      refine lv_iconst (v := (-1)) C.1 C.2.1 dX1_comesTo_23 rfl ?_
      refine g_icmp_eq (tgt := 47) C hF dX1_comesTo_24 rfl (fun hF => ?_) (fun hF => ?_)
      · refine lv_iconst (v := 0) C.1 C.2.1 dX1_comesTo_47 rfl ?_
        exact hret (0 : Int32) _ _ _ _ dX1_comesTo_48 hF (Or.inl rfl) hV
      refine lv_iload_n C.1 C.2.1 dX1_comesTo_27 rfl (lv_at hl 2 rfl) ?_
      refine lv_iload_n C.1 C.2.1 dX1_comesTo_28 rfl (lv_at hl 1 rfl) ?_
      refine g_icmp_ne (tgt := 34) C hF dX1_comesTo_29 rfl (fun hF => ?_) (fun hF => ?_)
      · refine lv_aload_n C.1 C.2.1 dX1_comesTo_34 rfl (lv_at hl 0 rfl) ?_
        refine g_get C hV flX1_comesTo_9 0 rfl rfl dX1_comesTo_35 ?_
        refine lv_iload_n C.1 C.2.1 dX1_comesTo_38 rfl (lv_at hl 2 rfl) ?_
        refine g_iald C hV 2 rfl hF dX1_comesTo_39 (fun x4 hF => ?_)
        refine lv_istore_n (lv' := [(3, .int x4), (0, .ref a_t), (2, .int p2), (4, .int s3)]) C.1 C.2.1 dX1_comesTo_40 rfl hl (by decide) rfl (fun ls hl => ?_)
        refine g_iinc C hF dX1_comesTo_41 (d := 1) rfl hl (j := 3) rfl (by decide) (fun y => [(4, .int y), (3, .int x4), (0, .ref a_t), (2, .int p2)]) (fun _ => rfl) (fun x5 ls hF hl => ?_)
        refine lv_goto (tgt := 10) C.1 C.2.1 dX1_comesTo_44 rfl ?_
        exact ih10 x4 x5 H locs ls hV (lv_sub hl [2, 3, 1, 0] rfl) (hq10 x4 x5 hF)
      refine lv_iconst (v := 1) C.1 C.2.1 dX1_comesTo_32 rfl ?_
      exact hret (1 : Int32) _ _ _ _ dX1_comesTo_33 hF (Or.inr rfl) hV
  exact hL10 n0 x1 0 H locs ls hV (lv_sub hl [2, 4, 1, 0] rfl) hF
abbrev rmX1_followersOf : Room := { frames := 1, cells := 0, slots := 0, locals := 24 }
theorem mdX1_followersOf : gMd yX1_followersOf wsX1_followersOf cX1_followersOf 4 (some .int) 1 := ⟨⟨_, rfl⟩, by decide +kernel⟩
theorem flX1_followersOf_21 : gFL wsX1_followersOf RX1 21 1 0 RX1 TX1 4 := ⟨rfl, fun w h => List.mem_cons_of_mem _ (List.mem_append_left _ (List.mem_append_right _ (h))), Nat.le_of_ble_eq_true rfl, List.mem_cons_of_mem _ (List.mem_append_left _ (List.mem_append_left _ (List.mem_of_getElem? (i := 0) rfl)))⟩
theorem flX1_followersOf_25 : gFL wsX1_followersOf RX1 25 0 3 RX0 TX0 10 := ⟨rfl, fun w h => List.mem_cons_of_mem _ (List.mem_append_right _ (h)), Nat.le_of_ble_eq_true rfl, List.mem_cons_of_mem _ (List.mem_append_left _ (List.mem_append_left _ (List.mem_of_getElem? (i := 1) rfl)))⟩
def L_X1_followersOf_4 (v_camp_tents : Int32) (p1 : Int32) (n0 : Nat) (f_hears : Nat → Int32) : Nat → Int32 → Int32 → Option (Int32) := lpp2 (fun s1 s2 kk4 => (if v_camp_tents ≤ s2 then some s1 else (if s2 = p1 then nm (s2 + 1) (fun x3 => kk4 s1 x3) else bd1 (F_X1_comesTo n0 v_camp_tents f_hears s2 p1) (fun x4 => (if x4 = 0 then nm (s2 + 1) (fun x5 => kk4 s1 x5) else nm (1 <<< (s2 &&& 31)) (fun x6 => nm (s1 ||| x6) (fun x7 => nm (s2 + 1) (fun x8 => kk4 x7 x8))))))))
def F_X1_followersOf (n0 : Nat) (v_camp_tents : Int32) (f_hears : Nat → Int32) (p1 : Int32) : Option (Int32) := L_X1_followersOf_4 v_camp_tents p1 n0 f_hears n0 0 0
set_option maxRecDepth 100000 in
set_option maxHeartbeats 4000000 in
theorem k_X1_followersOf (l : Launch) (dC : Nat → ClassId) (dI : Nat → Nat → Nat) (cI cB cO : ClassId) (n0 sz : Nat) (a_t : Nat) (a_camp : Nat) (a_hears : Nat) (a_near : Nat) (a_gaps : Nat) (a_camp_kinds : Nat) (a_camp_yards : Nat) (a_camp_spots : Nat)   (v_camp_tents : Int32) (v_camp_said : Int32) (v_camp_wall : Int32) (v_camp_bridge : Int32) (v_camp_counted : Int32) (v_camp_day : Int32) (v_camp_z : Int32) (f_hears : Nat → Int32) (p1 : Int32)  {ro : Int32} (hF : F_X1_followersOf n0 v_camp_tents f_hears p1 = some ro) : Met l yX1_followersOf wsX1_followersOf rmX1_followersOf (va_Pc [.ref a_t, .int p1] (gPre (dC, dI) (gT cI cB cO) sz [oX1 a_t a_camp a_hears a_near a_gaps, oX0 a_camp a_camp_kinds a_camp_yards a_camp_spots v_camp_tents v_camp_said v_camp_wall v_camp_bridge v_camp_counted v_camp_day v_camp_z, aA cI a_hears 10 f_hears])) (gQi (dC, dI) (gT cI cB cO) sz [oX1 a_t a_camp a_hears a_near a_gaps, oX0 a_camp a_camp_kinds a_camp_yards a_camp_spots v_camp_tents v_camp_said v_camp_wall v_camp_bridge v_camp_counted v_camp_day v_camp_z, aA cI a_hears 10 f_hears] ro [oX1 a_t a_camp a_hears a_near a_gaps, oX0 a_camp a_camp_kinds a_camp_yards a_camp_spots v_camp_tents v_camp_said v_camp_wall v_camp_bridge v_camp_counted v_camp_day v_camp_z, aA cI a_hears 10 f_hears]) 0 0 (va_A [oX1 a_t a_camp a_hears a_near a_gaps, oX0 a_camp a_camp_kinds a_camp_yards a_camp_spots v_camp_tents v_camp_said v_camp_wall v_camp_bridge v_camp_counted v_camp_day v_camp_z, aA cI a_hears 10 f_hears] sz) := by
  refine g_metI (Out := Int32) (fun oo => oo) (fun oo => [oX1 a_t a_camp a_hears a_near a_gaps, oX0 a_camp a_camp_kinds a_camp_yards a_camp_spots v_camp_tents v_camp_said v_camp_wall v_camp_bridge v_camp_counted v_camp_day v_camp_z, aA cI a_hears 10 f_hears]) ro (own := RX1) (lv := [(0, .ref a_t), (1, .int p1)]) (by decide) rfl rfl (Nat.le_of_ble_eq_true rfl) rfl ?_
  intro p e s m args below meth c Q ls C hret hV hl
  obtain ⟨out, hout⟩ : ∃ z : Int32, z = ro := ⟨_, rfl⟩
  rw [← hout] at hF hret
  obtain ⟨H0, hH0⟩ : ∃ z : Heap, z = s.heap := ⟨_, rfl⟩
  obtain ⟨A0, hA0⟩ : ∃ z : Nat → Prop, z = va_A [oX1 a_t a_camp a_hears a_near a_gaps, oX0 a_camp a_camp_kinds a_camp_yards a_camp_spots v_camp_tents v_camp_said v_camp_wall v_camp_bridge v_camp_counted v_camp_day v_camp_z, aA cI a_hears 10 f_hears] s.heap.size := ⟨_, rfl⟩
  rw [← hA0] at hret hV
  rw [← hH0] at hret hV
  rw [← hH0]
  obtain ⟨H, locs, hH⟩ : ∃ (z : Heap) (y : List Loc), z = H0 ∧ y = [] := ⟨_, _, rfl, rfl⟩
  rw [← hH.1, ← hH.2]
  have hV : gV (dC, dI) (gT cI cB cO) A0 H0 s [oX1 a_t a_camp a_hears a_near a_gaps, oX0 a_camp a_camp_kinds a_camp_yards a_camp_spots v_camp_tents v_camp_said v_camp_wall v_camp_bridge v_camp_counted v_camp_day v_camp_z, aA cI a_hears 10 f_hears] H locs := by rw [hH.1, hH.2]; exact hV
  unfold F_X1_followersOf at hF
  refine lv_iconst (v := 0) C.1 C.2.1 dX1_followersOf_0 rfl ?_
  refine lv_istore_n (lv' := [(2, .int 0), (0, .ref a_t), (1, .int p1)]) C.1 C.2.1 dX1_followersOf_1 rfl hl (by decide) rfl (fun ls hl => ?_)
  refine lv_iconst (v := 0) C.1 C.2.1 dX1_followersOf_2 rfl ?_
  refine lv_istore_n (lv' := [(3, .int 0), (2, .int 0), (0, .ref a_t), (1, .int p1)]) C.1 C.2.1 dX1_followersOf_3 rfl hl (by decide) rfl (fun ls hl => ?_)
  have hL4 : ∀ (n : Nat) (s1 : Int32) (s2 : Int32) (H : Heap) (locs : List Loc) (ls : Array Slot), gV (dC, dI) (gT cI cB cO) A0 H0 s [oX1 a_t a_camp a_hears a_near a_gaps, oX0 a_camp a_camp_kinds a_camp_yards a_camp_spots v_camp_tents v_camp_said v_camp_wall v_camp_bridge v_camp_counted v_camp_day v_camp_z, aA cI a_hears 10 f_hears] H locs → lv_has ls 4 [(0, .ref a_t), (1, .int p1), (2, .int s1), (3, .int s2)] → L_X1_followersOf_4 v_camp_tents p1 n0 f_hears n s1 s2 = some out → W p l e rmX1_followersOf s m args below meth c H locs 0 0 Q (F0 m 4 ls []) := by
    intro n
    induction n with
    | zero => intro s1 s2 H locs ls hV hl hF; exact lpp2_z hF
    | succ n ih4 =>
      intro s1 s2 H locs ls hV hl hF
      obtain ⟨kk4, hk4, hF⟩ := lpp2_g hF
      have hq4 : ∀ (s1 : Int32) (s2 : Int32), kk4 s1 s2 = some out → L_X1_followersOf_4 v_camp_tents p1 n0 f_hears n s1 s2 = some out := fun _ _ h => by rw [hk4] at h; exact h
      refine lv_iload_n C.1 C.2.1 dX1_followersOf_4 rfl (lv_at hl 3 rfl) ?_
      refine lv_aload_n C.1 C.2.1 dX1_followersOf_5 rfl (lv_at hl 0 rfl) ?_
      refine g_get C hV flX1_followersOf_21 0 rfl rfl dX1_followersOf_6 ?_
      refine g_get C hV flX1_followersOf_25 1 rfl rfl dX1_followersOf_9 ?_
      refine g_icmp_ge (tgt := 41) C hF dX1_followersOf_12 rfl (fun hF => ?_) (fun hF => ?_)
      · refine lv_iload_n C.1 C.2.1 dX1_followersOf_41 rfl (lv_at hl 2 rfl) ?_
        exact hret s1 _ _ _ _ dX1_followersOf_42 hF hV
      refine lv_iload_n C.1 C.2.1 dX1_followersOf_15 rfl (lv_at hl 3 rfl) ?_
      refine lv_iload_n C.1 C.2.1 dX1_followersOf_16 rfl (lv_at hl 1 rfl) ?_
      refine g_icmp_eq (tgt := 35) C hF dX1_followersOf_17 rfl (fun hF => ?_) (fun hF => ?_)
      · refine g_iinc C hF dX1_followersOf_35 (d := 1) rfl hl (j := 3) rfl (by decide) (fun y => [(3, .int y), (0, .ref a_t), (1, .int p1), (2, .int s1)]) (fun _ => rfl) (fun x3 ls hF hl => ?_)
        refine lv_goto (tgt := 4) C.1 C.2.1 dX1_followersOf_38 rfl ?_
        exact ih4 s1 x3 H locs ls hV (lv_sub hl [1, 2, 3, 0] rfl) (hq4 s1 x3 hF)
      refine lv_aload_n C.1 C.2.1 dX1_followersOf_20 rfl (lv_at hl 0 rfl) ?_
      refine lv_iload_n C.1 C.2.1 dX1_followersOf_21 rfl (lv_at hl 3 rfl) ?_
      refine lv_iload_n C.1 C.2.1 dX1_followersOf_22 rfl (lv_at hl 1 rfl) ?_
      obtain ⟨x4, hc, hF⟩ := bd1_s hF
      refine g_cVi (ws' := [oX1 a_t a_camp a_hears a_near a_gaps, oX0 a_camp a_camp_kinds a_camp_yards a_camp_spots v_camp_tents v_camp_said v_camp_wall v_camp_bridge v_camp_counted v_camp_day v_camp_z, aA cI a_hears 10 f_hears]) (wr := []) C hV (k_X1_comesTo l dC dI cI cB cO n0 H.size a_t a_camp a_hears a_near a_gaps a_camp_kinds a_camp_yards a_camp_spots v_camp_tents v_camp_said v_camp_wall v_camp_bridge v_camp_counted v_camp_day v_camp_z f_hears s2 p1 hc) mdX1_comesTo gX1_followersOf_X1_comesTo rfl rfl ⟨Nat.le_of_ble_eq_true rfl, Nat.le_of_ble_eq_true rfl⟩ [0, 1, 2] [] [0, 1, 2] rfl rfl rfl rfl rfl rfl rfl rfl rfl rfl hl.1 (Nat.le_of_ble_eq_true rfl) rfl dX1_followersOf_23 (fun H locs hV => ?_)
      refine g_if_eq (tgt := 35) C hF dX1_followersOf_26 rfl (fun hF => ?_) (fun hF => ?_)
      · refine g_iinc C hF dX1_followersOf_35 (d := 1) rfl hl (j := 3) rfl (by decide) (fun y => [(3, .int y), (0, .ref a_t), (1, .int p1), (2, .int s1)]) (fun _ => rfl) (fun x5 ls hF hl => ?_)
        refine lv_goto (tgt := 4) C.1 C.2.1 dX1_followersOf_38 rfl ?_
        exact ih4 s1 x5 H locs ls hV (lv_sub hl [1, 2, 3, 0] rfl) (hq4 s1 x5 hF)
      refine lv_iload_n C.1 C.2.1 dX1_followersOf_29 rfl (lv_at hl 2 rfl) ?_
      refine lv_iconst (v := 1) C.1 C.2.1 dX1_followersOf_30 rfl ?_
      refine lv_iload_n C.1 C.2.1 dX1_followersOf_31 rfl (lv_at hl 3 rfl) ?_
      refine g_ishl C hF dX1_followersOf_32 (fun x6 hF => ?_)
      refine g_ior C hF dX1_followersOf_33 (fun x7 hF => ?_)
      refine lv_istore_n (lv' := [(2, .int x7), (0, .ref a_t), (1, .int p1), (3, .int s2)]) C.1 C.2.1 dX1_followersOf_34 rfl hl (by decide) rfl (fun ls hl => ?_)
      refine g_iinc C hF dX1_followersOf_35 (d := 1) rfl hl (j := 3) rfl (by decide) (fun y => [(3, .int y), (2, .int x7), (0, .ref a_t), (1, .int p1)]) (fun _ => rfl) (fun x8 ls hF hl => ?_)
      refine lv_goto (tgt := 4) C.1 C.2.1 dX1_followersOf_38 rfl ?_
      exact ih4 x7 x8 H locs ls hV (lv_sub hl [2, 3, 1, 0] rfl) (hq4 x7 x8 hF)
  exact hL4 n0 0 0 H locs ls hV (lv_sub hl [2, 3, 1, 0] rfl) hF
abbrev rmX1_mostFollowed : Room := { frames := 2, cells := 0, slots := 0, locals := 47 }
theorem mdX1_mostFollowed : gMd yX1_mostFollowed wsX1_mostFollowed cX1_mostFollowed 5 (some .int) 0 := ⟨⟨_, rfl⟩, by decide +kernel⟩
theorem flX1_mostFollowed_21 : gFL wsX1_mostFollowed RX1 21 1 0 RX1 TX1 4 := ⟨rfl, fun w h => List.mem_cons_of_mem _ (List.mem_append_left _ (List.mem_append_right _ (h))), Nat.le_of_ble_eq_true rfl, List.mem_cons_of_mem _ (List.mem_append_left _ (List.mem_append_left _ (List.mem_of_getElem? (i := 0) rfl)))⟩
theorem flX1_mostFollowed_25 : gFL wsX1_mostFollowed RX1 25 0 3 RX0 TX0 10 := ⟨rfl, fun w h => List.mem_cons_of_mem _ (List.mem_append_right _ (h)), Nat.le_of_ble_eq_true rfl, List.mem_cons_of_mem _ (List.mem_append_left _ (List.mem_append_left _ (List.mem_of_getElem? (i := 1) rfl)))⟩
def L_X1_mostFollowed_6 (v_camp_tents : Int32) (n0 : Nat) (f_hears : Nat → Int32) : Nat → Int32 → Int32 → Int32 → Option (Int32) := lpp3 (fun s1 s2 s3 kk6 => (if v_camp_tents ≤ s3 then some s1 else bd1 (F_X1_followersOf n0 v_camp_tents f_hears s3) (fun x4 => bd1 (F_J6_bitCount_0f7a4 n0 x4) (fun x5 => (if x5 ≤ s2 then nm (s3 + 1) (fun x6 => kk6 s1 s2 x6) else nm (s3 + 1) (fun x7 => kk6 s3 x5 x7))))))
def F_X1_mostFollowed (n0 : Nat) (v_camp_tents : Int32) (f_hears : Nat → Int32) : Option (Int32) := L_X1_mostFollowed_6 v_camp_tents n0 f_hears n0 ((-1)) ((-1)) 0
set_option maxRecDepth 100000 in
set_option maxHeartbeats 4000000 in
theorem k_X1_mostFollowed (l : Launch) (dC : Nat → ClassId) (dI : Nat → Nat → Nat) (cI cB cO : ClassId) (n0 sz : Nat) (a_t : Nat) (a_camp : Nat) (a_hears : Nat) (a_near : Nat) (a_gaps : Nat) (a_camp_kinds : Nat) (a_camp_yards : Nat) (a_camp_spots : Nat)   (v_camp_tents : Int32) (v_camp_said : Int32) (v_camp_wall : Int32) (v_camp_bridge : Int32) (v_camp_counted : Int32) (v_camp_day : Int32) (v_camp_z : Int32) (f_hears : Nat → Int32)   {ro : Int32} (hF : F_X1_mostFollowed n0 v_camp_tents f_hears = some ro) : Met l yX1_mostFollowed wsX1_mostFollowed rmX1_mostFollowed (va_Pc [.ref a_t] (gPre (dC, dI) (gT cI cB cO) sz [oX1 a_t a_camp a_hears a_near a_gaps, oX0 a_camp a_camp_kinds a_camp_yards a_camp_spots v_camp_tents v_camp_said v_camp_wall v_camp_bridge v_camp_counted v_camp_day v_camp_z, aA cI a_hears 10 f_hears])) (gQi (dC, dI) (gT cI cB cO) sz [oX1 a_t a_camp a_hears a_near a_gaps, oX0 a_camp a_camp_kinds a_camp_yards a_camp_spots v_camp_tents v_camp_said v_camp_wall v_camp_bridge v_camp_counted v_camp_day v_camp_z, aA cI a_hears 10 f_hears] ro [oX1 a_t a_camp a_hears a_near a_gaps, oX0 a_camp a_camp_kinds a_camp_yards a_camp_spots v_camp_tents v_camp_said v_camp_wall v_camp_bridge v_camp_counted v_camp_day v_camp_z, aA cI a_hears 10 f_hears]) 0 0 (va_A [oX1 a_t a_camp a_hears a_near a_gaps, oX0 a_camp a_camp_kinds a_camp_yards a_camp_spots v_camp_tents v_camp_said v_camp_wall v_camp_bridge v_camp_counted v_camp_day v_camp_z, aA cI a_hears 10 f_hears] sz) := by
  refine g_metI (Out := Int32) (fun oo => oo) (fun oo => [oX1 a_t a_camp a_hears a_near a_gaps, oX0 a_camp a_camp_kinds a_camp_yards a_camp_spots v_camp_tents v_camp_said v_camp_wall v_camp_bridge v_camp_counted v_camp_day v_camp_z, aA cI a_hears 10 f_hears]) ro (own := RX1) (lv := [(0, .ref a_t)]) (by decide) rfl rfl (Nat.le_of_ble_eq_true rfl) rfl ?_
  intro p e s m args below meth c Q ls C hret hV hl
  obtain ⟨out, hout⟩ : ∃ z : Int32, z = ro := ⟨_, rfl⟩
  rw [← hout] at hF hret
  obtain ⟨H0, hH0⟩ : ∃ z : Heap, z = s.heap := ⟨_, rfl⟩
  obtain ⟨A0, hA0⟩ : ∃ z : Nat → Prop, z = va_A [oX1 a_t a_camp a_hears a_near a_gaps, oX0 a_camp a_camp_kinds a_camp_yards a_camp_spots v_camp_tents v_camp_said v_camp_wall v_camp_bridge v_camp_counted v_camp_day v_camp_z, aA cI a_hears 10 f_hears] s.heap.size := ⟨_, rfl⟩
  rw [← hA0] at hret hV
  rw [← hH0] at hret hV
  rw [← hH0]
  obtain ⟨H, locs, hH⟩ : ∃ (z : Heap) (y : List Loc), z = H0 ∧ y = [] := ⟨_, _, rfl, rfl⟩
  rw [← hH.1, ← hH.2]
  have hV : gV (dC, dI) (gT cI cB cO) A0 H0 s [oX1 a_t a_camp a_hears a_near a_gaps, oX0 a_camp a_camp_kinds a_camp_yards a_camp_spots v_camp_tents v_camp_said v_camp_wall v_camp_bridge v_camp_counted v_camp_day v_camp_z, aA cI a_hears 10 f_hears] H locs := by rw [hH.1, hH.2]; exact hV
  unfold F_X1_mostFollowed at hF
  refine lv_iconst (v := (-1)) C.1 C.2.1 dX1_mostFollowed_0 rfl ?_
  refine lv_istore_n (lv' := [(1, .int ((-1))), (0, .ref a_t)]) C.1 C.2.1 dX1_mostFollowed_1 rfl hl (by decide) rfl (fun ls hl => ?_)
  refine lv_iconst (v := (-1)) C.1 C.2.1 dX1_mostFollowed_2 rfl ?_
  refine lv_istore_n (lv' := [(2, .int ((-1))), (1, .int ((-1))), (0, .ref a_t)]) C.1 C.2.1 dX1_mostFollowed_3 rfl hl (by decide) rfl (fun ls hl => ?_)
  refine lv_iconst (v := 0) C.1 C.2.1 dX1_mostFollowed_4 rfl ?_
  refine lv_istore_n (lv' := [(3, .int 0), (2, .int ((-1))), (1, .int ((-1))), (0, .ref a_t)]) C.1 C.2.1 dX1_mostFollowed_5 rfl hl (by decide) rfl (fun ls hl => ?_)
  have hL6 : ∀ (n : Nat) (s1 : Int32) (s2 : Int32) (s3 : Int32) (H : Heap) (locs : List Loc) (ls : Array Slot), gV (dC, dI) (gT cI cB cO) A0 H0 s [oX1 a_t a_camp a_hears a_near a_gaps, oX0 a_camp a_camp_kinds a_camp_yards a_camp_spots v_camp_tents v_camp_said v_camp_wall v_camp_bridge v_camp_counted v_camp_day v_camp_z, aA cI a_hears 10 f_hears] H locs → lv_has ls 5 [(0, .ref a_t), (1, .int s1), (2, .int s2), (3, .int s3)] → L_X1_mostFollowed_6 v_camp_tents n0 f_hears n s1 s2 s3 = some out → W p l e rmX1_mostFollowed s m args below meth c H locs 0 0 Q (F0 m 6 ls []) := by
    intro n
    induction n with
    | zero => intro s1 s2 s3 H locs ls hV hl hF; exact lpp3_z hF
    | succ n ih6 =>
      intro s1 s2 s3 H locs ls hV hl hF
      obtain ⟨kk6, hk6, hF⟩ := lpp3_g hF
      have hq6 : ∀ (s1 : Int32) (s2 : Int32) (s3 : Int32), kk6 s1 s2 s3 = some out → L_X1_mostFollowed_6 v_camp_tents n0 f_hears n s1 s2 s3 = some out := fun _ _ _ h => by rw [hk6] at h; exact h
      refine lv_iload_n C.1 C.2.1 dX1_mostFollowed_6 rfl (lv_at hl 3 rfl) ?_
      refine lv_aload_n C.1 C.2.1 dX1_mostFollowed_7 rfl (lv_at hl 0 rfl) ?_
      refine g_get C hV flX1_mostFollowed_21 0 rfl rfl dX1_mostFollowed_8 ?_
      refine g_get C hV flX1_mostFollowed_25 1 rfl rfl dX1_mostFollowed_11 ?_
      refine g_icmp_ge (tgt := 44) C hF dX1_mostFollowed_14 rfl (fun hF => ?_) (fun hF => ?_)
      · refine lv_iload_n C.1 C.2.1 dX1_mostFollowed_44 rfl (lv_at hl 1 rfl) ?_
        exact hret s1 _ _ _ _ dX1_mostFollowed_45 hF hV
      refine lv_aload_n C.1 C.2.1 dX1_mostFollowed_17 rfl (lv_at hl 0 rfl) ?_
      refine lv_iload_n C.1 C.2.1 dX1_mostFollowed_18 rfl (lv_at hl 3 rfl) ?_
      obtain ⟨x4, hc, hF⟩ := bd1_s hF
      refine g_cVi (ws' := [oX1 a_t a_camp a_hears a_near a_gaps, oX0 a_camp a_camp_kinds a_camp_yards a_camp_spots v_camp_tents v_camp_said v_camp_wall v_camp_bridge v_camp_counted v_camp_day v_camp_z, aA cI a_hears 10 f_hears]) (wr := []) C hV (k_X1_followersOf l dC dI cI cB cO n0 H.size a_t a_camp a_hears a_near a_gaps a_camp_kinds a_camp_yards a_camp_spots v_camp_tents v_camp_said v_camp_wall v_camp_bridge v_camp_counted v_camp_day v_camp_z f_hears s3 hc) mdX1_followersOf gX1_mostFollowed_X1_followersOf rfl rfl ⟨Nat.le_of_ble_eq_true rfl, Nat.le_of_ble_eq_true rfl⟩ [0, 1, 2] [] [0, 1, 2] rfl rfl rfl rfl rfl rfl rfl rfl rfl rfl hl.1 (Nat.le_of_ble_eq_true rfl) rfl dX1_mostFollowed_19 (fun H locs hV => ?_)
      obtain ⟨x5, hc, hF⟩ := bd1_s hF
      refine g_cSi (ws' := [oX1 a_t a_camp a_hears a_near a_gaps, oX0 a_camp a_camp_kinds a_camp_yards a_camp_spots v_camp_tents v_camp_said v_camp_wall v_camp_bridge v_camp_counted v_camp_day v_camp_z, aA cI a_hears 10 f_hears]) (wr := [oX1 a_t a_camp a_hears a_near a_gaps, oX0 a_camp a_camp_kinds a_camp_yards a_camp_spots v_camp_tents v_camp_said v_camp_wall v_camp_bridge v_camp_counted v_camp_day v_camp_z, aA cI a_hears 10 f_hears]) C hV (k_J6_bitCount_0f7a4 l dC dI cI cB cO n0 H.size x4 hc) mdJ6_bitCount_0f7a4 gX1_mostFollowed_J6_bitCount_0f7a4 rfl rfl ⟨Nat.le_of_ble_eq_true rfl, Nat.le_of_ble_eq_true rfl⟩ [] [0, 1, 2] [0, 1, 2] rfl rfl rfl rfl rfl rfl rfl rfl hl.1 (Nat.le_of_ble_eq_true rfl) rfl dX1_mostFollowed_22 (fun H locs hV => ?_)
      refine lv_istore (lv' := [(4, .int x5), (0, .ref a_t), (1, .int s1), (2, .int s2), (3, .int s3)]) C.1 C.2.1 dX1_mostFollowed_25 hl (by decide) rfl (fun ls hl => ?_)
      refine lv_iload C.1 C.2.1 dX1_mostFollowed_27 (lv_at hl 0 rfl) ?_
      refine lv_iload_n C.1 C.2.1 dX1_mostFollowed_29 rfl (lv_at hl 3 rfl) ?_
      refine g_icmp_le (tgt := 38) C hF dX1_mostFollowed_30 rfl (fun hF => ?_) (fun hF => ?_)
      · refine g_iinc C hF dX1_mostFollowed_38 (d := 1) rfl hl (j := 4) rfl (by decide) (fun y => [(3, .int y), (4, .int x5), (0, .ref a_t), (1, .int s1), (2, .int s2)]) (fun _ => rfl) (fun x6 ls hF hl => ?_)
        refine lv_goto (tgt := 6) C.1 C.2.1 dX1_mostFollowed_41 rfl ?_
        exact ih6 s1 s2 x6 H locs ls hV (lv_sub hl [2, 3, 4, 0] rfl) (hq6 s1 s2 x6 hF)
      refine lv_iload_n C.1 C.2.1 dX1_mostFollowed_33 rfl (lv_at hl 4 rfl) ?_
      refine lv_istore_n (lv' := [(1, .int s3), (4, .int x5), (0, .ref a_t), (2, .int s2), (3, .int s3)]) C.1 C.2.1 dX1_mostFollowed_34 rfl hl (by decide) rfl (fun ls hl => ?_)
      refine lv_iload C.1 C.2.1 dX1_mostFollowed_35 (lv_at hl 1 rfl) ?_
      refine lv_istore_n (lv' := [(2, .int x5), (1, .int s3), (4, .int x5), (0, .ref a_t), (3, .int s3)]) C.1 C.2.1 dX1_mostFollowed_37 rfl hl (by decide) rfl (fun ls hl => ?_)
      refine g_iinc C hF dX1_mostFollowed_38 (d := 1) rfl hl (j := 4) rfl (by decide) (fun y => [(3, .int y), (2, .int x5), (1, .int s3), (4, .int x5), (0, .ref a_t)]) (fun _ => rfl) (fun x7 ls hF hl => ?_)
      refine lv_goto (tgt := 6) C.1 C.2.1 dX1_mostFollowed_41 rfl ?_
      exact ih6 s3 x5 x7 H locs ls hV (lv_sub hl [4, 2, 1, 0] rfl) (hq6 s3 x5 x7 hF)
  exact hL6 n0 ((-1)) ((-1)) 0 H locs ls hV (lv_sub hl [3, 2, 1, 0] rfl) hF
abbrev rmX1_mostHeard : Room := { frames := 3, cells := 0, slots := 0, locals := 75 }
theorem mdX1_mostHeard : gMd yX1_mostHeard wsX1_mostHeard cX1_mostHeard 8 (some .int) 1 := ⟨⟨_, rfl⟩, by decide +kernel⟩
theorem flX1_mostHeard_21 : gFL wsX1_mostHeard RX1 21 1 0 RX1 TX1 4 := ⟨rfl, fun w h => List.mem_cons_of_mem _ (List.mem_append_left _ (List.mem_append_right _ (h))), Nat.le_of_ble_eq_true rfl, List.mem_cons_of_mem _ (List.mem_append_left _ (List.mem_append_left _ (List.mem_append_left _ (List.mem_of_getElem? (i := 0) rfl))))⟩
theorem flX1_mostHeard_99 : gFL wsX1_mostHeard RX1 99 0 4 RX0 TX0 10 := ⟨rfl, fun w h => List.mem_cons_of_mem _ (List.mem_append_right _ (h)), Nat.le_of_ble_eq_true rfl, List.mem_cons_of_mem _ (List.mem_append_left _ (List.mem_append_left _ (List.mem_append_left _ (List.mem_of_getElem? (i := 1) rfl))))⟩
theorem flX1_mostHeard_25 : gFL wsX1_mostHeard RX1 25 0 3 RX0 TX0 10 := ⟨rfl, fun w h => List.mem_cons_of_mem _ (List.mem_append_right _ (h)), Nat.le_of_ble_eq_true rfl, List.mem_cons_of_mem _ (List.mem_append_left _ (List.mem_append_left _ (List.mem_append_left _ (List.mem_of_getElem? (i := 2) rfl))))⟩
def L_X1_mostHeard_21 (v_camp_tents : Int32) (v_camp_said : Int32) (n0 : Nat) (f_hears : Nat → Int32) (f_near : Nat → Int32) (f_camp_kinds : Nat → Int32) (p1 : Int32) (x1 : Int32) : Nat → Int32 → Int32 → Int32 → Option (Int32) := lpp3 (fun s2 s3 s4 kk21 => (if v_camp_tents ≤ s4 then some s2 else nm (1 <<< (s4 &&& 31)) (fun x5 => nm (v_camp_said ^^^ x5) (fun x6 => bd1 (F_X1_saidAfter n0 v_camp_tents f_hears f_near f_camp_kinds x6 p1) (fun x7 => nm (x1 ^^^ x7) (fun x8 => nm (1 <<< (s4 &&& 31)) (fun x9 => nm (x9 ^^^ ((-1))) (fun x10 => nm (x8 &&& x10) (fun x11 => bd1 (F_J6_bitCount_0f7a4 n0 x11) (fun x12 => (if x12 ≤ s3 then nm (s4 + 1) (fun x13 => kk21 s2 s3 x13) else nm (s4 + 1) (fun x14 => kk21 s4 x12 x14))))))))))))
def F_X1_mostHeard (n0 : Nat) (v_camp_tents : Int32) (v_camp_said : Int32) (f_hears : Nat → Int32) (f_near : Nat → Int32) (f_camp_kinds : Nat → Int32) (p1 : Int32) : Option (Int32) := bd1 (F_X1_saidAfter n0 v_camp_tents f_hears f_near f_camp_kinds v_camp_said p1) (fun x1 => L_X1_mostHeard_21 v_camp_tents v_camp_said n0 f_hears f_near f_camp_kinds p1 x1 n0 ((-1)) ((-1)) 0)
set_option maxRecDepth 100000 in
set_option maxHeartbeats 4000000 in
theorem k_X1_mostHeard (l : Launch) (dC : Nat → ClassId) (dI : Nat → Nat → Nat) (cI cB cO : ClassId) (n0 sz : Nat) (a_t : Nat) (a_camp : Nat) (a_hears : Nat) (a_near : Nat) (a_gaps : Nat) (a_camp_kinds : Nat) (a_camp_yards : Nat) (a_camp_spots : Nat)   (v_camp_tents : Int32) (v_camp_said : Int32) (v_camp_wall : Int32) (v_camp_bridge : Int32) (v_camp_counted : Int32) (v_camp_day : Int32) (v_camp_z : Int32) (f_hears : Nat → Int32) (f_near : Nat → Int32) (f_camp_kinds : Nat → Int32) (p1 : Int32)  {ro : Int32} (hF : F_X1_mostHeard n0 v_camp_tents v_camp_said f_hears f_near f_camp_kinds p1 = some ro) : Met l yX1_mostHeard wsX1_mostHeard rmX1_mostHeard (va_Pc [.ref a_t, .int p1] (gPre (dC, dI) (gT cI cB cO) sz [oX1 a_t a_camp a_hears a_near a_gaps, oX0 a_camp a_camp_kinds a_camp_yards a_camp_spots v_camp_tents v_camp_said v_camp_wall v_camp_bridge v_camp_counted v_camp_day v_camp_z, aA cI a_hears 10 f_hears, aA cI a_near 10 f_near, aA cI a_camp_kinds 10 f_camp_kinds])) (gQi (dC, dI) (gT cI cB cO) sz [oX1 a_t a_camp a_hears a_near a_gaps, oX0 a_camp a_camp_kinds a_camp_yards a_camp_spots v_camp_tents v_camp_said v_camp_wall v_camp_bridge v_camp_counted v_camp_day v_camp_z, aA cI a_hears 10 f_hears, aA cI a_near 10 f_near, aA cI a_camp_kinds 10 f_camp_kinds] ro [oX1 a_t a_camp a_hears a_near a_gaps, oX0 a_camp a_camp_kinds a_camp_yards a_camp_spots v_camp_tents v_camp_said v_camp_wall v_camp_bridge v_camp_counted v_camp_day v_camp_z, aA cI a_hears 10 f_hears, aA cI a_near 10 f_near, aA cI a_camp_kinds 10 f_camp_kinds]) 0 0 (va_A [oX1 a_t a_camp a_hears a_near a_gaps, oX0 a_camp a_camp_kinds a_camp_yards a_camp_spots v_camp_tents v_camp_said v_camp_wall v_camp_bridge v_camp_counted v_camp_day v_camp_z, aA cI a_hears 10 f_hears, aA cI a_near 10 f_near, aA cI a_camp_kinds 10 f_camp_kinds] sz) := by
  refine g_metI (Out := Int32) (fun oo => oo) (fun oo => [oX1 a_t a_camp a_hears a_near a_gaps, oX0 a_camp a_camp_kinds a_camp_yards a_camp_spots v_camp_tents v_camp_said v_camp_wall v_camp_bridge v_camp_counted v_camp_day v_camp_z, aA cI a_hears 10 f_hears, aA cI a_near 10 f_near, aA cI a_camp_kinds 10 f_camp_kinds]) ro (own := RX1) (lv := [(0, .ref a_t), (1, .int p1)]) (by decide) rfl rfl (Nat.le_of_ble_eq_true rfl) rfl ?_
  intro p e s m args below meth c Q ls C hret hV hl
  obtain ⟨out, hout⟩ : ∃ z : Int32, z = ro := ⟨_, rfl⟩
  rw [← hout] at hF hret
  obtain ⟨H0, hH0⟩ : ∃ z : Heap, z = s.heap := ⟨_, rfl⟩
  obtain ⟨A0, hA0⟩ : ∃ z : Nat → Prop, z = va_A [oX1 a_t a_camp a_hears a_near a_gaps, oX0 a_camp a_camp_kinds a_camp_yards a_camp_spots v_camp_tents v_camp_said v_camp_wall v_camp_bridge v_camp_counted v_camp_day v_camp_z, aA cI a_hears 10 f_hears, aA cI a_near 10 f_near, aA cI a_camp_kinds 10 f_camp_kinds] s.heap.size := ⟨_, rfl⟩
  rw [← hA0] at hret hV
  rw [← hH0] at hret hV
  rw [← hH0]
  obtain ⟨H, locs, hH⟩ : ∃ (z : Heap) (y : List Loc), z = H0 ∧ y = [] := ⟨_, _, rfl, rfl⟩
  rw [← hH.1, ← hH.2]
  have hV : gV (dC, dI) (gT cI cB cO) A0 H0 s [oX1 a_t a_camp a_hears a_near a_gaps, oX0 a_camp a_camp_kinds a_camp_yards a_camp_spots v_camp_tents v_camp_said v_camp_wall v_camp_bridge v_camp_counted v_camp_day v_camp_z, aA cI a_hears 10 f_hears, aA cI a_near 10 f_near, aA cI a_camp_kinds 10 f_camp_kinds] H locs := by rw [hH.1, hH.2]; exact hV
  unfold F_X1_mostHeard at hF
  refine lv_aload_n C.1 C.2.1 dX1_mostHeard_0 rfl (lv_at hl 0 rfl) ?_
  refine lv_aload_n C.1 C.2.1 dX1_mostHeard_1 rfl (lv_at hl 0 rfl) ?_
  refine g_get C hV flX1_mostHeard_21 0 rfl rfl dX1_mostHeard_2 ?_
  refine g_get C hV flX1_mostHeard_99 1 rfl rfl dX1_mostHeard_5 ?_
  refine lv_iload_n C.1 C.2.1 dX1_mostHeard_8 rfl (lv_at hl 1 rfl) ?_
  obtain ⟨x1, hc, hF⟩ := bd1_s hF
  refine g_cVi (ws' := [oX1 a_t a_camp a_hears a_near a_gaps, oX0 a_camp a_camp_kinds a_camp_yards a_camp_spots v_camp_tents v_camp_said v_camp_wall v_camp_bridge v_camp_counted v_camp_day v_camp_z, aA cI a_hears 10 f_hears, aA cI a_near 10 f_near, aA cI a_camp_kinds 10 f_camp_kinds]) (wr := []) C hV (k_X1_saidAfter l dC dI cI cB cO n0 H.size a_t a_camp a_hears a_near a_gaps a_camp_kinds a_camp_yards a_camp_spots v_camp_tents v_camp_said v_camp_wall v_camp_bridge v_camp_counted v_camp_day v_camp_z f_hears f_near f_camp_kinds v_camp_said p1 hc) mdX1_saidAfter gX1_mostHeard_X1_saidAfter rfl rfl ⟨Nat.le_of_ble_eq_true rfl, Nat.le_of_ble_eq_true rfl⟩ [0, 1, 2, 3, 4] [] [0, 1, 2, 3, 4] rfl rfl rfl rfl rfl rfl rfl rfl rfl rfl hl.1 (Nat.le_of_ble_eq_true rfl) rfl dX1_mostHeard_9 (fun H locs hV => ?_)
  refine lv_istore_n (lv' := [(2, .int x1), (0, .ref a_t), (1, .int p1)]) C.1 C.2.1 dX1_mostHeard_12 rfl hl (by decide) rfl (fun ls hl => ?_)
  refine lv_iconst (v := (-1)) C.1 C.2.1 dX1_mostHeard_13 rfl ?_
  refine lv_istore_n (lv' := [(3, .int ((-1))), (2, .int x1), (0, .ref a_t), (1, .int p1)]) C.1 C.2.1 dX1_mostHeard_14 rfl hl (by decide) rfl (fun ls hl => ?_)
  refine lv_iconst (v := (-1)) C.1 C.2.1 dX1_mostHeard_15 rfl ?_
  refine lv_istore (lv' := [(4, .int ((-1))), (3, .int ((-1))), (2, .int x1), (0, .ref a_t), (1, .int p1)]) C.1 C.2.1 dX1_mostHeard_16 hl (by decide) rfl (fun ls hl => ?_)
  refine lv_iconst (v := 0) C.1 C.2.1 dX1_mostHeard_18 rfl ?_
  refine lv_istore (lv' := [(5, .int 0), (4, .int ((-1))), (3, .int ((-1))), (2, .int x1), (0, .ref a_t), (1, .int p1)]) C.1 C.2.1 dX1_mostHeard_19 hl (by decide) rfl (fun ls hl => ?_)
  have hL21 : ∀ (n : Nat) (s2 : Int32) (s3 : Int32) (s4 : Int32) (H : Heap) (locs : List Loc) (ls : Array Slot), gV (dC, dI) (gT cI cB cO) A0 H0 s [oX1 a_t a_camp a_hears a_near a_gaps, oX0 a_camp a_camp_kinds a_camp_yards a_camp_spots v_camp_tents v_camp_said v_camp_wall v_camp_bridge v_camp_counted v_camp_day v_camp_z, aA cI a_hears 10 f_hears, aA cI a_near 10 f_near, aA cI a_camp_kinds 10 f_camp_kinds] H locs → lv_has ls 8 [(0, .ref a_t), (1, .int p1), (2, .int x1), (3, .int s2), (4, .int s3), (5, .int s4)] → L_X1_mostHeard_21 v_camp_tents v_camp_said n0 f_hears f_near f_camp_kinds p1 x1 n s2 s3 s4 = some out → W p l e rmX1_mostHeard s m args below meth c H locs 0 0 Q (F0 m 21 ls []) := by
    intro n
    induction n with
    | zero => intro s2 s3 s4 H locs ls hV hl hF; exact lpp3_z hF
    | succ n ih21 =>
      intro s2 s3 s4 H locs ls hV hl hF
      obtain ⟨kk21, hk21, hF⟩ := lpp3_g hF
      have hq21 : ∀ (s2 : Int32) (s3 : Int32) (s4 : Int32), kk21 s2 s3 s4 = some out → L_X1_mostHeard_21 v_camp_tents v_camp_said n0 f_hears f_near f_camp_kinds p1 x1 n s2 s3 s4 = some out := fun _ _ _ h => by rw [hk21] at h; exact h
      refine lv_iload C.1 C.2.1 dX1_mostHeard_21 (lv_at hl 5 rfl) ?_
      refine lv_aload_n C.1 C.2.1 dX1_mostHeard_23 rfl (lv_at hl 0 rfl) ?_
      refine g_get C hV flX1_mostHeard_21 0 rfl rfl dX1_mostHeard_24 ?_
      refine g_get C hV flX1_mostHeard_25 1 rfl rfl dX1_mostHeard_27 ?_
      refine g_icmp_ge (tgt := 88) C hF dX1_mostHeard_30 rfl (fun hF => ?_) (fun hF => ?_)
      · refine lv_iload_n C.1 C.2.1 dX1_mostHeard_88 rfl (lv_at hl 3 rfl) ?_
        exact hret s2 _ _ _ _ dX1_mostHeard_89 hF hV
      refine lv_aload_n C.1 C.2.1 dX1_mostHeard_33 rfl (lv_at hl 0 rfl) ?_
      refine lv_aload_n C.1 C.2.1 dX1_mostHeard_34 rfl (lv_at hl 0 rfl) ?_
      refine g_get C hV flX1_mostHeard_21 0 rfl rfl dX1_mostHeard_35 ?_
      refine g_get C hV flX1_mostHeard_99 1 rfl rfl dX1_mostHeard_38 ?_
      refine lv_iconst (v := 1) C.1 C.2.1 dX1_mostHeard_41 rfl ?_
      refine lv_iload C.1 C.2.1 dX1_mostHeard_42 (lv_at hl 5 rfl) ?_
      refine g_ishl C hF dX1_mostHeard_44 (fun x5 hF => ?_)
      refine g_ixor C hF dX1_mostHeard_45 (fun x6 hF => ?_)
      refine lv_iload_n C.1 C.2.1 dX1_mostHeard_46 rfl (lv_at hl 1 rfl) ?_
      obtain ⟨x7, hc, hF⟩ := bd1_s hF
      refine g_cVi (ws' := [oX1 a_t a_camp a_hears a_near a_gaps, oX0 a_camp a_camp_kinds a_camp_yards a_camp_spots v_camp_tents v_camp_said v_camp_wall v_camp_bridge v_camp_counted v_camp_day v_camp_z, aA cI a_hears 10 f_hears, aA cI a_near 10 f_near, aA cI a_camp_kinds 10 f_camp_kinds]) (wr := []) C hV (k_X1_saidAfter l dC dI cI cB cO n0 H.size a_t a_camp a_hears a_near a_gaps a_camp_kinds a_camp_yards a_camp_spots v_camp_tents v_camp_said v_camp_wall v_camp_bridge v_camp_counted v_camp_day v_camp_z f_hears f_near f_camp_kinds x6 p1 hc) mdX1_saidAfter gX1_mostHeard_X1_saidAfter rfl rfl ⟨Nat.le_of_ble_eq_true rfl, Nat.le_of_ble_eq_true rfl⟩ [0, 1, 2, 3, 4] [] [0, 1, 2, 3, 4] rfl rfl rfl rfl rfl rfl rfl rfl rfl rfl hl.1 (Nat.le_of_ble_eq_true rfl) rfl dX1_mostHeard_47 (fun H locs hV => ?_)
      refine lv_istore (lv' := [(6, .int x7), (0, .ref a_t), (1, .int p1), (2, .int x1), (3, .int s2), (4, .int s3), (5, .int s4)]) C.1 C.2.1 dX1_mostHeard_50 hl (by decide) rfl (fun ls hl => ?_)
      refine lv_iload_n C.1 C.2.1 dX1_mostHeard_52 rfl (lv_at hl 3 rfl) ?_
      refine lv_iload C.1 C.2.1 dX1_mostHeard_53 (lv_at hl 0 rfl) ?_
      refine g_ixor C hF dX1_mostHeard_55 (fun x8 hF => ?_)
      refine lv_iconst (v := 1) C.1 C.2.1 dX1_mostHeard_56 rfl ?_
      refine lv_iload C.1 C.2.1 dX1_mostHeard_57 (lv_at hl 6 rfl) ?_
      refine g_ishl C hF dX1_mostHeard_59 (fun x9 hF => ?_)
      refine lv_iconst (v := (-1)) C.1 C.2.1 dX1_mostHeard_60 rfl ?_
      refine g_ixor C hF dX1_mostHeard_61 (fun x10 hF => ?_)
      refine g_iand C hF dX1_mostHeard_62 (fun x11 hF => ?_)
      obtain ⟨x12, hc, hF⟩ := bd1_s hF
      refine g_cSi (ws' := [oX1 a_t a_camp a_hears a_near a_gaps, oX0 a_camp a_camp_kinds a_camp_yards a_camp_spots v_camp_tents v_camp_said v_camp_wall v_camp_bridge v_camp_counted v_camp_day v_camp_z, aA cI a_hears 10 f_hears, aA cI a_near 10 f_near, aA cI a_camp_kinds 10 f_camp_kinds]) (wr := [oX1 a_t a_camp a_hears a_near a_gaps, oX0 a_camp a_camp_kinds a_camp_yards a_camp_spots v_camp_tents v_camp_said v_camp_wall v_camp_bridge v_camp_counted v_camp_day v_camp_z, aA cI a_hears 10 f_hears, aA cI a_near 10 f_near, aA cI a_camp_kinds 10 f_camp_kinds]) C hV (k_J6_bitCount_0f7a4 l dC dI cI cB cO n0 H.size x11 hc) mdJ6_bitCount_0f7a4 gX1_mostHeard_J6_bitCount_0f7a4 rfl rfl ⟨Nat.le_of_ble_eq_true rfl, Nat.le_of_ble_eq_true rfl⟩ [] [0, 1, 2, 3, 4] [0, 1, 2, 3, 4] rfl rfl rfl rfl rfl rfl rfl rfl hl.1 (Nat.le_of_ble_eq_true rfl) rfl dX1_mostHeard_63 (fun H locs hV => ?_)
      refine lv_istore (lv' := [(7, .int x12), (6, .int x7), (0, .ref a_t), (1, .int p1), (2, .int x1), (3, .int s2), (4, .int s3), (5, .int s4)]) C.1 C.2.1 dX1_mostHeard_66 hl (by decide) rfl (fun ls hl => ?_)
      refine lv_iload C.1 C.2.1 dX1_mostHeard_68 (lv_at hl 0 rfl) ?_
      refine lv_iload C.1 C.2.1 dX1_mostHeard_70 (lv_at hl 6 rfl) ?_
      refine g_icmp_le (tgt := 82) C hF dX1_mostHeard_72 rfl (fun hF => ?_) (fun hF => ?_)
      · refine g_iinc C hF dX1_mostHeard_82 (d := 1) rfl hl (j := 7) rfl (by decide) (fun y => [(5, .int y), (7, .int x12), (6, .int x7), (0, .ref a_t), (1, .int p1), (2, .int x1), (3, .int s2), (4, .int s3)]) (fun _ => rfl) (fun x13 ls hF hl => ?_)
        refine lv_goto (tgt := 21) C.1 C.2.1 dX1_mostHeard_85 rfl ?_
        exact ih21 s2 s3 x13 H locs ls hV (lv_sub hl [3, 4, 5, 6, 7, 0] rfl) (hq21 s2 s3 x13 hF)
      refine lv_iload C.1 C.2.1 dX1_mostHeard_75 (lv_at hl 7 rfl) ?_
      refine lv_istore_n (lv' := [(3, .int s4), (7, .int x12), (6, .int x7), (0, .ref a_t), (1, .int p1), (2, .int x1), (4, .int s3), (5, .int s4)]) C.1 C.2.1 dX1_mostHeard_77 rfl hl (by decide) rfl (fun ls hl => ?_)
      refine lv_iload C.1 C.2.1 dX1_mostHeard_78 (lv_at hl 1 rfl) ?_
      refine lv_istore (lv' := [(4, .int x12), (3, .int s4), (7, .int x12), (6, .int x7), (0, .ref a_t), (1, .int p1), (2, .int x1), (5, .int s4)]) C.1 C.2.1 dX1_mostHeard_80 hl (by decide) rfl (fun ls hl => ?_)
      refine g_iinc C hF dX1_mostHeard_82 (d := 1) rfl hl (j := 7) rfl (by decide) (fun y => [(5, .int y), (4, .int x12), (3, .int s4), (7, .int x12), (6, .int x7), (0, .ref a_t), (1, .int p1), (2, .int x1)]) (fun _ => rfl) (fun x14 ls hF hl => ?_)
      refine lv_goto (tgt := 21) C.1 C.2.1 dX1_mostHeard_85 rfl ?_
      exact ih21 s4 x12 x14 H locs ls hV (lv_sub hl [5, 6, 7, 2, 1, 0] rfl) (hq21 s4 x12 x14 hF)
  exact hL21 n0 ((-1)) ((-1)) 0 H locs ls hV (lv_sub hl [4, 5, 3, 2, 1, 0] rfl) hF
