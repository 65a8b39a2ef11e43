abbrev rmJ6_bitCount_0f7a4 : Room := { frames := 0, cells := 0, slots := 0, locals := 0 }
theorem mdJ6_bitCount_0f7a4 : gMd yJ6_bitCount_0f7a4 wsJ6_bitCount_0f7a4 cJ6_bitCount_0f7a4 1 (some .int) 1 := ⟨⟨_, rfl⟩, by decide +kernel⟩
theorem ctJ6_bitCount_0f7a4_265 : Cond.constant RJ6 265 1431655765 ∈ wsJ6_bitCount_0f7a4 := List.mem_cons_of_mem _ (List.mem_of_getElem? (i := 0) rfl)
theorem ctJ6_bitCount_0f7a4_266 : Cond.constant RJ6 266 858993459 ∈ wsJ6_bitCount_0f7a4 := List.mem_cons_of_mem _ (List.mem_of_getElem? (i := 1) rfl)
theorem ctJ6_bitCount_0f7a4_267 : Cond.constant RJ6 267 252645135 ∈ wsJ6_bitCount_0f7a4 := List.mem_cons_of_mem _ (List.mem_of_getElem? (i := 2) rfl)
def F_J6_bitCount_0f7a4 (n0 : Nat) (p1 : Int32) : Option (Int32) := nm ((Int32.toUInt32 p1 >>> (Int32.toUInt32 1 &&& Int32.toUInt32 31)).toInt32) (fun x1 => nm (x1 &&& 1431655765) (fun x2 => nm (p1 - x2) (fun x3 => nm (x3 &&& 858993459) (fun x4 => nm ((Int32.toUInt32 x3 >>> (Int32.toUInt32 2 &&& Int32.toUInt32 31)).toInt32) (fun x5 => nm (x5 &&& 858993459) (fun x6 => nm (x4 + x6) (fun x7 => nm ((Int32.toUInt32 x7 >>> (Int32.toUInt32 4 &&& Int32.toUInt32 31)).toInt32) (fun x8 => nm (x7 + x8) (fun x9 => nm (x9 &&& 252645135) (fun x10 => nm ((Int32.toUInt32 x10 >>> (Int32.toUInt32 8 &&& Int32.toUInt32 31)).toInt32) (fun x11 => nm (x10 + x11) (fun x12 => nm ((Int32.toUInt32 x12 >>> (Int32.toUInt32 16 &&& Int32.toUInt32 31)).toInt32) (fun x13 => nm (x12 + x13) (fun x14 => nm (x14 &&& 63) (fun x15 => some x15)))))))))))))))
set_option maxRecDepth 100000 in
set_option maxHeartbeats 4000000 in
theorem k_J6_bitCount_0f7a4 (l : Launch) (dC : Nat → ClassId) (dI : Nat → Nat → Nat) (cI cB cO : ClassId) (n0 sz : Nat)     (p1 : Int32)  {ro : Int32} (hF : F_J6_bitCount_0f7a4 n0 p1 = some ro) : Met l yJ6_bitCount_0f7a4 wsJ6_bitCount_0f7a4 rmJ6_bitCount_0f7a4 (va_Pc [.int p1] (gPre (dC, dI) (gT cI cB cO) sz [])) (gQi (dC, dI) (gT cI cB cO) sz [] ro []) 0 0 (va_A [] sz) := by
  refine g_metI (Out := Int32) (fun oo => oo) (fun oo => []) ro (own := RJ6) (lv := [(0, .int p1)]) (by decide) rfl rfl (Nat.le_of_ble_eq_true rfl) rfl ?_
  intro p e s m args below meth c Q ls C hret hV hl
  obtain ⟨out, hout⟩ : ∃ z : Int32, z = ro := ⟨_, rfl⟩
  rw [← hout] at hF hret
  obtain ⟨H0, hH0⟩ : ∃ z : Heap, z = s.heap := ⟨_, rfl⟩
  obtain ⟨A0, hA0⟩ : ∃ z : Nat → Prop, z = va_A [] s.heap.size := ⟨_, rfl⟩
  rw [← hA0] at hret hV
  rw [← hH0] at hret hV
  rw [← hH0]
  obtain ⟨H, locs, hH⟩ : ∃ (z : Heap) (y : List Loc), z = H0 ∧ y = [] := ⟨_, _, rfl, rfl⟩
  rw [← hH.1, ← hH.2]
  have hV : gV (dC, dI) (gT cI cB cO) A0 H0 s [] H locs := by rw [hH.1, hH.2]; exact hV
  unfold F_J6_bitCount_0f7a4 at hF
  refine lv_iload_n C.1 C.2.1 dJ6_bitCount_0f7a4_0 rfl (lv_at hl 0 rfl) ?_
  refine lv_iload_n C.1 C.2.1 dJ6_bitCount_0f7a4_1 rfl (lv_at hl 0 rfl) ?_
  refine lv_iconst (v := 1) C.1 C.2.1 dJ6_bitCount_0f7a4_2 rfl ?_
  refine g_iushr C hF dJ6_bitCount_0f7a4_3 (fun x1 hF => ?_)
  refine lv_ldcw (v := 1431655765) C.1 C.2.1 C.2.2.2.1 (C.2.2.2.2 _ ctJ6_bitCount_0f7a4_265) dJ6_bitCount_0f7a4_4 ?_
  refine g_iand C hF dJ6_bitCount_0f7a4_7 (fun x2 hF => ?_)
  refine g_isub C hF dJ6_bitCount_0f7a4_8 (fun x3 hF => ?_)
  refine lv_istore_n (lv' := [(0, .int x3)]) C.1 C.2.1 dJ6_bitCount_0f7a4_9 rfl hl (by decide) rfl (fun ls hl => ?_)
  refine lv_iload_n C.1 C.2.1 dJ6_bitCount_0f7a4_10 rfl (lv_at hl 0 rfl) ?_
  refine lv_ldcw (v := 858993459) C.1 C.2.1 C.2.2.2.1 (C.2.2.2.2 _ ctJ6_bitCount_0f7a4_266) dJ6_bitCount_0f7a4_11 ?_
  refine g_iand C hF dJ6_bitCount_0f7a4_14 (fun x4 hF => ?_)
  refine lv_iload_n C.1 C.2.1 dJ6_bitCount_0f7a4_15 rfl (lv_at hl 0 rfl) ?_
  refine lv_iconst (v := 2) C.1 C.2.1 dJ6_bitCount_0f7a4_16 rfl ?_
  refine g_iushr C hF dJ6_bitCount_0f7a4_17 (fun x5 hF => ?_)
  refine lv_ldcw (v := 858993459) C.1 C.2.1 C.2.2.2.1 (C.2.2.2.2 _ ctJ6_bitCount_0f7a4_266) dJ6_bitCount_0f7a4_18 ?_
  refine g_iand C hF dJ6_bitCount_0f7a4_21 (fun x6 hF => ?_)
  refine g_iadd C hF dJ6_bitCount_0f7a4_22 (fun x7 hF => ?_)
  refine lv_istore_n (lv' := [(0, .int x7)]) C.1 C.2.1 dJ6_bitCount_0f7a4_23 rfl hl (by decide) rfl (fun ls hl => ?_)
  refine lv_iload_n C.1 C.2.1 dJ6_bitCount_0f7a4_24 rfl (lv_at hl 0 rfl) ?_
  refine lv_iload_n C.1 C.2.1 dJ6_bitCount_0f7a4_25 rfl (lv_at hl 0 rfl) ?_
  refine lv_iconst (v := 4) C.1 C.2.1 dJ6_bitCount_0f7a4_26 rfl ?_
  refine g_iushr C hF dJ6_bitCount_0f7a4_27 (fun x8 hF => ?_)
  refine g_iadd C hF dJ6_bitCount_0f7a4_28 (fun x9 hF => ?_)
  refine lv_ldcw (v := 252645135) C.1 C.2.1 C.2.2.2.1 (C.2.2.2.2 _ ctJ6_bitCount_0f7a4_267) dJ6_bitCount_0f7a4_29 ?_
  refine g_iand C hF dJ6_bitCount_0f7a4_32 (fun x10 hF => ?_)
  refine lv_istore_n (lv' := [(0, .int x10)]) C.1 C.2.1 dJ6_bitCount_0f7a4_33 rfl hl (by decide) rfl (fun ls hl => ?_)
  refine lv_iload_n C.1 C.2.1 dJ6_bitCount_0f7a4_34 rfl (lv_at hl 0 rfl) ?_
  refine lv_iload_n C.1 C.2.1 dJ6_bitCount_0f7a4_35 rfl (lv_at hl 0 rfl) ?_
  refine lv_bipush (v := 8) C.1 C.2.1 dJ6_bitCount_0f7a4_36 rfl ?_
  refine g_iushr C hF dJ6_bitCount_0f7a4_38 (fun x11 hF => ?_)
  refine g_iadd C hF dJ6_bitCount_0f7a4_39 (fun x12 hF => ?_)
  refine lv_istore_n (lv' := [(0, .int x12)]) C.1 C.2.1 dJ6_bitCount_0f7a4_40 rfl hl (by decide) rfl (fun ls hl => ?_)
  refine lv_iload_n C.1 C.2.1 dJ6_bitCount_0f7a4_41 rfl (lv_at hl 0 rfl) ?_
  refine lv_iload_n C.1 C.2.1 dJ6_bitCount_0f7a4_42 rfl (lv_at hl 0 rfl) ?_
  refine lv_bipush (v := 16) C.1 C.2.1 dJ6_bitCount_0f7a4_43 rfl ?_
  refine g_iushr C hF dJ6_bitCount_0f7a4_45 (fun x13 hF => ?_)
  refine g_iadd C hF dJ6_bitCount_0f7a4_46 (fun x14 hF => ?_)
  refine lv_istore_n (lv' := [(0, .int x14)]) C.1 C.2.1 dJ6_bitCount_0f7a4_47 rfl hl (by decide) rfl (fun ls hl => ?_)
  refine lv_iload_n C.1 C.2.1 dJ6_bitCount_0f7a4_48 rfl (lv_at hl 0 rfl) ?_
  refine lv_bipush (v := 63) C.1 C.2.1 dJ6_bitCount_0f7a4_49 rfl ?_
  refine g_iand C hF dJ6_bitCount_0f7a4_51 (fun x15 hF => ?_)
  exact hret x15 _ _ _ _ dJ6_bitCount_0f7a4_52 hF hV
abbrev rmJ7_fill_53178 : Room := { frames := 0, cells := 0, slots := 0, locals := 0 }
theorem mdJ7_fill_53178 : gMd yJ7_fill_53178 wsJ7_fill_53178 cJ7_fill_53178 4 none 2 := ⟨⟨_, rfl⟩, by decide +kernel⟩
def L_J7_fill_53178_5 (n_a1 : Nat) (p2 : Int32) : Nat → Int32 → (Nat → Int32) → Option ((Nat → Int32)) := lpp2 (fun s1 t2 kk5 => (if ((Int32.ofNat n_a1)) ≤ s1 then some t2 else wrt t2 n_a1 s1 p2 (fun g3 => nm (s1 + 1) (fun x4 => kk5 x4 g3))))
def F_J7_fill_53178 (n0 : Nat) (n_a1 : Nat) (f_a1 : Nat → Int32) (p2 : Int32) : Option ((Nat → Int32)) := L_J7_fill_53178_5 n_a1 p2 n0 0 f_a1
set_option maxRecDepth 100000 in
set_option maxHeartbeats 4000000 in
theorem k_J7_fill_53178 (l : Launch) (dC : Nat → ClassId) (dI : Nat → Nat → Nat) (cI cB cO : ClassId) (n0 sz : Nat) (a_a1 : Nat) (n_a1 : Nat)  (f_a1 : Nat → Int32) (p2 : Int32)  {o0 : Nat → Int32} (hF : F_J7_fill_53178 n0 n_a1 f_a1 p2 = some o0) : Met l yJ7_fill_53178 wsJ7_fill_53178 rmJ7_fill_53178 (va_Pc [.ref a_a1, .int p2] (gPre (dC, dI) (gT cI cB cO) sz [aA cI a_a1 n_a1 f_a1])) (gQv (dC, dI) (gT cI cB cO) sz [aA cI a_a1 n_a1 f_a1] [aA cI a_a1 n_a1 o0]) 0 0 (va_A [aA cI a_a1 n_a1 f_a1] sz) := by
  refine g_metV (Out := (Nat → Int32)) (fun oo => [aA cI a_a1 n_a1 oo]) o0 (own := RJ7) (lv := [(0, .ref a_a1), (1, .int p2)]) (by decide) rfl rfl (Nat.le_of_ble_eq_true rfl) rfl ?_
  intro p e s m args below meth c Q ls C hret hV hl
  obtain ⟨out, hout⟩ : ∃ z : (Nat → Int32), z = o0 := ⟨_, rfl⟩
  rw [← hout] at hF hret
  obtain ⟨H0, hH0⟩ : ∃ z : Heap, z = s.heap := ⟨_, rfl⟩
  obtain ⟨A0, hA0⟩ : ∃ z : Nat → Prop, z = va_A [aA cI a_a1 n_a1 f_a1] s.heap.size := ⟨_, rfl⟩
  rw [← hA0] at hret hV
  rw [← hH0] at hret hV
  rw [← hH0]
  obtain ⟨H, locs, hH⟩ : ∃ (z : Heap) (y : List Loc), z = H0 ∧ y = [] := ⟨_, _, rfl, rfl⟩
  rw [← hH.1, ← hH.2]
  have hV : gV (dC, dI) (gT cI cB cO) A0 H0 s [aA cI a_a1 n_a1 f_a1] H locs := by rw [hH.1, hH.2]; exact hV
  unfold F_J7_fill_53178 at hF
  refine lv_iconst (v := 0) C.1 C.2.1 dJ7_fill_53178_0 rfl ?_
  refine lv_istore_n (lv' := [(2, .int 0), (0, .ref a_a1), (1, .int p2)]) C.1 C.2.1 dJ7_fill_53178_1 rfl hl (by decide) rfl (fun ls hl => ?_)
  refine lv_aload_n C.1 C.2.1 dJ7_fill_53178_2 rfl (lv_at hl 1 rfl) ?_
  refine va_alen (v := (Int32.ofNat n_a1)) C.1 C.2.1 hV.1 hV.2.1 0 0 rfl rfl rfl dJ7_fill_53178_3 ?_
  refine lv_istore_n (lv' := [(3, .int ((Int32.ofNat n_a1))), (2, .int 0), (0, .ref a_a1), (1, .int p2)]) C.1 C.2.1 dJ7_fill_53178_4 rfl hl (by decide) rfl (fun ls hl => ?_)
  have hL5 : ∀ (n : Nat) (s1 : Int32) (t2 : Nat → Int32) (H : Heap) (locs : List Loc) (ls : Array Slot), gV (dC, dI) (gT cI cB cO) A0 H0 s [aA cI a_a1 n_a1 t2] H locs → lv_has ls 4 [(0, .ref a_a1), (1, .int p2), (2, .int s1), (3, .int ((Int32.ofNat n_a1)))] → L_J7_fill_53178_5 n_a1 p2 n s1 t2 = some out → W p l e rmJ7_fill_53178 s m args below meth c H locs 0 0 Q (F0 m 5 ls []) := by
    intro n
    induction n with
    | zero => intro s1 t2 H locs ls hV hl hF; exact lpp2_z hF
    | succ n ih5 =>
      intro s1 t2 H locs ls hV hl hF
      obtain ⟨kk5, hk5, hF⟩ := lpp2_g hF
      have hq5 : ∀ (s1 : Int32) (t2 : Nat → Int32), kk5 s1 t2 = some out → L_J7_fill_53178_5 n_a1 p2 n s1 t2 = some out := fun _ _ h => by rw [hk5] at h; exact h
      refine lv_iload_n C.1 C.2.1 dJ7_fill_53178_5 rfl (lv_at hl 2 rfl) ?_
      refine lv_iload_n C.1 C.2.1 dJ7_fill_53178_6 rfl (lv_at hl 3 rfl) ?_
      refine g_icmp_ge (tgt := 20) C hF dJ7_fill_53178_7 rfl (fun hF => ?_) (fun hF => ?_)
      · exact hret t2 _ _ _ _ dJ7_fill_53178_20 hF hV
      refine lv_aload_n C.1 C.2.1 dJ7_fill_53178_10 rfl (lv_at hl 0 rfl) ?_
      refine lv_iload_n C.1 C.2.1 dJ7_fill_53178_11 rfl (lv_at hl 2 rfl) ?_
      refine lv_iload_n C.1 C.2.1 dJ7_fill_53178_12 rfl (lv_at hl 1 rfl) ?_
      refine g_iast C hV 0 rfl hF (fun gq => [aA cI a_a1 n_a1 gq]) (fun _ => rfl) dJ7_fill_53178_13 (fun g3 H locs hF hV => ?_)
      refine g_iinc C hF dJ7_fill_53178_14 (d := 1) rfl hl (j := 2) rfl (by decide) (fun y => [(2, .int y), (0, .ref a_a1), (1, .int p2), (3, .int ((Int32.ofNat n_a1)))]) (fun _ => rfl) (fun x4 ls hF hl => ?_)
      refine lv_goto (tgt := 5) C.1 C.2.1 dJ7_fill_53178_17 rfl ?_
      exact ih5 x4 g3 H locs ls hV (lv_sub hl [1, 2, 0, 3] rfl) (hq5 x4 g3 hF)
  exact hL5 n0 0 f_a1 H locs ls hV (lv_sub hl [2, 3, 1, 0] rfl) hF
