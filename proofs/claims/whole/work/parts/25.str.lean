abbrev rmJ3_checkIndex_8e157 : Room := { frames := 0, cells := 0, slots := 0, locals := 0 }
theorem mdJ3_checkIndex_8e157 : gMd yJ3_checkIndex_8e157 wsJ3_checkIndex_8e157 cJ3_checkIndex_8e157 3 (some .int) 3 := ⟨⟨_, rfl⟩, by decide +kernel⟩
def F_J3_checkIndex_8e157 (n0 : Nat) (p1 : Int32) (p2 : Int32) : Option (Int32) := (if p1 < 0 then none else (if p1 < p2 then some p1 else none))
set_option maxRecDepth 100000 in
set_option maxHeartbeats 4000000 in
theorem k_J3_checkIndex_8e157 (l : Launch) (dC : Nat → ClassId) (dI : Nat → Nat → Nat) (cI cB cO : ClassId) (n0 sz : Nat) (tK : Nat) (adK adV : Nat → Nat) (vF : Value)     (p1 : Int32) (p2 : Int32) (hvF : vF.category = 1)  {ro : Int32} (hF : F_J3_checkIndex_8e157 n0 p1 p2 = some ro) : Met l yJ3_checkIndex_8e157 wsJ3_checkIndex_8e157 rmJ3_checkIndex_8e157 (va_Pc [.int p1, .int p2, vF] (gPreE tK adK adV vF (dC, dI) (gT cI cB cO) sz [])) (gQi (dC, dI) (gT cI cB cO) sz [] ro []) 0 0 (va_A [] sz) := by
  refine g_metIE (Out := Int32) (fun oo => oo) (fun oo => []) ro (own := RJ3) (lv := [(0, .int p1), (1, .int p2), (2, vF)]) (by decide) rfl rfl (by have h1 : (Value.int p1).category = 1 := rfl; have h2 : (Value.int p2).category = 1 := rfl; simp [lg_sl, h1, h2, hvF]) rfl ?_
  intro p e s m args below meth c Q ls C hret hV hl hE
  obtain ⟨out, hout⟩ : ∃ z : Int32, z = ro := ⟨_, rfl⟩
  rw [← hout] at hF hret
  obtain ⟨H0, hH0⟩ : ∃ z : Heap, z = s.heap := ⟨_, rfl⟩
  obtain ⟨A0, hA0⟩ : ∃ z : Nat → Prop, z = va_A [] s.heap.size := ⟨_, rfl⟩
  rw [← hA0] at hret hV hE
  rw [← hH0] at hret hV
  rw [← hH0]
  obtain ⟨H, locs, hH⟩ : ∃ (z : Heap) (y : List Loc), z = H0 ∧ y = [] := ⟨_, _, rfl, rfl⟩
  rw [← hH.1, ← hH.2]
  have hV : gV (dC, dI) (gT cI cB cO) A0 H0 s [] H locs := by rw [hH.1, hH.2]; exact hV
  unfold F_J3_checkIndex_8e157 at hF
  refine lv_iload_n C.1 C.2.1 dJ3_checkIndex_8e157_0 rfl (lv_at hl 0 rfl) ?_
  refine g_if_lt (tgt := 9) C hF dJ3_checkIndex_8e157_1 rfl (fun hF => ?_) (fun hF => ?_)
  · cases hF
  refine lv_iload_n C.1 C.2.1 dJ3_checkIndex_8e157_4 rfl (lv_at hl 0 rfl) ?_
  refine lv_iload_n C.1 C.2.1 dJ3_checkIndex_8e157_5 rfl (lv_at hl 1 rfl) ?_
  refine g_icmp_lt (tgt := 16) C hF dJ3_checkIndex_8e157_6 rfl (fun hF => ?_) (fun hF => ?_)
  · refine lv_iload_n C.1 C.2.1 dJ3_checkIndex_8e157_16 rfl (lv_at hl 0 rfl) ?_
    exact hret p1 _ _ _ _ dJ3_checkIndex_8e157_17 hF hV
  cases hF
abbrev rmJ0_checkIndex_df160 : Room := { frames := 1, cells := 0, slots := 0, locals := 22 }
theorem mdJ0_checkIndex_df160 : gMd yJ0_checkIndex_df160 wsJ0_checkIndex_df160 cJ0_checkIndex_df160 2 none 2 := ⟨⟨_, rfl⟩, by decide +kernel⟩
theorem slJ0_checkIndex_df160_1053 : Cond.fieldLink RJ0 1053 "jdk/internal/util/Preconditions" "SIOOBE_FORMATTER" "Ljava/util/function/BiFunction;" ∈ wsJ0_checkIndex_df160 := List.mem_cons_of_mem _ (List.mem_of_getElem? (i := 0) rfl)
def F_J0_checkIndex_df160 (n0 : Nat) (p1 : Int32) (p2 : Int32) : Option (Unit) := bd1 (F_J3_checkIndex_8e157 n0 p1 p2) (fun x1 => some ())
set_option maxRecDepth 100000 in
set_option maxHeartbeats 4000000 in
theorem k_J0_checkIndex_df160 (l : Launch) (dC : Nat → ClassId) (dI : Nat → Nat → Nat) (cI cB cO : ClassId) (n0 sz : Nat) (tK : Nat) (adK adV : Nat → Nat) (vF : Value)     (p1 : Int32) (p2 : Int32)   (hF : F_J0_checkIndex_df160 n0 p1 p2 = some ()) : Met l yJ0_checkIndex_df160 wsJ0_checkIndex_df160 rmJ0_checkIndex_df160 (va_Pc [.int p1, .int p2] (gPreE tK adK adV vF (dC, dI) (gT cI cB cO) sz [])) (gQv (dC, dI) (gT cI cB cO) sz [] []) 0 0 (va_A [] sz) := by
  refine g_metVE (Out := Unit) (fun oo => []) () (own := RJ0) (lv := [(0, .int p1), (1, .int p2)]) (by decide) rfl rfl (Nat.le_of_ble_eq_true rfl) rfl ?_
  intro p e s m args below meth c Q ls C hret hV hl hE
  obtain ⟨out, hout⟩ : ∃ z : Unit, z = () := ⟨_, rfl⟩
  rw [← hout] at hF hret
  obtain ⟨H0, hH0⟩ : ∃ z : Heap, z = s.heap := ⟨_, rfl⟩
  obtain ⟨A0, hA0⟩ : ∃ z : Nat → Prop, z = va_A [] s.heap.size := ⟨_, rfl⟩
  rw [← hA0] at hret hV hE
  rw [← hH0] at hret hV
  rw [← hH0]
  obtain ⟨H, locs, hH⟩ : ∃ (z : Heap) (y : List Loc), z = H0 ∧ y = [] := ⟨_, _, rfl, rfl⟩
  rw [← hH.1, ← hH.2]
  have hV : gV (dC, dI) (gT cI cB cO) A0 H0 s [] H locs := by rw [hH.1, hH.2]; exact hV
  unfold F_J0_checkIndex_df160 at hF
  refine lv_iload_n C.1 C.2.1 dJ0_checkIndex_df160_0 rfl (lv_at hl 0 rfl) ?_
  refine lv_iload_n C.1 C.2.1 dJ0_checkIndex_df160_1 rfl (lv_at hl 1 rfl) ?_
  refine va_gets C.1 C.2.1 hE.2.2.2.2.2.1 (hH0 ▸ hV.2.2.2.1) C.2.2.2.1 (C.2.2.2.2 _ slJ0_checkIndex_df160_1053) (fun _ h => h) dJ0_checkIndex_df160_2 ?_
  obtain ⟨x1, hc, hF⟩ := bd1_s hF
  refine g_cESi (ws' := []) (wr := []) C hV hE hH0 (k_J3_checkIndex_8e157 l dC dI cI cB cO n0 H.size tK adK adV vF p1 p2 hE.2.2.2.2.2.2.2 hc) mdJ3_checkIndex_8e157 gJ0_checkIndex_df160_J3_checkIndex_8e157 rfl rfl ⟨Nat.le_of_ble_eq_true rfl, Nat.le_of_ble_eq_true rfl⟩ [] [] [] rfl rfl rfl rfl rfl rfl rfl rfl hl.1 (Nat.le_of_ble_eq_true rfl) rfl dJ0_checkIndex_df160_5 (fun H locs hV => ?_)
  refine lv_pop C.1 C.2.1 dJ0_checkIndex_df160_8 rfl ?_
  exact hret () _ _ _ _ dJ0_checkIndex_df160_9 hF hV
abbrev rmJ1_charAt_3b067 : Room := { frames := 2, cells := 0, slots := 0, locals := 43 }
theorem mdJ1_charAt_3b067 : gMd yJ1_charAt_3b067 wsJ1_charAt_3b067 cJ1_charAt_3b067 2 (some .char) 2 := ⟨⟨_, rfl⟩, by decide +kernel⟩
def F_J1_charAt_3b067 (n0 : Nat) (i1 : Nat) (p2 : Int32) : Option (Int32) := bd1 (F_J0_checkIndex_df160 n0 p2 ((Int32.ofNat (lenS.getD i1 0)))) (fun u9 => rd (fun j => (bytS.getD i1 []).getD j 0) (lenS.getD i1 0) p2 (fun x1 => nm (x1 &&& 255) (fun x2 => nm ((Int32.toUInt32 x2 % 65536).toInt32) (fun x3 => nz .char x3 (some x3)))))
set_option maxRecDepth 100000 in
set_option maxHeartbeats 4000000 in
theorem k_J1_charAt_3b067 (l : Launch) (dC : Nat → ClassId) (dI : Nat → Nat → Nat) (cI cB cO : ClassId) (n0 sz : Nat) (tK : Nat) (adK adV : Nat → Nat) (vF : Value)     (i1 : Nat) (hi1 : i1 < 13) (p2 : Int32)  {ro : Int32} (hF : F_J1_charAt_3b067 n0 i1 p2 = some ro) : Met l yJ1_charAt_3b067 wsJ1_charAt_3b067 rmJ1_charAt_3b067 (va_Pc [.ref (adV i1), .int p2] (gPreE tK adK adV vF (dC, dI) (gT cI cB cO) sz [])) (gQi (dC, dI) (gT cI cB cO) sz [] ro []) 0 0 (va_A [] sz) := by
  refine g_metNE (Out := Int32) (fun oo => oo) (ty := .char) (fun oo => []) ro (own := RJ1) (lv := [(0, .ref (adV i1)), (1, .int p2)]) (Or.inr (Or.inl rfl)) (by decide) rfl rfl (Nat.le_of_ble_eq_true rfl) rfl ?_
  intro p e s m args below meth c Q ls C hret hV hl hE
  obtain ⟨out, hout⟩ : ∃ z : Int32, z = ro := ⟨_, rfl⟩
  rw [← hout] at hF hret
  obtain ⟨H0, hH0⟩ : ∃ z : Heap, z = s.heap := ⟨_, rfl⟩
  obtain ⟨A0, hA0⟩ : ∃ z : Nat → Prop, z = va_A [] s.heap.size := ⟨_, rfl⟩
  rw [← hA0] at hret hV hE
  rw [← hH0] at hret hV
  rw [← hH0]
  obtain ⟨H, locs, hH⟩ : ∃ (z : Heap) (y : List Loc), z = H0 ∧ y = [] := ⟨_, _, rfl, rfl⟩
  rw [← hH.1, ← hH.2]
  have hV : gV (dC, dI) (gT cI cB cO) A0 H0 s [] H locs := by rw [hH.1, hH.2]; exact hV
  unfold F_J1_charAt_3b067 at hF
  refine lv_iload_n C.1 C.2.1 dJ1_charAt_3b067_0 rfl (lv_at hl 1 rfl) ?_
  refine lv_aload_n C.1 C.2.1 dJ1_charAt_3b067_1 rfl (lv_at hl 0 rfl) ?_
  refine va_tlen (v := (Int32.ofNat (lenS.getD i1 0))) C.1 C.2.1 (hE.2.2.1.1 i1 hi1).2.2.2 (hH0 ▸ hV.2.2.2.1) rfl dJ1_charAt_3b067_2 ?_
  obtain ⟨u9, hc, hF⟩ := bd1_s hF
  refine g_cESv (ws' := []) (wr := []) C hV hE hH0 (k_J0_checkIndex_df160 l dC dI cI cB cO n0 H.size tK adK adV vF p2 ((Int32.ofNat (lenS.getD i1 0))) hc) mdJ0_checkIndex_df160 gJ1_charAt_3b067_J0_checkIndex_df160 rfl rfl ⟨Nat.le_of_ble_eq_true rfl, Nat.le_of_ble_eq_true rfl⟩ [] [] [] rfl rfl rfl rfl rfl rfl rfl rfl hl.1 (Nat.le_of_ble_eq_true rfl) rfl dJ1_charAt_3b067_3 (fun H locs hV => ?_)
  refine lv_aload_n C.1 C.2.1 dJ1_charAt_3b067_6 rfl (lv_at hl 0 rfl) ?_
  refine lv_iload_n C.1 C.2.1 dJ1_charAt_3b067_7 rfl (lv_at hl 1 rfl) ?_
  refine g_tb C (hE.2.2.1.1 i1 hi1).2.2.2 (hH0 ▸ hV.2.2.2.1) hF dJ1_charAt_3b067_8 (fun x1 hF => ?_)
  refine lv_sipush (v := 255) C.1 C.2.1 dJ1_charAt_3b067_9 rfl ?_
  refine g_iand C hF dJ1_charAt_3b067_12 (fun x2 hF => ?_)
  refine g_i2c C hF dJ1_charAt_3b067_13 (fun x3 hF => ?_)
  obtain ⟨hz, hF⟩ := nz_s hF
  exact hret x3 _ _ _ _ dJ1_charAt_3b067_14 hF hz hV
abbrev rmJ0_coder_7d493 : Room := { frames := 0, cells := 0, slots := 0, locals := 0 }
theorem mdJ0_coder_7d493 : gMd yJ0_coder_7d493 wsJ0_coder_7d493 cJ0_coder_7d493 1 (some .byte) 0 := ⟨⟨_, rfl⟩, by decide +kernel⟩
theorem slJ0_coder_7d493_38 : Cond.fieldLink RJ0 38 "java/lang/String" "COMPACT_STRINGS" "Z" ∈ wsJ0_coder_7d493 := List.mem_cons_of_mem _ (List.mem_of_getElem? (i := 0) rfl)
theorem slJ0_coder_7d493_15 : Cond.fieldLink RJ0 15 "java/lang/String" "coder" "B" ∈ wsJ0_coder_7d493 := List.mem_cons_of_mem _ (List.mem_of_getElem? (i := 1) rfl)
def F_J0_coder_7d493 (n0 : Nat) (it : Nat) : Option (Int32) := (if (1 : Int32) = 0 then nz .byte 1 (some (1 : Int32)) else nz .byte 0 (some (0 : Int32)))
set_option maxRecDepth 100000 in
set_option maxHeartbeats 4000000 in
theorem k_J0_coder_7d493 (l : Launch) (dC : Nat → ClassId) (dI : Nat → Nat → Nat) (cI cB cO : ClassId) (n0 sz : Nat) (tK : Nat) (adK adV : Nat → Nat) (vF : Value)     (it : Nat) (hit : it < 13)   {ro : Int32} (hF : F_J0_coder_7d493 n0 it = some ro) : Met l yJ0_coder_7d493 wsJ0_coder_7d493 rmJ0_coder_7d493 (va_Pc [.ref (adK it)] (gPreE tK adK adV vF (dC, dI) (gT cI cB cO) sz [])) (gQi (dC, dI) (gT cI cB cO) sz [] ro []) 0 0 (va_A [] sz) := by
  refine g_metNE (Out := Int32) (fun oo => oo) (ty := .byte) (fun oo => []) ro (own := RJ0) (lv := [(0, .ref (adK it))]) (Or.inl rfl) (by decide) rfl rfl (Nat.le_of_ble_eq_true rfl) rfl ?_
  intro p e s m args below meth c Q ls C hret hV hl hE
  obtain ⟨out, hout⟩ : ∃ z : Int32, z = ro := ⟨_, rfl⟩
  rw [← hout] at hF hret
  obtain ⟨H0, hH0⟩ : ∃ z : Heap, z = s.heap := ⟨_, rfl⟩
  obtain ⟨A0, hA0⟩ : ∃ z : Nat → Prop, z = va_A [] s.heap.size := ⟨_, rfl⟩
  rw [← hA0] at hret hV hE
  rw [← hH0] at hret hV
  rw [← hH0]
  obtain ⟨H, locs, hH⟩ : ∃ (z : Heap) (y : List Loc), z = H0 ∧ y = [] := ⟨_, _, rfl, rfl⟩
  rw [← hH.1, ← hH.2]
  have hV : gV (dC, dI) (gT cI cB cO) A0 H0 s [] H locs := by rw [hH.1, hH.2]; exact hV
  unfold F_J0_coder_7d493 at hF
  refine va_gets C.1 C.2.1 hE.2.2.2.2.1 (hH0 ▸ hV.2.2.2.1) C.2.2.2.1 (C.2.2.2.2 _ slJ0_coder_7d493_38) (fun _ h => h) dJ0_coder_7d493_0 ?_
  refine g_if_eq (tgt := 13) C hF dJ0_coder_7d493_3 rfl (fun hF => ?_) (fun hF => ?_)
  · refine lv_iconst (v := 1) C.1 C.2.1 dJ0_coder_7d493_13 rfl ?_
    obtain ⟨hz, hF⟩ := nz_s hF
    exact hret (1 : Int32) _ _ _ _ dJ0_coder_7d493_14 hF hz hV
  refine lv_aload_n C.1 C.2.1 dJ0_coder_7d493_6 rfl (lv_at hl 0 rfl) ?_
  refine vk_getf C.1 C.2.1 (hE.2.2.1.1 it hit).2.1 (hH0 ▸ hV.2.2.2.1) C.2.2.2.1 (C.2.2.2.2 _ slJ0_coder_7d493_15) (fun _ h => h) dJ0_coder_7d493_7 ?_
  refine lv_goto (tgt := 14) C.1 C.2.1 dJ0_coder_7d493_10 rfl ?_
  obtain ⟨hz, hF⟩ := nz_s hF
  exact hret (0 : Int32) _ _ _ _ dJ0_coder_7d493_14 hF hz hV
abbrev rmJ0_length_8abf5 : Room := { frames := 1, cells := 0, slots := 0, locals := 20 }
theorem mdJ0_length_8abf5 : gMd yJ0_length_8abf5 wsJ0_length_8abf5 cJ0_length_8abf5 1 (some .int) 0 := ⟨⟨_, rfl⟩, by decide +kernel⟩
theorem slJ0_length_8abf5_9 : Cond.fieldLink RJ0 9 "java/lang/String" "value" "[B" ∈ wsJ0_length_8abf5 := List.mem_cons_of_mem _ (List.mem_of_getElem? (i := 0) rfl)
def F_J0_length_8abf5 (n0 : Nat) (it : Nat) : Option (Int32) := bd1 (F_J0_coder_7d493 n0 it) (fun x1 => nm (((Int32.ofNat (lenS.getD it 0))) >>> (x1 &&& 31)) (fun x2 => some x2))
set_option maxRecDepth 100000 in
set_option maxHeartbeats 4000000 in
theorem k_J0_length_8abf5 (l : Launch) (dC : Nat → ClassId) (dI : Nat → Nat → Nat) (cI cB cO : ClassId) (n0 sz : Nat) (tK : Nat) (adK adV : Nat → Nat) (vF : Value)     (it : Nat) (hit : it < 13)   {ro : Int32} (hF : F_J0_length_8abf5 n0 it = some ro) : Met l yJ0_length_8abf5 wsJ0_length_8abf5 rmJ0_length_8abf5 (va_Pc [.ref (adK it)] (gPreE tK adK adV vF (dC, dI) (gT cI cB cO) sz [])) (gQi (dC, dI) (gT cI cB cO) sz [] ro []) 0 0 (va_A [] sz) := by
  refine g_metIE (Out := Int32) (fun oo => oo) (fun oo => []) ro (own := RJ0) (lv := [(0, .ref (adK it))]) (by decide) rfl rfl (Nat.le_of_ble_eq_true rfl) rfl ?_
  intro p e s m args below meth c Q ls C hret hV hl hE
  obtain ⟨out, hout⟩ : ∃ z : Int32, z = ro := ⟨_, rfl⟩
  rw [← hout] at hF hret
  obtain ⟨H0, hH0⟩ : ∃ z : Heap, z = s.heap := ⟨_, rfl⟩
  obtain ⟨A0, hA0⟩ : ∃ z : Nat → Prop, z = va_A [] s.heap.size := ⟨_, rfl⟩
  rw [← hA0] at hret hV hE
  rw [← hH0] at hret hV
  rw [← hH0]
  obtain ⟨H, locs, hH⟩ : ∃ (z : Heap) (y : List Loc), z = H0 ∧ y = [] := ⟨_, _, rfl, rfl⟩
  rw [← hH.1, ← hH.2]
  have hV : gV (dC, dI) (gT cI cB cO) A0 H0 s [] H locs := by rw [hH.1, hH.2]; exact hV
  unfold F_J0_length_8abf5 at hF
  refine lv_aload_n C.1 C.2.1 dJ0_length_8abf5_0 rfl (lv_at hl 0 rfl) ?_
  refine vk_getf C.1 C.2.1 (hE.2.2.1.1 it hit).2.2.1 (hH0 ▸ hV.2.2.2.1) C.2.2.2.1 (C.2.2.2.2 _ slJ0_length_8abf5_9) (fun _ h => h) dJ0_length_8abf5_1 ?_
  refine va_tlen (v := (Int32.ofNat (lenS.getD it 0))) C.1 C.2.1 (hE.2.2.1.1 it hit).2.2.2 (hH0 ▸ hV.2.2.2.1) rfl dJ0_length_8abf5_4 ?_
  refine lv_aload_n C.1 C.2.1 dJ0_length_8abf5_5 rfl (lv_at hl 0 rfl) ?_
  obtain ⟨x1, hc, hF⟩ := bd1_s hF
  refine g_cETi (ws' := []) (wr := []) C hV hE hH0 hit rfl (k_J0_coder_7d493 l dC dI cI cB cO n0 H.size tK adK adV vF it hit hc) mdJ0_coder_7d493 gJ0_length_8abf5_J0_coder_7d493 rfl rfl ⟨Nat.le_of_ble_eq_true rfl, Nat.le_of_ble_eq_true rfl⟩ [] [] [] rfl rfl rfl rfl rfl rfl rfl rfl hl.1 (Nat.le_of_ble_eq_true rfl) rfl dJ0_length_8abf5_6 (fun H locs hV => ?_)
  refine g_ishr C hF dJ0_length_8abf5_9 (fun x2 hF => ?_)
  exact hret x2 _ _ _ _ dJ0_length_8abf5_10 hF hV
abbrev rmJ0_isLatin1_aae02 : Room := { frames := 0, cells := 0, slots := 0, locals := 0 }
theorem mdJ0_isLatin1_aae02 : gMd yJ0_isLatin1_aae02 wsJ0_isLatin1_aae02 cJ0_isLatin1_aae02 1 (some .boolean) 0 := ⟨⟨_, rfl⟩, by decide +kernel⟩
theorem slJ0_isLatin1_aae02_38 : Cond.fieldLink RJ0 38 "java/lang/String" "COMPACT_STRINGS" "Z" ∈ wsJ0_isLatin1_aae02 := List.mem_cons_of_mem _ (List.mem_of_getElem? (i := 0) rfl)
theorem slJ0_isLatin1_aae02_15 : Cond.fieldLink RJ0 15 "java/lang/String" "coder" "B" ∈ wsJ0_isLatin1_aae02 := List.mem_cons_of_mem _ (List.mem_of_getElem? (i := 1) rfl)
def F_J0_isLatin1_aae02 (n0 : Nat) (it : Nat) : Option (Int32) := (if (1 : Int32) = 0 then some (0 : Int32) else (if (0 : Int32) = 0 then some (1 : Int32) else some (0 : Int32)))
set_option maxRecDepth 100000 in
set_option maxHeartbeats 4000000 in
theorem k_J0_isLatin1_aae02 (l : Launch) (dC : Nat → ClassId) (dI : Nat → Nat → Nat) (cI cB cO : ClassId) (n0 sz : Nat) (tK : Nat) (adK adV : Nat → Nat) (vF : Value)     (it : Nat) (hit : it < 13)   {ro : Int32} (hF : F_J0_isLatin1_aae02 n0 it = some ro) : Met l yJ0_isLatin1_aae02 wsJ0_isLatin1_aae02 rmJ0_isLatin1_aae02 (va_Pc [.ref (adK it)] (gPreE tK adK adV vF (dC, dI) (gT cI cB cO) sz [])) (gQi (dC, dI) (gT cI cB cO) sz [] ro []) 0 0 (va_A [] sz) := by
  refine g_metZE (Out := Int32) (fun oo => oo) (fun oo => []) ro (own := RJ0) (lv := [(0, .ref (adK it))]) (by decide) rfl rfl (Nat.le_of_ble_eq_true rfl) rfl ?_
  intro p e s m args below meth c Q ls C hret hV hl hE
  obtain ⟨out, hout⟩ : ∃ z : Int32, z = ro := ⟨_, rfl⟩
  rw [← hout] at hF hret
  obtain ⟨H0, hH0⟩ : ∃ z : Heap, z = s.heap := ⟨_, rfl⟩
  obtain ⟨A0, hA0⟩ : ∃ z : Nat → Prop, z = va_A [] s.heap.size := ⟨_, rfl⟩
  rw [← hA0] at hret hV hE
  rw [← hH0] at hret hV
  rw [← hH0]
  obtain ⟨H, locs, hH⟩ : ∃ (z : Heap) (y : List Loc), z = H0 ∧ y = [] := ⟨_, _, rfl, rfl⟩
  rw [← hH.1, ← hH.2]
  have hV : gV (dC, dI) (gT cI cB cO) A0 H0 s [] H locs := by rw [hH.1, hH.2]; exact hV
  unfold F_J0_isLatin1_aae02 at hF
  refine va_gets C.1 C.2.1 hE.2.2.2.2.1 (hH0 ▸ hV.2.2.2.1) C.2.2.2.1 (C.2.2.2.2 _ slJ0_isLatin1_aae02_38) (fun _ h => h) dJ0_isLatin1_aae02_0 ?_
  refine g_if_eq (tgt := 17) C hF dJ0_isLatin1_aae02_3 rfl (fun hF => ?_) (fun hF => ?_)
  · refine lv_iconst (v := 0) C.1 C.2.1 dJ0_isLatin1_aae02_17 rfl ?_
    exact hret (0 : Int32) _ _ _ _ dJ0_isLatin1_aae02_18 hF (Or.inl rfl) hV
  refine lv_aload_n C.1 C.2.1 dJ0_isLatin1_aae02_6 rfl (lv_at hl 0 rfl) ?_
  refine vk_getf C.1 C.2.1 (hE.2.2.1.1 it hit).2.1 (hH0 ▸ hV.2.2.2.1) C.2.2.2.1 (C.2.2.2.2 _ slJ0_isLatin1_aae02_15) (fun _ h => h) dJ0_isLatin1_aae02_7 ?_
  refine g_if_ne (tgt := 17) C hF dJ0_isLatin1_aae02_10 rfl (fun hF => ?_) (fun hF => ?_)
  · refine lv_iconst (v := 0) C.1 C.2.1 dJ0_isLatin1_aae02_17 rfl ?_
    exact hret (0 : Int32) _ _ _ _ dJ0_isLatin1_aae02_18 hF (Or.inl rfl) hV
  refine lv_iconst (v := 1) C.1 C.2.1 dJ0_isLatin1_aae02_13 rfl ?_
  refine lv_goto (tgt := 18) C.1 C.2.1 dJ0_isLatin1_aae02_14 rfl ?_
  exact hret (1 : Int32) _ _ _ _ dJ0_isLatin1_aae02_18 hF (Or.inr rfl) hV
abbrev rmJ0_charAt_5068e : Room := { frames := 3, cells := 0, slots := 0, locals := 64 }
theorem mdJ0_charAt_5068e : gMd yJ0_charAt_5068e wsJ0_charAt_5068e cJ0_charAt_5068e 2 (some .char) 1 := ⟨⟨_, rfl⟩, by decide +kernel⟩
theorem slJ0_charAt_5068e_9 : Cond.fieldLink RJ0 9 "java/lang/String" "value" "[B" ∈ wsJ0_charAt_5068e := List.mem_cons_of_mem _ (List.mem_append_left _ (List.mem_of_getElem? (i := 0) rfl))
def F_J0_charAt_5068e (n0 : Nat) (it : Nat) (p1 : Int32) : Option (Int32) := bd1 (F_J0_isLatin1_aae02 n0 it) (fun x1 => (if x1 = 0 then none else bd1 (F_J1_charAt_3b067 n0 it p1) (fun x2 => nz .char x2 (some x2))))
set_option maxRecDepth 100000 in
set_option maxHeartbeats 4000000 in
theorem k_J0_charAt_5068e (l : Launch) (dC : Nat → ClassId) (dI : Nat → Nat → Nat) (cI cB cO : ClassId) (n0 sz : Nat) (tK : Nat) (adK adV : Nat → Nat) (vF : Value)     (it : Nat) (hit : it < 13) (p1 : Int32)  {ro : Int32} (hF : F_J0_charAt_5068e n0 it p1 = some ro) : Met l yJ0_charAt_5068e wsJ0_charAt_5068e rmJ0_charAt_5068e (va_Pc [.ref (adK it), .int p1] (gPreE tK adK adV vF (dC, dI) (gT cI cB cO) sz [])) (gQi (dC, dI) (gT cI cB cO) sz [] ro []) 0 0 (va_A [] sz) := by
  refine g_metNE (Out := Int32) (fun oo => oo) (ty := .char) (fun oo => []) ro (own := RJ0) (lv := [(0, .ref (adK it)), (1, .int p1)]) (Or.inr (Or.inl rfl)) (by decide) rfl rfl (Nat.le_of_ble_eq_true rfl) rfl ?_
  intro p e s m args below meth c Q ls C hret hV hl hE
  obtain ⟨out, hout⟩ : ∃ z : Int32, z = ro := ⟨_, rfl⟩
  rw [← hout] at hF hret
  obtain ⟨H0, hH0⟩ : ∃ z : Heap, z = s.heap := ⟨_, rfl⟩
  obtain ⟨A0, hA0⟩ : ∃ z : Nat → Prop, z = va_A [] s.heap.size := ⟨_, rfl⟩
  rw [← hA0] at hret hV hE
  rw [← hH0] at hret hV
  rw [← hH0]
  obtain ⟨H, locs, hH⟩ : ∃ (z : Heap) (y : List Loc), z = H0 ∧ y = [] := ⟨_, _, rfl, rfl⟩
  rw [← hH.1, ← hH.2]
  have hV : gV (dC, dI) (gT cI cB cO) A0 H0 s [] H locs := by rw [hH.1, hH.2]; exact hV
  unfold F_J0_charAt_5068e at hF
  refine lv_aload_n C.1 C.2.1 dJ0_charAt_5068e_0 rfl (lv_at hl 0 rfl) ?_
  obtain ⟨x1, hc, hF⟩ := bd1_s hF
  refine g_cETi (ws' := []) (wr := []) C hV hE hH0 hit rfl (k_J0_isLatin1_aae02 l dC dI cI cB cO n0 H.size tK adK adV vF it hit hc) mdJ0_isLatin1_aae02 gJ0_charAt_5068e_J0_isLatin1_aae02 rfl rfl ⟨Nat.le_of_ble_eq_true rfl, Nat.le_of_ble_eq_true rfl⟩ [] [] [] rfl rfl rfl rfl rfl rfl rfl rfl hl.1 (Nat.le_of_ble_eq_true rfl) rfl dJ0_charAt_5068e_1 (fun H locs hV => ?_)
  refine g_if_eq (tgt := 16) C hF dJ0_charAt_5068e_4 rfl (fun hF => ?_) (fun hF => ?_)
  · cases hF
  refine lv_aload_n C.1 C.2.1 dJ0_charAt_5068e_7 rfl (lv_at hl 0 rfl) ?_
  refine vk_getf C.1 C.2.1 (hE.2.2.1.1 it hit).2.2.1 (hH0 ▸ hV.2.2.2.1) C.2.2.2.1 (C.2.2.2.2 _ slJ0_charAt_5068e_9) (fun _ h => h) dJ0_charAt_5068e_8 ?_
  refine lv_iload_n C.1 C.2.1 dJ0_charAt_5068e_11 rfl (lv_at hl 1 rfl) ?_
  obtain ⟨x2, hc, hF⟩ := bd1_s hF
  refine g_cESi (ws' := []) (wr := []) C hV hE hH0 (k_J1_charAt_3b067 l dC dI cI cB cO n0 H.size tK adK adV vF it hit p1 hc) mdJ1_charAt_3b067 gJ0_charAt_5068e_J1_charAt_3b067 rfl rfl ⟨Nat.le_of_ble_eq_true rfl, Nat.le_of_ble_eq_true rfl⟩ [] [] [] rfl rfl rfl rfl rfl rfl rfl rfl hl.1 (Nat.le_of_ble_eq_true rfl) rfl dJ0_charAt_5068e_12 (fun H locs hV => ?_)
  obtain ⟨hz, hF⟩ := nz_s hF
  exact hret x2 _ _ _ _ dJ0_charAt_5068e_15 hF hz hV
abbrev rmX3_isWord : Room := { frames := 4, cells := 0, slots := 0, locals := 85 }
theorem mdX3_isWord : gMd yX3_isWord wsX3_isWord cX3_isWord 3 (some .boolean) 1 := ⟨⟨_, rfl⟩, by decide +kernel⟩
theorem flX3_isWord_32 : gFL wsX3_isWord RX3 32 3 4 RX3 TX3 6 := ⟨rfl, fun w h => List.mem_cons_of_mem _ (List.mem_append_right _ (h)), Nat.le_of_ble_eq_true rfl, List.mem_cons_of_mem _ (List.mem_append_left _ (List.mem_append_left _ (List.mem_of_getElem? (i := 0) rfl)))⟩
theorem flX3_isWord_19 : gFL wsX3_isWord RX3 19 3 3 RX3 TX3 6 := ⟨rfl, fun w h => List.mem_cons_of_mem _ (List.mem_append_right _ (h)), Nat.le_of_ble_eq_true rfl, List.mem_cons_of_mem _ (List.mem_append_left _ (List.mem_append_left _ (List.mem_of_getElem? (i := 1) rfl)))⟩
theorem flX3_isWord_29 : gFL wsX3_isWord RX3 29 3 2 RX3 TX3 6 := ⟨rfl, fun w h => List.mem_cons_of_mem _ (List.mem_append_right _ (h)), Nat.le_of_ble_eq_true rfl, List.mem_cons_of_mem _ (List.mem_append_left _ (List.mem_append_left _ (List.mem_of_getElem? (i := 2) rfl)))⟩
theorem flX3_isWord_9 : gFL wsX3_isWord RX3 9 3 1 RX3 TX3 6 := ⟨rfl, fun w h => List.mem_cons_of_mem _ (List.mem_append_right _ (h)), Nat.le_of_ble_eq_true rfl, List.mem_cons_of_mem _ (List.mem_append_left _ (List.mem_append_left _ (List.mem_of_getElem? (i := 3) rfl)))⟩
def L_X3_isWord_28 (n0 : Nat) (i1 : Nat) (v_start : Int32) (f_bytes : Nat → Int32) : Nat → Int32 → Option (Int32) := lpp1 (fun s3 kk28 => bd1 (F_J0_length_8abf5 n0 i1) (fun x4 => (if x4 ≤ s3 then some (1 : Int32) else nm (v_start + s3) (fun x5 => (if 120 ≤ x5 then some (1 : Int32) else nm (v_start + s3) (fun x6 => rd f_bytes 120 x6 (fun x7 => bd1 (F_J0_charAt_5068e n0 i1 s3) (fun x8 => (if x7 = x8 then nm (s3 + 1) (fun x9 => kk28 x9) else some (0 : Int32))))))))))
def F_X3_isWord (n0 : Nat) (v_start : Int32) (v_behind : Int32) (v_sort : Int32) (f_bytes : Nat → Int32) (i1 : Nat) : Option (Int32) := (if v_sort = 1 then nm (v_behind - v_start) (fun x1 => bd1 (F_J0_length_8abf5 n0 i1) (fun x2 => (if x1 = x2 then L_X3_isWord_28 n0 i1 v_start f_bytes n0 0 else some (0 : Int32)))) else some (0 : Int32))
set_option maxRecDepth 100000 in
set_option maxHeartbeats 4000000 in
theorem k_X3_isWord (l : Launch) (dC : Nat → ClassId) (dI : Nat → Nat → Nat) (cI cB cO : ClassId) (n0 sz : Nat) (tK : Nat) (adK adV : Nat → Nat) (vF : Value) (a_t : Nat) (a_bytes : Nat)   (v_size : Int32) (v_start : Int32) (v_behind : Int32) (v_sort : Int32) (v_number : Int32) (f_bytes : Nat → Int32) (i1 : Nat) (hi1 : i1 < 13)  {ro : Int32} (hF : F_X3_isWord n0 v_start v_behind v_sort f_bytes i1 = some ro) : Met l yX3_isWord wsX3_isWord rmX3_isWord (va_Pc [.ref a_t, .ref (adK i1)] (gPreE tK adK adV vF (dC, dI) (gT cI cB cO) sz [oX3 a_t v_size a_bytes v_start v_behind v_sort v_number, aA cI a_bytes 120 f_bytes])) (gQi (dC, dI) (gT cI cB cO) sz [oX3 a_t v_size a_bytes v_start v_behind v_sort v_number, aA cI a_bytes 120 f_bytes] ro [oX3 a_t v_size a_bytes v_start v_behind v_sort v_number, aA cI a_bytes 120 f_bytes]) 0 0 (va_A [oX3 a_t v_size a_bytes v_start v_behind v_sort v_number, aA cI a_bytes 120 f_bytes] sz) := by
  refine g_metZE (Out := Int32) (fun oo => oo) (fun oo => [oX3 a_t v_size a_bytes v_start v_behind v_sort v_number, aA cI a_bytes 120 f_bytes]) ro (own := RX3) (lv := [(0, .ref a_t), (1, .ref (adK i1))]) (by decide) rfl rfl (Nat.le_of_ble_eq_true rfl) rfl ?_
  intro p e s m args below meth c Q ls C hret hV hl hE
  obtain ⟨out, hout⟩ : ∃ z : Int32, z = ro := ⟨_, rfl⟩
  rw [← hout] at hF hret
  obtain ⟨H0, hH0⟩ : ∃ z : Heap, z = s.heap := ⟨_, rfl⟩
  obtain ⟨A0, hA0⟩ : ∃ z : Nat → Prop, z = va_A [oX3 a_t v_size a_bytes v_start v_behind v_sort v_number, aA cI a_bytes 120 f_bytes] s.heap.size := ⟨_, rfl⟩
  rw [← hA0] at hret hV hE
  rw [← hH0] at hret hV
  rw [← hH0]
  obtain ⟨H, locs, hH⟩ : ∃ (z : Heap) (y : List Loc), z = H0 ∧ y = [] := ⟨_, _, rfl, rfl⟩
  rw [← hH.1, ← hH.2]
  have hV : gV (dC, dI) (gT cI cB cO) A0 H0 s [oX3 a_t v_size a_bytes v_start v_behind v_sort v_number, aA cI a_bytes 120 f_bytes] H locs := by rw [hH.1, hH.2]; exact hV
  unfold F_X3_isWord at hF
  refine lv_aload_n C.1 C.2.1 dX3_isWord_0 rfl (lv_at hl 0 rfl) ?_
  refine g_get C hV flX3_isWord_32 0 rfl rfl dX3_isWord_1 ?_
  refine lv_iconst (v := 1) C.1 C.2.1 dX3_isWord_4 rfl ?_
  refine g_icmp_ne (tgt := 24) C hF dX3_isWord_5 rfl (fun hF => ?_) (fun hF => ?_)
  · refine lv_iconst (v := 0) C.1 C.2.1 dX3_isWord_24 rfl ?_
    exact hret (0 : Int32) _ _ _ _ dX3_isWord_25 hF (Or.inl rfl) hV
  refine lv_aload_n C.1 C.2.1 dX3_isWord_8 rfl (lv_at hl 0 rfl) ?_
  refine g_get C hV flX3_isWord_19 0 rfl rfl dX3_isWord_9 ?_
  refine lv_aload_n C.1 C.2.1 dX3_isWord_12 rfl (lv_at hl 0 rfl) ?_
  refine g_get C hV flX3_isWord_29 0 rfl rfl dX3_isWord_13 ?_
  refine g_isub C hF dX3_isWord_16 (fun x1 hF => ?_)
  refine lv_aload_n C.1 C.2.1 dX3_isWord_17 rfl (lv_at hl 1 rfl) ?_
  obtain ⟨x2, hc, hF⟩ := bd1_s hF
  refine g_cETi (ws' := [oX3 a_t v_size a_bytes v_start v_behind v_sort v_number, aA cI a_bytes 120 f_bytes]) (wr := [oX3 a_t v_size a_bytes v_start v_behind v_sort v_number, aA cI a_bytes 120 f_bytes]) C hV hE hH0 hi1 rfl (k_J0_length_8abf5 l dC dI cI cB cO n0 H.size tK adK adV vF i1 hi1 hc) mdJ0_length_8abf5 gX3_isWord_J0_length_8abf5 rfl rfl ⟨Nat.le_of_ble_eq_true rfl, Nat.le_of_ble_eq_true rfl⟩ [] [0, 1] [0, 1] rfl rfl rfl rfl rfl rfl rfl rfl hl.1 (Nat.le_of_ble_eq_true rfl) rfl dX3_isWord_18 (fun H locs hV => ?_)
  refine g_icmp_eq (tgt := 26) C hF dX3_isWord_21 rfl (fun hF => ?_) (fun hF => ?_)
  · refine lv_iconst (v := 0) C.1 C.2.1 dX3_isWord_26 rfl ?_
    refine lv_istore_n (lv' := [(2, .int 0), (0, .ref a_t), (1, .ref (adK i1))]) C.1 C.2.1 dX3_isWord_27 rfl hl (by decide) rfl (fun ls hl => ?_)
    have hL28 : ∀ (n : Nat) (s3 : Int32) (H : Heap) (locs : List Loc) (ls : Array Slot), gV (dC, dI) (gT cI cB cO) A0 H0 s [oX3 a_t v_size a_bytes v_start v_behind v_sort v_number, aA cI a_bytes 120 f_bytes] H locs → lv_has ls 3 [(0, .ref a_t), (1, .ref (adK i1)), (2, .int s3)] → L_X3_isWord_28 n0 i1 v_start f_bytes n s3 = some out → W p l e rmX3_isWord s m args below meth c H locs 0 0 Q (F0 m 28 ls []) := by
      intro n
      induction n with
      | zero => intro s3 H locs ls hV hl hF; exact lpp1_z hF
      | succ n ih28 =>
        intro s3 H locs ls hV hl hF
        obtain ⟨kk28, hk28, hF⟩ := lpp1_g hF
        have hq28 : ∀ (s3 : Int32), kk28 s3 = some out → L_X3_isWord_28 n0 i1 v_start f_bytes n s3 = some out := fun _ h => by rw [hk28] at h; exact h
        refine lv_iload_n C.1 C.2.1 dX3_isWord_28 rfl (lv_at hl 2 rfl) ?_
        refine lv_aload_n C.1 C.2.1 dX3_isWord_29 rfl (lv_at hl 1 rfl) ?_
        obtain ⟨x4, hc, hF⟩ := bd1_s hF
        refine g_cETi (ws' := [oX3 a_t v_size a_bytes v_start v_behind v_sort v_number, aA cI a_bytes 120 f_bytes]) (wr := [oX3 a_t v_size a_bytes v_start v_behind v_sort v_number, aA cI a_bytes 120 f_bytes]) C hV hE hH0 hi1 rfl (k_J0_length_8abf5 l dC dI cI cB cO n0 H.size tK adK adV vF i1 hi1 hc) mdJ0_length_8abf5 gX3_isWord_J0_length_8abf5 rfl rfl ⟨Nat.le_of_ble_eq_true rfl, Nat.le_of_ble_eq_true rfl⟩ [] [0, 1] [0, 1] rfl rfl rfl rfl rfl rfl rfl rfl hl.1 (Nat.le_of_ble_eq_true rfl) rfl dX3_isWord_30 (fun H locs hV => ?_)
        refine g_icmp_ge (tgt := 74) C hF dX3_isWord_33 rfl (fun hF => ?_) (fun hF => ?_)
        · refine lv_iconst (v := 1) C.1 C.2.1 dX3_isWord_74 rfl ?_
          exact hret (1 : Int32) _ _ _ _ dX3_isWord_75 hF (Or.inr rfl) hV
        refine lv_aload_n C.1 C.2.1 dX3_isWord_36 rfl (lv_at hl 0 rfl) ?_
        refine g_get C hV flX3_isWord_29 0 rfl rfl dX3_isWord_37 ?_
        refine lv_iload_n C.1 C.2.1 dX3_isWord_40 rfl (lv_at hl 2 rfl) ?_
        refine g_iadd C hF dX3_isWord_41 (fun x5 hF => ?_)
        refine lv_bipush (v := 120) C.1 C.2.1 dX3_isWord_42 rfl ?_
        refine g_icmp_ge (tgt := 74) C hF dX3_isWord_44 rfl (fun hF => ?_) (fun hF => ?_)
        · refine lv_iconst (v := 1) C.1 C.2.1 dX3_isWord_74 rfl ?_
          exact hret (1 : Int32) _ _ _ _ dX3_isWord_75 hF (Or.inr rfl) hV
        refine lv_aload_n C.1 C.2.1 dX3_isWord_47 rfl (lv_at hl 0 rfl) ?_
        refine g_get C hV flX3_isWord_9 0 rfl rfl dX3_isWord_48 ?_
        refine lv_aload_n C.1 C.2.1 dX3_isWord_51 rfl (lv_at hl 0 rfl) ?_
        refine g_get C hV flX3_isWord_29 0 rfl rfl dX3_isWord_52 ?_
        refine lv_iload_n C.1 C.2.1 dX3_isWord_55 rfl (lv_at hl 2 rfl) ?_
        refine g_iadd C hF dX3_isWord_56 (fun x6 hF => ?_)
        refine g_iald C hV 1 rfl hF dX3_isWord_57 (fun x7 hF => ?_)
        refine lv_aload_n C.1 C.2.1 dX3_isWord_58 rfl (lv_at hl 1 rfl) ?_
        refine lv_iload_n C.1 C.2.1 dX3_isWord_59 rfl (lv_at hl 2 rfl) ?_
        obtain ⟨x8, hc, hF⟩ := bd1_s hF
        refine g_cETi (ws' := [oX3 a_t v_size a_bytes v_start v_behind v_sort v_number, aA cI a_bytes 120 f_bytes]) (wr := [oX3 a_t v_size a_bytes v_start v_behind v_sort v_number, aA cI a_bytes 120 f_bytes]) C hV hE hH0 hi1 rfl (k_J0_charAt_5068e l dC dI cI cB cO n0 H.size tK adK adV vF i1 hi1 s3 hc) mdJ0_charAt_5068e gX3_isWord_J0_charAt_5068e rfl rfl ⟨Nat.le_of_ble_eq_true rfl, Nat.le_of_ble_eq_true rfl⟩ [] [0, 1] [0, 1] rfl rfl rfl rfl rfl rfl rfl rfl hl.1 (Nat.le_of_ble_eq_true rfl) rfl dX3_isWord_60 (fun H locs hV => ?_)
        refine g_icmp_eq (tgt := 68) C hF dX3_isWord_63 rfl (fun hF => ?_) (fun hF => ?_)
        · refine g_iinc C hF dX3_isWord_68 (d := 1) rfl hl (j := 2) rfl (by decide) (fun y => [(2, .int y), (0, .ref a_t), (1, .ref (adK i1))]) (fun _ => rfl) (fun x9 ls hF hl => ?_)
          refine lv_goto (tgt := 28) C.1 C.2.1 dX3_isWord_71 rfl ?_
          exact ih28 x9 H locs ls hV (lv_sub hl [1, 2, 0] rfl) (hq28 x9 hF)
        refine lv_iconst (v := 0) C.1 C.2.1 dX3_isWord_66 rfl ?_
        exact hret (0 : Int32) _ _ _ _ dX3_isWord_67 hF (Or.inl rfl) hV
    exact hL28 n0 0 H locs ls hV (lv_sub hl [1, 2, 0] rfl) hF
  refine lv_iconst (v := 0) C.1 C.2.1 dX3_isWord_24 rfl ?_
  exact hret (0 : Int32) _ _ _ _ dX3_isWord_25 hF (Or.inl rfl) hV
abbrev rmX3_nameOf : Room := { frames := 0, cells := 0, slots := 0, locals := 0 }
theorem mdX3_nameOf : gMd yX3_nameOf wsX3_nameOf cX3_nameOf 1 (some (.object "java/lang/String")) 1 := ⟨⟨_, rfl⟩, by decide +kernel⟩
def F_X3_nameOf (n0 : Nat) (p1 : Int32) : Option (Nat) := (if p1 = 1 then some 6 else (if p1 = 2 then some 7 else (if p1 = 3 then some 8 else (if p1 = 4 then some 9 else (if p1 = 5 then some 10 else (if p1 = 6 then some 11 else some 12))))))
set_option maxRecDepth 100000 in
set_option maxHeartbeats 4000000 in
theorem k_X3_nameOf (l : Launch) (dC : Nat → ClassId) (dI : Nat → Nat → Nat) (cI cB cO : ClassId) (n0 sz : Nat) (tK : Nat) (adK adV : Nat → Nat) (vF : Value)     (p1 : Int32)  {ro : Nat} (hF : F_X3_nameOf n0 p1 = some ro) : Met l yX3_nameOf wsX3_nameOf rmX3_nameOf (va_Pc [.int p1] (gPreE tK adK adV vF (dC, dI) (gT cI cB cO) sz [])) (gQr (dC, dI) (gT cI cB cO) sz [] (adK ro) []) 0 0 (va_A [] sz) := by
  refine g_metRE (Out := Nat) (fun oo => oo) (fun oo => []) ro (own := RX3) (lv := [(0, .int p1)]) (by decide) rfl rfl (Nat.le_of_ble_eq_true rfl) rfl ?_
  intro p e s m args below meth c Q ls C hret hV hl hE
  obtain ⟨out, hout⟩ : ∃ z : Nat, z = ro := ⟨_, rfl⟩
  rw [← hout] at hF hret
  obtain ⟨H0, hH0⟩ : ∃ z : Heap, z = s.heap := ⟨_, rfl⟩
  obtain ⟨A0, hA0⟩ : ∃ z : Nat → Prop, z = va_A [] s.heap.size := ⟨_, rfl⟩
  rw [← hA0] at hret hV hE
  rw [← hH0] at hret hV
  rw [← hH0]
  obtain ⟨H, locs, hH⟩ : ∃ (z : Heap) (y : List Loc), z = H0 ∧ y = [] := ⟨_, _, rfl, rfl⟩
  rw [← hH.1, ← hH.2]
  have hV : gV (dC, dI) (gT cI cB cO) A0 H0 s [] H locs := by rw [hH.1, hH.2]; exact hV
  unfold F_X3_nameOf at hF
  refine lv_iload_n C.1 C.2.1 dX3_nameOf_0 rfl (lv_at hl 0 rfl) ?_
  rcases ite_or hF with ⟨hc, hF⟩ | ⟨hc1_1, hF⟩
  · refine lv_tableIn (off := 39) (tgt := 40) C.1 C.2.1 dX3_nameOf_1 (by rw [hc]; decide) (by rw [hc]; decide) (by rw [hc]; rfl) rfl ?_
    refine va_ldcS C.1 C.2.1 C.2.2.2.1 (hE.2.2.2.1 6 (by decide)) dX3_nameOf_40 ?_
    exact hret 6 _ _ _ _ dX3_nameOf_42 hF hV
  rcases ite_or hF with ⟨hc, hF⟩ | ⟨hc1_2, hF⟩
  · refine lv_tableIn (off := 42) (tgt := 43) C.1 C.2.1 dX3_nameOf_1 (by rw [hc]; decide) (by rw [hc]; decide) (by rw [hc]; rfl) rfl ?_
    refine va_ldcS C.1 C.2.1 C.2.2.2.1 (hE.2.2.2.1 7 (by decide)) dX3_nameOf_43 ?_
    exact hret 7 _ _ _ _ dX3_nameOf_45 hF hV
  rcases ite_or hF with ⟨hc, hF⟩ | ⟨hc1_3, hF⟩
  · refine lv_tableIn (off := 45) (tgt := 46) C.1 C.2.1 dX3_nameOf_1 (by rw [hc]; decide) (by rw [hc]; decide) (by rw [hc]; rfl) rfl ?_
    refine va_ldcS C.1 C.2.1 C.2.2.2.1 (hE.2.2.2.1 8 (by decide)) dX3_nameOf_46 ?_
    exact hret 8 _ _ _ _ dX3_nameOf_48 hF hV
  rcases ite_or hF with ⟨hc, hF⟩ | ⟨hc1_4, hF⟩
  · refine lv_tableIn (off := 48) (tgt := 49) C.1 C.2.1 dX3_nameOf_1 (by rw [hc]; decide) (by rw [hc]; decide) (by rw [hc]; rfl) rfl ?_
    refine va_ldcS C.1 C.2.1 C.2.2.2.1 (hE.2.2.2.1 9 (by decide)) dX3_nameOf_49 ?_
    exact hret 9 _ _ _ _ dX3_nameOf_51 hF hV
  rcases ite_or hF with ⟨hc, hF⟩ | ⟨hc1_5, hF⟩
  · refine lv_tableIn (off := 51) (tgt := 52) C.1 C.2.1 dX3_nameOf_1 (by rw [hc]; decide) (by rw [hc]; decide) (by rw [hc]; rfl) rfl ?_
    refine va_ldcS C.1 C.2.1 C.2.2.2.1 (hE.2.2.2.1 10 (by decide)) dX3_nameOf_52 ?_
    exact hret 10 _ _ _ _ dX3_nameOf_54 hF hV
  rcases ite_or hF with ⟨hc, hF⟩ | ⟨hc1_6, hF⟩
  · refine lv_tableIn (off := 54) (tgt := 55) C.1 C.2.1 dX3_nameOf_1 (by rw [hc]; decide) (by rw [hc]; decide) (by rw [hc]; rfl) rfl ?_
    refine va_ldcS C.1 C.2.1 C.2.2.2.1 (hE.2.2.2.1 11 (by decide)) dX3_nameOf_55 ?_
    exact hret 11 _ _ _ _ dX3_nameOf_57 hF hV
  refine lv_tableOut (tgt := 58) C.1 C.2.1 dX3_nameOf_1 (sw_out (fun j h1 h2 => by rcases (show j = 1 ∨ j = 2 ∨ j = 3 ∨ j = 4 ∨ j = 5 ∨ j = 6 by omega) with rfl | rfl | rfl | rfl | rfl | rfl <;> first | exact hc1_1 | exact hc1_2 | exact hc1_3 | exact hc1_4 | exact hc1_5 | exact hc1_6)) rfl ?_
  refine va_ldcS C.1 C.2.1 C.2.2.2.1 (hE.2.2.2.1 12 (by decide)) dX3_nameOf_58 ?_
  exact hret 12 _ _ _ _ dX3_nameOf_60 hF hV
abbrev rmX3_readTent : Room := { frames := 5, cells := 0, slots := 0, locals := 107 }
theorem mdX3_readTent : gMd yX3_readTent wsX3_readTent cX3_readTent 6 (some .boolean) 2 := ⟨⟨_, rfl⟩, by decide +kernel⟩
theorem flX3_readTent_61 : gFL wsX3_readTent RX3 61 0 3 RX0 TX0 10 := ⟨rfl, fun w h => List.mem_cons_of_mem _ (List.mem_append_left _ (List.mem_append_right _ (h))), Nat.le_of_ble_eq_true rfl, List.mem_cons_of_mem _ (List.mem_append_left _ (List.mem_append_left _ (List.mem_append_left _ (List.mem_of_getElem? (i := 0) rfl))))⟩
theorem flX3_readTent_70 : gFL wsX3_readTent RX3 70 3 5 RX3 TX3 6 := ⟨rfl, fun w h => List.mem_cons_of_mem _ (List.mem_append_right _ (h)), Nat.le_of_ble_eq_true rfl, List.mem_cons_of_mem _ (List.mem_append_left _ (List.mem_append_left _ (List.mem_append_left _ (List.mem_of_getElem? (i := 1) rfl))))⟩
def J_X3_readTent_106 (n0 : Nat) (v_a1_tents : Int32) (v_a1_said : Int32) (f_a1_kinds : Nat → Int32) (f_a1_yards : Nat → Int32) (p2 : Int32) (x18 : Int32) (s24 : Int32) (u28 : Int32) (u25 : Int32) (u27 : Int32) (u26 : Int32) : Option (Int32 × Int32 × Int32 × Int32 × Int32 × Int32 × Int32 × (Nat → Int32) × (Nat → Int32)) := bd5 (F_X0_pitch n0 v_a1_tents v_a1_said f_a1_kinds f_a1_yards p2 x18 s24) (fun x29 x30 x31 g32 g33 => some ((1, u28, u25, u27, u26, x30, x31, g32, g33) : Int32 × Int32 × Int32 × Int32 × Int32 × Int32 × Int32 × (Nat → Int32) × (Nat → Int32)))
def F_X3_readTent (n0 : Nat) (v_size : Int32) (v_start : Int32) (v_behind : Int32) (v_sort : Int32) (v_number : Int32) (f_bytes : Nat → Int32) (v_a1_tents : Int32) (v_a1_said : Int32) (f_a1_kinds : Nat → Int32) (f_a1_yards : Nat → Int32) (p2 : Int32) : Option (Int32 × Int32 × Int32 × Int32 × Int32 × Int32 × Int32 × (Nat → Int32) × (Nat → Int32)) := (if v_a1_tents < 10 then bd4 (F_X3_step n0 v_size v_start v_behind v_sort v_number f_bytes) (fun x1 x2 x3 x4 => bd1 (F_X3_isWord n0 x1 x2 x3 f_bytes 3) (fun x5 => (if x5 = 0 then some ((0, x1, x2, x3, x4, v_a1_tents, v_a1_said, f_a1_kinds, f_a1_yards) : Int32 × Int32 × Int32 × Int32 × Int32 × Int32 × Int32 × (Nat → Int32) × (Nat → Int32)) else bd4 (F_X3_step n0 v_size x1 x2 x3 x4 f_bytes) (fun x6 x7 x8 x9 => bd1 (F_X3_isSideNumber n0 x8 x9) (fun x10 => (if x10 = 0 then some ((0, x6, x7, x8, x9, v_a1_tents, v_a1_said, f_a1_kinds, f_a1_yards) : Int32 × Int32 × Int32 × Int32 × Int32 × Int32 × Int32 × (Nat → Int32) × (Nat → Int32)) else bd4 (F_X3_step n0 v_size x6 x7 x8 x9 f_bytes) (fun x11 x12 x13 x14 => bd1 (F_X3_isSideNumber n0 x13 x14) (fun x15 => (if x15 = 0 then some ((0, x11, x12, x13, x14, v_a1_tents, v_a1_said, f_a1_kinds, f_a1_yards) : Int32 × Int32 × Int32 × Int32 × Int32 × Int32 × Int32 × (Nat → Int32) × (Nat → Int32)) else bd1 (F_X6_yardOf n0 x9 x14) (fun x16 => bd1 (F_X0_tentOn n0 v_a1_tents f_a1_yards x16) (fun x17 => (if x17 = ((-1)) then bd1 (F_X6_yardOf n0 x9 x14) (fun x18 => bd4 (F_X3_step n0 v_size x11 x12 x13 x14 f_bytes) (fun x19 x20 x21 x22 => bd1 (F_X3_isWord n0 x19 x20 x21 f_bytes 4) (fun x23 => (if x23 = 0 then J_X3_readTent_106 n0 v_a1_tents v_a1_said f_a1_kinds f_a1_yards p2 x18 0 x19 x20 x21 x22 else bd4 (F_X3_step n0 v_size x19 x20 x21 x22 f_bytes) (fun x34 x35 x36 x37 => J_X3_readTent_106 n0 v_a1_tents v_a1_said f_a1_kinds f_a1_yards p2 x18 1 x34 x35 x36 x37))))) else some ((0, x11, x12, x13, x14, v_a1_tents, v_a1_said, f_a1_kinds, f_a1_yards) : Int32 × Int32 × Int32 × Int32 × Int32 × Int32 × Int32 × (Nat → Int32) × (Nat → Int32)))))))))))))) else some ((0, v_start, v_behind, v_sort, v_number, v_a1_tents, v_a1_said, f_a1_kinds, f_a1_yards) : Int32 × Int32 × Int32 × Int32 × Int32 × Int32 × Int32 × (Nat → Int32) × (Nat → Int32)))
set_option maxRecDepth 100000 in
set_option maxHeartbeats 4000000 in
theorem k_X3_readTent (l : Launch) (dC : Nat → ClassId) (dI : Nat → Nat → Nat) (cI cB cO : ClassId) (n0 sz : Nat) (tK : Nat) (adK adV : Nat → Nat) (vF : Value) (a_t : Nat) (a_bytes : Nat) (a_a1 : Nat) (a_a1_kinds : Nat) (a_a1_yards : Nat) (a_a1_spots : Nat)   (v_size : Int32) (v_start : Int32) (v_behind : Int32) (v_sort : Int32) (v_number : Int32) (f_bytes : Nat → Int32) (v_a1_tents : Int32) (v_a1_said : Int32) (v_a1_wall : Int32) (v_a1_bridge : Int32) (v_a1_counted : Int32) (v_a1_day : Int32) (v_a1_z : Int32) (f_a1_kinds : Nat → Int32) (f_a1_yards : Nat → Int32) (p2 : Int32)  {ro : Int32} {o0 : Int32} {o1 : Int32} {o2 : Int32} {o3 : Int32} {o4 : Int32} {o5 : Int32} {o6 : Nat → Int32} {o7 : Nat → Int32} (hF : F_X3_readTent n0 v_size v_start v_behind v_sort v_number f_bytes v_a1_tents v_a1_said f_a1_kinds f_a1_yards p2 = some (ro, o0, o1, o2, o3, o4, o5, o6, o7)) : Met l yX3_readTent wsX3_readTent rmX3_readTent (va_Pc [.ref a_t, .ref a_a1, .int p2] (gPreE tK adK adV vF (dC, dI) (gT cI cB cO) sz [oX3 a_t v_size a_bytes v_start v_behind v_sort v_number, aA cI a_bytes 120 f_bytes, oX0 a_a1 a_a1_kinds a_a1_yards a_a1_spots v_a1_tents v_a1_said v_a1_wall v_a1_bridge v_a1_counted v_a1_day v_a1_z, aA cI a_a1_kinds 10 f_a1_kinds, aA cI a_a1_yards 10 f_a1_yards])) (gQi (dC, dI) (gT cI cB cO) sz [oX3 a_t v_size a_bytes v_start v_behind v_sort v_number, aA cI a_bytes 120 f_bytes, oX0 a_a1 a_a1_kinds a_a1_yards a_a1_spots v_a1_tents v_a1_said v_a1_wall v_a1_bridge v_a1_counted v_a1_day v_a1_z, aA cI a_a1_kinds 10 f_a1_kinds, aA cI a_a1_yards 10 f_a1_yards] ro [oX3 a_t v_size a_bytes o0 o1 o2 o3, aA cI a_bytes 120 f_bytes, oX0 a_a1 a_a1_kinds a_a1_yards a_a1_spots o4 o5 v_a1_wall v_a1_bridge v_a1_counted v_a1_day v_a1_z, aA cI a_a1_kinds 10 o6, aA cI a_a1_yards 10 o7]) 0 0 (va_A [oX3 a_t v_size a_bytes v_start v_behind v_sort v_number, aA cI a_bytes 120 f_bytes, oX0 a_a1 a_a1_kinds a_a1_yards a_a1_spots v_a1_tents v_a1_said v_a1_wall v_a1_bridge v_a1_counted v_a1_day v_a1_z, aA cI a_a1_kinds 10 f_a1_kinds, aA cI a_a1_yards 10 f_a1_yards] sz) := by
  refine g_metZE (Out := Int32 × Int32 × Int32 × Int32 × Int32 × Int32 × Int32 × (Nat → Int32) × (Nat → Int32)) (fun oo => oo.1) (fun oo => [oX3 a_t v_size a_bytes oo.2.1 oo.2.2.1 oo.2.2.2.1 oo.2.2.2.2.1, aA cI a_bytes 120 f_bytes, oX0 a_a1 a_a1_kinds a_a1_yards a_a1_spots oo.2.2.2.2.2.1 oo.2.2.2.2.2.2.1 v_a1_wall v_a1_bridge v_a1_counted v_a1_day v_a1_z, aA cI a_a1_kinds 10 oo.2.2.2.2.2.2.2.1, aA cI a_a1_yards 10 oo.2.2.2.2.2.2.2.2]) (ro, o0, o1, o2, o3, o4, o5, o6, o7) (own := RX3) (lv := [(0, .ref a_t), (1, .ref a_a1), (2, .int p2)]) (by decide) rfl rfl (Nat.le_of_ble_eq_true rfl) rfl ?_
  intro p e s m args below meth c Q ls C hret hV hl hE
  obtain ⟨out, hout⟩ : ∃ z : Int32 × Int32 × Int32 × Int32 × Int32 × Int32 × Int32 × (Nat → Int32) × (Nat → Int32), z = (ro, o0, o1, o2, o3, o4, o5, o6, o7) := ⟨_, rfl⟩
  rw [← hout] at hF hret
  obtain ⟨H0, hH0⟩ : ∃ z : Heap, z = s.heap := ⟨_, rfl⟩
  obtain ⟨A0, hA0⟩ : ∃ z : Nat → Prop, z = va_A [oX3 a_t v_size a_bytes v_start v_behind v_sort v_number, aA cI a_bytes 120 f_bytes, oX0 a_a1 a_a1_kinds a_a1_yards a_a1_spots v_a1_tents v_a1_said v_a1_wall v_a1_bridge v_a1_counted v_a1_day v_a1_z, aA cI a_a1_kinds 10 f_a1_kinds, aA cI a_a1_yards 10 f_a1_yards] s.heap.size := ⟨_, rfl⟩
  rw [← hA0] at hret hV hE
  rw [← hH0] at hret hV
  rw [← hH0]
  obtain ⟨H, locs, hH⟩ : ∃ (z : Heap) (y : List Loc), z = H0 ∧ y = [] := ⟨_, _, rfl, rfl⟩
  rw [← hH.1, ← hH.2]
  have hV : gV (dC, dI) (gT cI cB cO) A0 H0 s [oX3 a_t v_size a_bytes v_start v_behind v_sort v_number, aA cI a_bytes 120 f_bytes, oX0 a_a1 a_a1_kinds a_a1_yards a_a1_spots v_a1_tents v_a1_said v_a1_wall v_a1_bridge v_a1_counted v_a1_day v_a1_z, aA cI a_a1_kinds 10 f_a1_kinds, aA cI a_a1_yards 10 f_a1_yards] H locs := by rw [hH.1, hH.2]; exact hV
  unfold F_X3_readTent at hF
  refine lv_aload_n C.1 C.2.1 dX3_readTent_0 rfl (lv_at hl 1 rfl) ?_
  refine g_get C hV flX3_readTent_61 2 rfl rfl dX3_readTent_1 ?_
  refine lv_bipush (v := 10) C.1 C.2.1 dX3_readTent_4 rfl ?_
  refine g_icmp_lt (tgt := 11) C hF dX3_readTent_6 rfl (fun hF => ?_) (fun hF => ?_)
  · refine lv_aload_n C.1 C.2.1 dX3_readTent_11 rfl (lv_at hl 0 rfl) ?_
    obtain ⟨x1, x2, x3, x4, hc, hF⟩ := bd4_s hF
    refine g_cVv (ws' := [oX3 a_t v_size a_bytes x1 x2 x3 x4, aA cI a_bytes 120 f_bytes, oX0 a_a1 a_a1_kinds a_a1_yards a_a1_spots v_a1_tents v_a1_said v_a1_wall v_a1_bridge v_a1_counted v_a1_day v_a1_z, aA cI a_a1_kinds 10 f_a1_kinds, aA cI a_a1_yards 10 f_a1_yards]) (wr := [oX0 a_a1 a_a1_kinds a_a1_yards a_a1_spots v_a1_tents v_a1_said v_a1_wall v_a1_bridge v_a1_counted v_a1_day v_a1_z, aA cI a_a1_kinds 10 f_a1_kinds, aA cI a_a1_yards 10 f_a1_yards]) C hV (k_X3_step l dC dI cI cB cO n0 H.size a_t a_bytes v_size v_start v_behind v_sort v_number f_bytes hc) mdX3_step gX3_readTent_X3_step rfl rfl ⟨Nat.le_of_ble_eq_true rfl, Nat.le_of_ble_eq_true rfl⟩ [0, 1] [2, 3, 4] [3, 4, 0, 1, 2] rfl rfl rfl rfl rfl rfl rfl rfl rfl rfl hl.1 (Nat.le_of_ble_eq_true rfl) rfl dX3_readTent_12 (fun H locs hV => ?_)
    refine lv_aload_n C.1 C.2.1 dX3_readTent_15 rfl (lv_at hl 0 rfl) ?_
    refine va_ldcS C.1 C.2.1 C.2.2.2.1 (hE.2.2.2.1 3 (by decide)) dX3_readTent_16 ?_
    obtain ⟨x5, hc, hF⟩ := bd1_s hF
    refine g_cEVi (ws' := [oX3 a_t v_size a_bytes x1 x2 x3 x4, aA cI a_bytes 120 f_bytes, oX0 a_a1 a_a1_kinds a_a1_yards a_a1_spots v_a1_tents v_a1_said v_a1_wall v_a1_bridge v_a1_counted v_a1_day v_a1_z, aA cI a_a1_kinds 10 f_a1_kinds, aA cI a_a1_yards 10 f_a1_yards]) (wr := [oX0 a_a1 a_a1_kinds a_a1_yards a_a1_spots v_a1_tents v_a1_said v_a1_wall v_a1_bridge v_a1_counted v_a1_day v_a1_z, aA cI a_a1_kinds 10 f_a1_kinds, aA cI a_a1_yards 10 f_a1_yards]) C hV hE hH0 (k_X3_isWord l dC dI cI cB cO n0 H.size tK adK adV vF a_t a_bytes v_size x1 x2 x3 x4 f_bytes 3 (by decide) hc) mdX3_isWord gX3_readTent_X3_isWord rfl rfl ⟨Nat.le_of_ble_eq_true rfl, Nat.le_of_ble_eq_true rfl⟩ [0, 1] [2, 3, 4] [3, 4, 0, 1, 2] rfl rfl rfl rfl rfl rfl rfl rfl rfl rfl hl.1 (Nat.le_of_ble_eq_true rfl) rfl dX3_readTent_18 (fun H locs hV => ?_)
    refine g_if_ne (tgt := 26) C hF dX3_readTent_21 rfl (fun hF => ?_) (fun hF => ?_)
    · refine lv_aload_n C.1 C.2.1 dX3_readTent_26 rfl (lv_at hl 0 rfl) ?_
      obtain ⟨x6, x7, x8, x9, hc, hF⟩ := bd4_s hF
      refine g_cVv (ws' := [oX3 a_t v_size a_bytes x6 x7 x8 x9, aA cI a_bytes 120 f_bytes, oX0 a_a1 a_a1_kinds a_a1_yards a_a1_spots v_a1_tents v_a1_said v_a1_wall v_a1_bridge v_a1_counted v_a1_day v_a1_z, aA cI a_a1_kinds 10 f_a1_kinds, aA cI a_a1_yards 10 f_a1_yards]) (wr := [oX0 a_a1 a_a1_kinds a_a1_yards a_a1_spots v_a1_tents v_a1_said v_a1_wall v_a1_bridge v_a1_counted v_a1_day v_a1_z, aA cI a_a1_kinds 10 f_a1_kinds, aA cI a_a1_yards 10 f_a1_yards]) C hV (k_X3_step l dC dI cI cB cO n0 H.size a_t a_bytes v_size x1 x2 x3 x4 f_bytes hc) mdX3_step gX3_readTent_X3_step rfl rfl ⟨Nat.le_of_ble_eq_true rfl, Nat.le_of_ble_eq_true rfl⟩ [0, 1] [2, 3, 4] [3, 4, 0, 1, 2] rfl rfl rfl rfl rfl rfl rfl rfl rfl rfl hl.1 (Nat.le_of_ble_eq_true rfl) rfl dX3_readTent_27 (fun H locs hV => ?_)
      refine lv_aload_n C.1 C.2.1 dX3_readTent_30 rfl (lv_at hl 0 rfl) ?_
      obtain ⟨x10, hc, hF⟩ := bd1_s hF
      refine g_cVi (ws' := [oX3 a_t v_size a_bytes x6 x7 x8 x9, aA cI a_bytes 120 f_bytes, oX0 a_a1 a_a1_kinds a_a1_yards a_a1_spots v_a1_tents v_a1_said v_a1_wall v_a1_bridge v_a1_counted v_a1_day v_a1_z, aA cI a_a1_kinds 10 f_a1_kinds, aA cI a_a1_yards 10 f_a1_yards]) (wr := [aA cI a_bytes 120 f_bytes, oX0 a_a1 a_a1_kinds a_a1_yards a_a1_spots v_a1_tents v_a1_said v_a1_wall v_a1_bridge v_a1_counted v_a1_day v_a1_z, aA cI a_a1_kinds 10 f_a1_kinds, aA cI a_a1_yards 10 f_a1_yards]) C hV (k_X3_isSideNumber l dC dI cI cB cO n0 H.size a_t a_bytes v_size x6 x7 x8 x9 hc) mdX3_isSideNumber gX3_readTent_X3_isSideNumber rfl rfl ⟨Nat.le_of_ble_eq_true rfl, Nat.le_of_ble_eq_true rfl⟩ [0] [1, 2, 3, 4] [4, 0, 1, 2, 3] rfl rfl rfl rfl rfl rfl rfl rfl rfl rfl hl.1 (Nat.le_of_ble_eq_true rfl) rfl dX3_readTent_31 (fun H locs hV => ?_)
      refine g_if_ne (tgt := 39) C hF dX3_readTent_34 rfl (fun hF => ?_) (fun hF => ?_)
      · refine lv_aload_n C.1 C.2.1 dX3_readTent_39 rfl (lv_at hl 0 rfl) ?_
        refine g_get C hV flX3_readTent_70 0 rfl rfl dX3_readTent_40 ?_
        refine lv_istore_n (lv' := [(3, .int x9), (0, .ref a_t), (1, .ref a_a1), (2, .int p2)]) C.1 C.2.1 dX3_readTent_43 rfl hl (by decide) rfl (fun ls hl => ?_)
        refine lv_aload_n C.1 C.2.1 dX3_readTent_44 rfl (lv_at hl 1 rfl) ?_
        obtain ⟨x11, x12, x13, x14, hc, hF⟩ := bd4_s hF
        refine g_cVv (ws' := [oX3 a_t v_size a_bytes x11 x12 x13 x14, aA cI a_bytes 120 f_bytes, oX0 a_a1 a_a1_kinds a_a1_yards a_a1_spots v_a1_tents v_a1_said v_a1_wall v_a1_bridge v_a1_counted v_a1_day v_a1_z, aA cI a_a1_kinds 10 f_a1_kinds, aA cI a_a1_yards 10 f_a1_yards]) (wr := [oX0 a_a1 a_a1_kinds a_a1_yards a_a1_spots v_a1_tents v_a1_said v_a1_wall v_a1_bridge v_a1_counted v_a1_day v_a1_z, aA cI a_a1_kinds 10 f_a1_kinds, aA cI a_a1_yards 10 f_a1_yards]) C hV (k_X3_step l dC dI cI cB cO n0 H.size a_t a_bytes v_size x6 x7 x8 x9 f_bytes hc) mdX3_step gX3_readTent_X3_step rfl rfl ⟨Nat.le_of_ble_eq_true rfl, Nat.le_of_ble_eq_true rfl⟩ [0, 1] [2, 3, 4] [3, 4, 0, 1, 2] rfl rfl rfl rfl rfl rfl rfl rfl rfl rfl hl.1 (Nat.le_of_ble_eq_true rfl) rfl dX3_readTent_45 (fun H locs hV => ?_)
        refine lv_aload_n C.1 C.2.1 dX3_readTent_48 rfl (lv_at hl 1 rfl) ?_
        obtain ⟨x15, hc, hF⟩ := bd1_s hF
        refine g_cVi (ws' := [oX3 a_t v_size a_bytes x11 x12 x13 x14, aA cI a_bytes 120 f_bytes, oX0 a_a1 a_a1_kinds a_a1_yards a_a1_spots v_a1_tents v_a1_said v_a1_wall v_a1_bridge v_a1_counted v_a1_day v_a1_z, aA cI a_a1_kinds 10 f_a1_kinds, aA cI a_a1_yards 10 f_a1_yards]) (wr := [aA cI a_bytes 120 f_bytes, oX0 a_a1 a_a1_kinds a_a1_yards a_a1_spots v_a1_tents v_a1_said v_a1_wall v_a1_bridge v_a1_counted v_a1_day v_a1_z, aA cI a_a1_kinds 10 f_a1_kinds, aA cI a_a1_yards 10 f_a1_yards]) C hV (k_X3_isSideNumber l dC dI cI cB cO n0 H.size a_t a_bytes v_size x11 x12 x13 x14 hc) mdX3_isSideNumber gX3_readTent_X3_isSideNumber rfl rfl ⟨Nat.le_of_ble_eq_true rfl, Nat.le_of_ble_eq_true rfl⟩ [0] [1, 2, 3, 4] [4, 0, 1, 2, 3] rfl rfl rfl rfl rfl rfl rfl rfl rfl rfl hl.1 (Nat.le_of_ble_eq_true rfl) rfl dX3_readTent_49 (fun H locs hV => ?_)
        refine g_if_eq (tgt := 71) C hF dX3_readTent_52 rfl (fun hF => ?_) (fun hF => ?_)
        · refine lv_iconst (v := 0) C.1 C.2.1 dX3_readTent_71 rfl ?_
          exact hret ((0, x11, x12, x13, x14, v_a1_tents, v_a1_said, f_a1_kinds, f_a1_yards) : Int32 × Int32 × Int32 × Int32 × Int32 × Int32 × Int32 × (Nat → Int32) × (Nat → Int32)) _ _ _ _ dX3_readTent_72 hF (Or.inl rfl) hV
        refine lv_aload_n C.1 C.2.1 dX3_readTent_55 rfl (lv_at hl 2 rfl) ?_
        refine lv_iload_n C.1 C.2.1 dX3_readTent_56 rfl (lv_at hl 0 rfl) ?_
        refine lv_aload_n C.1 C.2.1 dX3_readTent_57 rfl (lv_at hl 1 rfl) ?_
        refine g_get C hV flX3_readTent_70 0 rfl rfl dX3_readTent_58 ?_
        obtain ⟨x16, hc, hF⟩ := bd1_s hF
        refine g_cNi (ws' := [oX3 a_t v_size a_bytes x11 x12 x13 x14, aA cI a_bytes 120 f_bytes, oX0 a_a1 a_a1_kinds a_a1_yards a_a1_spots v_a1_tents v_a1_said v_a1_wall v_a1_bridge v_a1_counted v_a1_day v_a1_z, aA cI a_a1_kinds 10 f_a1_kinds, aA cI a_a1_yards 10 f_a1_yards]) (wr := [oX3 a_t v_size a_bytes x11 x12 x13 x14, aA cI a_bytes 120 f_bytes, oX0 a_a1 a_a1_kinds a_a1_yards a_a1_spots v_a1_tents v_a1_said v_a1_wall v_a1_bridge v_a1_counted v_a1_day v_a1_z, aA cI a_a1_kinds 10 f_a1_kinds, aA cI a_a1_yards 10 f_a1_yards]) C hV hE.2.2.2.2.2.2.1 (List.mem_cons_of_mem _ (List.mem_append_left _ (List.mem_append_left _ (List.mem_append_right _ (List.mem_append_right _ (List.mem_append_right _ (List.mem_of_getElem? (i := 5) rfl))))))) (List.mem_cons_of_mem _ (List.mem_append_left _ (List.mem_append_left _ (List.mem_append_right _ (List.mem_append_right _ (List.mem_append_right _ (List.mem_of_getElem? (i := 4) rfl))))))) (k_X6_yardOf l dC dI cI cB cO n0 H.size x9 x14 hc) mdX6_yardOf gX3_readTent_X6_yardOf_n73 rfl rfl ⟨Nat.le_of_ble_eq_true rfl, Nat.le_of_ble_eq_true rfl⟩ [] [0, 1, 2, 3, 4] [0, 1, 2, 3, 4] rfl rfl rfl rfl rfl rfl rfl rfl hl.1 (Nat.le_of_ble_eq_true rfl) rfl dX3_readTent_61 (fun H locs hV => ?_)
        obtain ⟨x17, hc, hF⟩ := bd1_s hF
        refine g_cVi (ws' := [oX3 a_t v_size a_bytes x11 x12 x13 x14, aA cI a_bytes 120 f_bytes, oX0 a_a1 a_a1_kinds a_a1_yards a_a1_spots v_a1_tents v_a1_said v_a1_wall v_a1_bridge v_a1_counted v_a1_day v_a1_z, aA cI a_a1_kinds 10 f_a1_kinds, aA cI a_a1_yards 10 f_a1_yards]) (wr := [oX3 a_t v_size a_bytes x11 x12 x13 x14, aA cI a_bytes 120 f_bytes, aA cI a_a1_kinds 10 f_a1_kinds]) C hV (k_X0_tentOn l dC dI cI cB cO n0 H.size a_a1 a_a1_kinds a_a1_yards a_a1_spots v_a1_tents v_a1_said v_a1_wall v_a1_bridge v_a1_counted v_a1_day v_a1_z f_a1_yards x16 hc) mdX0_tentOn gX3_readTent_X0_tentOn rfl rfl ⟨Nat.le_of_ble_eq_true rfl, Nat.le_of_ble_eq_true rfl⟩ [2, 4] [0, 1, 3] [0, 1, 3, 2, 4] rfl rfl rfl rfl rfl rfl rfl rfl rfl rfl hl.1 (Nat.le_of_ble_eq_true rfl) rfl dX3_readTent_64 (fun H locs hV => ?_)
        refine lv_iconst (v := (-1)) C.1 C.2.1 dX3_readTent_67 rfl ?_
        refine g_icmp_eq (tgt := 73) C hF dX3_readTent_68 rfl (fun hF => ?_) (fun hF => ?_)
        · refine lv_iload_n C.1 C.2.1 dX3_readTent_73 rfl (lv_at hl 0 rfl) ?_
          refine lv_aload_n C.1 C.2.1 dX3_readTent_74 rfl (lv_at hl 1 rfl) ?_
          refine g_get C hV flX3_readTent_70 0 rfl rfl dX3_readTent_75 ?_
          obtain ⟨x18, hc, hF⟩ := bd1_s hF
          refine g_cNi (ws' := [oX3 a_t v_size a_bytes x11 x12 x13 x14, aA cI a_bytes 120 f_bytes, oX0 a_a1 a_a1_kinds a_a1_yards a_a1_spots v_a1_tents v_a1_said v_a1_wall v_a1_bridge v_a1_counted v_a1_day v_a1_z, aA cI a_a1_kinds 10 f_a1_kinds, aA cI a_a1_yards 10 f_a1_yards]) (wr := [oX3 a_t v_size a_bytes x11 x12 x13 x14, aA cI a_bytes 120 f_bytes, oX0 a_a1 a_a1_kinds a_a1_yards a_a1_spots v_a1_tents v_a1_said v_a1_wall v_a1_bridge v_a1_counted v_a1_day v_a1_z, aA cI a_a1_kinds 10 f_a1_kinds, aA cI a_a1_yards 10 f_a1_yards]) C hV hE.2.2.2.2.2.2.1 (List.mem_cons_of_mem _ (List.mem_append_left _ (List.mem_append_left _ (List.mem_append_right _ (List.mem_append_right _ (List.mem_append_right _ (List.mem_of_getElem? (i := 5) rfl))))))) (List.mem_cons_of_mem _ (List.mem_append_left _ (List.mem_append_left _ (List.mem_append_right _ (List.mem_append_right _ (List.mem_append_right _ (List.mem_of_getElem? (i := 4) rfl))))))) (k_X6_yardOf l dC dI cI cB cO n0 H.size x9 x14 hc) mdX6_yardOf gX3_readTent_X6_yardOf_n73 rfl rfl ⟨Nat.le_of_ble_eq_true rfl, Nat.le_of_ble_eq_true rfl⟩ [] [0, 1, 2, 3, 4] [0, 1, 2, 3, 4] rfl rfl rfl rfl rfl rfl rfl rfl hl.1 (Nat.le_of_ble_eq_true rfl) rfl dX3_readTent_78 (fun H locs hV => ?_)
          refine lv_istore (lv' := [(4, .int x18), (3, .int x9), (0, .ref a_t), (1, .ref a_a1), (2, .int p2)]) C.1 C.2.1 dX3_readTent_81 hl (by decide) rfl (fun ls hl => ?_)
          refine lv_aload_n C.1 C.2.1 dX3_readTent_83 rfl (lv_at hl 2 rfl) ?_
          obtain ⟨x19, x20, x21, x22, hc, hF⟩ := bd4_s hF
          refine g_cVv (ws' := [oX3 a_t v_size a_bytes x19 x20 x21 x22, aA cI a_bytes 120 f_bytes, oX0 a_a1 a_a1_kinds a_a1_yards a_a1_spots v_a1_tents v_a1_said v_a1_wall v_a1_bridge v_a1_counted v_a1_day v_a1_z, aA cI a_a1_kinds 10 f_a1_kinds, aA cI a_a1_yards 10 f_a1_yards]) (wr := [oX0 a_a1 a_a1_kinds a_a1_yards a_a1_spots v_a1_tents v_a1_said v_a1_wall v_a1_bridge v_a1_counted v_a1_day v_a1_z, aA cI a_a1_kinds 10 f_a1_kinds, aA cI a_a1_yards 10 f_a1_yards]) C hV (k_X3_step l dC dI cI cB cO n0 H.size a_t a_bytes v_size x11 x12 x13 x14 f_bytes hc) mdX3_step gX3_readTent_X3_step rfl rfl ⟨Nat.le_of_ble_eq_true rfl, Nat.le_of_ble_eq_true rfl⟩ [0, 1] [2, 3, 4] [3, 4, 0, 1, 2] rfl rfl rfl rfl rfl rfl rfl rfl rfl rfl hl.1 (Nat.le_of_ble_eq_true rfl) rfl dX3_readTent_84 (fun H locs hV => ?_)
          refine lv_iconst (v := 0) C.1 C.2.1 dX3_readTent_87 rfl ?_
          refine lv_istore (lv' := [(5, .int 0), (4, .int x18), (3, .int x9), (0, .ref a_t), (1, .ref a_a1), (2, .int p2)]) C.1 C.2.1 dX3_readTent_88 hl (by decide) rfl (fun ls hl => ?_)
          refine lv_aload_n C.1 C.2.1 dX3_readTent_90 rfl (lv_at hl 3 rfl) ?_
          refine va_ldcS C.1 C.2.1 C.2.2.2.1 (hE.2.2.2.1 4 (by decide)) dX3_readTent_91 ?_
          obtain ⟨x23, hc, hF⟩ := bd1_s hF
          refine g_cEVi (ws' := [oX3 a_t v_size a_bytes x19 x20 x21 x22, aA cI a_bytes 120 f_bytes, oX0 a_a1 a_a1_kinds a_a1_yards a_a1_spots v_a1_tents v_a1_said v_a1_wall v_a1_bridge v_a1_counted v_a1_day v_a1_z, aA cI a_a1_kinds 10 f_a1_kinds, aA cI a_a1_yards 10 f_a1_yards]) (wr := [oX0 a_a1 a_a1_kinds a_a1_yards a_a1_spots v_a1_tents v_a1_said v_a1_wall v_a1_bridge v_a1_counted v_a1_day v_a1_z, aA cI a_a1_kinds 10 f_a1_kinds, aA cI a_a1_yards 10 f_a1_yards]) C hV hE hH0 (k_X3_isWord l dC dI cI cB cO n0 H.size tK adK adV vF a_t a_bytes v_size x19 x20 x21 x22 f_bytes 4 (by decide) hc) mdX3_isWord gX3_readTent_X3_isWord rfl rfl ⟨Nat.le_of_ble_eq_true rfl, Nat.le_of_ble_eq_true rfl⟩ [0, 1] [2, 3, 4] [3, 4, 0, 1, 2] rfl rfl rfl rfl rfl rfl rfl rfl rfl rfl hl.1 (Nat.le_of_ble_eq_true rfl) rfl dX3_readTent_93 (fun H locs hV => ?_)
          have hJ106 : ∀ (s24 : Int32) (u25 : Int32) (u26 : Int32) (u27 : Int32) (u28 : Int32) (H : Heap) (locs : List Loc) (ls : Array Slot), gV (dC, dI) (gT cI cB cO) A0 H0 s [oX3 a_t v_size a_bytes u28 u25 u27 u26, aA cI a_bytes 120 f_bytes, oX0 a_a1 a_a1_kinds a_a1_yards a_a1_spots v_a1_tents v_a1_said v_a1_wall v_a1_bridge v_a1_counted v_a1_day v_a1_z, aA cI a_a1_kinds 10 f_a1_kinds, aA cI a_a1_yards 10 f_a1_yards] H locs → lv_has ls 6 [(1, .ref a_a1), (2, .int p2), (4, .int x18), (5, .int s24)] → J_X3_readTent_106 n0 v_a1_tents v_a1_said f_a1_kinds f_a1_yards p2 x18 s24 u28 u25 u27 u26 = some out → W p l e rmX3_readTent s m args below meth c H locs 0 0 Q (F0 m 106 ls []) := by
            intro s24 u25 u26 u27 u28 H locs ls hV hl hF
            unfold J_X3_readTent_106 at hF
            refine lv_aload_n C.1 C.2.1 dX3_readTent_106 rfl (lv_at hl 0 rfl) ?_
            refine lv_iload_n C.1 C.2.1 dX3_readTent_107 rfl (lv_at hl 1 rfl) ?_
            refine lv_iload C.1 C.2.1 dX3_readTent_108 (lv_at hl 2 rfl) ?_
            refine lv_iload C.1 C.2.1 dX3_readTent_110 (lv_at hl 3 rfl) ?_
            obtain ⟨x29, x30, x31, g32, g33, hc, hF⟩ := bd5_s hF
            refine g_cVi (ws' := [oX3 a_t v_size a_bytes u28 u25 u27 u26, aA cI a_bytes 120 f_bytes, oX0 a_a1 a_a1_kinds a_a1_yards a_a1_spots x30 x31 v_a1_wall v_a1_bridge v_a1_counted v_a1_day v_a1_z, aA cI a_a1_kinds 10 g32, aA cI a_a1_yards 10 g33]) (wr := [oX3 a_t v_size a_bytes u28 u25 u27 u26, aA cI a_bytes 120 f_bytes]) C hV (k_X0_pitch l dC dI cI cB cO n0 H.size a_a1 a_a1_kinds a_a1_yards a_a1_spots v_a1_tents v_a1_said v_a1_wall v_a1_bridge v_a1_counted v_a1_day v_a1_z f_a1_kinds f_a1_yards p2 x18 s24 hc) mdX0_pitch gX3_readTent_X0_pitch rfl rfl ⟨Nat.le_of_ble_eq_true rfl, Nat.le_of_ble_eq_true rfl⟩ [2, 3, 4] [0, 1] [0, 1, 2, 3, 4] rfl rfl rfl rfl rfl rfl rfl rfl rfl rfl hl.1 (Nat.le_of_ble_eq_true rfl) rfl dX3_readTent_112 (fun H locs hV => ?_)
            refine lv_pop C.1 C.2.1 dX3_readTent_115 rfl ?_
            refine lv_iconst (v := 1) C.1 C.2.1 dX3_readTent_116 rfl ?_
            exact hret ((1, u28, u25, u27, u26, x30, x31, g32, g33) : Int32 × Int32 × Int32 × Int32 × Int32 × Int32 × Int32 × (Nat → Int32) × (Nat → Int32)) _ _ _ _ dX3_readTent_117 hF (Or.inr rfl) hV
          refine g_if_eq (tgt := 106) C hF dX3_readTent_96 rfl (fun hF => ?_) (fun hF => ?_)
          · exact hJ106 0 x20 x22 x21 x19 H locs ls hV (lv_sub hl [4, 5, 1, 0] rfl) hF
          refine lv_iconst (v := 1) C.1 C.2.1 dX3_readTent_99 rfl ?_
          refine lv_istore (lv' := [(5, .int 1), (4, .int x18), (3, .int x9), (0, .ref a_t), (1, .ref a_a1), (2, .int p2)]) C.1 C.2.1 dX3_readTent_100 hl (by decide) rfl (fun ls hl => ?_)
          refine lv_aload_n C.1 C.2.1 dX3_readTent_102 rfl (lv_at hl 3 rfl) ?_
          obtain ⟨x34, x35, x36, x37, hc, hF⟩ := bd4_s hF
          refine g_cVv (ws' := [oX3 a_t v_size a_bytes x34 x35 x36 x37, aA cI a_bytes 120 f_bytes, oX0 a_a1 a_a1_kinds a_a1_yards a_a1_spots v_a1_tents v_a1_said v_a1_wall v_a1_bridge v_a1_counted v_a1_day v_a1_z, aA cI a_a1_kinds 10 f_a1_kinds, aA cI a_a1_yards 10 f_a1_yards]) (wr := [oX0 a_a1 a_a1_kinds a_a1_yards a_a1_spots v_a1_tents v_a1_said v_a1_wall v_a1_bridge v_a1_counted v_a1_day v_a1_z, aA cI a_a1_kinds 10 f_a1_kinds, aA cI a_a1_yards 10 f_a1_yards]) C hV (k_X3_step l dC dI cI cB cO n0 H.size a_t a_bytes v_size x19 x20 x21 x22 f_bytes hc) mdX3_step gX3_readTent_X3_step rfl rfl ⟨Nat.le_of_ble_eq_true rfl, Nat.le_of_ble_eq_true rfl⟩ [0, 1] [2, 3, 4] [3, 4, 0, 1, 2] rfl rfl rfl rfl rfl rfl rfl rfl rfl rfl hl.1 (Nat.le_of_ble_eq_true rfl) rfl dX3_readTent_103 (fun H locs hV => ?_)
          exact hJ106 1 x35 x37 x36 x34 H locs ls hV (lv_sub hl [4, 5, 1, 0] rfl) hF
        refine lv_iconst (v := 0) C.1 C.2.1 dX3_readTent_71 rfl ?_
        exact hret ((0, x11, x12, x13, x14, v_a1_tents, v_a1_said, f_a1_kinds, f_a1_yards) : Int32 × Int32 × Int32 × Int32 × Int32 × Int32 × Int32 × (Nat → Int32) × (Nat → Int32)) _ _ _ _ dX3_readTent_72 hF (Or.inl rfl) hV
      refine lv_iconst (v := 0) C.1 C.2.1 dX3_readTent_37 rfl ?_
      exact hret ((0, x6, x7, x8, x9, v_a1_tents, v_a1_said, f_a1_kinds, f_a1_yards) : Int32 × Int32 × Int32 × Int32 × Int32 × Int32 × Int32 × (Nat → Int32) × (Nat → Int32)) _ _ _ _ dX3_readTent_38 hF (Or.inl rfl) hV
    refine lv_iconst (v := 0) C.1 C.2.1 dX3_readTent_24 rfl ?_
    exact hret ((0, x1, x2, x3, x4, v_a1_tents, v_a1_said, f_a1_kinds, f_a1_yards) : Int32 × Int32 × Int32 × Int32 × Int32 × Int32 × Int32 × (Nat → Int32) × (Nat → Int32)) _ _ _ _ dX3_readTent_25 hF (Or.inl rfl) hV
  refine lv_iconst (v := 0) C.1 C.2.1 dX3_readTent_9 rfl ?_
  exact hret ((0, v_start, v_behind, v_sort, v_number, v_a1_tents, v_a1_said, f_a1_kinds, f_a1_yards) : Int32 × Int32 × Int32 × Int32 × Int32 × Int32 × Int32 × (Nat → Int32) × (Nat → Int32)) _ _ _ _ dX3_readTent_10 hF (Or.inl rfl) hV
abbrev rmX3_readWall : Room := { frames := 5, cells := 0, slots := 0, locals := 107 }
theorem mdX3_readWall : gMd yX3_readWall wsX3_readWall cX3_readWall 2 (some .boolean) 1 := ⟨⟨_, rfl⟩, by decide +kernel⟩
theorem flX3_readWall_70 : gFL wsX3_readWall RX3 70 3 5 RX3 TX3 6 := ⟨rfl, fun w h => List.mem_cons_of_mem _ (List.mem_append_left _ (List.mem_append_right _ (h))), Nat.le_of_ble_eq_true rfl, List.mem_cons_of_mem _ (List.mem_append_left _ (List.mem_append_left _ (List.mem_append_left _ (List.mem_of_getElem? (i := 0) rfl))))⟩
theorem flX3_readWall_87 : gFL wsX3_readWall RX3 87 0 5 RX0 TX0 10 := ⟨rfl, fun w h => List.mem_cons_of_mem _ (List.mem_append_right _ (h)), Nat.le_of_ble_eq_true rfl, List.mem_cons_of_mem _ (List.mem_append_left _ (List.mem_append_left _ (List.mem_append_left _ (List.mem_of_getElem? (i := 1) rfl))))⟩
theorem fpX3_readWall_87 : gFP wsX3_readWall RX3 87 0 5 RX0 TX0 10 .int := ⟨flX3_readWall_87, ⟨tyX0, tyX0_ok⟩, nmX0, rfl, by decide +kernel⟩
theorem flX3_readWall_91 : gFL wsX3_readWall RX3 91 0 6 RX0 TX0 10 := ⟨rfl, fun w h => List.mem_cons_of_mem _ (List.mem_append_right _ (h)), Nat.le_of_ble_eq_true rfl, List.mem_cons_of_mem _ (List.mem_append_left _ (List.mem_append_left _ (List.mem_append_left _ (List.mem_of_getElem? (i := 2) rfl))))⟩
theorem fpX3_readWall_91 : gFP wsX3_readWall RX3 91 0 6 RX0 TX0 10 .int := ⟨flX3_readWall_91, ⟨tyX0, tyX0_ok⟩, nmX0, rfl, by decide +kernel⟩
def F_X3_readWall (n0 : Nat) (v_size : Int32) (v_start : Int32) (v_behind : Int32) (v_sort : Int32) (v_number : Int32) (f_bytes : Nat → Int32) (v_a1_wall : Int32) (v_a1_bridge : Int32) : Option (Int32 × Int32 × Int32 × Int32 × Int32 × Int32 × Int32) := bd4 (F_X3_step n0 v_size v_start v_behind v_sort v_number f_bytes) (fun x1 x2 x3 x4 => bd1 (F_X3_isSideNumber n0 x3 x4) (fun x5 => (if x5 = 0 then some ((0, x1, x2, x3, x4, v_a1_wall, v_a1_bridge) : Int32 × Int32 × Int32 × Int32 × Int32 × Int32 × Int32) else bd4 (F_X3_step n0 v_size x1 x2 x3 x4 f_bytes) (fun x6 x7 x8 x9 => bd1 (F_X3_isWord n0 x6 x7 x8 f_bytes 5) (fun x10 => (if x10 = 0 then some ((1, x6, x7, x8, x9, x4, v_a1_bridge) : Int32 × Int32 × Int32 × Int32 × Int32 × Int32 × Int32) else bd4 (F_X3_step n0 v_size x6 x7 x8 x9 f_bytes) (fun x11 x12 x13 x14 => bd1 (F_X3_isSideNumber n0 x13 x14) (fun x15 => (if x15 = 0 then some ((0, x11, x12, x13, x14, x4, v_a1_bridge) : Int32 × Int32 × Int32 × Int32 × Int32 × Int32 × Int32) else bd4 (F_X3_step n0 v_size x11 x12 x13 x14 f_bytes) (fun x16 x17 x18 x19 => some ((1, x16, x17, x18, x19, x4, x14) : Int32 × Int32 × Int32 × Int32 × Int32 × Int32 × Int32)))))))))))
set_option maxRecDepth 100000 in
set_option maxHeartbeats 4000000 in
theorem k_X3_readWall (l : Launch) (dC : Nat → ClassId) (dI : Nat → Nat → Nat) (cI cB cO : ClassId) (n0 sz : Nat) (tK : Nat) (adK adV : Nat → Nat) (vF : Value) (a_t : Nat) (a_bytes : Nat) (a_a1 : Nat) (a_a1_kinds : Nat) (a_a1_yards : Nat) (a_a1_spots : Nat)   (v_size : Int32) (v_start : Int32) (v_behind : Int32) (v_sort : Int32) (v_number : Int32) (f_bytes : Nat → Int32) (v_a1_tents : Int32) (v_a1_said : Int32) (v_a1_wall : Int32) (v_a1_bridge : Int32) (v_a1_counted : Int32) (v_a1_day : Int32) (v_a1_z : Int32)   {ro : Int32} {o0 : Int32} {o1 : Int32} {o2 : Int32} {o3 : Int32} {o4 : Int32} {o5 : Int32} (hF : F_X3_readWall n0 v_size v_start v_behind v_sort v_number f_bytes v_a1_wall v_a1_bridge = some (ro, o0, o1, o2, o3, o4, o5)) : Met l yX3_readWall wsX3_readWall rmX3_readWall (va_Pc [.ref a_t, .ref a_a1] (gPreE tK adK adV vF (dC, dI) (gT cI cB cO) sz [oX3 a_t v_size a_bytes v_start v_behind v_sort v_number, aA cI a_bytes 120 f_bytes, oX0 a_a1 a_a1_kinds a_a1_yards a_a1_spots v_a1_tents v_a1_said v_a1_wall v_a1_bridge v_a1_counted v_a1_day v_a1_z])) (gQi (dC, dI) (gT cI cB cO) sz [oX3 a_t v_size a_bytes v_start v_behind v_sort v_number, aA cI a_bytes 120 f_bytes, oX0 a_a1 a_a1_kinds a_a1_yards a_a1_spots v_a1_tents v_a1_said v_a1_wall v_a1_bridge v_a1_counted v_a1_day v_a1_z] ro [oX3 a_t v_size a_bytes o0 o1 o2 o3, aA cI a_bytes 120 f_bytes, oX0 a_a1 a_a1_kinds a_a1_yards a_a1_spots v_a1_tents v_a1_said o4 o5 v_a1_counted v_a1_day v_a1_z]) 0 0 (va_A [oX3 a_t v_size a_bytes v_start v_behind v_sort v_number, aA cI a_bytes 120 f_bytes, oX0 a_a1 a_a1_kinds a_a1_yards a_a1_spots v_a1_tents v_a1_said v_a1_wall v_a1_bridge v_a1_counted v_a1_day v_a1_z] sz) := by
  refine g_metZE (Out := Int32 × Int32 × Int32 × Int32 × Int32 × Int32 × Int32) (fun oo => oo.1) (fun oo => [oX3 a_t v_size a_bytes oo.2.1 oo.2.2.1 oo.2.2.2.1 oo.2.2.2.2.1, aA cI a_bytes 120 f_bytes, oX0 a_a1 a_a1_kinds a_a1_yards a_a1_spots v_a1_tents v_a1_said oo.2.2.2.2.2.1 oo.2.2.2.2.2.2 v_a1_counted v_a1_day v_a1_z]) (ro, o0, o1, o2, o3, o4, o5) (own := RX3) (lv := [(0, .ref a_t), (1, .ref a_a1)]) (by decide) rfl rfl (Nat.le_of_ble_eq_true rfl) rfl ?_
  intro p e s m args below meth c Q ls C hret hV hl hE
  obtain ⟨out, hout⟩ : ∃ z : Int32 × Int32 × Int32 × Int32 × Int32 × Int32 × Int32, z = (ro, o0, o1, o2, o3, o4, o5) := ⟨_, rfl⟩
  rw [← hout] at hF hret
  obtain ⟨H0, hH0⟩ : ∃ z : Heap, z = s.heap := ⟨_, rfl⟩
  obtain ⟨A0, hA0⟩ : ∃ z : Nat → Prop, z = va_A [oX3 a_t v_size a_bytes v_start v_behind v_sort v_number, aA cI a_bytes 120 f_bytes, oX0 a_a1 a_a1_kinds a_a1_yards a_a1_spots v_a1_tents v_a1_said v_a1_wall v_a1_bridge v_a1_counted v_a1_day v_a1_z] s.heap.size := ⟨_, rfl⟩
  rw [← hA0] at hret hV hE
  rw [← hH0] at hret hV
  rw [← hH0]
  obtain ⟨H, locs, hH⟩ : ∃ (z : Heap) (y : List Loc), z = H0 ∧ y = [] := ⟨_, _, rfl, rfl⟩
  rw [← hH.1, ← hH.2]
  have hV : gV (dC, dI) (gT cI cB cO) A0 H0 s [oX3 a_t v_size a_bytes v_start v_behind v_sort v_number, aA cI a_bytes 120 f_bytes, oX0 a_a1 a_a1_kinds a_a1_yards a_a1_spots v_a1_tents v_a1_said v_a1_wall v_a1_bridge v_a1_counted v_a1_day v_a1_z] H locs := by rw [hH.1, hH.2]; exact hV
  unfold F_X3_readWall at hF
  refine lv_aload_n C.1 C.2.1 dX3_readWall_0 rfl (lv_at hl 0 rfl) ?_
  obtain ⟨x1, x2, x3, x4, hc, hF⟩ := bd4_s hF
  refine g_cVv (ws' := [oX3 a_t v_size a_bytes x1 x2 x3 x4, aA cI a_bytes 120 f_bytes, oX0 a_a1 a_a1_kinds a_a1_yards a_a1_spots v_a1_tents v_a1_said v_a1_wall v_a1_bridge v_a1_counted v_a1_day v_a1_z]) (wr := [oX0 a_a1 a_a1_kinds a_a1_yards a_a1_spots v_a1_tents v_a1_said v_a1_wall v_a1_bridge v_a1_counted v_a1_day v_a1_z]) C hV (k_X3_step l dC dI cI cB cO n0 H.size a_t a_bytes v_size v_start v_behind v_sort v_number f_bytes hc) mdX3_step gX3_readWall_X3_step rfl rfl ⟨Nat.le_of_ble_eq_true rfl, Nat.le_of_ble_eq_true rfl⟩ [0, 1] [2] [1, 2, 0] rfl rfl rfl rfl rfl rfl rfl rfl rfl rfl hl.1 (Nat.le_of_ble_eq_true rfl) rfl dX3_readWall_1 (fun H locs hV => ?_)
  refine lv_aload_n C.1 C.2.1 dX3_readWall_4 rfl (lv_at hl 0 rfl) ?_
  obtain ⟨x5, hc, hF⟩ := bd1_s hF
  refine g_cVi (ws' := [oX3 a_t v_size a_bytes x1 x2 x3 x4, aA cI a_bytes 120 f_bytes, oX0 a_a1 a_a1_kinds a_a1_yards a_a1_spots v_a1_tents v_a1_said v_a1_wall v_a1_bridge v_a1_counted v_a1_day v_a1_z]) (wr := [aA cI a_bytes 120 f_bytes, oX0 a_a1 a_a1_kinds a_a1_yards a_a1_spots v_a1_tents v_a1_said v_a1_wall v_a1_bridge v_a1_counted v_a1_day v_a1_z]) C hV (k_X3_isSideNumber l dC dI cI cB cO n0 H.size a_t a_bytes v_size x1 x2 x3 x4 hc) mdX3_isSideNumber gX3_readWall_X3_isSideNumber rfl rfl ⟨Nat.le_of_ble_eq_true rfl, Nat.le_of_ble_eq_true rfl⟩ [0] [1, 2] [2, 0, 1] rfl rfl rfl rfl rfl rfl rfl rfl rfl rfl hl.1 (Nat.le_of_ble_eq_true rfl) rfl dX3_readWall_5 (fun H locs hV => ?_)
  refine g_if_ne (tgt := 13) C hF dX3_readWall_8 rfl (fun hF => ?_) (fun hF => ?_)
  · refine lv_aload_n C.1 C.2.1 dX3_readWall_13 rfl (lv_at hl 1 rfl) ?_
    refine lv_aload_n C.1 C.2.1 dX3_readWall_14 rfl (lv_at hl 0 rfl) ?_
    refine g_get C hV flX3_readWall_70 0 rfl rfl dX3_readWall_15 ?_
    refine g_put (ws' := [oX3 a_t v_size a_bytes x1 x2 x3 x4, aA cI a_bytes 120 f_bytes, oX0 a_a1 a_a1_kinds a_a1_yards a_a1_spots v_a1_tents v_a1_said x4 v_a1_bridge v_a1_counted v_a1_day v_a1_z]) C hV fpX3_readWall_87 2 rfl rfl rfl (Nat.le_of_ble_eq_true rfl) rfl dX3_readWall_18 (fun H locs hV => ?_)
    refine lv_aload_n C.1 C.2.1 dX3_readWall_21 rfl (lv_at hl 0 rfl) ?_
    obtain ⟨x6, x7, x8, x9, hc, hF⟩ := bd4_s hF
    refine g_cVv (ws' := [oX3 a_t v_size a_bytes x6 x7 x8 x9, aA cI a_bytes 120 f_bytes, oX0 a_a1 a_a1_kinds a_a1_yards a_a1_spots v_a1_tents v_a1_said x4 v_a1_bridge v_a1_counted v_a1_day v_a1_z]) (wr := [oX0 a_a1 a_a1_kinds a_a1_yards a_a1_spots v_a1_tents v_a1_said x4 v_a1_bridge v_a1_counted v_a1_day v_a1_z]) C hV (k_X3_step l dC dI cI cB cO n0 H.size a_t a_bytes v_size x1 x2 x3 x4 f_bytes hc) mdX3_step gX3_readWall_X3_step rfl rfl ⟨Nat.le_of_ble_eq_true rfl, Nat.le_of_ble_eq_true rfl⟩ [0, 1] [2] [1, 2, 0] rfl rfl rfl rfl rfl rfl rfl rfl rfl rfl hl.1 (Nat.le_of_ble_eq_true rfl) rfl dX3_readWall_22 (fun H locs hV => ?_)
    refine lv_aload_n C.1 C.2.1 dX3_readWall_25 rfl (lv_at hl 0 rfl) ?_
    refine va_ldcS C.1 C.2.1 C.2.2.2.1 (hE.2.2.2.1 5 (by decide)) dX3_readWall_26 ?_
    obtain ⟨x10, hc, hF⟩ := bd1_s hF
    refine g_cEVi (ws' := [oX3 a_t v_size a_bytes x6 x7 x8 x9, aA cI a_bytes 120 f_bytes, oX0 a_a1 a_a1_kinds a_a1_yards a_a1_spots v_a1_tents v_a1_said x4 v_a1_bridge v_a1_counted v_a1_day v_a1_z]) (wr := [oX0 a_a1 a_a1_kinds a_a1_yards a_a1_spots v_a1_tents v_a1_said x4 v_a1_bridge v_a1_counted v_a1_day v_a1_z]) C hV hE hH0 (k_X3_isWord l dC dI cI cB cO n0 H.size tK adK adV vF a_t a_bytes v_size x6 x7 x8 x9 f_bytes 5 (by decide) hc) mdX3_isWord gX3_readWall_X3_isWord rfl rfl ⟨Nat.le_of_ble_eq_true rfl, Nat.le_of_ble_eq_true rfl⟩ [0, 1] [2] [1, 2, 0] rfl rfl rfl rfl rfl rfl rfl rfl rfl rfl hl.1 (Nat.le_of_ble_eq_true rfl) rfl dX3_readWall_28 (fun H locs hV => ?_)
    refine g_if_ne (tgt := 36) C hF dX3_readWall_31 rfl (fun hF => ?_) (fun hF => ?_)
    · refine lv_aload_n C.1 C.2.1 dX3_readWall_36 rfl (lv_at hl 0 rfl) ?_
      obtain ⟨x11, x12, x13, x14, hc, hF⟩ := bd4_s hF
      refine g_cVv (ws' := [oX3 a_t v_size a_bytes x11 x12 x13 x14, aA cI a_bytes 120 f_bytes, oX0 a_a1 a_a1_kinds a_a1_yards a_a1_spots v_a1_tents v_a1_said x4 v_a1_bridge v_a1_counted v_a1_day v_a1_z]) (wr := [oX0 a_a1 a_a1_kinds a_a1_yards a_a1_spots v_a1_tents v_a1_said x4 v_a1_bridge v_a1_counted v_a1_day v_a1_z]) C hV (k_X3_step l dC dI cI cB cO n0 H.size a_t a_bytes v_size x6 x7 x8 x9 f_bytes hc) mdX3_step gX3_readWall_X3_step rfl rfl ⟨Nat.le_of_ble_eq_true rfl, Nat.le_of_ble_eq_true rfl⟩ [0, 1] [2] [1, 2, 0] rfl rfl rfl rfl rfl rfl rfl rfl rfl rfl hl.1 (Nat.le_of_ble_eq_true rfl) rfl dX3_readWall_37 (fun H locs hV => ?_)
      refine lv_aload_n C.1 C.2.1 dX3_readWall_40 rfl (lv_at hl 0 rfl) ?_
      obtain ⟨x15, hc, hF⟩ := bd1_s hF
      refine g_cVi (ws' := [oX3 a_t v_size a_bytes x11 x12 x13 x14, aA cI a_bytes 120 f_bytes, oX0 a_a1 a_a1_kinds a_a1_yards a_a1_spots v_a1_tents v_a1_said x4 v_a1_bridge v_a1_counted v_a1_day v_a1_z]) (wr := [aA cI a_bytes 120 f_bytes, oX0 a_a1 a_a1_kinds a_a1_yards a_a1_spots v_a1_tents v_a1_said x4 v_a1_bridge v_a1_counted v_a1_day v_a1_z]) C hV (k_X3_isSideNumber l dC dI cI cB cO n0 H.size a_t a_bytes v_size x11 x12 x13 x14 hc) mdX3_isSideNumber gX3_readWall_X3_isSideNumber rfl rfl ⟨Nat.le_of_ble_eq_true rfl, Nat.le_of_ble_eq_true rfl⟩ [0] [1, 2] [2, 0, 1] rfl rfl rfl rfl rfl rfl rfl rfl rfl rfl hl.1 (Nat.le_of_ble_eq_true rfl) rfl dX3_readWall_41 (fun H locs hV => ?_)
      refine g_if_ne (tgt := 49) C hF dX3_readWall_44 rfl (fun hF => ?_) (fun hF => ?_)
      · refine lv_aload_n C.1 C.2.1 dX3_readWall_49 rfl (lv_at hl 1 rfl) ?_
        refine lv_aload_n C.1 C.2.1 dX3_readWall_50 rfl (lv_at hl 0 rfl) ?_
        refine g_get C hV flX3_readWall_70 0 rfl rfl dX3_readWall_51 ?_
        refine g_put (ws' := [oX3 a_t v_size a_bytes x11 x12 x13 x14, aA cI a_bytes 120 f_bytes, oX0 a_a1 a_a1_kinds a_a1_yards a_a1_spots v_a1_tents v_a1_said x4 x14 v_a1_counted v_a1_day v_a1_z]) C hV fpX3_readWall_91 2 rfl rfl rfl (Nat.le_of_ble_eq_true rfl) rfl dX3_readWall_54 (fun H locs hV => ?_)
        refine lv_aload_n C.1 C.2.1 dX3_readWall_57 rfl (lv_at hl 0 rfl) ?_
        obtain ⟨x16, x17, x18, x19, hc, hF⟩ := bd4_s hF
        refine g_cVv (ws' := [oX3 a_t v_size a_bytes x16 x17 x18 x19, aA cI a_bytes 120 f_bytes, oX0 a_a1 a_a1_kinds a_a1_yards a_a1_spots v_a1_tents v_a1_said x4 x14 v_a1_counted v_a1_day v_a1_z]) (wr := [oX0 a_a1 a_a1_kinds a_a1_yards a_a1_spots v_a1_tents v_a1_said x4 x14 v_a1_counted v_a1_day v_a1_z]) C hV (k_X3_step l dC dI cI cB cO n0 H.size a_t a_bytes v_size x11 x12 x13 x14 f_bytes hc) mdX3_step gX3_readWall_X3_step rfl rfl ⟨Nat.le_of_ble_eq_true rfl, Nat.le_of_ble_eq_true rfl⟩ [0, 1] [2] [1, 2, 0] rfl rfl rfl rfl rfl rfl rfl rfl rfl rfl hl.1 (Nat.le_of_ble_eq_true rfl) rfl dX3_readWall_58 (fun H locs hV => ?_)
        refine lv_iconst (v := 1) C.1 C.2.1 dX3_readWall_61 rfl ?_
        exact hret ((1, x16, x17, x18, x19, x4, x14) : Int32 × Int32 × Int32 × Int32 × Int32 × Int32 × Int32) _ _ _ _ dX3_readWall_62 hF (Or.inr rfl) hV
      refine lv_iconst (v := 0) C.1 C.2.1 dX3_readWall_47 rfl ?_
      exact hret ((0, x11, x12, x13, x14, x4, v_a1_bridge) : Int32 × Int32 × Int32 × Int32 × Int32 × Int32 × Int32) _ _ _ _ dX3_readWall_48 hF (Or.inl rfl) hV
    refine lv_iconst (v := 1) C.1 C.2.1 dX3_readWall_34 rfl ?_
    exact hret ((1, x6, x7, x8, x9, x4, v_a1_bridge) : Int32 × Int32 × Int32 × Int32 × Int32 × Int32 × Int32) _ _ _ _ dX3_readWall_35 hF (Or.inr rfl) hV
  refine lv_iconst (v := 0) C.1 C.2.1 dX3_readWall_11 rfl ?_
  exact hret ((0, x1, x2, x3, x4, v_a1_wall, v_a1_bridge) : Int32 × Int32 × Int32 × Int32 × Int32 × Int32 × Int32) _ _ _ _ dX3_readWall_12 hF (Or.inl rfl) hV
abbrev rmX3_readItem : Room := { frames := 6, cells := 0, slots := 0, locals := 132 }
theorem mdX3_readItem : gMd yX3_readItem wsX3_readItem cX3_readItem 3 (some .boolean) 1 := ⟨⟨_, rfl⟩, by decide +kernel⟩
theorem flX3_readItem_56 : gFL wsX3_readItem RX3 56 0 7 RX0 TX0 10 := ⟨rfl, fun w h => List.mem_cons_of_mem _ (List.mem_append_left _ (List.mem_append_right _ (h))), Nat.le_of_ble_eq_true rfl, List.mem_cons_of_mem _ (List.mem_append_left _ (List.mem_append_left _ (List.mem_append_left _ (List.mem_of_getElem? (i := 0) rfl))))⟩
theorem fpX3_readItem_56 : gFP wsX3_readItem RX3 56 0 7 RX0 TX0 10 .boolean := ⟨flX3_readItem_56, ⟨tyX0, tyX0_ok⟩, nmX0, rfl, by decide +kernel⟩
def J_X3_readItem_67 (x3 : Int32) (n0 : Nat) (v_size : Int32) (v_start : Int32) (v_behind : Int32) (v_sort : Int32) (v_number : Int32) (f_bytes : Nat → Int32) (v_a1_tents : Int32) (v_a1_said : Int32) (v_a1_wall : Int32) (v_a1_bridge : Int32) (f_a1_kinds : Nat → Int32) (f_a1_yards : Nat → Int32) : Option (Int32 × Int32 × Int32 × Int32 × Int32 × Int32 × Int32 × Int32 × Int32 × Int32 × (Nat → Int32) × (Nat → Int32)) := bz x3 (bd4 (F_X3_step n0 v_size v_start v_behind v_sort v_number f_bytes) (fun x4 x5 x6 x7 => some ((1, x4, x5, x6, x7, v_a1_tents, v_a1_said, v_a1_wall, v_a1_bridge, x3, f_a1_kinds, f_a1_yards) : Int32 × Int32 × Int32 × Int32 × Int32 × Int32 × Int32 × Int32 × Int32 × Int32 × (Nat → Int32) × (Nat → Int32))))
def L_X3_readItem_2 (n0 : Nat) (v_start : Int32) (v_behind : Int32) (v_sort : Int32) (f_bytes : Nat → Int32) (v_number : Int32) (v_a1_tents : Int32) (v_a1_said : Int32) (v_a1_wall : Int32) (v_a1_bridge : Int32) (v_a1_counted : Int32) (f_a1_kinds : Nat → Int32) (f_a1_yards : Nat → Int32) (v_size : Int32) : Nat → Int32 → Option (Int32 × Int32 × Int32 × Int32 × Int32 × Int32 × Int32 × Int32 × Int32 × Int32 × (Nat → Int32) × (Nat → Int32)) := lpp1 (fun s1 kk2 => (if 7 ≤ s1 then bd1 (F_X3_isWord n0 v_start v_behind v_sort f_bytes 0) (fun x2 => (if x2 = 0 then bd1 (F_X3_isWord n0 v_start v_behind v_sort f_bytes 1) (fun x3 => (if x3 = 0 then bd1 (F_X3_isWord n0 v_start v_behind v_sort f_bytes 2) (fun x8 => (if x8 = 0 then some ((0, v_start, v_behind, v_sort, v_number, v_a1_tents, v_a1_said, v_a1_wall, v_a1_bridge, v_a1_counted, f_a1_kinds, f_a1_yards) : Int32 × Int32 × Int32 × Int32 × Int32 × Int32 × Int32 × Int32 × Int32 × Int32 × (Nat → Int32) × (Nat → Int32)) else J_X3_readItem_67 x3 n0 v_size v_start v_behind v_sort v_number f_bytes v_a1_tents v_a1_said v_a1_wall v_a1_bridge f_a1_kinds f_a1_yards)) else J_X3_readItem_67 x3 n0 v_size v_start v_behind v_sort v_number f_bytes v_a1_tents v_a1_said v_a1_wall v_a1_bridge f_a1_kinds f_a1_yards)) else bd7 (F_X3_readWall n0 v_size v_start v_behind v_sort v_number f_bytes v_a1_wall v_a1_bridge) (fun x9 x10 x11 x12 x13 x14 x15 => bz x9 (some (x9, x10, x11, x12, x13, v_a1_tents, v_a1_said, x14, x15, v_a1_counted, f_a1_kinds, f_a1_yards))))) else bd1 (F_X3_nameOf n0 s1) (fun j16 => six j16 (bd1 (F_X3_isWord n0 v_start v_behind v_sort f_bytes j16) (fun x17 => (if x17 = 0 then nm (s1 + 1) (fun x18 => kk2 x18) else bd9 (F_X3_readTent n0 v_size v_start v_behind v_sort v_number f_bytes v_a1_tents v_a1_said f_a1_kinds f_a1_yards s1) (fun x19 x20 x21 x22 x23 x24 x25 g26 g27 => bz x19 (some (x19, x20, x21, x22, x23, x24, x25, v_a1_wall, v_a1_bridge, v_a1_counted, g26, g27)))))))))
def F_X3_readItem (n0 : Nat) (v_size : Int32) (v_start : Int32) (v_behind : Int32) (v_sort : Int32) (v_number : Int32) (f_bytes : Nat → Int32) (v_a1_tents : Int32) (v_a1_said : Int32) (v_a1_wall : Int32) (v_a1_bridge : Int32) (v_a1_counted : Int32) (f_a1_kinds : Nat → Int32) (f_a1_yards : Nat → Int32) : Option (Int32 × Int32 × Int32 × Int32 × Int32 × Int32 × Int32 × Int32 × Int32 × Int32 × (Nat → Int32) × (Nat → Int32)) := L_X3_readItem_2 n0 v_start v_behind v_sort f_bytes v_number v_a1_tents v_a1_said v_a1_wall v_a1_bridge v_a1_counted f_a1_kinds f_a1_yards v_size n0 0
set_option maxRecDepth 100000 in
set_option maxHeartbeats 4000000 in
theorem k_X3_readItem (l : Launch) (dC : Nat → ClassId) (dI : Nat → Nat → Nat) (cI cB cO : ClassId) (n0 sz : Nat) (tK : Nat) (adK adV : Nat → Nat) (vF : Value) (a_t : Nat) (a_bytes : Nat) (a_a1 : Nat) (a_a1_kinds : Nat) (a_a1_yards : Nat) (a_a1_spots : Nat)   (v_size : Int32) (v_start : Int32) (v_behind : Int32) (v_sort : Int32) (v_number : Int32) (f_bytes : Nat → Int32) (v_a1_tents : Int32) (v_a1_said : Int32) (v_a1_wall : Int32) (v_a1_bridge : Int32) (v_a1_counted : Int32) (v_a1_day : Int32) (v_a1_z : Int32) (f_a1_kinds : Nat → Int32) (f_a1_yards : Nat → Int32)   {ro : Int32} {o0 : Int32} {o1 : Int32} {o2 : Int32} {o3 : Int32} {o4 : Int32} {o5 : Int32} {o6 : Int32} {o7 : Int32} {o8 : Int32} {o9 : Nat → Int32} {o10 : Nat → Int32} (hF : F_X3_readItem n0 v_size v_start v_behind v_sort v_number f_bytes v_a1_tents v_a1_said v_a1_wall v_a1_bridge v_a1_counted f_a1_kinds f_a1_yards = some (ro, o0, o1, o2, o3, o4, o5, o6, o7, o8, o9, o10)) : Met l yX3_readItem wsX3_readItem rmX3_readItem (va_Pc [.ref a_t, .ref a_a1] (gPreE tK adK adV vF (dC, dI) (gT cI cB cO) sz [oX3 a_t v_size a_bytes v_start v_behind v_sort v_number, aA cI a_bytes 120 f_bytes, oX0 a_a1 a_a1_kinds a_a1_yards a_a1_spots v_a1_tents v_a1_said v_a1_wall v_a1_bridge v_a1_counted v_a1_day v_a1_z, aA cI a_a1_kinds 10 f_a1_kinds, aA cI a_a1_yards 10 f_a1_yards])) (gQi (dC, dI) (gT cI cB cO) sz [oX3 a_t v_size a_bytes v_start v_behind v_sort v_number, aA cI a_bytes 120 f_bytes, oX0 a_a1 a_a1_kinds a_a1_yards a_a1_spots v_a1_tents v_a1_said v_a1_wall v_a1_bridge v_a1_counted v_a1_day v_a1_z, aA cI a_a1_kinds 10 f_a1_kinds, aA cI a_a1_yards 10 f_a1_yards] ro [oX3 a_t v_size a_bytes o0 o1 o2 o3, aA cI a_bytes 120 f_bytes, oX0 a_a1 a_a1_kinds a_a1_yards a_a1_spots o4 o5 o6 o7 o8 v_a1_day v_a1_z, aA cI a_a1_kinds 10 o9, aA cI a_a1_yards 10 o10]) 0 0 (va_A [oX3 a_t v_size a_bytes v_start v_behind v_sort v_number, aA cI a_bytes 120 f_bytes, oX0 a_a1 a_a1_kinds a_a1_yards a_a1_spots v_a1_tents v_a1_said v_a1_wall v_a1_bridge v_a1_counted v_a1_day v_a1_z, aA cI a_a1_kinds 10 f_a1_kinds, aA cI a_a1_yards 10 f_a1_yards] sz) := by
  refine g_metZE (Out := Int32 × Int32 × Int32 × Int32 × Int32 × Int32 × Int32 × Int32 × Int32 × Int32 × (Nat → Int32) × (Nat → Int32)) (fun oo => oo.1) (fun oo => [oX3 a_t v_size a_bytes oo.2.1 oo.2.2.1 oo.2.2.2.1 oo.2.2.2.2.1, aA cI a_bytes 120 f_bytes, oX0 a_a1 a_a1_kinds a_a1_yards a_a1_spots oo.2.2.2.2.2.1 oo.2.2.2.2.2.2.1 oo.2.2.2.2.2.2.2.1 oo.2.2.2.2.2.2.2.2.1 oo.2.2.2.2.2.2.2.2.2.1 v_a1_day v_a1_z, aA cI a_a1_kinds 10 oo.2.2.2.2.2.2.2.2.2.2.1, aA cI a_a1_yards 10 oo.2.2.2.2.2.2.2.2.2.2.2]) (ro, o0, o1, o2, o3, o4, o5, o6, o7, o8, o9, o10) (own := RX3) (lv := [(0, .ref a_t), (1, .ref a_a1)]) (by decide) rfl rfl (Nat.le_of_ble_eq_true rfl) rfl ?_
  intro p e s m args below meth c Q ls C hret hV hl hE
  obtain ⟨out, hout⟩ : ∃ z : Int32 × Int32 × Int32 × Int32 × Int32 × Int32 × Int32 × Int32 × Int32 × Int32 × (Nat → Int32) × (Nat → Int32), z = (ro, o0, o1, o2, o3, o4, o5, o6, o7, o8, o9, o10) := ⟨_, rfl⟩
  rw [← hout] at hF hret
  obtain ⟨H0, hH0⟩ : ∃ z : Heap, z = s.heap := ⟨_, rfl⟩
  obtain ⟨A0, hA0⟩ : ∃ z : Nat → Prop, z = va_A [oX3 a_t v_size a_bytes v_start v_behind v_sort v_number, aA cI a_bytes 120 f_bytes, oX0 a_a1 a_a1_kinds a_a1_yards a_a1_spots v_a1_tents v_a1_said v_a1_wall v_a1_bridge v_a1_counted v_a1_day v_a1_z, aA cI a_a1_kinds 10 f_a1_kinds, aA cI a_a1_yards 10 f_a1_yards] s.heap.size := ⟨_, rfl⟩
  rw [← hA0] at hret hV hE
  rw [← hH0] at hret hV
  rw [← hH0]
  obtain ⟨H, locs, hH⟩ : ∃ (z : Heap) (y : List Loc), z = H0 ∧ y = [] := ⟨_, _, rfl, rfl⟩
  rw [← hH.1, ← hH.2]
  have hV : gV (dC, dI) (gT cI cB cO) A0 H0 s [oX3 a_t v_size a_bytes v_start v_behind v_sort v_number, aA cI a_bytes 120 f_bytes, oX0 a_a1 a_a1_kinds a_a1_yards a_a1_spots v_a1_tents v_a1_said v_a1_wall v_a1_bridge v_a1_counted v_a1_day v_a1_z, aA cI a_a1_kinds 10 f_a1_kinds, aA cI a_a1_yards 10 f_a1_yards] H locs := by rw [hH.1, hH.2]; exact hV
  unfold F_X3_readItem at hF
  refine lv_iconst (v := 0) C.1 C.2.1 dX3_readItem_0 rfl ?_
  refine lv_istore_n (lv' := [(2, .int 0), (0, .ref a_t), (1, .ref a_a1)]) C.1 C.2.1 dX3_readItem_1 rfl hl (by decide) rfl (fun ls hl => ?_)
  have hL2 : ∀ (n : Nat) (s1 : Int32) (H : Heap) (locs : List Loc) (ls : Array Slot), gV (dC, dI) (gT cI cB cO) A0 H0 s [oX3 a_t v_size a_bytes v_start v_behind v_sort v_number, aA cI a_bytes 120 f_bytes, oX0 a_a1 a_a1_kinds a_a1_yards a_a1_spots v_a1_tents v_a1_said v_a1_wall v_a1_bridge v_a1_counted v_a1_day v_a1_z, aA cI a_a1_kinds 10 f_a1_kinds, aA cI a_a1_yards 10 f_a1_yards] H locs → lv_has ls 3 [(0, .ref a_t), (1, .ref a_a1), (2, .int s1)] → L_X3_readItem_2 n0 v_start v_behind v_sort f_bytes v_number v_a1_tents v_a1_said v_a1_wall v_a1_bridge v_a1_counted f_a1_kinds f_a1_yards v_size n s1 = some out → W p l e rmX3_readItem s m args below meth c H locs 0 0 Q (F0 m 2 ls []) := by
    intro n
    induction n with
    | zero => intro s1 H locs ls hV hl hF; exact lpp1_z hF
    | succ n ih2 =>
      intro s1 H locs ls hV hl hF
      obtain ⟨kk2, hk2, hF⟩ := lpp1_g hF
      have hq2 : ∀ (s1 : Int32), kk2 s1 = some out → L_X3_readItem_2 n0 v_start v_behind v_sort f_bytes v_number v_a1_tents v_a1_said v_a1_wall v_a1_bridge v_a1_counted f_a1_kinds f_a1_yards v_size n s1 = some out := fun _ h => by rw [hk2] at h; exact h
      refine lv_iload_n C.1 C.2.1 dX3_readItem_2 rfl (lv_at hl 2 rfl) ?_
      refine lv_bipush (v := 7) C.1 C.2.1 dX3_readItem_3 rfl ?_
      refine g_icmp_ge (tgt := 32) C hF dX3_readItem_5 rfl (fun hF => ?_) (fun hF => ?_)
      · refine lv_aload_n C.1 C.2.1 dX3_readItem_32 rfl (lv_at hl 0 rfl) ?_
        refine va_ldcS C.1 C.2.1 C.2.2.2.1 (hE.2.2.2.1 0 (by decide)) dX3_readItem_33 ?_
        obtain ⟨x2, hc, hF⟩ := bd1_s hF
        refine g_cEVi (ws' := [oX3 a_t v_size a_bytes v_start v_behind v_sort v_number, aA cI a_bytes 120 f_bytes, oX0 a_a1 a_a1_kinds a_a1_yards a_a1_spots v_a1_tents v_a1_said v_a1_wall v_a1_bridge v_a1_counted v_a1_day v_a1_z, aA cI a_a1_kinds 10 f_a1_kinds, aA cI a_a1_yards 10 f_a1_yards]) (wr := [oX0 a_a1 a_a1_kinds a_a1_yards a_a1_spots v_a1_tents v_a1_said v_a1_wall v_a1_bridge v_a1_counted v_a1_day v_a1_z, aA cI a_a1_kinds 10 f_a1_kinds, aA cI a_a1_yards 10 f_a1_yards]) C hV hE hH0 (k_X3_isWord l dC dI cI cB cO n0 H.size tK adK adV vF a_t a_bytes v_size v_start v_behind v_sort v_number f_bytes 0 (by decide) hc) mdX3_isWord gX3_readItem_X3_isWord rfl rfl ⟨Nat.le_of_ble_eq_true rfl, Nat.le_of_ble_eq_true rfl⟩ [0, 1] [2, 3, 4] [3, 4, 0, 1, 2] rfl rfl rfl rfl rfl rfl rfl rfl rfl rfl hl.1 (Nat.le_of_ble_eq_true rfl) rfl dX3_readItem_35 (fun H locs hV => ?_)
        refine g_if_eq (tgt := 47) C hF dX3_readItem_38 rfl (fun hF => ?_) (fun hF => ?_)
        · refine lv_aload_n C.1 C.2.1 dX3_readItem_47 rfl (lv_at hl 0 rfl) ?_
          refine va_ldcS C.1 C.2.1 C.2.2.2.1 (hE.2.2.2.1 1 (by decide)) dX3_readItem_48 ?_
          obtain ⟨x3, hc, hF⟩ := bd1_s hF
          refine g_cEVi (ws' := [oX3 a_t v_size a_bytes v_start v_behind v_sort v_number, aA cI a_bytes 120 f_bytes, oX0 a_a1 a_a1_kinds a_a1_yards a_a1_spots v_a1_tents v_a1_said v_a1_wall v_a1_bridge v_a1_counted v_a1_day v_a1_z, aA cI a_a1_kinds 10 f_a1_kinds, aA cI a_a1_yards 10 f_a1_yards]) (wr := [oX0 a_a1 a_a1_kinds a_a1_yards a_a1_spots v_a1_tents v_a1_said v_a1_wall v_a1_bridge v_a1_counted v_a1_day v_a1_z, aA cI a_a1_kinds 10 f_a1_kinds, aA cI a_a1_yards 10 f_a1_yards]) C hV hE hH0 (k_X3_isWord l dC dI cI cB cO n0 H.size tK adK adV vF a_t a_bytes v_size v_start v_behind v_sort v_number f_bytes 1 (by decide) hc) mdX3_isWord gX3_readItem_X3_isWord rfl rfl ⟨Nat.le_of_ble_eq_true rfl, Nat.le_of_ble_eq_true rfl⟩ [0, 1] [2, 3, 4] [3, 4, 0, 1, 2] rfl rfl rfl rfl rfl rfl rfl rfl rfl rfl hl.1 (Nat.le_of_ble_eq_true rfl) rfl dX3_readItem_50 (fun H locs hV => ?_)
          refine lv_istore_n (lv' := [(2, .int x3), (0, .ref a_t), (1, .ref a_a1)]) C.1 C.2.1 dX3_readItem_53 rfl hl (by decide) rfl (fun ls hl => ?_)
          refine lv_iload_n C.1 C.2.1 dX3_readItem_54 rfl (lv_at hl 0 rfl) ?_
          have hJ67 : ∀  (H : Heap) (locs : List Loc) (ls : Array Slot), gV (dC, dI) (gT cI cB cO) A0 H0 s [oX3 a_t v_size a_bytes v_start v_behind v_sort v_number, aA cI a_bytes 120 f_bytes, oX0 a_a1 a_a1_kinds a_a1_yards a_a1_spots v_a1_tents v_a1_said v_a1_wall v_a1_bridge v_a1_counted v_a1_day v_a1_z, aA cI a_a1_kinds 10 f_a1_kinds, aA cI a_a1_yards 10 f_a1_yards] H locs → lv_has ls 3 [(0, .ref a_t), (1, .ref a_a1), (2, .int x3)] → J_X3_readItem_67 x3 n0 v_size v_start v_behind v_sort v_number f_bytes v_a1_tents v_a1_said v_a1_wall v_a1_bridge f_a1_kinds f_a1_yards = some out → W p l e rmX3_readItem s m args below meth c H locs 0 0 Q (F0 m 67 ls []) := by
            intro  H locs ls hV hl hF
            unfold J_X3_readItem_67 at hF
            refine lv_aload_n C.1 C.2.1 dX3_readItem_67 rfl (lv_at hl 1 rfl) ?_
            refine lv_iload_n C.1 C.2.1 dX3_readItem_68 rfl (lv_at hl 2 rfl) ?_
            obtain ⟨hz, hF⟩ := bz_s hF
            refine g_put (ws' := [oX3 a_t v_size a_bytes v_start v_behind v_sort v_number, aA cI a_bytes 120 f_bytes, oX0 a_a1 a_a1_kinds a_a1_yards a_a1_spots v_a1_tents v_a1_said v_a1_wall v_a1_bridge x3 v_a1_day v_a1_z, aA cI a_a1_kinds 10 f_a1_kinds, aA cI a_a1_yards 10 f_a1_yards]) C hV fpX3_readItem_56 2 rfl (zb_n hz) (zb_f hz) (Nat.le_of_ble_eq_true rfl) rfl dX3_readItem_69 (fun H locs hV => ?_)
            refine lv_aload_n C.1 C.2.1 dX3_readItem_72 rfl (lv_at hl 0 rfl) ?_
            obtain ⟨x4, x5, x6, x7, hc, hF⟩ := bd4_s hF
            refine g_cVv (ws' := [oX3 a_t v_size a_bytes x4 x5 x6 x7, aA cI a_bytes 120 f_bytes, oX0 a_a1 a_a1_kinds a_a1_yards a_a1_spots v_a1_tents v_a1_said v_a1_wall v_a1_bridge x3 v_a1_day v_a1_z, aA cI a_a1_kinds 10 f_a1_kinds, aA cI a_a1_yards 10 f_a1_yards]) (wr := [oX0 a_a1 a_a1_kinds a_a1_yards a_a1_spots v_a1_tents v_a1_said v_a1_wall v_a1_bridge x3 v_a1_day v_a1_z, aA cI a_a1_kinds 10 f_a1_kinds, aA cI a_a1_yards 10 f_a1_yards]) C hV (k_X3_step l dC dI cI cB cO n0 H.size a_t a_bytes v_size v_start v_behind v_sort v_number f_bytes hc) mdX3_step gX3_readItem_X3_step rfl rfl ⟨Nat.le_of_ble_eq_true rfl, Nat.le_of_ble_eq_true rfl⟩ [0, 1] [2, 3, 4] [3, 4, 0, 1, 2] rfl rfl rfl rfl rfl rfl rfl rfl rfl rfl hl.1 (Nat.le_of_ble_eq_true rfl) rfl dX3_readItem_73 (fun H locs hV => ?_)
            refine lv_iconst (v := 1) C.1 C.2.1 dX3_readItem_76 rfl ?_
            exact hret ((1, x4, x5, x6, x7, v_a1_tents, v_a1_said, v_a1_wall, v_a1_bridge, x3, f_a1_kinds, f_a1_yards) : Int32 × Int32 × Int32 × Int32 × Int32 × Int32 × Int32 × Int32 × Int32 × Int32 × (Nat → Int32) × (Nat → Int32)) _ _ _ _ dX3_readItem_77 hF (Or.inr rfl) hV
          refine g_if_ne (tgt := 67) C hF dX3_readItem_55 rfl (fun hF => ?_) (fun hF => ?_)
          · exact hJ67  H locs ls hV (lv_sub hl [1, 2, 0] rfl) hF
          refine lv_aload_n C.1 C.2.1 dX3_readItem_58 rfl (lv_at hl 1 rfl) ?_
          refine va_ldcS C.1 C.2.1 C.2.2.2.1 (hE.2.2.2.1 2 (by decide)) dX3_readItem_59 ?_
          obtain ⟨x8, hc, hF⟩ := bd1_s hF
          refine g_cEVi (ws' := [oX3 a_t v_size a_bytes v_start v_behind v_sort v_number, aA cI a_bytes 120 f_bytes, oX0 a_a1 a_a1_kinds a_a1_yards a_a1_spots v_a1_tents v_a1_said v_a1_wall v_a1_bridge v_a1_counted v_a1_day v_a1_z, aA cI a_a1_kinds 10 f_a1_kinds, aA cI a_a1_yards 10 f_a1_yards]) (wr := [oX0 a_a1 a_a1_kinds a_a1_yards a_a1_spots v_a1_tents v_a1_said v_a1_wall v_a1_bridge v_a1_counted v_a1_day v_a1_z, aA cI a_a1_kinds 10 f_a1_kinds, aA cI a_a1_yards 10 f_a1_yards]) C hV hE hH0 (k_X3_isWord l dC dI cI cB cO n0 H.size tK adK adV vF a_t a_bytes v_size v_start v_behind v_sort v_number f_bytes 2 (by decide) hc) mdX3_isWord gX3_readItem_X3_isWord rfl rfl ⟨Nat.le_of_ble_eq_true rfl, Nat.le_of_ble_eq_true rfl⟩ [0, 1] [2, 3, 4] [3, 4, 0, 1, 2] rfl rfl rfl rfl rfl rfl rfl rfl rfl rfl hl.1 (Nat.le_of_ble_eq_true rfl) rfl dX3_readItem_61 (fun H locs hV => ?_)
          refine g_if_eq (tgt := 78) C hF dX3_readItem_64 rfl (fun hF => ?_) (fun hF => ?_)
          · refine lv_iconst (v := 0) C.1 C.2.1 dX3_readItem_78 rfl ?_
            exact hret ((0, v_start, v_behind, v_sort, v_number, v_a1_tents, v_a1_said, v_a1_wall, v_a1_bridge, v_a1_counted, f_a1_kinds, f_a1_yards) : Int32 × Int32 × Int32 × Int32 × Int32 × Int32 × Int32 × Int32 × Int32 × Int32 × (Nat → Int32) × (Nat → Int32)) _ _ _ _ dX3_readItem_79 hF (Or.inl rfl) hV
          exact hJ67  H locs ls hV (lv_sub hl [1, 2, 0] rfl) hF
        refine lv_aload_n C.1 C.2.1 dX3_readItem_41 rfl (lv_at hl 0 rfl) ?_
        refine lv_aload_n C.1 C.2.1 dX3_readItem_42 rfl (lv_at hl 1 rfl) ?_
        obtain ⟨x9, x10, x11, x12, x13, x14, x15, hc, hF⟩ := bd7_s hF
        refine g_cEVi (ws' := [oX3 a_t v_size a_bytes x10 x11 x12 x13, aA cI a_bytes 120 f_bytes, oX0 a_a1 a_a1_kinds a_a1_yards a_a1_spots v_a1_tents v_a1_said x14 x15 v_a1_counted v_a1_day v_a1_z, aA cI a_a1_kinds 10 f_a1_kinds, aA cI a_a1_yards 10 f_a1_yards]) (wr := [aA cI a_a1_kinds 10 f_a1_kinds, aA cI a_a1_yards 10 f_a1_yards]) C hV hE hH0 (k_X3_readWall l dC dI cI cB cO n0 H.size tK adK adV vF a_t a_bytes a_a1 a_a1_kinds a_a1_yards a_a1_spots v_size v_start v_behind v_sort v_number f_bytes v_a1_tents v_a1_said v_a1_wall v_a1_bridge v_a1_counted v_a1_day v_a1_z hc) mdX3_readWall gX3_readItem_X3_readWall rfl rfl ⟨Nat.le_of_ble_eq_true rfl, Nat.le_of_ble_eq_true rfl⟩ [0, 1, 2] [3, 4] [2, 3, 4, 0, 1] rfl rfl rfl rfl rfl rfl rfl rfl rfl rfl hl.1 (Nat.le_of_ble_eq_true rfl) rfl dX3_readItem_43 (fun H locs hV => ?_)
        obtain ⟨hz, hF⟩ := bz_s hF
        exact hret (x9, x10, x11, x12, x13, v_a1_tents, v_a1_said, x14, x15, v_a1_counted, f_a1_kinds, f_a1_yards) _ _ _ _ dX3_readItem_46 hF hz hV
      refine lv_aload_n C.1 C.2.1 dX3_readItem_8 rfl (lv_at hl 0 rfl) ?_
      refine lv_iload_n C.1 C.2.1 dX3_readItem_9 rfl (lv_at hl 2 rfl) ?_
      obtain ⟨j16, hc, hF⟩ := bd1_s hF
      refine g_cESr (ws' := [oX3 a_t v_size a_bytes v_start v_behind v_sort v_number, aA cI a_bytes 120 f_bytes, oX0 a_a1 a_a1_kinds a_a1_yards a_a1_spots v_a1_tents v_a1_said v_a1_wall v_a1_bridge v_a1_counted v_a1_day v_a1_z, aA cI a_a1_kinds 10 f_a1_kinds, aA cI a_a1_yards 10 f_a1_yards]) (wr := [oX3 a_t v_size a_bytes v_start v_behind v_sort v_number, aA cI a_bytes 120 f_bytes, oX0 a_a1 a_a1_kinds a_a1_yards a_a1_spots v_a1_tents v_a1_said v_a1_wall v_a1_bridge v_a1_counted v_a1_day v_a1_z, aA cI a_a1_kinds 10 f_a1_kinds, aA cI a_a1_yards 10 f_a1_yards]) C hV hE hH0 (k_X3_nameOf l dC dI cI cB cO n0 H.size tK adK adV vF s1 hc) mdX3_nameOf gX3_readItem_X3_nameOf rfl rfl ⟨Nat.le_of_ble_eq_true rfl, Nat.le_of_ble_eq_true rfl⟩ [] [0, 1, 2, 3, 4] [0, 1, 2, 3, 4] rfl rfl rfl rfl rfl rfl rfl rfl hl.1 (Nat.le_of_ble_eq_true rfl) rfl dX3_readItem_10 (fun H locs hV => ?_)
      obtain ⟨hj16, hF⟩ := six_s hF
      obtain ⟨x17, hc, hF⟩ := bd1_s hF
      refine g_cEVi (ws' := [oX3 a_t v_size a_bytes v_start v_behind v_sort v_number, aA cI a_bytes 120 f_bytes, oX0 a_a1 a_a1_kinds a_a1_yards a_a1_spots v_a1_tents v_a1_said v_a1_wall v_a1_bridge v_a1_counted v_a1_day v_a1_z, aA cI a_a1_kinds 10 f_a1_kinds, aA cI a_a1_yards 10 f_a1_yards]) (wr := [oX0 a_a1 a_a1_kinds a_a1_yards a_a1_spots v_a1_tents v_a1_said v_a1_wall v_a1_bridge v_a1_counted v_a1_day v_a1_z, aA cI a_a1_kinds 10 f_a1_kinds, aA cI a_a1_yards 10 f_a1_yards]) C hV hE hH0 (k_X3_isWord l dC dI cI cB cO n0 H.size tK adK adV vF a_t a_bytes v_size v_start v_behind v_sort v_number f_bytes j16 hj16 hc) mdX3_isWord gX3_readItem_X3_isWord rfl rfl ⟨Nat.le_of_ble_eq_true rfl, Nat.le_of_ble_eq_true rfl⟩ [0, 1] [2, 3, 4] [3, 4, 0, 1, 2] rfl rfl rfl rfl rfl rfl rfl rfl rfl rfl hl.1 (Nat.le_of_ble_eq_true rfl) rfl dX3_readItem_13 (fun H locs hV => ?_)
      refine g_if_eq (tgt := 26) C hF dX3_readItem_16 rfl (fun hF => ?_) (fun hF => ?_)
      · refine g_iinc C hF dX3_readItem_26 (d := 1) rfl hl (j := 2) rfl (by decide) (fun y => [(2, .int y), (0, .ref a_t), (1, .ref a_a1)]) (fun _ => rfl) (fun x18 ls hF hl => ?_)
        refine lv_goto (tgt := 2) C.1 C.2.1 dX3_readItem_29 rfl ?_
        exact ih2 x18 H locs ls hV (lv_sub hl [1, 2, 0] rfl) (hq2 x18 hF)
      refine lv_aload_n C.1 C.2.1 dX3_readItem_19 rfl (lv_at hl 0 rfl) ?_
      refine lv_aload_n C.1 C.2.1 dX3_readItem_20 rfl (lv_at hl 1 rfl) ?_
      refine lv_iload_n C.1 C.2.1 dX3_readItem_21 rfl (lv_at hl 2 rfl) ?_
      obtain ⟨x19, x20, x21, x22, x23, x24, x25, g26, g27, hc, hF⟩ := bd9_s hF
      refine g_cEVi (ws' := [oX3 a_t v_size a_bytes x20 x21 x22 x23, aA cI a_bytes 120 f_bytes, oX0 a_a1 a_a1_kinds a_a1_yards a_a1_spots x24 x25 v_a1_wall v_a1_bridge v_a1_counted v_a1_day v_a1_z, aA cI a_a1_kinds 10 g26, aA cI a_a1_yards 10 g27]) (wr := []) C hV hE hH0 (k_X3_readTent l dC dI cI cB cO n0 H.size tK adK adV vF a_t a_bytes a_a1 a_a1_kinds a_a1_yards a_a1_spots v_size v_start v_behind v_sort v_number f_bytes v_a1_tents v_a1_said v_a1_wall v_a1_bridge v_a1_counted v_a1_day v_a1_z f_a1_kinds f_a1_yards s1 hc) mdX3_readTent gX3_readItem_X3_readTent rfl rfl ⟨Nat.le_of_ble_eq_true rfl, Nat.le_of_ble_eq_true rfl⟩ [0, 1, 2, 3, 4] [] [0, 1, 2, 3, 4] rfl rfl rfl rfl rfl rfl rfl rfl rfl rfl hl.1 (Nat.le_of_ble_eq_true rfl) rfl dX3_readItem_22 (fun H locs hV => ?_)
      obtain ⟨hz, hF⟩ := bz_s hF
      exact hret (x19, x20, x21, x22, x23, x24, x25, v_a1_wall, v_a1_bridge, v_a1_counted, g26, g27) _ _ _ _ dX3_readItem_25 hF hz hV
  exact hL2 n0 0 H locs ls hV (lv_sub hl [1, 2, 0] rfl) hF
abbrev rmX3_readText : Room := { frames := 7, cells := 0, slots := 0, locals := 154 }
theorem mdX3_readText : gMd yX3_readText wsX3_readText cX3_readText 3 (some .int) 1 := ⟨⟨_, rfl⟩, by decide +kernel⟩
theorem flX3_readText_19 : gFL wsX3_readText RX3 19 3 3 RX3 TX3 6 := ⟨rfl, fun w h => List.mem_cons_of_mem _ (List.mem_append_left _ (List.mem_append_right _ (h))), Nat.le_of_ble_eq_true rfl, List.mem_cons_of_mem _ (List.mem_append_left _ (List.mem_append_left _ (List.mem_append_left _ (List.mem_of_getElem? (i := 0) rfl))))⟩
theorem fpX3_readText_19 : gFP wsX3_readText RX3 19 3 3 RX3 TX3 6 .int := ⟨flX3_readText_19, ⟨tyX3, tyX3_ok⟩, nmX3, rfl, by decide +kernel⟩
theorem flX3_readText_15 : gFL wsX3_readText RX3 15 3 0 RX3 TX3 6 := ⟨rfl, fun w h => List.mem_cons_of_mem _ (List.mem_append_left _ (List.mem_append_right _ (h))), Nat.le_of_ble_eq_true rfl, List.mem_cons_of_mem _ (List.mem_append_left _ (List.mem_append_left _ (List.mem_append_left _ (List.mem_of_getElem? (i := 3) rfl))))⟩
theorem flX3_readText_32 : gFL wsX3_readText RX3 32 3 4 RX3 TX3 6 := ⟨rfl, fun w h => List.mem_cons_of_mem _ (List.mem_append_left _ (List.mem_append_right _ (h))), Nat.le_of_ble_eq_true rfl, List.mem_cons_of_mem _ (List.mem_append_left _ (List.mem_append_left _ (List.mem_append_left _ (List.mem_of_getElem? (i := 2) rfl))))⟩
theorem flX3_readText_29 : gFL wsX3_readText RX3 29 3 2 RX3 TX3 6 := ⟨rfl, fun w h => List.mem_cons_of_mem _ (List.mem_append_left _ (List.mem_append_right _ (h))), Nat.le_of_ble_eq_true rfl, List.mem_cons_of_mem _ (List.mem_append_left _ (List.mem_append_left _ (List.mem_append_left _ (List.mem_of_getElem? (i := 1) rfl))))⟩
def L_X3_readText_7 (v_size : Int32) (n0 : Nat) (f_bytes : Nat → Int32) : Nat → Int32 → (Nat → Int32) → (Nat → Int32) → Int32 → Int32 → Int32 → Int32 → Int32 → Int32 → Int32 → Int32 → Int32 → Option (Int32 × Int32 × Int32 × Int32 × Int32 × Int32 × Int32 × Int32 × Int32 × Int32 × (Nat → Int32) × (Nat → Int32)) := lpp12 (fun s1 t2 t3 u4 u5 u6 u7 u8 u9 u10 u11 u12 kk7 => (if 120 < s1 then nm (((-1)) - v_size) (fun x13 => some (x13, u12, u9, u11, u10, u7, u6, u8, u4, u5, t2, t3)) else bd4 (F_X3_step n0 v_size u12 u9 u11 u10 f_bytes) (fun x14 x15 x16 x17 => bd12 (F_X3_readItem n0 v_size x14 x15 x16 x17 f_bytes u7 u6 u8 u4 u5 t2 t3) (fun x18 x19 x20 x21 x22 x23 x24 x25 x26 x27 g28 g29 => (if x18 = 0 then nm (((-1)) - x19) (fun x32 => some (x32, x19, x20, x21, x22, x23, x24, x25, x26, x27, g28, g29)) else (if x21 = 0 then some (s1, x19, x20, x21, x22, x23, x24, x25, x26, x27, g28, g29) else (if x21 = 3 then nm (s1 + 1) (fun x30 => kk7 x30 g28 g29 x26 x27 x24 x23 x25 x20 x22 x21 x19) else nm (((-1)) - x19) (fun x31 => some (x31, x19, x20, x21, x22, x23, x24, x25, x26, x27, g28, g29)))))))))
def F_X3_readText (n0 : Nat) (v_size : Int32) (v_start : Int32) (v_behind : Int32) (v_sort : Int32) (v_number : Int32) (f_bytes : Nat → Int32) (v_a1_tents : Int32) (v_a1_said : Int32) (v_a1_wall : Int32) (v_a1_bridge : Int32) (v_a1_counted : Int32) (f_a1_kinds : Nat → Int32) (f_a1_yards : Nat → Int32) : Option (Int32 × Int32 × Int32 × Int32 × Int32 × Int32 × Int32 × Int32 × Int32 × Int32 × (Nat → Int32) × (Nat → Int32)) := L_X3_readText_7 v_size n0 f_bytes n0 1 f_a1_kinds f_a1_yards v_a1_bridge v_a1_counted v_a1_said v_a1_tents v_a1_wall 0 v_number v_sort v_start
set_option maxRecDepth 100000 in
set_option maxHeartbeats 4000000 in
theorem k_X3_readText (l : Launch) (dC : Nat → ClassId) (dI : Nat → Nat → Nat) (cI cB cO : ClassId) (n0 sz : Nat) (tK : Nat) (adK adV : Nat → Nat) (vF : Value) (a_t : Nat) (a_bytes : Nat) (a_a1 : Nat) (a_a1_kinds : Nat) (a_a1_yards : Nat) (a_a1_spots : Nat)   (v_size : Int32) (v_start : Int32) (v_behind : Int32) (v_sort : Int32) (v_number : Int32) (f_bytes : Nat → Int32) (v_a1_tents : Int32) (v_a1_said : Int32) (v_a1_wall : Int32) (v_a1_bridge : Int32) (v_a1_counted : Int32) (v_a1_day : Int32) (v_a1_z : Int32) (f_a1_kinds : Nat → Int32) (f_a1_yards : Nat → Int32)   {ro : Int32} {o0 : Int32} {o1 : Int32} {o2 : Int32} {o3 : Int32} {o4 : Int32} {o5 : Int32} {o6 : Int32} {o7 : Int32} {o8 : Int32} {o9 : Nat → Int32} {o10 : Nat → Int32} (hF : F_X3_readText n0 v_size v_start v_behind v_sort v_number f_bytes v_a1_tents v_a1_said v_a1_wall v_a1_bridge v_a1_counted f_a1_kinds f_a1_yards = some (ro, o0, o1, o2, o3, o4, o5, o6, o7, o8, o9, o10)) : Met l yX3_readText wsX3_readText rmX3_readText (va_Pc [.ref a_t, .ref a_a1] (gPreE tK adK adV vF (dC, dI) (gT cI cB cO) sz [oX3 a_t v_size a_bytes v_start v_behind v_sort v_number, aA cI a_bytes 120 f_bytes, oX0 a_a1 a_a1_kinds a_a1_yards a_a1_spots v_a1_tents v_a1_said v_a1_wall v_a1_bridge v_a1_counted v_a1_day v_a1_z, aA cI a_a1_kinds 10 f_a1_kinds, aA cI a_a1_yards 10 f_a1_yards])) (gQi (dC, dI) (gT cI cB cO) sz [oX3 a_t v_size a_bytes v_start v_behind v_sort v_number, aA cI a_bytes 120 f_bytes, oX0 a_a1 a_a1_kinds a_a1_yards a_a1_spots v_a1_tents v_a1_said v_a1_wall v_a1_bridge v_a1_counted v_a1_day v_a1_z, aA cI a_a1_kinds 10 f_a1_kinds, aA cI a_a1_yards 10 f_a1_yards] ro [oX3 a_t v_size a_bytes o0 o1 o2 o3, aA cI a_bytes 120 f_bytes, oX0 a_a1 a_a1_kinds a_a1_yards a_a1_spots o4 o5 o6 o7 o8 v_a1_day v_a1_z, aA cI a_a1_kinds 10 o9, aA cI a_a1_yards 10 o10]) 0 0 (va_A [oX3 a_t v_size a_bytes v_start v_behind v_sort v_number, aA cI a_bytes 120 f_bytes, oX0 a_a1 a_a1_kinds a_a1_yards a_a1_spots v_a1_tents v_a1_said v_a1_wall v_a1_bridge v_a1_counted v_a1_day v_a1_z, aA cI a_a1_kinds 10 f_a1_kinds, aA cI a_a1_yards 10 f_a1_yards] sz) := by
  refine g_metIE (Out := Int32 × Int32 × Int32 × Int32 × Int32 × Int32 × Int32 × Int32 × Int32 × Int32 × (Nat → Int32) × (Nat → Int32)) (fun oo => oo.1) (fun oo => [oX3 a_t v_size a_bytes oo.2.1 oo.2.2.1 oo.2.2.2.1 oo.2.2.2.2.1, aA cI a_bytes 120 f_bytes, oX0 a_a1 a_a1_kinds a_a1_yards a_a1_spots oo.2.2.2.2.2.1 oo.2.2.2.2.2.2.1 oo.2.2.2.2.2.2.2.1 oo.2.2.2.2.2.2.2.2.1 oo.2.2.2.2.2.2.2.2.2.1 v_a1_day v_a1_z, aA cI a_a1_kinds 10 oo.2.2.2.2.2.2.2.2.2.2.1, aA cI a_a1_yards 10 oo.2.2.2.2.2.2.2.2.2.2.2]) (ro, o0, o1, o2, o3, o4, o5, o6, o7, o8, o9, o10) (own := RX3) (lv := [(0, .ref a_t), (1, .ref a_a1)]) (by decide) rfl rfl (Nat.le_of_ble_eq_true rfl) rfl ?_
  intro p e s m args below meth c Q ls C hret hV hl hE
  obtain ⟨out, hout⟩ : ∃ z : Int32 × Int32 × Int32 × Int32 × Int32 × Int32 × Int32 × Int32 × Int32 × Int32 × (Nat → Int32) × (Nat → Int32), z = (ro, o0, o1, o2, o3, o4, o5, o6, o7, o8, o9, o10) := ⟨_, rfl⟩
  rw [← hout] at hF hret
  obtain ⟨H0, hH0⟩ : ∃ z : Heap, z = s.heap := ⟨_, rfl⟩
  obtain ⟨A0, hA0⟩ : ∃ z : Nat → Prop, z = va_A [oX3 a_t v_size a_bytes v_start v_behind v_sort v_number, aA cI a_bytes 120 f_bytes, oX0 a_a1 a_a1_kinds a_a1_yards a_a1_spots v_a1_tents v_a1_said v_a1_wall v_a1_bridge v_a1_counted v_a1_day v_a1_z, aA cI a_a1_kinds 10 f_a1_kinds, aA cI a_a1_yards 10 f_a1_yards] s.heap.size := ⟨_, rfl⟩
  rw [← hA0] at hret hV hE
  rw [← hH0] at hret hV
  rw [← hH0]
  obtain ⟨H, locs, hH⟩ : ∃ (z : Heap) (y : List Loc), z = H0 ∧ y = [] := ⟨_, _, rfl, rfl⟩
  rw [← hH.1, ← hH.2]
  have hV : gV (dC, dI) (gT cI cB cO) A0 H0 s [oX3 a_t v_size a_bytes v_start v_behind v_sort v_number, aA cI a_bytes 120 f_bytes, oX0 a_a1 a_a1_kinds a_a1_yards a_a1_spots v_a1_tents v_a1_said v_a1_wall v_a1_bridge v_a1_counted v_a1_day v_a1_z, aA cI a_a1_kinds 10 f_a1_kinds, aA cI a_a1_yards 10 f_a1_yards] H locs := by rw [hH.1, hH.2]; exact hV
  unfold F_X3_readText at hF
  refine lv_aload_n C.1 C.2.1 dX3_readText_0 rfl (lv_at hl 0 rfl) ?_
  refine lv_iconst (v := 0) C.1 C.2.1 dX3_readText_1 rfl ?_
  refine g_put (ws' := [oX3 a_t v_size a_bytes v_start 0 v_sort v_number, aA cI a_bytes 120 f_bytes, oX0 a_a1 a_a1_kinds a_a1_yards a_a1_spots v_a1_tents v_a1_said v_a1_wall v_a1_bridge v_a1_counted v_a1_day v_a1_z, aA cI a_a1_kinds 10 f_a1_kinds, aA cI a_a1_yards 10 f_a1_yards]) C hV fpX3_readText_19 0 rfl rfl rfl (Nat.le_of_ble_eq_true rfl) rfl dX3_readText_2 (fun H locs hV => ?_)
  refine lv_iconst (v := 1) C.1 C.2.1 dX3_readText_5 rfl ?_
  refine lv_istore_n (lv' := [(2, .int 1), (0, .ref a_t), (1, .ref a_a1)]) C.1 C.2.1 dX3_readText_6 rfl hl (by decide) rfl (fun ls hl => ?_)
  have hL7 : ∀ (n : Nat) (s1 : Int32) (t2 : Nat → Int32) (t3 : Nat → Int32) (u4 : Int32) (u5 : Int32) (u6 : Int32) (u7 : Int32) (u8 : Int32) (u9 : Int32) (u10 : Int32) (u11 : Int32) (u12 : Int32) (H : Heap) (locs : List Loc) (ls : Array Slot), gV (dC, dI) (gT cI cB cO) A0 H0 s [oX3 a_t v_size a_bytes u12 u9 u11 u10, aA cI a_bytes 120 f_bytes, oX0 a_a1 a_a1_kinds a_a1_yards a_a1_spots u7 u6 u8 u4 u5 v_a1_day v_a1_z, aA cI a_a1_kinds 10 t2, aA cI a_a1_yards 10 t3] H locs → lv_has ls 3 [(0, .ref a_t), (1, .ref a_a1), (2, .int s1)] → L_X3_readText_7 v_size n0 f_bytes n s1 t2 t3 u4 u5 u6 u7 u8 u9 u10 u11 u12 = some out → W p l e rmX3_readText s m args below meth c H locs 0 0 Q (F0 m 7 ls []) := by
    intro n
    induction n with
    | zero => intro s1 t2 t3 u4 u5 u6 u7 u8 u9 u10 u11 u12 H locs ls hV hl hF; exact lpp12_z hF
    | succ n ih7 =>
      intro s1 t2 t3 u4 u5 u6 u7 u8 u9 u10 u11 u12 H locs ls hV hl hF
      obtain ⟨kk7, hk7, hF⟩ := lpp12_g hF
      have hq7 : ∀ (s1 : Int32) (t2 : Nat → Int32) (t3 : Nat → Int32) (u4 : Int32) (u5 : Int32) (u6 : Int32) (u7 : Int32) (u8 : Int32) (u9 : Int32) (u10 : Int32) (u11 : Int32) (u12 : Int32), kk7 s1 t2 t3 u4 u5 u6 u7 u8 u9 u10 u11 u12 = some out → L_X3_readText_7 v_size n0 f_bytes n s1 t2 t3 u4 u5 u6 u7 u8 u9 u10 u11 u12 = some out := fun _ _ _ _ _ _ _ _ _ _ _ _ h => by rw [hk7] at h; exact h
      refine lv_iload_n C.1 C.2.1 dX3_readText_7 rfl (lv_at hl 2 rfl) ?_
      refine lv_bipush (v := 120) C.1 C.2.1 dX3_readText_8 rfl ?_
      refine g_icmp_gt (tgt := 62) C hF dX3_readText_10 rfl (fun hF => ?_) (fun hF => ?_)
      · refine lv_iconst (v := (-1)) C.1 C.2.1 dX3_readText_62 rfl ?_
        refine lv_aload_n C.1 C.2.1 dX3_readText_63 rfl (lv_at hl 0 rfl) ?_
        refine g_get C hV flX3_readText_15 0 rfl rfl dX3_readText_64 ?_
        refine g_isub C hF dX3_readText_67 (fun x13 hF => ?_)
        exact hret (x13, u12, u9, u11, u10, u7, u6, u8, u4, u5, t2, t3) _ _ _ _ dX3_readText_68 hF hV
      refine lv_aload_n C.1 C.2.1 dX3_readText_13 rfl (lv_at hl 0 rfl) ?_
      obtain ⟨x14, x15, x16, x17, hc, hF⟩ := bd4_s hF
      refine g_cVv (ws' := [oX3 a_t v_size a_bytes x14 x15 x16 x17, aA cI a_bytes 120 f_bytes, oX0 a_a1 a_a1_kinds a_a1_yards a_a1_spots u7 u6 u8 u4 u5 v_a1_day v_a1_z, aA cI a_a1_kinds 10 t2, aA cI a_a1_yards 10 t3]) (wr := [oX0 a_a1 a_a1_kinds a_a1_yards a_a1_spots u7 u6 u8 u4 u5 v_a1_day v_a1_z, aA cI a_a1_kinds 10 t2, aA cI a_a1_yards 10 t3]) C hV (k_X3_step l dC dI cI cB cO n0 H.size a_t a_bytes v_size u12 u9 u11 u10 f_bytes hc) mdX3_step gX3_readText_X3_step rfl rfl ⟨Nat.le_of_ble_eq_true rfl, Nat.le_of_ble_eq_true rfl⟩ [0, 1] [2, 3, 4] [3, 4, 0, 1, 2] rfl rfl rfl rfl rfl rfl rfl rfl rfl rfl hl.1 (Nat.le_of_ble_eq_true rfl) rfl dX3_readText_14 (fun H locs hV => ?_)
      refine lv_aload_n C.1 C.2.1 dX3_readText_17 rfl (lv_at hl 0 rfl) ?_
      refine lv_aload_n C.1 C.2.1 dX3_readText_18 rfl (lv_at hl 1 rfl) ?_
      obtain ⟨x18, x19, x20, x21, x22, x23, x24, x25, x26, x27, g28, g29, hc, hF⟩ := bd12_s hF
      refine g_cEVi (ws' := [oX3 a_t v_size a_bytes x19 x20 x21 x22, aA cI a_bytes 120 f_bytes, oX0 a_a1 a_a1_kinds a_a1_yards a_a1_spots x23 x24 x25 x26 x27 v_a1_day v_a1_z, aA cI a_a1_kinds 10 g28, aA cI a_a1_yards 10 g29]) (wr := []) C hV hE hH0 (k_X3_readItem l dC dI cI cB cO n0 H.size tK adK adV vF a_t a_bytes a_a1 a_a1_kinds a_a1_yards a_a1_spots v_size x14 x15 x16 x17 f_bytes u7 u6 u8 u4 u5 v_a1_day v_a1_z t2 t3 hc) mdX3_readItem gX3_readText_X3_readItem rfl rfl ⟨Nat.le_of_ble_eq_true rfl, Nat.le_of_ble_eq_true rfl⟩ [0, 1, 2, 3, 4] [] [0, 1, 2, 3, 4] rfl rfl rfl rfl rfl rfl rfl rfl rfl rfl hl.1 (Nat.le_of_ble_eq_true rfl) rfl dX3_readText_19 (fun H locs hV => ?_)
      refine g_if_ne (tgt := 32) C hF dX3_readText_22 rfl (fun hF => ?_) (fun hF => ?_)
      · refine lv_aload_n C.1 C.2.1 dX3_readText_32 rfl (lv_at hl 0 rfl) ?_
        refine g_get C hV flX3_readText_32 0 rfl rfl dX3_readText_33 ?_
        refine g_if_ne (tgt := 41) C hF dX3_readText_36 rfl (fun hF => ?_) (fun hF => ?_)
        · refine lv_aload_n C.1 C.2.1 dX3_readText_41 rfl (lv_at hl 0 rfl) ?_
          refine g_get C hV flX3_readText_32 0 rfl rfl dX3_readText_42 ?_
          refine lv_iconst (v := 3) C.1 C.2.1 dX3_readText_45 rfl ?_
          refine g_icmp_eq (tgt := 56) C hF dX3_readText_46 rfl (fun hF => ?_) (fun hF => ?_)
          · refine g_iinc C hF dX3_readText_56 (d := 1) rfl hl (j := 2) rfl (by decide) (fun y => [(2, .int y), (0, .ref a_t), (1, .ref a_a1)]) (fun _ => rfl) (fun x30 ls hF hl => ?_)
            refine lv_goto (tgt := 7) C.1 C.2.1 dX3_readText_59 rfl ?_
            exact ih7 x30 g28 g29 x26 x27 x24 x23 x25 x20 x22 x21 x19 H locs ls hV (lv_sub hl [1, 2, 0] rfl) (hq7 x30 g28 g29 x26 x27 x24 x23 x25 x20 x22 x21 x19 hF)
          refine lv_iconst (v := (-1)) C.1 C.2.1 dX3_readText_49 rfl ?_
          refine lv_aload_n C.1 C.2.1 dX3_readText_50 rfl (lv_at hl 0 rfl) ?_
          refine g_get C hV flX3_readText_29 0 rfl rfl dX3_readText_51 ?_
          refine g_isub C hF dX3_readText_54 (fun x31 hF => ?_)
          exact hret (x31, x19, x20, x21, x22, x23, x24, x25, x26, x27, g28, g29) _ _ _ _ dX3_readText_55 hF hV
        refine lv_iload_n C.1 C.2.1 dX3_readText_39 rfl (lv_at hl 2 rfl) ?_
        exact hret (s1, x19, x20, x21, x22, x23, x24, x25, x26, x27, g28, g29) _ _ _ _ dX3_readText_40 hF hV
      refine lv_iconst (v := (-1)) C.1 C.2.1 dX3_readText_25 rfl ?_
      refine lv_aload_n C.1 C.2.1 dX3_readText_26 rfl (lv_at hl 0 rfl) ?_
      refine g_get C hV flX3_readText_29 0 rfl rfl dX3_readText_27 ?_
      refine g_isub C hF dX3_readText_30 (fun x32 hF => ?_)
      exact hret (x32, x19, x20, x21, x22, x23, x24, x25, x26, x27, g28, g29) _ _ _ _ dX3_readText_31 hF hV
  exact hL7 n0 1 f_a1_kinds f_a1_yards v_a1_bridge v_a1_counted v_a1_said v_a1_tents v_a1_wall 0 v_number v_sort v_start H locs ls hV (lv_sub hl [1, 2, 0] rfl) hF
abbrev rmX4_read : Room := { frames := 8, cells := 0, slots := 0, locals := 176 }
theorem mdX4_read : gMd yX4_read wsX4_read cX4_read 3 (some .int) 1 := ⟨⟨_, rfl⟩, by decide +kernel⟩
theorem flX4_read_12 : gFL wsX4_read RX4 12 4 1 RX4 TX4 4 := ⟨rfl, fun w h => List.mem_cons_of_mem _ (List.mem_append_left _ (List.mem_append_left _ (List.mem_append_right _ (h)))), Nat.le_of_ble_eq_true rfl, List.mem_cons_of_mem _ (List.mem_append_left _ (List.mem_append_left _ (List.mem_append_left _ (List.mem_append_left _ (List.mem_of_getElem? (i := 0) rfl)))))⟩
theorem flX4_read_31 : gFL wsX4_read RX4 31 4 0 RX4 TX4 4 := ⟨rfl, fun w h => List.mem_cons_of_mem _ (List.mem_append_left _ (List.mem_append_left _ (List.mem_append_right _ (h)))), Nat.le_of_ble_eq_true rfl, List.mem_cons_of_mem _ (List.mem_append_left _ (List.mem_append_left _ (List.mem_append_left _ (List.mem_append_left _ (List.mem_of_getElem? (i := 1) rfl)))))⟩
def F_X4_read (n0 : Nat) (v_camp_tents : Int32) (v_camp_said : Int32) (v_camp_wall : Int32) (v_camp_bridge : Int32) (v_camp_counted : Int32) (v_camp_day : Int32) (v_camp_z : Int32) (v_trial_tents : Int32) (v_trial_said : Int32) (v_trial_wall : Int32) (v_trial_bridge : Int32) (v_trial_counted : Int32) (v_trial_day : Int32) (v_trial_z : Int32) (f_camp_kinds : Nat → Int32) (f_camp_spots : Nat → Int32) (f_camp_yards : Nat → Int32) (f_trial_kinds : Nat → Int32) (f_trial_spots : Nat → Int32) (f_trial_yards : Nat → Int32) (v_a1_size : Int32) (v_a1_start : Int32) (v_a1_behind : Int32) (v_a1_sort : Int32) (v_a1_number : Int32) (f_a1_bytes : Nat → Int32) : Option (Int32 × Int32 × Int32 × Int32 × Int32 × Int32 × Int32 × Int32 × Int32 × Int32 × Int32 × Int32 × Int32 × Int32 × Int32 × (Nat → Int32) × (Nat → Int32) × (Nat → Int32) × (Nat → Int32) × (Nat → Int32) × (Nat → Int32) × Int32 × Int32 × Int32 × Int32) := bd10 (F_X0_become n0 v_trial_tents v_trial_said v_trial_wall v_trial_bridge v_trial_counted v_trial_day v_trial_z f_trial_kinds f_trial_spots f_trial_yards v_camp_tents v_camp_said v_camp_wall v_camp_bridge v_camp_counted v_camp_day v_camp_z f_camp_kinds f_camp_spots f_camp_yards) (fun x1 x2 x3 x4 x5 x6 x7 g8 g9 g10 => bd12 (F_X3_readText n0 v_a1_size v_a1_start v_a1_behind v_a1_sort v_a1_number f_a1_bytes x1 x2 x3 x4 x5 g8 g10) (fun x11 x12 x13 x14 x15 x16 x17 x18 x19 x20 g21 g22 => (if x11 < 0 then some (x11, v_camp_tents, v_camp_said, v_camp_wall, v_camp_bridge, v_camp_counted, v_camp_day, v_camp_z, x16, x17, x18, x19, x20, x6, x7, f_camp_kinds, f_camp_spots, f_camp_yards, g21, g9, g22, x12, x13, x14, x15) else bd10 (F_X0_become n0 v_camp_tents v_camp_said v_camp_wall v_camp_bridge v_camp_counted v_camp_day v_camp_z f_camp_kinds f_camp_spots f_camp_yards x16 x17 x18 x19 x20 x6 x7 g21 g9 g22) (fun x23 x24 x25 x26 x27 x28 x29 g30 g31 g32 => some (x11, x23, x24, x25, x26, x27, x28, x29, x16, x17, x18, x19, x20, x6, x7, g30, g31, g32, g21, g9, g22, x12, x13, x14, x15)))))
set_option maxRecDepth 100000 in
set_option maxHeartbeats 4000000 in
theorem k_X4_read (l : Launch) (dC : Nat → ClassId) (dI : Nat → Nat → Nat) (cI cB cO : ClassId) (n0 sz : Nat) (tK : Nat) (adK adV : Nat → Nat) (vF : Value) (a_t : Nat) (a_camp : Nat) (a_trial : Nat) (a_ears : Nat) (a_heardBefore : Nat) (a_camp_kinds : Nat) (a_camp_yards : Nat) (a_camp_spots : Nat) (a_trial_kinds : Nat) (a_trial_yards : Nat) (a_trial_spots : Nat) (a_a1 : Nat) (a_a1_bytes : Nat)   (v_camp_tents : Int32) (v_camp_said : Int32) (v_camp_wall : Int32) (v_camp_bridge : Int32) (v_camp_counted : Int32) (v_camp_day : Int32) (v_camp_z : Int32) (v_trial_tents : Int32) (v_trial_said : Int32) (v_trial_wall : Int32) (v_trial_bridge : Int32) (v_trial_counted : Int32) (v_trial_day : Int32) (v_trial_z : Int32) (f_camp_kinds : Nat → Int32) (f_camp_spots : Nat → Int32) (f_camp_yards : Nat → Int32) (f_trial_kinds : Nat → Int32) (f_trial_spots : Nat → Int32) (f_trial_yards : Nat → Int32) (v_a1_size : Int32) (v_a1_start : Int32) (v_a1_behind : Int32) (v_a1_sort : Int32) (v_a1_number : Int32) (f_a1_bytes : Nat → Int32)   {ro : Int32} {o0 : Int32} {o1 : Int32} {o2 : Int32} {o3 : Int32} {o4 : Int32} {o5 : Int32} {o6 : Int32} {o7 : Int32} {o8 : Int32} {o9 : Int32} {o10 : Int32} {o11 : Int32} {o12 : Int32} {o13 : Int32} {o14 : Nat → Int32} {o15 : Nat → Int32} {o16 : Nat → Int32} {o17 : Nat → Int32} {o18 : Nat → Int32} {o19 : Nat → Int32} {o20 : Int32} {o21 : Int32} {o22 : Int32} {o23 : Int32} (hF : F_X4_read n0 v_camp_tents v_camp_said v_camp_wall v_camp_bridge v_camp_counted v_camp_day v_camp_z v_trial_tents v_trial_said v_trial_wall v_trial_bridge v_trial_counted v_trial_day v_trial_z f_camp_kinds f_camp_spots f_camp_yards f_trial_kinds f_trial_spots f_trial_yards v_a1_size v_a1_start v_a1_behind v_a1_sort v_a1_number f_a1_bytes = some (ro, o0, o1, o2, o3, o4, o5, o6, o7, o8, o9, o10, o11, o12, o13, o14, o15, o16, o17, o18, o19, o20, o21, o22, o23)) : Met l yX4_read wsX4_read rmX4_read (va_Pc [.ref a_t, .ref a_a1] (gPreE tK adK adV vF (dC, dI) (gT cI cB cO) sz [oX4 a_t a_camp a_trial a_ears a_heardBefore, oX0 a_camp a_camp_kinds a_camp_yards a_camp_spots v_camp_tents v_camp_said v_camp_wall v_camp_bridge v_camp_counted v_camp_day v_camp_z, oX0 a_trial a_trial_kinds a_trial_yards a_trial_spots v_trial_tents v_trial_said v_trial_wall v_trial_bridge v_trial_counted v_trial_day v_trial_z, aA cI a_camp_kinds 10 f_camp_kinds, aA cI a_camp_spots 10 f_camp_spots, aA cI a_camp_yards 10 f_camp_yards, aA cI a_trial_kinds 10 f_trial_kinds, aA cI a_trial_spots 10 f_trial_spots, aA cI a_trial_yards 10 f_trial_yards, oX3 a_a1 v_a1_size a_a1_bytes v_a1_start v_a1_behind v_a1_sort v_a1_number, aA cI a_a1_bytes 120 f_a1_bytes])) (gQi (dC, dI) (gT cI cB cO) sz [oX4 a_t a_camp a_trial a_ears a_heardBefore, oX0 a_camp a_camp_kinds a_camp_yards a_camp_spots v_camp_tents v_camp_said v_camp_wall v_camp_bridge v_camp_counted v_camp_day v_camp_z, oX0 a_trial a_trial_kinds a_trial_yards a_trial_spots v_trial_tents v_trial_said v_trial_wall v_trial_bridge v_trial_counted v_trial_day v_trial_z, aA cI a_camp_kinds 10 f_camp_kinds, aA cI a_camp_spots 10 f_camp_spots, aA cI a_camp_yards 10 f_camp_yards, aA cI a_trial_kinds 10 f_trial_kinds, aA cI a_trial_spots 10 f_trial_spots, aA cI a_trial_yards 10 f_trial_yards, oX3 a_a1 v_a1_size a_a1_bytes v_a1_start v_a1_behind v_a1_sort v_a1_number, aA cI a_a1_bytes 120 f_a1_bytes] ro [oX4 a_t a_camp a_trial a_ears a_heardBefore, oX0 a_camp a_camp_kinds a_camp_yards a_camp_spots o0 o1 o2 o3 o4 o5 o6, oX0 a_trial a_trial_kinds a_trial_yards a_trial_spots o7 o8 o9 o10 o11 o12 o13, aA cI a_camp_kinds 10 o14, aA cI a_camp_spots 10 o15, aA cI a_camp_yards 10 o16, aA cI a_trial_kinds 10 o17, aA cI a_trial_spots 10 o18, aA cI a_trial_yards 10 o19, oX3 a_a1 v_a1_size a_a1_bytes o20 o21 o22 o23, aA cI a_a1_bytes 120 f_a1_bytes]) 0 0 (va_A [oX4 a_t a_camp a_trial a_ears a_heardBefore, oX0 a_camp a_camp_kinds a_camp_yards a_camp_spots v_camp_tents v_camp_said v_camp_wall v_camp_bridge v_camp_counted v_camp_day v_camp_z, oX0 a_trial a_trial_kinds a_trial_yards a_trial_spots v_trial_tents v_trial_said v_trial_wall v_trial_bridge v_trial_counted v_trial_day v_trial_z, aA cI a_camp_kinds 10 f_camp_kinds, aA cI a_camp_spots 10 f_camp_spots, aA cI a_camp_yards 10 f_camp_yards, aA cI a_trial_kinds 10 f_trial_kinds, aA cI a_trial_spots 10 f_trial_spots, aA cI a_trial_yards 10 f_trial_yards, oX3 a_a1 v_a1_size a_a1_bytes v_a1_start v_a1_behind v_a1_sort v_a1_number, aA cI a_a1_bytes 120 f_a1_bytes] sz) := by
  refine g_metIE (Out := Int32 × Int32 × Int32 × Int32 × Int32 × Int32 × Int32 × Int32 × Int32 × Int32 × Int32 × Int32 × Int32 × Int32 × Int32 × (Nat → Int32) × (Nat → Int32) × (Nat → Int32) × (Nat → Int32) × (Nat → Int32) × (Nat → Int32) × Int32 × Int32 × Int32 × Int32) (fun oo => oo.1) (fun oo => [oX4 a_t a_camp a_trial a_ears a_heardBefore, oX0 a_camp a_camp_kinds a_camp_yards a_camp_spots oo.2.1 oo.2.2.1 oo.2.2.2.1 oo.2.2.2.2.1 oo.2.2.2.2.2.1 oo.2.2.2.2.2.2.1 oo.2.2.2.2.2.2.2.1, oX0 a_trial a_trial_kinds a_trial_yards a_trial_spots oo.2.2.2.2.2.2.2.2.1 oo.2.2.2.2.2.2.2.2.2.1 oo.2.2.2.2.2.2.2.2.2.2.1 oo.2.2.2.2.2.2.2.2.2.2.2.1 oo.2.2.2.2.2.2.2.2.2.2.2.2.1 oo.2.2.2.2.2.2.2.2.2.2.2.2.2.1 oo.2.2.2.2.2.2.2.2.2.2.2.2.2.2.1, aA cI a_camp_kinds 10 oo.2.2.2.2.2.2.2.2.2.2.2.2.2.2.2.1, aA cI a_camp_spots 10 oo.2.2.2.2.2.2.2.2.2.2.2.2.2.2.2.2.1, aA cI a_camp_yards 10 oo.2.2.2.2.2.2.2.2.2.2.2.2.2.2.2.2.2.1, aA cI a_trial_kinds 10 oo.2.2.2.2.2.2.2.2.2.2.2.2.2.2.2.2.2.2.1, aA cI a_trial_spots 10 oo.2.2.2.2.2.2.2.2.2.2.2.2.2.2.2.2.2.2.2.1, aA cI a_trial_yards 10 oo.2.2.2.2.2.2.2.2.2.2.2.2.2.2.2.2.2.2.2.2.1, oX3 a_a1 v_a1_size a_a1_bytes oo.2.2.2.2.2.2.2.2.2.2.2.2.2.2.2.2.2.2.2.2.2.1 oo.2.2.2.2.2.2.2.2.2.2.2.2.2.2.2.2.2.2.2.2.2.2.1 oo.2.2.2.2.2.2.2.2.2.2.2.2.2.2.2.2.2.2.2.2.2.2.2.1 oo.2.2.2.2.2.2.2.2.2.2.2.2.2.2.2.2.2.2.2.2.2.2.2.2, aA cI a_a1_bytes 120 f_a1_bytes]) (ro, o0, o1, o2, o3, o4, o5, o6, o7, o8, o9, o10, o11, o12, o13, o14, o15, o16, o17, o18, o19, o20, o21, o22, o23) (own := RX4) (lv := [(0, .ref a_t), (1, .ref a_a1)]) (by decide) rfl rfl (Nat.le_of_ble_eq_true rfl) rfl ?_
  intro p e s m args below meth c Q ls C hret hV hl hE
  obtain ⟨out, hout⟩ : ∃ z : Int32 × Int32 × Int32 × Int32 × Int32 × Int32 × Int32 × Int32 × Int32 × Int32 × Int32 × Int32 × Int32 × Int32 × Int32 × (Nat → Int32) × (Nat → Int32) × (Nat → Int32) × (Nat → Int32) × (Nat → Int32) × (Nat → Int32) × Int32 × Int32 × Int32 × Int32, z = (ro, o0, o1, o2, o3, o4, o5, o6, o7, o8, o9, o10, o11, o12, o13, o14, o15, o16, o17, o18, o19, o20, o21, o22, o23) := ⟨_, rfl⟩
  rw [← hout] at hF hret
  obtain ⟨H0, hH0⟩ : ∃ z : Heap, z = s.heap := ⟨_, rfl⟩
  obtain ⟨A0, hA0⟩ : ∃ z : Nat → Prop, z = va_A [oX4 a_t a_camp a_trial a_ears a_heardBefore, oX0 a_camp a_camp_kinds a_camp_yards a_camp_spots v_camp_tents v_camp_said v_camp_wall v_camp_bridge v_camp_counted v_camp_day v_camp_z, oX0 a_trial a_trial_kinds a_trial_yards a_trial_spots v_trial_tents v_trial_said v_trial_wall v_trial_bridge v_trial_counted v_trial_day v_trial_z, aA cI a_camp_kinds 10 f_camp_kinds, aA cI a_camp_spots 10 f_camp_spots, aA cI a_camp_yards 10 f_camp_yards, aA cI a_trial_kinds 10 f_trial_kinds, aA cI a_trial_spots 10 f_trial_spots, aA cI a_trial_yards 10 f_trial_yards, oX3 a_a1 v_a1_size a_a1_bytes v_a1_start v_a1_behind v_a1_sort v_a1_number, aA cI a_a1_bytes 120 f_a1_bytes] s.heap.size := ⟨_, rfl⟩
  rw [← hA0] at hret hV hE
  rw [← hH0] at hret hV
  rw [← hH0]
  obtain ⟨H, locs, hH⟩ : ∃ (z : Heap) (y : List Loc), z = H0 ∧ y = [] := ⟨_, _, rfl, rfl⟩
  rw [← hH.1, ← hH.2]
  have hV : gV (dC, dI) (gT cI cB cO) A0 H0 s [oX4 a_t a_camp a_trial a_ears a_heardBefore, oX0 a_camp a_camp_kinds a_camp_yards a_camp_spots v_camp_tents v_camp_said v_camp_wall v_camp_bridge v_camp_counted v_camp_day v_camp_z, oX0 a_trial a_trial_kinds a_trial_yards a_trial_spots v_trial_tents v_trial_said v_trial_wall v_trial_bridge v_trial_counted v_trial_day v_trial_z, aA cI a_camp_kinds 10 f_camp_kinds, aA cI a_camp_spots 10 f_camp_spots, aA cI a_camp_yards 10 f_camp_yards, aA cI a_trial_kinds 10 f_trial_kinds, aA cI a_trial_spots 10 f_trial_spots, aA cI a_trial_yards 10 f_trial_yards, oX3 a_a1 v_a1_size a_a1_bytes v_a1_start v_a1_behind v_a1_sort v_a1_number, aA cI a_a1_bytes 120 f_a1_bytes] H locs := by rw [hH.1, hH.2]; exact hV
  unfold F_X4_read at hF
  refine lv_aload_n C.1 C.2.1 dX4_read_0 rfl (lv_at hl 0 rfl) ?_
  refine g_get C hV flX4_read_12 0 rfl rfl dX4_read_1 ?_
  refine lv_aload_n C.1 C.2.1 dX4_read_4 rfl (lv_at hl 0 rfl) ?_
  refine g_get C hV flX4_read_31 0 rfl rfl dX4_read_5 ?_
  obtain ⟨x1, x2, x3, x4, x5, x6, x7, g8, g9, g10, hc, hF⟩ := bd10_s hF
  refine g_cVv (ws' := [oX4 a_t a_camp a_trial a_ears a_heardBefore, oX0 a_camp a_camp_kinds a_camp_yards a_camp_spots v_camp_tents v_camp_said v_camp_wall v_camp_bridge v_camp_counted v_camp_day v_camp_z, oX0 a_trial a_trial_kinds a_trial_yards a_trial_spots x1 x2 x3 x4 x5 x6 x7, aA cI a_camp_kinds 10 f_camp_kinds, aA cI a_camp_spots 10 f_camp_spots, aA cI a_camp_yards 10 f_camp_yards, aA cI a_trial_kinds 10 g8, aA cI a_trial_spots 10 g9, aA cI a_trial_yards 10 g10, oX3 a_a1 v_a1_size a_a1_bytes v_a1_start v_a1_behind v_a1_sort v_a1_number, aA cI a_a1_bytes 120 f_a1_bytes]) (wr := [oX4 a_t a_camp a_trial a_ears a_heardBefore, oX3 a_a1 v_a1_size a_a1_bytes v_a1_start v_a1_behind v_a1_sort v_a1_number, aA cI a_a1_bytes 120 f_a1_bytes]) C hV (k_X0_become l dC dI cI cB cO n0 H.size a_trial a_trial_kinds a_trial_yards a_trial_spots a_camp a_camp_kinds a_camp_yards a_camp_spots v_trial_tents v_trial_said v_trial_wall v_trial_bridge v_trial_counted v_trial_day v_trial_z f_trial_kinds f_trial_spots f_trial_yards v_camp_tents v_camp_said v_camp_wall v_camp_bridge v_camp_counted v_camp_day v_camp_z f_camp_kinds f_camp_spots f_camp_yards hc) mdX0_become gX4_read_X0_become rfl rfl ⟨Nat.le_of_ble_eq_true rfl, Nat.le_of_ble_eq_true rfl⟩ [2, 6, 7, 8, 1, 3, 4, 5] [0, 9, 10] [0, 7, 3, 8, 9, 10, 4, 5, 6, 1, 2] rfl rfl rfl rfl rfl rfl rfl rfl rfl rfl hl.1 (Nat.le_of_ble_eq_true rfl) rfl dX4_read_8 (fun H locs hV => ?_)
  refine lv_aload_n C.1 C.2.1 dX4_read_11 rfl (lv_at hl 1 rfl) ?_
  refine lv_aload_n C.1 C.2.1 dX4_read_12 rfl (lv_at hl 0 rfl) ?_
  refine g_get C hV flX4_read_12 0 rfl rfl dX4_read_13 ?_
  obtain ⟨x11, x12, x13, x14, x15, x16, x17, x18, x19, x20, g21, g22, hc, hF⟩ := bd12_s hF
  refine g_cEVi (ws' := [oX4 a_t a_camp a_trial a_ears a_heardBefore, oX0 a_camp a_camp_kinds a_camp_yards a_camp_spots v_camp_tents v_camp_said v_camp_wall v_camp_bridge v_camp_counted v_camp_day v_camp_z, oX0 a_trial a_trial_kinds a_trial_yards a_trial_spots x16 x17 x18 x19 x20 x6 x7, aA cI a_camp_kinds 10 f_camp_kinds, aA cI a_camp_spots 10 f_camp_spots, aA cI a_camp_yards 10 f_camp_yards, aA cI a_trial_kinds 10 g21, aA cI a_trial_spots 10 g9, aA cI a_trial_yards 10 g22, oX3 a_a1 v_a1_size a_a1_bytes x12 x13 x14 x15, aA cI a_a1_bytes 120 f_a1_bytes]) (wr := [oX4 a_t a_camp a_trial a_ears a_heardBefore, oX0 a_camp a_camp_kinds a_camp_yards a_camp_spots v_camp_tents v_camp_said v_camp_wall v_camp_bridge v_camp_counted v_camp_day v_camp_z, aA cI a_camp_kinds 10 f_camp_kinds, aA cI a_camp_spots 10 f_camp_spots, aA cI a_camp_yards 10 f_camp_yards, aA cI a_trial_spots 10 g9]) C hV hE hH0 (k_X3_readText l dC dI cI cB cO n0 H.size tK adK adV vF a_a1 a_a1_bytes a_trial a_trial_kinds a_trial_yards a_trial_spots v_a1_size v_a1_start v_a1_behind v_a1_sort v_a1_number f_a1_bytes x1 x2 x3 x4 x5 x6 x7 g8 g10 hc) mdX3_readText gX4_read_X3_readText rfl rfl ⟨Nat.le_of_ble_eq_true rfl, Nat.le_of_ble_eq_true rfl⟩ [9, 10, 2, 6, 8] [0, 1, 3, 4, 5, 7] [0, 1, 8, 2, 3, 4, 9, 5, 10, 6, 7] rfl rfl rfl rfl rfl rfl rfl rfl rfl rfl hl.1 (Nat.le_of_ble_eq_true rfl) rfl dX4_read_16 (fun H locs hV => ?_)
  refine lv_istore_n (lv' := [(2, .int x11), (0, .ref a_t), (1, .ref a_a1)]) C.1 C.2.1 dX4_read_19 rfl hl (by decide) rfl (fun ls hl => ?_)
  refine lv_iload_n C.1 C.2.1 dX4_read_20 rfl (lv_at hl 0 rfl) ?_
  refine g_if_lt (tgt := 35) C hF dX4_read_21 rfl (fun hF => ?_) (fun hF => ?_)
  · refine lv_iload_n C.1 C.2.1 dX4_read_35 rfl (lv_at hl 0 rfl) ?_
    exact hret (x11, v_camp_tents, v_camp_said, v_camp_wall, v_camp_bridge, v_camp_counted, v_camp_day, v_camp_z, x16, x17, x18, x19, x20, x6, x7, f_camp_kinds, f_camp_spots, f_camp_yards, g21, g9, g22, x12, x13, x14, x15) _ _ _ _ dX4_read_36 hF hV
  refine lv_aload_n C.1 C.2.1 dX4_read_24 rfl (lv_at hl 1 rfl) ?_
  refine g_get C hV flX4_read_31 0 rfl rfl dX4_read_25 ?_
  refine lv_aload_n C.1 C.2.1 dX4_read_28 rfl (lv_at hl 1 rfl) ?_
  refine g_get C hV flX4_read_12 0 rfl rfl dX4_read_29 ?_
  obtain ⟨x23, x24, x25, x26, x27, x28, x29, g30, g31, g32, hc, hF⟩ := bd10_s hF
  refine g_cVv (ws' := [oX4 a_t a_camp a_trial a_ears a_heardBefore, oX0 a_camp a_camp_kinds a_camp_yards a_camp_spots x23 x24 x25 x26 x27 x28 x29, oX0 a_trial a_trial_kinds a_trial_yards a_trial_spots x16 x17 x18 x19 x20 x6 x7, aA cI a_camp_kinds 10 g30, aA cI a_camp_spots 10 g31, aA cI a_camp_yards 10 g32, aA cI a_trial_kinds 10 g21, aA cI a_trial_spots 10 g9, aA cI a_trial_yards 10 g22, oX3 a_a1 v_a1_size a_a1_bytes x12 x13 x14 x15, aA cI a_a1_bytes 120 f_a1_bytes]) (wr := [oX4 a_t a_camp a_trial a_ears a_heardBefore, oX3 a_a1 v_a1_size a_a1_bytes x12 x13 x14 x15, aA cI a_a1_bytes 120 f_a1_bytes]) C hV (k_X0_become l dC dI cI cB cO n0 H.size a_camp a_camp_kinds a_camp_yards a_camp_spots a_trial a_trial_kinds a_trial_yards a_trial_spots v_camp_tents v_camp_said v_camp_wall v_camp_bridge v_camp_counted v_camp_day v_camp_z f_camp_kinds f_camp_spots f_camp_yards x16 x17 x18 x19 x20 x6 x7 g21 g9 g22 hc) mdX0_become gX4_read_X0_become rfl rfl ⟨Nat.le_of_ble_eq_true rfl, Nat.le_of_ble_eq_true rfl⟩ [1, 3, 4, 5, 2, 6, 7, 8] [0, 9, 10] [0, 3, 7, 4, 5, 6, 8, 9, 10, 1, 2] rfl rfl rfl rfl rfl rfl rfl rfl rfl rfl hl.1 (Nat.le_of_ble_eq_true rfl) rfl dX4_read_32 (fun H locs hV => ?_)
  refine lv_iload_n C.1 C.2.1 dX4_read_35 rfl (lv_at hl 0 rfl) ?_
  exact hret (x11, x23, x24, x25, x26, x27, x28, x29, x16, x17, x18, x19, x20, x6, x7, g30, g31, g32, g21, g9, g22, x12, x13, x14, x15) _ _ _ _ dX4_read_36 hF hV
