/-! the law: general calls, loads of the script -/
section
variable {p : Program} {l : Launch} {e : Env} {R : Room} {s : State} {m : MethodId} {args : Array Value} {below : List Frame} {meth : Method} {c : Code} {H : Heap} {locs : List Loc} {cells slots : Nat} {Q : State → Prop}
variable {Ts : List Cond} {cc : ByteArray} {nL : Nat} {own : String} {pc : Nat} {ls : Array Slot} {rest st : List Value}
variable {D : va_G} {tys : List (ClassId × FieldType)} {A : Nat → Prop} {H0 : Heap} {ws ws' : va_W}
variable {tK : Nat} {adK adV : Nat → Nat} {vF : Value}
theorem g_sld (C : CallFix p m c cc nL s args Ts own) {b L : Nat} {xs : Nat → Int32} (hX : va_X b L xs s H0) (hbl : b < H0.size) (hbA : ¬ A b) (hV : gV D tys A H0 s ws H locs) {i k : Nat} {kI : Int32} (hk : kI = nI k) (hlt : i + k < L) (hL : L ≤ 3072) (hdg : decode cc pc = .ok (.iaload, 1))
    (kk : W p l e R s m args below meth c H locs cells slots Q (F0 m (pc + 1) ls (.int (xs (i + k)) :: rest))) : W p l e R s m args below meth c H locs cells slots Q (F0 m pc ls (.int (nI i + kI) :: .ref b :: rest)) := by
  subst hk
  rw [nI_add]
  refine va_sld C.1 C.2.1 hX hbl hbA hV.2.2.2.1 (vp_in_nI hlt (by omega)) hdg ?_
  rw [nI_clamp (by omega)]
  exact kk
theorem g_cViG {y : MethodName} {wsc : List Cond} {rmc : Room} {bytes : ByteArray} {maxL n index : Nat} {ret : Option FieldType} {b : Nat} {As : List Value} {wc wr w1 : va_W} {r : Int32} (C : CallFix p m c cc nL s args Ts own) (hV : gV D tys A H0 s ws H locs) 
    (hM : Met l y wsc rmc (va_Pc (.ref b :: As) (gPre D tys H.size wc)) (gQi D tys H.size wc r w1) 0 0 (va_A wc H.size)) (hmd : gMd y wsc bytes maxL ret n) (hT : GoodIn Ts (wsV own index y.cls y wsc)) (hrc : rmc.cells = 0) (hrs : rmc.slots = 0) (hRm : rmc.frames + 1 ≤ R.frames ∧ 8 + (maxL + 11) + rmc.locals ≤ R.locals) (hcs : cells + 0 ≤ R.cells ∧ slots + 0 ≤ R.slots)
    (isC isR isP : List Nat) (hC : isC.map (fun i => ws[i]?) = wc.map some) (hR : isR.map (fun i => ws[i]?) = wr.map some) (hnC : va_nd isC = true) (hn : va_nd isR = true) (hdis : isR.all (fun i => !isC.contains i) = true) (hPs : isP.map (fun i => (wr ++ w1)[i]?) = ws'.map some) (hnP : va_nd isP = true)
    {ci : Nat} {fs : List Value} {T : u_T} {N : Nat} (hrc0 : wc[0]? = some (b, .inr (ci, fs))) (hci : vwCl[ci]? = some (y.cls, T, N)) (hAs : As.length = n) (hls : ls.size = nL) (hroom : (rest.map fun v => v.category).sum ≤ 8) (hst : st = As.reverse ++ .ref b :: rest) (hdg : decode cc pc = .ok (.invokevirtual index, 3))
    (kk : ∀ (H1 : Heap) (locs1 : List Loc), gV D tys A H0 s ws' H1 locs1 → W p l e R s m args below meth c H1 locs1 cells slots Q (F0 m (pc + 3) ls (.int r :: rest))) : W p l e R s m args below meth c H locs cells slots Q (F0 m pc ls st) := by
  obtain ⟨hK, hP, hD, hS, hA⟩ := hV
  obtain ⟨⟨wsc', hw⟩, hd⟩ := hmd
  have hPc : va_P D vwCl wc H := g_Psub hP hC
  have hDc := hD.sub isC hnC hC
  have hFc := va_free hD hS hA isC hC
  have hbl : FrameBlind (va_Pc (.ref b :: As) (gPre D tys H.size wc)) := fun a U g mk q => by
    obtain ⟨q0, q1, qP, qK, qD⟩ := q
    exact ⟨q0, q1, qP, va_K.moved (u := U) (U := U.calling g mk a) (Vm.Alike.refl U.vm) qK, qD⟩
  have hpre : ∀ U : State, U.heap = H → s.WarmedH U.vm → va_Pc (.ref b :: As) (gPre D tys H.size wc) (.ref b :: As).toArray U := fun U hU hW => ⟨rfl, by rw [hU], by rw [hU]; exact hPc, va_K.moved hW.alike hK, hDc.weaken (fun _ _ _ _ => trivial)⟩
  have hdis' : ∀ i ∈ isR, i ∉ isC := fun i hi hc => by
    have h9 := List.all_eq_true.mp hdis i hi
    simp only [Bool.not_eq_true'] at h9
    rw [List.contains_iff_mem.mpr hc] at h9
    cases h9
  have hroom' := lv_room (m := m) (pc := pc) (ls := ls) (rest := st) hroom
  refine va_calli (va_runV (As := As) (rest := rest) C hM (cwV n C.2.2.2.2 hT hw hrc hrs ⟨rfl, hd⟩ hRm) ⟨hbl, va_recv hK hPc hci hrc0, hpre⟩ rfl hAs hls hst hroom' hdg hcs) hS (fun q _ h => hFc q h) hFc (fun r' u t H1 locs1 ht hvm hpo hB hz1 hk1 hS1 => ?_)
  obtain ⟨hP1, hK1, hD1⟩ := hB
  rw [ht] at hP1
  obtain ⟨hPn, hDn⟩ := va_join hP hD isC isR hC hR hn hdis' hk1 hFc hP1 hD1
  subst hpo
  exact kk H1 locs1 ⟨hK, g_Psub hPn hPs, hDn.sub isP hnP hPs, hS1, hA⟩
theorem g_cEViG {y : MethodName} {wsc : List Cond} {rmc : Room} {bytes : ByteArray} {maxL n index : Nat} {ret : Option FieldType} {b : Nat} {As : List Value} {wc wr w1 : va_W} {r : Int32} (C : CallFix p m c cc nL s args Ts own) (hV : gV D tys A H0 s ws H locs) (hE : gE tK adK adV vF A s s.heap) (hH0 : H0 = s.heap) 
    (hM : Met l y wsc rmc (va_Pc (.ref b :: As) (gPreE tK adK adV vF D tys H.size wc)) (gQi D tys H.size wc r w1) 0 0 (va_A wc H.size)) (hmd : gMd y wsc bytes maxL ret n) (hT : GoodIn Ts (wsV own index y.cls y wsc)) (hrc : rmc.cells = 0) (hrs : rmc.slots = 0) (hRm : rmc.frames + 1 ≤ R.frames ∧ 8 + (maxL + 11) + rmc.locals ≤ R.locals) (hcs : cells + 0 ≤ R.cells ∧ slots + 0 ≤ R.slots)
    (isC isR isP : List Nat) (hC : isC.map (fun i => ws[i]?) = wc.map some) (hR : isR.map (fun i => ws[i]?) = wr.map some) (hnC : va_nd isC = true) (hn : va_nd isR = true) (hdis : isR.all (fun i => !isC.contains i) = true) (hPs : isP.map (fun i => (wr ++ w1)[i]?) = ws'.map some) (hnP : va_nd isP = true)
    {ci : Nat} {fs : List Value} {T : u_T} {N : Nat} (hrc0 : wc[0]? = some (b, .inr (ci, fs))) (hci : vwCl[ci]? = some (y.cls, T, N)) (hAs : As.length = n) (hls : ls.size = nL) (hroom : (rest.map fun v => v.category).sum ≤ 8) (hst : st = As.reverse ++ .ref b :: rest) (hdg : decode cc pc = .ok (.invokevirtual index, 3))
    (kk : ∀ (H1 : Heap) (locs1 : List Loc), gV D tys A H0 s ws' H1 locs1 → W p l e R s m args below meth c H1 locs1 cells slots Q (F0 m (pc + 3) ls (.int r :: rest))) : W p l e R s m args below meth c H locs cells slots Q (F0 m pc ls st) := by
  obtain ⟨hK, hP, hD, hS, hA⟩ := hV
  obtain ⟨⟨wsc', hw⟩, hd⟩ := hmd
  have hPc : va_P D vwCl wc H := g_Psub hP hC
  have hDc := hD.sub isC hnC hC
  have hFc := va_free hD hS hA isC hC
  have hbl : FrameBlind (va_Pc (.ref b :: As) (gPreE tK adK adV vF D tys H.size wc)) := fun a U g mk q => by
    obtain ⟨q0, ⟨q1, qP, qK, qD⟩, qE⟩ := q
    exact ⟨q0, ⟨q1, qP, va_K.moved (u := U) (U := U.calling g mk a) (Vm.Alike.refl U.vm) qK, qD⟩, gE_fr g mk a qE⟩
  have hpre : ∀ U : State, U.heap = H → s.WarmedH U.vm → va_Pc (.ref b :: As) (gPreE tK adK adV vF D tys H.size wc) (.ref b :: As).toArray U := fun U hU hW => ⟨rfl, ⟨by rw [hU], by rw [hU]; exact hPc, va_K.moved hW.alike hK, hDc.weaken (fun _ _ _ _ => trivial)⟩, by rw [hU]; exact gE_to hE hW (fun a h1 h2 => (hH0 ▸ hS).2.1 a h1 h2) hFc⟩
  have hdis' : ∀ i ∈ isR, i ∉ isC := fun i hi hc => by
    have h9 := List.all_eq_true.mp hdis i hi
    simp only [Bool.not_eq_true'] at h9
    rw [List.contains_iff_mem.mpr hc] at h9
    cases h9
  have hroom' := lv_room (m := m) (pc := pc) (ls := ls) (rest := st) hroom
  refine va_calli (va_runV (As := As) (rest := rest) C hM (cwV n C.2.2.2.2 hT hw hrc hrs ⟨rfl, hd⟩ hRm) ⟨hbl, va_recv hK hPc hci hrc0, hpre⟩ rfl hAs hls hst hroom' hdg hcs) hS (fun q _ h => hFc q h) hFc (fun r' u t H1 locs1 ht hvm hpo hB hz1 hk1 hS1 => ?_)
  obtain ⟨hP1, hK1, hD1⟩ := hB
  rw [ht] at hP1
  obtain ⟨hPn, hDn⟩ := va_join hP hD isC isR hC hR hn hdis' hk1 hFc hP1 hD1
  subst hpo
  exact kk H1 locs1 ⟨hK, g_Psub hPn hPs, hDn.sub isP hnP hPs, hS1, hA⟩
end
