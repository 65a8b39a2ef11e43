/-! constructors: rows that make cells -/
def zf : Nat → Int32 := fun _ => 0
def spF : Nat → Int32 := fun j => if j < 10 then -1 else 0
theorem fill_run {N : Nat} {v : Int32} (hN : N < 2 ^ 31) : ∀ (k i n : Nat) (f : Nat → Int32), i + k = N → k < n → L_J7_fill_53178_5 N v n (nI i) f = some (fun j => if i ≤ j ∧ j < N then v else f j) := by
  intro k
  induction k with
  | zero =>
    intro i n f h1 h2
    obtain ⟨n, rfl⟩ : ∃ q, n = q + 1 := ⟨n - 1, by omega⟩
    rw [L_J7_fill_53178_5_u, if_pos (show Int32.ofNat N ≤ nI i from nI_le (by omega) (by omega))]
    refine congrArg some (funext fun j => ?_)
    rw [if_neg (by omega)]
  | succ k ih =>
    intro i n f h1 h2
    obtain ⟨n, rfl⟩ : ∃ q, n = q + 1 := ⟨n - 1, by omega⟩
    have hx : ixb (nI i) N = true := by
      simp only [ixb, Bool.and_eq_true, decide_eq_true_eq]
      rw [nI_toInt (by omega)]
      omega
    rw [L_J7_fill_53178_5_u, if_neg (show ¬ Int32.ofNat N ≤ nI i from nI_ge (by omega) (by omega)), wrt, if_pos hx, nm, nI_1, ih (i + 1) n _ (by omega) (by omega), nI_clamp (by omega)]
    refine congrArg some (funext fun j => ?_)
    by_cases h3 : i + 1 ≤ j ∧ j < N
    · rw [if_pos h3, if_pos (by omega)]
    · rw [if_neg h3]
      by_cases h4 : j = i
      · subst h4
        rw [if_pos (by omega), pk_us]
      · rw [if_neg (by omega), pk_un h4]
theorem fill_all {N n0 : Nat} {v : Int32} {f : Nat → Int32} (hN : N < 2 ^ 31) (h : N < n0) : F_J7_fill_53178 n0 N f v = some (fun j => if j < N then v else f j) := by
  unfold F_J7_fill_53178
  rw [← nI_0, fill_run hN N 0 n0 f (by omega) h]
  refine congrArg some (funext fun j => ?_)
  by_cases h3 : j < N
  · rw [if_pos h3, if_pos (by omega)]
  · rw [if_neg h3, if_neg (by omega)]
section
variable {p : Program} {l : Launch} {e : Env} {R : Room} {s : State} {m : MethodId} {args : Array Value} {below : List Frame} {meth : Method} {c : Code} {H : Heap} {locs : List Loc} {cells slots : Nat} {Q : State → Prop}
variable {Ts : List Cond} {cc : ByteArray} {nL : Nat} {own : String} {pc : Nat} {ls : Array Slot} {rest st : List Value}
variable {D : va_G} {tys : List (ClassId × FieldType)} {A : Nat → Prop} {H0 : Heap} {ws ws' : va_W}
theorem g_putF (C : CallFix p m c cc nL s args Ts own) (hi : meth.name = "<init>") (hV : gV D tys A H0 s ws H locs) {index ci k N : Nat} {Cn : String} {T : u_T} {ty : FieldType} (hf : gFL Ts own index ci k Cn T N) (ty0 : Nat → FieldType) (hty : ∀ k, k < N → parseFieldDescriptor (T k).2.2.1 = some (ty0 k)) (hnm : ∀ a, a < N → ∀ b, b < N → a ≠ b → (T a).2.1 ≠ (T b).2.1) (hfin : (T k).2.2.2 = true) (hdecl : (T k).1 = own) (hd : parseFieldDescriptor (T k).2.2.1 = some ty) (q0 : Nat) {a : Nat} {fs : List Value} (he : ws[q0]? = some (a, .inr (ci, fs))) {v : Value} (hn : narrow ty v = v) (hfit : fits ty v = true) (hl : k < fs.length) (hws : ws.set q0 (a, .inr (ci, fs.set k v)) = ws') (hdg : decode cc pc = .ok (.putfield index, 3))
    (kk : ∀ (H1 : Heap) (locs1 : List Loc), gV D tys A H0 s ws' H1 locs1 → W p l e R s m args below meth c H1 locs1 cells slots Q (F0 m (pc + 3) ls rest)) : W p l e R s m args below meth c H locs cells slots Q (F0 m pc ls (v :: .ref a :: rest)) := by
  obtain ⟨hK, hP, hD, hS, hA⟩ := hV
  obtain ⟨h1, h2, h3, h4⟩ := hf
  refine va_putF C.1 C.2.1 C.2.2.2.2 h2 ty0 hty hnm C.2.2.2.1 hK hP hD hS q0 he h1 k h3 (C.2.2.2.2 _ h4) (fun _ h => h) hfin hi hdecl hd hn hfit hl hdg (fun H1 locs1 hP1 hD1 hS1 => ?_)
  subst hws
  exact kk H1 locs1 ⟨hK, hP1, hD1, hS1, hA⟩
theorem g_newi (C : CallFix p m c cc nL s args Ts own) {cI cB cO : ClassId} (hV : gV D (gT cI cB cO) A H0 s ws H locs) (hw : Cond.arrayClass .int ∈ Ts) {n : Int32} (N : Nat) (hn : ¬ n < 0) (hN : n.toNatClampNeg = N) (hb : N ≤ 100000) (hcells : cells + 1 ≤ R.cells) (hslots : slots + N ≤ R.slots) (hdg : decode cc pc = .ok (.newarray .int, 2))
    (kk : ∀ (q : Nat) (H1 : Heap), gV D (gT cI cB cO) A H0 s (ws ++ [aA cI q N zf]) H1 locs → W p l e R s m args below meth c H1 locs (cells + 1) (slots + N) Q (F0 m (pc + 2) ls (.ref q :: rest))) : W p l e R s m args below meth c H locs cells slots Q (F0 m pc ls (.int n :: rest)) := by
  obtain ⟨hK, hP, hD, hS, hA⟩ := hV
  refine va_newa (atype := .int) (ty := .int) (a0 := (N, .inl zf)) C.1 C.2.1 (C.2.2.2.2 _ hw) rfl hK hP hD hS hA (fun cA => rfl) hn hN (by have h9 : componentBytes .int = 4 := rfl; rw [h9]; omega) hcells hslots hdg (fun q cA H1 hK1 hP1 hD1 hS1 => ?_)
  have h1 : va_RA s cA .int := (hK1.2 3 (cA, .int) rfl).2
  have h2 : va_RA s cI .int := (hK.2 0 (cI, .int) rfl).2
  have h3 : cA = cI := Option.some.inj ((show s.vm.findClass _ = some cA from h1).symm.trans (show s.vm.findClass _ = some cI from h2))
  subst h3
  exact kk q H1 ⟨hK, hP1, hD1, hS1, hA⟩
theorem g_newb (C : CallFix p m c cc nL s args Ts own) {cI cB cO : ClassId} (hV : gV D (gT cI cB cO) A H0 s ws H locs) (hw : Cond.arrayClass .byte ∈ Ts) {n : Int32} (N : Nat) (hn : ¬ n < 0) (hN : n.toNatClampNeg = N) (hb : N ≤ 100000) (hcells : cells + 1 ≤ R.cells) (hslots : slots + N ≤ R.slots) (hdg : decode cc pc = .ok (.newarray .byte, 2))
    (kk : ∀ (q : Nat) (H1 : Heap), gV D (gT cI cB cO) A H0 s (ws ++ [aA cB q N zf]) H1 locs → W p l e R s m args below meth c H1 locs (cells + 1) (slots + N) Q (F0 m (pc + 2) ls (.ref q :: rest))) : W p l e R s m args below meth c H locs cells slots Q (F0 m pc ls (.int n :: rest)) := by
  obtain ⟨hK, hP, hD, hS, hA⟩ := hV
  refine va_newa (atype := .byte) (ty := .byte) (a0 := (N, .inl zf)) C.1 C.2.1 (C.2.2.2.2 _ hw) rfl hK hP hD hS hA (fun cA => rfl) hn hN (by have h9 : componentBytes .byte = 1 := rfl; rw [h9]; omega) hcells hslots hdg (fun q cA H1 hK1 hP1 hD1 hS1 => ?_)
  have h1 : va_RA s cA .byte := (hK1.2 3 (cA, .byte) rfl).2
  have h2 : va_RA s cB .byte := (hK.2 1 (cB, .byte) rfl).2
  have h3 : cA = cB := Option.some.inj ((show s.vm.findClass _ = some cA from h1).symm.trans (show s.vm.findClass _ = some cB from h2))
  subst h3
  exact kk q H1 ⟨hK, hP1, hD1, hS1, hA⟩
theorem g_newq (C : CallFix p m c cc nL s args Ts own) {cI cB cO : ClassId} (hV : gV D (gT cI cB cO) A H0 s ws H locs) {index : Nat} (hcl : Cond.classLink own index RX2 ∈ Ts) (hao : va_AO RX2 s) {n : Int32} (N : Nat) (hn : ¬ n < 0) (hN : n.toNatClampNeg = N) (hb : N ≤ 100000) (hcells : cells + 1 ≤ R.cells) (hslots : slots + N ≤ R.slots) (hdg : decode cc pc = .ok (.anewarray index, 3))
    (kk : ∀ (q : Nat) (H1 : Heap), gV D (gT cI cB cO) A H0 s (ws ++ [aQ cO q N (fun _ => none)]) H1 locs → W p l e R s m args below meth c H1 locs (cells + 1) (slots + N) Q (F0 m (pc + 3) ls (.ref q :: rest))) : W p l e R s m args below meth c H locs cells slots Q (F0 m pc ls (.int n :: rest)) := by
  obtain ⟨hK, hP, hD, hS, hA⟩ := hV
  refine va_newq C.1 C.2.1 C.2.2.2.1 (C.2.2.2.2 _ hcl) hao hK hP hD hS hA hn hN (by omega) hcells hslots hdg (fun q cA H1 hK1 hP1 hD1 hS1 => ?_)
  have h1 : va_RA s cA (.object RX2) := (hK1.2 3 (cA, .object RX2) rfl).2
  have h2 : va_RA s cO (.object RX2) := (hK.2 2 (cO, .object RX2) rfl).2
  obtain ⟨_, _, _, _, _, h1⟩ := h1
  obtain ⟨_, _, _, _, _, h2⟩ := h2
  have h3 : cA = cO := Option.some.inj (h1.symm.trans h2)
  subst h3
  exact kk q H1 ⟨hK, hP1, hD1, hS1, hA⟩
theorem g_aast (C : CallFix p m c cc nL s args Ts own) {cI cB cO : ClassId} (hV : gV D (gT cI cB cO) A H0 s ws H locs) (q0 qk : Nat) {a n v : Nat} {vs : List Value} {f : Nat → Option Nat} (ha : ws[q0]? = some (a, .inl (cO, n, .inr (.inr (.inr (.inr f)))))) (hv : ws[qk]? = some (v, .inr (2, vs))) {i : Int32} (hin : vp_in i n) (hws : ws.set q0 (a, .inl (cO, n, .inr (.inr (.inr (.inr (va_up f i.toNatClampNeg (some v))))))) = ws') (hdg : decode cc pc = .ok (.aastore, 1))
    (kk : ∀ (H1 : Heap) (locs1 : List Loc), gV D (gT cI cB cO) A H0 s ws' H1 locs1 → W p l e R s m args below meth c H1 locs1 cells slots Q (F0 m (pc + 1) ls rest)) : W p l e R s m args below meth c H locs cells slots Q (F0 m pc ls (.ref v :: .int i :: .ref a :: rest)) := by
  obtain ⟨hK, hP, hD, hS, hA⟩ := hV
  refine va_astq C.1 C.2.1 hK hP hD hS q0 2 qk 2 (r := (RX2, TX2, 3)) ha rfl hv rfl hin hdg (fun H1 locs1 hP1 hD1 hS1 => ?_)
  subst hws
  exact kk H1 locs1 ⟨hK, hP1, hD1, hS1, hA⟩
theorem g_iasC (C : CallFix p m c cc nL s args Ts own) {cI cB cO : ClassId} (hV : gV D (gT cI cB cO) A H0 s ws H locs) (q0 : Nat) {a n : Nat} {f : Nat → Int32} (ha : ws[q0]? = some (a, .inl (cI, n, .inl f))) {i x : Int32} (hin : vp_in i n) (hws : ws.set q0 (a, .inl (cI, n, .inl (upd f i.toNatClampNeg x))) = ws') (hdg : decode cc pc = .ok (.iastore, 1))
    (kk : ∀ (H1 : Heap) (locs1 : List Loc), gV D (gT cI cB cO) A H0 s ws' H1 locs1 → W p l e R s m args below meth c H1 locs1 cells slots Q (F0 m (pc + 1) ls rest)) : W p l e R s m args below meth c H locs cells slots Q (F0 m pc ls (.int x :: .int i :: .ref a :: rest)) := by
  obtain ⟨hK, hP, hD, hS, hA⟩ := hV
  refine va_iast C.1 C.2.1 hK hP hD hS q0 0 ha rfl hin hdg (fun H1 locs1 hP1 hD1 hS1 => ?_)
  subst hws
  exact kk H1 locs1 ⟨hK, hP1, hD1, hS1, hA⟩
theorem g_new (C : CallFix p m c cc nL s args Ts own) (hV : gV D tys A H0 s ws H locs) {index ci N : Nat} {Cn : String} {T : u_T} (hc : vwCl[ci]? = some (Cn, T, N)) (hin : ∀ w ∈ u_ws Cn T N, w ∈ Ts) (ty : Nat → FieldType) (hty : ∀ k, k < N → parseFieldDescriptor (T k).2.2.1 = some (ty k)) (hcl : Cond.classLink own index Cn ∈ Ts) (hinst : Cond.instantiable Cn N ∈ Ts) (hini : Cond.initialized Cn ∈ Ts) (fs : List Value) (hfs : ∀ j, j < N → defaultValue (ty j) = vp_V fs j) (hcells : cells + 1 ≤ R.cells) (hslots : slots + N ≤ R.slots) (hdg : decode cc pc = .ok (.new index, 3))
    (kk : ∀ (q : Nat) (H1 : Heap), gV D tys A H0 s (ws ++ [(q, .inr (ci, fs))]) H1 locs → W p l e R s m args below meth c H1 locs (cells + 1) (slots + N) Q (F0 m (pc + 3) ls (.ref q :: rest))) : W p l e R s m args below meth c H locs cells slots Q (F0 m pc ls rest) := by
  obtain ⟨hK, hP, hD, hS, hA⟩ := hV
  exact va_new C.1 C.2.1 C.2.2.2.2 hin ty hty C.2.2.2.1 (C.2.2.2.2 _ hcl) (C.2.2.2.2 _ hinst) (C.2.2.2.2 _ hini) hK hP hD hS hA hc hfs hcells hslots hdg (fun q H1 hP1 hD1 hS1 => kk q H1 ⟨hK, hP1, hD1, hS1, hA⟩)
abbrev gQc {S : Type} (D : va_G) (tys : List (ClassId × FieldType)) (sz : Nat) (wc : va_W) (w1 : S → va_W) : Array Value → State → Outcome → State → Prop := va_Qv (fun (_ : S) => True) (fun u t => gB D tys (va_A wc sz) (w1 u) t) (va_A wc sz)
abbrev gPreX (X : State → Prop) (D : va_G) (tys : List (ClassId × FieldType)) (sz : Nat) (ws : va_W) : State → Prop := fun U => (U.heap.size = sz ∧ va_P D vwCl ws U.heap ∧ va_K D vwCl tys U ∧ va_D (fun _ => True) ws) ∧ X U
theorem g_obj (C : CallFix p m c cc nL s args Ts own) {lv : List (Nat × Value)} (hl : lv_has ls nL lv) {index : Nat} (h1 : Cond.methodLink own index Lib.objectInit ∈ Ts) (h2 : Cond.instanceMethod Lib.objectInit ∈ Ts) (h3 : Cond.code Lib.objectInit ⟨#[0xb1]⟩ 1 none ∈ Ts) (hf : 1 ≤ R.frames) (hlo : 30 ≤ R.locals) {a : Nat} (hdg : decode cc pc = .ok (.invokespecial index, 3)) (kk : W p l e R s m args below meth c H locs cells slots Q (F0 m (pc + 3) ls [])) : W p l e R s m args below meth c H locs cells slots Q (F0 m pc ls [.ref a]) := by
  have hroom := lv_room (m := m) (pc := pc) (ls := ls) (rest := [Value.ref a]) (st := []) (by decide)
  exact W.objInit C.1 C.2.1 C.2.2.2.1 (C.2.2.2.2 _ h1) (C.2.2.2.2 _ h2) (C.2.2.2.2 _ h3) rfl (by rw [C.2.2.1]; exact hl.1) rfl hdg hf (by omega) kk
theorem g_cI {S : Type} {X : State → Prop} {y : MethodName} {wsc : List Cond} {rmc : Room} {bytes : ByteArray} {maxL n index mc ms : Nat} {b : Nat} {As : List Value} {wc wr : va_W} {w1 : S → va_W} (C : CallFix p m c cc nL s args Ts own) (hV : gV D tys A H0 s ws H locs)
    (hM : Met l y wsc rmc (va_Pc (.ref b :: As) (gPreX X D tys H.size wc)) (gQc D tys H.size wc w1) mc ms (va_A wc H.size)) (hXb : ∀ (a : Array Value) (U : State) (g : JFrame) (mk : MethodId), X U → X (U.calling g mk a)) (hX : ∀ U : State, s.WarmedH U.vm → X U) (hmd : gMd y wsc bytes maxL none n) (hT : GoodIn Ts wsc) (hli : Cond.methodLink own index y ∈ Ts) (hini : Cond.initialized y.cls ∈ Ts) (hins : Cond.instanceMethod y ∈ Ts) (hyn : y.name = "<init>") (hrc : rmc.cells = mc) (hrs : rmc.slots = ms) (hRm : rmc.frames + 1 ≤ R.frames ∧ 8 + (maxL + 11) + rmc.locals ≤ R.locals) (hcs : cells + mc ≤ R.cells ∧ slots + ms ≤ R.slots)
    (isC isR : List Nat) (hC : isC.map (fun i => ws[i]?) = wc.map some) (hR : isR.map (fun i => ws[i]?) = wr.map some) (hnC : va_nd isC = true) (hn : va_nd isR = true) (hdis : isR.all (fun i => !isC.contains i) = true)
    (hAs : As.length = n) (hls : ls.size = nL) (hroom : (rest.map fun v => v.category).sum ≤ 8) (hst : st = As.reverse ++ .ref b :: rest) (hdg : decode cc pc = .ok (.invokespecial index, 3))
    (kk : ∀ (u : S) (H1 : Heap) (locs1 : List Loc), gV D tys A H0 s (wr ++ w1 u) H1 locs1 → W p l e R s m args below meth c H1 locs1 (cells + mc) (slots + ms) Q (F0 m (pc + 3) ls rest)) : W p l e R s m args below meth c H locs cells slots Q (F0 m pc ls st) := by
  obtain ⟨hK, hP, hD, hS, hA⟩ := hV
  obtain ⟨⟨wsc', hw⟩, hd⟩ := hmd
  have hPc : va_P D vwCl wc H := g_Psub hP hC
  have hDc := hD.sub isC hnC hC
  have hFc := va_free hD hS hA isC hC
  have hbl : FrameBlind (va_Pc (.ref b :: As) (gPreX X D tys H.size wc)) := fun a U g mk q => by
    obtain ⟨q0, ⟨q1, qP, qK, qD⟩, qX⟩ := q
    exact ⟨q0, ⟨q1, qP, va_K.moved (u := U) (U := U.calling g mk a) (Vm.Alike.refl U.vm) qK, qD⟩, hXb a U g mk qX⟩
  have hpre : ∀ U : State, U.heap = H → s.WarmedH U.vm → va_Pc (.ref b :: As) (gPreX X D tys H.size wc) (.ref b :: As).toArray U := fun U hU hW => ⟨rfl, ⟨by rw [hU], by rw [hU]; exact hPc, va_K.moved hW.alike hK, hDc.weaken (fun _ _ _ _ => trivial)⟩, hX U hW⟩
  have hdis' : ∀ i ∈ isR, i ∉ isC := fun i hi hc => by
    have h9 := List.all_eq_true.mp hdis i hi
    simp only [Bool.not_eq_true'] at h9
    rw [List.contains_iff_mem.mpr hc] at h9
    cases h9
  have hroom' := lv_room (m := m) (pc := pc) (ls := ls) (rest := st) hroom
  refine va_callv (va_runI (As := As) (rest := rest) C hM (cwI n C.2.2.2.2 hT hw hrc hrs (C.2.2.2.2 _ hini) (C.2.2.2.2 _ hli) (C.2.2.2.2 _ hins) hyn hd hRm) ⟨hbl, hpre⟩ rfl hAs hls hst hroom' hdg hcs) hS (fun q _ h => hFc q h) hFc (fun u t H1 locs1 ht hvm hpo hB hz1 hk1 hS1 => ?_)
  obtain ⟨hP1, hK1, hD1⟩ := hB
  rw [ht] at hP1
  obtain ⟨hPn, hDn⟩ := va_join hP hD isC isR hC hR hn hdis' hk1 hFc hP1 hD1
  exact kk u H1 locs1 ⟨hK, hPn, hDn, hS1, hA⟩
theorem g_cIN {S : Type} {X : State → Prop} {host : String} {y : MethodName} {wsc : List Cond} {rmc : Room} {bytes : ByteArray} {maxL n index mc ms : Nat} {b : Nat} {As : List Value} {wc wr : va_W} {w1 : S → va_W} (C : CallFix p m c cc nL s args Ts own) (hV : gV D tys A H0 s ws H locs)
    (hM : Met l y wsc rmc (va_Pc (.ref b :: As) (gPreX X D tys H.size wc)) (gQc D tys H.size wc w1) mc ms (va_A wc H.size)) (hXb : ∀ (a : Array Value) (U : State) (g : JFrame) (mk : MethodId), X U → X (U.calling g mk a)) (hX : ∀ U : State, s.WarmedH U.vm → X U) (hmd : gMd y wsc bytes maxL none n) (hT : GoodIn Ts wsc) (hNw : va_Nw (.methodLinkNest own index y host) s) (hini : Cond.initialized y.cls ∈ Ts) (hins : Cond.instanceMethod y ∈ Ts) (hyn : y.name = "<init>") (hrc : rmc.cells = mc) (hrs : rmc.slots = ms) (hRm : rmc.frames + 1 ≤ R.frames ∧ 8 + (maxL + 11) + rmc.locals ≤ R.locals) (hcs : cells + mc ≤ R.cells ∧ slots + ms ≤ R.slots)
    (isC isR : List Nat) (hC : isC.map (fun i => ws[i]?) = wc.map some) (hR : isR.map (fun i => ws[i]?) = wr.map some) (hnC : va_nd isC = true) (hn : va_nd isR = true) (hdis : isR.all (fun i => !isC.contains i) = true)
    (hAs : As.length = n) (hls : ls.size = nL) (hroom : (rest.map fun v => v.category).sum ≤ 8) (hst : st = As.reverse ++ .ref b :: rest) (hdg : decode cc pc = .ok (.invokespecial index, 3))
    (kk : ∀ (u : S) (H1 : Heap) (locs1 : List Loc), gV D tys A H0 s (wr ++ w1 u) H1 locs1 → W p l e R s m args below meth c H1 locs1 (cells + mc) (slots + ms) Q (F0 m (pc + 3) ls rest)) : W p l e R s m args below meth c H locs cells slots Q (F0 m pc ls st) := by
  obtain ⟨hK, hP, hD, hS, hA⟩ := hV
  obtain ⟨⟨wsc', hw⟩, hd⟩ := hmd
  have hPc : va_P D vwCl wc H := g_Psub hP hC
  have hDc := hD.sub isC hnC hC
  have hFc := va_free hD hS hA isC hC
  have hbl : FrameBlind (va_Pc (.ref b :: As) (gPreX X D tys H.size wc)) := fun a U g mk q => by
    obtain ⟨q0, ⟨q1, qP, qK, qD⟩, qX⟩ := q
    exact ⟨q0, ⟨q1, qP, va_K.moved (u := U) (U := U.calling g mk a) (Vm.Alike.refl U.vm) qK, qD⟩, hXb a U g mk qX⟩
  have hpre : ∀ U : State, U.heap = H → s.WarmedH U.vm → va_Pc (.ref b :: As) (gPreX X D tys H.size wc) (.ref b :: As).toArray U := fun U hU hW => ⟨rfl, ⟨by rw [hU], by rw [hU]; exact hPc, va_K.moved hW.alike hK, hDc.weaken (fun _ _ _ _ => trivial)⟩, hX U hW⟩
  have hdis' : ∀ i ∈ isR, i ∉ isC := fun i hi hc => by
    have h9 := List.all_eq_true.mp hdis i hi
    simp only [Bool.not_eq_true'] at h9
    rw [List.contains_iff_mem.mpr hc] at h9
    cases h9
  have hroom' := lv_room (m := m) (pc := pc) (ls := ls) (rest := st) hroom
  refine va_callv (va_runIN (As := As) (rest := rest) C hM ⟨va_cnB n C.2.2.2.2 hT hw hrc hrs hNw (C.2.2.2.2 _ hini) hd hRm, hyn, C.2.2.2.2 _ hins⟩ ⟨hbl, hpre⟩ rfl hAs hls hst hroom' hdg hcs) hS (fun q _ h => hFc q h) hFc (fun u t H1 locs1 ht hvm hpo hB hz1 hk1 hS1 => ?_)
  obtain ⟨hP1, hK1, hD1⟩ := hB
  rw [ht] at hP1
  obtain ⟨hPn, hDn⟩ := va_join hP hD isC isR hC hR hn hdis' hk1 hFc hP1 hD1
  exact kk u H1 locs1 ⟨hK, hPn, hDn, hS1, hA⟩
theorem g_cSvG {y : MethodName} {wsc : List Cond} {rmc : Room} {bytes : ByteArray} {maxL n index : Nat} {ret : Option FieldType} {As : List Value} {wc wr w1 : va_W} (C : CallFix p m c cc nL s args Ts own) (hV : gV D tys A H0 s ws H locs)
    (hM : Met l y wsc rmc (va_Pc As (gPre D tys H.size wc)) (gQv D tys H.size wc w1) 0 0 (va_A wc H.size)) (hmd : gMd y wsc bytes maxL ret n) (hT : GoodIn Ts (va_wsS own index y wsc)) (hrc : rmc.cells = 0) (hrs : rmc.slots = 0) (hRm : rmc.frames + 1 ≤ R.frames ∧ 8 + (maxL + 11) + rmc.locals ≤ R.locals) (hcs : cells + 0 ≤ R.cells ∧ slots + 0 ≤ R.slots)
    (isC isR : List Nat) (hC : isC.map (fun i => ws[i]?) = wc.map some) (hR : isR.map (fun i => ws[i]?) = wr.map some) (hnC : va_nd isC = true) (hn : va_nd isR = true) (hdis : isR.all (fun i => !isC.contains i) = true)
    (hAs : As.length = n) (hls : ls.size = nL) (hroom : (rest.map fun v => v.category).sum ≤ 8) (hst : st = As.reverse ++ rest) (hdg : decode cc pc = .ok (.invokestatic index, 3))
    (kk : ∀ (H1 : Heap) (locs1 : List Loc), gV D tys A H0 s (wr ++ w1) H1 locs1 → W p l e R s m args below meth c H1 locs1 (cells + 0) (slots + 0) Q (F0 m (pc + 3) ls rest)) : W p l e R s m args below meth c H locs cells slots Q (F0 m pc ls st) := by
  obtain ⟨hK, hP, hD, hS, hA⟩ := hV
  obtain ⟨⟨wsc', hw⟩, hd⟩ := hmd
  have hPc : va_P D vwCl wc H := g_Psub hP hC
  have hDc := hD.sub isC hnC hC
  have hFc := va_free hD hS hA isC hC
  have hbl : FrameBlind (va_Pc As (gPre D tys H.size wc)) := fun a U g mk q => by
    obtain ⟨q0, q1, qP, qK, qD⟩ := q
    exact ⟨q0, q1, qP, va_K.moved (u := U) (U := U.calling g mk a) (Vm.Alike.refl U.vm) qK, qD⟩
  have hpre : ∀ U : State, U.heap = H → s.WarmedH U.vm → va_Pc As (gPre D tys H.size wc) As.toArray U := fun U hU hW => ⟨rfl, by rw [hU], by rw [hU]; exact hPc, va_K.moved hW.alike hK, hDc.weaken (fun _ _ _ _ => trivial)⟩
  have hdis' : ∀ i ∈ isR, i ∉ isC := fun i hi hc => by
    have h9 := List.all_eq_true.mp hdis i hi
    simp only [Bool.not_eq_true'] at h9
    rw [List.contains_iff_mem.mpr hc] at h9
    cases h9
  have hroom' := lv_room (m := m) (pc := pc) (ls := ls) (rest := st) hroom
  refine va_callv (va_runS (As := As) (rest := rest) C hM (va_cwS n C.2.2.2.2 hT hw hrc hrs hd hRm) ⟨hbl, hpre⟩ rfl hAs hls hst hroom' hdg hcs) hS (fun q _ h => hFc q h) hFc (fun u t H1 locs1 ht hvm hpo hB hz1 hk1 hS1 => ?_)
  obtain ⟨hP1, hK1, hD1⟩ := hB
  rw [ht] at hP1
  obtain ⟨hPn, hDn⟩ := va_join hP hD isC isR hC hR hn hdis' hk1 hFc hP1 hD1
  exact kk H1 locs1 ⟨hK, hPn, hDn, hS1, hA⟩
theorem g_metC {S : Type} {X : State → Prop} (w1 : S → va_W) (mc ms : Nat) {y : MethodName} {wsm wsm' : List Cond} {rm : Room} {maxL : Nat} {vs : List Value} {wc : va_W} {sz : Nat} {lv : List (Nat × Value)} (hy : plainName y.cls = true) (hyn : y.name = "<init>") (hw : wsm = Cond.code y cc maxL none :: wsm') (hown : y.cls = own) (hlen : (lg_sl vs).length ≤ maxL) (hlv : lv_args 0 vs = lv)
    (body : ∀ (p : Program) (e : Env) (s : State) (m : MethodId) (args : Array Value) (below : List Frame) (meth : Method) (c : Code) (Q : State → Prop) (ls : Array Slot) (A0 : Nat → Prop) (H0 : Heap) (H : Heap) (locs : List Loc), CallFix p m c cc maxL s args wsm own → meth.name = "<init>" → (∀ (u : S) (pc : Nat) (ls : Array Slot) (H : Heap) (locs : List Loc), decode cc pc = .ok (.return_, 1) → gV D tys A0 H0 s (w1 u) H locs → W p l e rm s m args below meth c H locs mc ms Q (F0 m pc ls [])) → gV D tys A0 H0 s wc H locs → lv_has ls maxL lv → X s → W p l e rm s m args below meth c H locs 0 0 Q (F0 m 0 ls [])) :
    Met l y wsm rm (va_Pc vs (gPreX X D tys sz wc)) (gQc D tys sz wc w1) mc ms (va_A wc sz) := by
  refine Met.ofW (cc := cc) (maxL := maxL) (ret := none) hy hw ?_
  intro p e s m args below meth c s₁ B hml hv
  obtain ⟨rfl, ⟨rfl, hP, hK, hD⟩, hX⟩ := hv
  have hl := lv_entry vs (n := maxL) hlen
  rw [lg_entry_eq]
  generalize (lg_sl vs ++ List.replicate (maxL - (lg_sl vs).length) Slot.unset).toArray = ls at hl ⊢
  rw [hlv] at hl
  have hlocks := B.notSynchronized
  have hin : meth.name = "<init>" := ((name_of_methodNamed B.named B.method).1).trans hyn
  refine body p e s m _ below meth c _ ls (va_A wc s.heap.size) s.heap s.heap [] ⟨B.exec, B.bytes, hml, by rw [← hown]; exact findClass_of_methodNamed B.named, atoms_spec (ws := wsm) B.pre⟩ hin ?_ ⟨hK, hP, hD.self, va_S.rf, fun q h => Or.inr h⟩ hl hX
  intro u pc ls H locs hdg hV
  exact W.vret B.exec B.bytes B.returns (fun t ht hW => ⟨⟨u, rfl, trivial, by rw [ht]; exact hV.2.1, va_K.moved hW.alike hV.1, hV.2.2.1⟩, hV.2.2.2.1.F ht⟩) hV.2.2.2.1.2.2 hdg
end
