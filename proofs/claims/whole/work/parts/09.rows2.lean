/-! contracts that own cells: their start, their end, their calls -/
def wr (D : va_G) (ws : va_W) (tys : List (ClassId × FieldType)) (sz : Nat) (av : List Value) : Array Value → State → Prop := va_Pc av (fun U => U.heap.size = sz ∧ va_P D vwCl ws U.heap ∧ va_K D vwCl tys U ∧ va_D (fun _ => True) ws)
theorem wr_blind {D : va_G} {ws : va_W} {tys : List (ClassId × FieldType)} {sz : Nat} {av : List Value} : FrameBlind (wr D ws tys sz av) := fun a U g mk q => by
  obtain ⟨q0, q1, qP, qK, qD⟩ := q
  exact ⟨q0, q1, qP, va_K.moved (u := U) (U := U.calling g mk a) (Vm.Alike.refl U.vm) qK, qD⟩
def wrB (D : va_G) (ws : va_W) (tys : List (ClassId × FieldType)) (A : Nat → Prop) (t : State) : Prop := va_P D vwCl ws t.heap ∧ va_K D vwCl tys t ∧ va_D A ws
abbrev wrQ (D : va_G) (ws : va_W) (tys : List (ClassId × FieldType)) (A : Nat → Prop) (post : Int32 → Prop) : Array Value → State → Outcome → State → Prop := va_Qi (fun r (_ : Unit) => post r) (fun _ => wrB D ws tys A) A
abbrev wrL (D : va_G) (ws : va_W) (tys : List (ClassId × FieldType)) (A : Nat → Prop) (post : Int64 → Prop) : Array Value → State → Outcome → State → Prop := va_Ql (fun r (_ : Unit) => post r) (fun _ => wrB D ws tys A) A
abbrev wrV (D : va_G) (ws : Nat → va_W) (tys : Nat → List (ClassId × FieldType)) (A : Nat → Prop) : Array Value → State → Outcome → State → Prop := va_Qv (fun (_ : Unit) => True) (fun _ t => ∃ z, wrB D (ws z) (tys z) A t) A
def dcl (C : String) : MethodName := ⟨C, "<init>", "(Ljava/lang/String;)V"⟩
/-- what a throw needs besides: two statics of Throwable, two texts, two classes, three constructors -/
def xw (A : Nat → Prop) (i1 i2 : Nat) (t1 t2 : String) (a1 a2 : Nat) (E1 E2 : String) (U : State) (H : Heap) : Prop :=
  vx_Zq Bundle.tN "UNASSIGNED_STACK" Bundle.steD A U H ∧ vx_Zq Bundle.tN "SUPPRESSED_SENTINEL" Bundle.listD A U H ∧ vk_R RX0 i1 t1 a1 U ∧ vk_R RX0 i2 t2 a2 U ∧ va_Nw (.castable E1 E1) U ∧ va_Nw (.castable E2 E2) U ∧ va_Nw (.declares (dcl "java/lang/RuntimeException")) U ∧ va_Nw (.declares (dcl "java/lang/Exception")) U ∧ va_Nw (.declares (dcl "java/lang/Throwable")) U ∧ (E1 = E2 ∨ va_Nc E2 E1 U)
theorem xw.same {A : Nat → Prop} {i1 i2 : Nat} {t1 t2 : String} {a1 a2 : Nat} {E1 E2 : String} {u U : State} {H : Heap} (hv : U.vm = u.vm) (h : xw A i1 i2 t1 t2 a1 a2 E1 E2 u H) : xw A i1 i2 t1 t2 a1 a2 E1 E2 U H := by
  obtain ⟨h1, h2, h3, h4, h5, h6, h7, h8, h9, h10⟩ := h
  exact ⟨h1.moved (by rw [hv]; exact Vm.Alike.refl _), h2.moved (by rw [hv]; exact Vm.Alike.refl _), h3.same hv, h4.same hv, va_Nw.same rfl hv.symm h5, va_Nw.same rfl hv.symm h6, va_Nw.same rfl hv.symm h7, va_Nw.same rfl hv.symm h8, va_Nw.same rfl hv.symm h9, h10.imp id (fun z => z.moved (by rw [hv]; exact Vm.Alike.refl _))⟩
theorem xw.warm {A : Nat → Prop} {i1 i2 : Nat} {t1 t2 : String} {a1 a2 : Nat} {E1 E2 : String} {s U : State} {H : Heap} (hW : s.WarmedH U.vm) (h : xw A i1 i2 t1 t2 a1 a2 E1 E2 s H) : xw A i1 i2 t1 t2 a1 a2 E1 E2 U H := by
  obtain ⟨h1, h2, h3, h4, h5, h6, h7, h8, h9, h10⟩ := h
  exact ⟨h1.moved hW.alike, h2.moved hW.alike, h3.warm hW, h4.warm hW, h5.warmC hW, h6.warmC hW, h7.warmD hW, h8.warmD hW, h9.warmD hW, h10.imp id (fun z => z.moved hW.alike)⟩
theorem xw.kept {A : Nat → Prop} {i1 i2 : Nat} {t1 t2 : String} {a1 a2 : Nat} {E1 E2 : String} {U : State} {H H1 : Heap} (h : xw A i1 i2 t1 t2 a1 a2 E1 E2 U H) (hq : ∀ a : Nat, a < H.size → ¬ A a → H1[a]? = H[a]?) : xw A i1 i2 t1 t2 a1 a2 E1 E2 U H1 := by
  obtain ⟨h1, h2, h3, h4, h5, h6, h7, h8, h9, h10⟩ := h
  exact ⟨h1.kept hq, h2.kept hq, h3, h4, h5, h6, h7, h8, h9, h10⟩
theorem xw.narrow {A B : Nat → Prop} {i1 i2 : Nat} {t1 t2 : String} {a1 a2 : Nat} {E1 E2 : String} {U : State} {H : Heap} (h : xw A i1 i2 t1 t2 a1 a2 E1 E2 U H) (hAB : ∀ q, B q → A q) : xw B i1 i2 t1 t2 a1 a2 E1 E2 U H := by
  obtain ⟨h1, h2, h3, h4, h5, h6, h7, h8, h9, h10⟩ := h
  exact ⟨h1.narrow hAB, h2.narrow hAB, h3, h4, h5, h6, h7, h8, h9, h10⟩
def th (D : va_G) (ws : va_W) (tys : List (ClassId × FieldType)) (sz i1 i2 : Nat) (t1 t2 : String) (a1 a2 : Nat) (E1 E2 : String) (av : List Value) : Array Value → State → Prop := va_Pc av (fun U => U.heap.size = sz ∧ va_P D vwCl ws U.heap ∧ va_K D vwCl tys U ∧ va_D (fun _ => True) ws ∧ xw (va_A ws sz) i1 i2 t1 t2 a1 a2 E1 E2 U U.heap)
theorem th_blind {D : va_G} {ws : va_W} {tys : List (ClassId × FieldType)} {sz i1 i2 : Nat} {t1 t2 : String} {a1 a2 : Nat} {E1 E2 : String} {av : List Value} : FrameBlind (th D ws tys sz i1 i2 t1 t2 a1 a2 E1 E2 av) := fun a U g mk q => by
  obtain ⟨q0, q1, qP, qK, qD, qX⟩ := q
  exact ⟨q0, q1, qP, va_K.moved (u := U) (U := U.calling g mk a) (Vm.Alike.refl U.vm) qK, qD, xw.same (u := U) (U := U.calling g mk a) rfl qX⟩
/-- a throw's end: the cells as they were; ex says what class, and why -/
def thX (D : va_G) (ws : va_W) (tys : List (ClassId × FieldType)) (A : Nat → Prop) (ex : String → Prop) : String → State → State → Prop := vx_X (fun (_ : Unit) => True) (fun E _ t => ex E ∧ wrB D ws tys A t) A
theorem sub_of {ws wc : va_W} {is : List Nat} (h : is.map (fun i => ws[i]?) = wc.map some) : is.filterMap (fun i => ws[i]?) = wc := by
  have h1 : is.filterMap (fun i => ws[i]?) = (is.map (fun i => ws[i]?)).filterMap id := by rw [List.filterMap_map]; rfl
  rw [h1, h, List.filterMap_map]
  simp
section R9
variable {p : Program} {l : Launch} {e : Env} {R : Room} {s : State} {m : MethodId} {args : Array Value} {below : List Frame} {meth : Method} {c : Code} {H : Heap} {locs : List Loc} {cells slots : Nat} {Q : State → Prop}
variable {y : MethodName} {bytes cc : ByteArray} {maxL nL n index pc mc ms : Nat} {ret : Option FieldType} {wsC : List Cond} {rm : Room} {Ts : List Cond} {own C : String} {b : Addr} {As rest st : List Value} {ls : Array Slot}
variable {D : va_G} {wall ws ws' ws1 wrst : va_W} {tys : List (ClassId × FieldType)} {q0 ci : Nat} {T : u_T} {NN : Nat} {fs : List Value} {A A0 : Nat → Prop} {H0 : Heap}
theorem wr_ret {post : Int32 → Prop} (hexec : p.tables.exec = Jvm.exec) (hb : c.code = cc) (hr : meth.sig.returnType = some .int) (hlocks : meth.locks = false) {v : Int32} (hv : post v) (hw : ws1 = ws') (hP : va_P D vwCl ws1 H) (hK : va_K D vwCl tys s) (hD : va_D A ws1) (hS : va_S A s.heap H locs) (hdg : decode cc pc = .ok (.ireturn, 1)) :
    W p l e R s m args below meth c H locs cells slots (MQ below (wrQ D ws' tys A post) args s cells slots A) (F0 m pc ls [.int v]) := by
  subst hw
  exact W.iret hexec hb hr (fun t ht hW => ⟨⟨v, (), rfl, hv, by rw [ht]; exact hP, va_K.moved hW.alike hK, hD⟩, hS.F ht⟩) hS.2.2 hdg hlocks
theorem wr_retz {post : Int32 → Prop} (hexec : p.tables.exec = Jvm.exec) (hb : c.code = cc) (hr : meth.sig.returnType = some .boolean) (hlocks : meth.locks = false) {v : Int32} (hn : narrow .boolean (.int v) = .int v) (hv : post v) (hw : ws1 = ws') (hP : va_P D vwCl ws1 H) (hK : va_K D vwCl tys s) (hD : va_D A ws1) (hS : va_S A s.heap H locs) (hdg : decode cc pc = .ok (.ireturn, 1)) :
    W p l e R s m args below meth c H locs cells slots (MQ below (wrQ D ws' tys A post) args s cells slots A) (F0 m pc ls [.int v]) := by
  subst hw
  exact W.zret hexec hb hr hn (fun t ht hW => ⟨⟨v, (), rfl, hv, by rw [ht]; exact hP, va_K.moved hW.alike hK, hD⟩, hS.F ht⟩) hS.2.2 hdg hlocks
theorem wr_retl {post : Int64 → Prop} (hexec : p.tables.exec = Jvm.exec) (hb : c.code = cc) (hr : meth.sig.returnType = some .long) (hlocks : meth.locks = false) {v : Int64} (hv : post v) (hw : ws1 = ws') (hP : va_P D vwCl ws1 H) (hK : va_K D vwCl tys s) (hD : va_D A ws1) (hS : va_S A s.heap H locs) (hdg : decode cc pc = .ok (.lreturn, 1)) :
    W p l e R s m args below meth c H locs cells slots (MQ below (wrL D ws' tys A post) args s cells slots A) (F0 m pc ls [.long v]) := by
  subst hw
  exact W.lret hexec hb hr (fun t ht hW => ⟨⟨v, (), rfl, hv, by rw [ht]; exact hP, va_K.moved hW.alike hK, hD⟩, hS.F ht⟩) hS.2.2 hdg hlocks
/-- a call that owns the places isC of the world; what stands at isR stays -/
theorem wr_callV {post : Int32 → Prop} (S : CallFix p m c cc nL s args Ts own) (hM : Met l y wsC rm (wr D ws tys H.size (.ref b :: As)) (wrQ D ws' tys (va_A ws H.size) post) mc ms (va_A ws H.size)) (cw : CallW R s args own C index y bytes maxL ret wsC rm mc ms n)
    (hK : va_K D vwCl tys s) (hP : va_P D vwCl wall H) (hD : va_D A0 wall) (hS : va_S A0 H0 H locs) (hA : ∀ q, H0.size ≤ q → A0 q) (isC isR : List Nat) (hC : isC.map (fun i => wall[i]?) = ws.map some) (hR : isR.map (fun i => wall[i]?) = wrst.map some) (h1 : va_nd isC = true) (h2 : va_nd isR = true) (hdis : ∀ i ∈ isR, i ∉ isC)
    (hc : vwCl[ci]? = some (C, T, NN)) (he : ws[q0]? = some (b, .inr (ci, fs))) (hn : As.length = n) (hsize : ls.size = nL) (hst : st = As.reverse ++ .ref b :: rest) (hW : (rest.map fun v => v.category).sum ≤ 8) (hdg : decode cc pc = .ok (.invokevirtual index, 3)) (hf : cells + mc ≤ R.cells ∧ slots + ms ≤ R.slots)
    (kk : ∀ (r : Int32) (H1 : Heap) (locs1 : List Loc), post r → va_P D vwCl (wrst ++ ws') H1 → va_D A0 (wrst ++ ws') → va_S A0 H0 H1 locs1 → W p l e R s m args below meth c H1 locs1 (cells + mc) (slots + ms) Q (F0 m (pc + 3) ls (.int r :: rest))) : W p l e R s m args below meth c H locs cells slots Q (F0 m pc ls st) := by
  have hPc : va_P D vwCl ws H := hP.sub isC (sub_of hC)
  have hDc : va_D A0 ws := hD.sub isC h1 hC
  have hFc := va_free (wc := ws) hD hS hA isC hC
  refine va_calli (va_runV (As := As) (rest := rest) S hM cw ⟨wr_blind, va_recv hK hPc hc he, fun U hU hW => ⟨rfl, by rw [hU], by rw [hU]; exact hPc, va_K.moved hW.alike hK, hDc.weaken (fun _ _ _ _ => trivial)⟩⟩ rfl hn hsize hst (lv_room hW) hdg hf) hS (fun q _ h => hFc q h) hFc (fun r u t H1 locs1 ht hvm hw hB hz hk hS1 => ?_)
  obtain ⟨hP1, hK1, hD1⟩ := hB
  rw [ht] at hP1
  obtain ⟨hP2, hD2⟩ := va_join hP hD isC isR hC hR h2 hdis hk hFc hP1 hD1
  exact kk r H1 locs1 hw hP2 hD2 hS1
theorem wr_callVl {post : Int64 → Prop} (S : CallFix p m c cc nL s args Ts own) (hM : Met l y wsC rm (wr D ws tys H.size (.ref b :: As)) (wrL D ws' tys (va_A ws H.size) post) mc ms (va_A ws H.size)) (cw : CallW R s args own C index y bytes maxL ret wsC rm mc ms n)
    (hK : va_K D vwCl tys s) (hP : va_P D vwCl wall H) (hD : va_D A0 wall) (hS : va_S A0 H0 H locs) (hA : ∀ q, H0.size ≤ q → A0 q) (isC isR : List Nat) (hC : isC.map (fun i => wall[i]?) = ws.map some) (hR : isR.map (fun i => wall[i]?) = wrst.map some) (h1 : va_nd isC = true) (h2 : va_nd isR = true) (hdis : ∀ i ∈ isR, i ∉ isC)
    (hc : vwCl[ci]? = some (C, T, NN)) (he : ws[q0]? = some (b, .inr (ci, fs))) (hn : As.length = n) (hsize : ls.size = nL) (hst : st = As.reverse ++ .ref b :: rest) (hW : (rest.map fun v => v.category).sum ≤ 8) (hdg : decode cc pc = .ok (.invokevirtual index, 3)) (hf : cells + mc ≤ R.cells ∧ slots + ms ≤ R.slots)
    (kk : ∀ (r : Int64) (H1 : Heap) (locs1 : List Loc), post r → va_P D vwCl (wrst ++ ws') H1 → va_D A0 (wrst ++ ws') → va_S A0 H0 H1 locs1 → W p l e R s m args below meth c H1 locs1 (cells + mc) (slots + ms) Q (F0 m (pc + 3) ls (.long r :: rest))) : W p l e R s m args below meth c H locs cells slots Q (F0 m pc ls st) := by
  have hPc : va_P D vwCl ws H := hP.sub isC (sub_of hC)
  have hDc : va_D A0 ws := hD.sub isC h1 hC
  have hFc := va_free (wc := ws) hD hS hA isC hC
  refine va_calll (va_runV (As := As) (rest := rest) S hM cw ⟨wr_blind, va_recv hK hPc hc he, fun U hU hW => ⟨rfl, by rw [hU], by rw [hU]; exact hPc, va_K.moved hW.alike hK, hDc.weaken (fun _ _ _ _ => trivial)⟩⟩ rfl hn hsize hst (lv_room hW) hdg hf) hS (fun q _ h => hFc q h) hFc (fun r u t H1 locs1 ht hvm hw hB hz hk hS1 => ?_)
  obtain ⟨hP1, hK1, hD1⟩ := hB
  rw [ht] at hP1
  obtain ⟨hP2, hD2⟩ := va_join hP hD isC isR hC hR h2 hdis hk hFc hP1 hD1
  exact kk r H1 locs1 hw hP2 hD2 hS1
/-- System.arraycopy of longs, by natural numbers -/
theorem ix_copyl (hexec : p.tables.exec = Jvm.exec) (hb : c.code = cc) (hml : c.maxLocals = ls.size) (hown : s.vm.findClass own = some m.cls) (hlink : (Cond.methodLink own index arraycopyName).before args s = true) (hnat : (Cond.native arraycopyName).before args s = true) (hstat : (Cond.static arraycopyName).before args s = true) (hini : (Cond.initialized "java/lang/System").before args s = true)
    (hK : va_K D vwCl tys s) (hP : va_P D vwCl ws H) (hD : va_D A ws) (hS : va_S A H0 H locs) (q0 q1 t0 : Nat) {a a0 : Nat} {c0 : ClassId} {n0 n1 : Nat} {f g : Nat → Int64} (ha0 : ws[q0]? = some (a0, .inl (c0, n0, .inr (.inl f)))) (ha1 : ws[q1]? = some (a, .inl (c0, n1, .inr (.inl g)))) (ht0 : tys[t0]? = some (c0, .long))
    {sp dp k : Nat} (h4 : sp + k ≤ n0) (h5 : dp + k ≤ n1) (hb0 : n0 < 2 ^ 31) (hb1 : n1 < 2 ^ 31)
    (hframes : 1 ≤ R.frames) (hlocals : (rest.map fun v => v.category).sum + (nativeFrameWords "java/lang/System" "arraycopy" 5 + 11) ≤ R.locals) (hdg : decode cc pc = .ok (.invokestatic index, 3))
    (kk : ∀ (H1 : Heap) (locs1 : List Loc), va_P D vwCl (ws.set q1 (a, .inl (c0, n1, .inr (.inl (va_cpy f g sp dp k))))) H1 → va_D A (ws.set q1 (a, .inl (c0, n1, .inr (.inl (va_cpy f g sp dp k))))) → va_S A H0 H1 locs1 → W p l e R s m args below meth c H1 locs1 cells slots Q (F0 m (pc + 3) ls rest)) : W p l e R s m args below meth c H locs cells slots Q (F0 m pc ls (.int (nI k) :: .int (nI dp) :: .ref a :: .int (nI sp) :: .ref a0 :: rest)) :=
  va_copyl hexec hb hml hown hlink hnat hstat hini hK hP hD hS q0 q1 t0 t0 ha0 ha1 ht0 ht0 rfl (nI_pos (by omega)) (nI_pos (by omega)) (nI_pos (by omega)) (by rw [nI_clamp (by omega), nI_clamp (by omega)]; exact h4) (by rw [nI_clamp (by omega), nI_clamp (by omega)]; exact h5) (fun i _ => rfl) hframes hlocals hdg
    (by rw [nI_clamp (by omega), nI_clamp (by omega), nI_clamp (by omega)]; exact kk)
end R9
