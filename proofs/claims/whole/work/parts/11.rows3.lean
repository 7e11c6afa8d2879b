/-! throwing, and making arrays -/
theorem ty_long {D : va_G} {cl : List vw_C} {tys : List (ClassId × FieldType)} {U : State} {i j : Nat} {c1 c2 : ClassId} (hK : va_K D cl tys U) (h1 : tys[i]? = some (c1, .long)) (h2 : tys[j]? = some (c2, .long)) : c1 = c2 :=
  Option.some.inj ((show U.vm.findClass _ = some c1 from (hK.2 i _ h1).2).symm.trans (show U.vm.findClass _ = some c2 from (hK.2 j _ h2).2))
theorem ty_int {D : va_G} {cl : List vw_C} {tys : List (ClassId × FieldType)} {U : State} {i j : Nat} {c1 c2 : ClassId} (hK : va_K D cl tys U) (h1 : tys[i]? = some (c1, .int)) (h2 : tys[j]? = some (c2, .int)) : c1 = c2 :=
  Option.some.inj ((show U.vm.findClass _ = some c1 from (hK.2 i _ h1).2).symm.trans (show U.vm.findClass _ = some c2 from (hK.2 j _ h2).2))
theorem th_end {D : va_G} {ws : va_W} {tys : List (ClassId × FieldType)} {A : Nat → Prop} {ex : String → Prop} {s : State} {H : Heap} {locs : List Loc} {E : String} (hP : va_P D vwCl ws H) (hK : va_K D vwCl tys s) (hD : va_D A ws) (hS : va_S A s.heap H locs) (hex : ex E) :
    ∀ t : State, s.vm.Alike t.vm → H.size ≤ t.heap.size → (∀ q : Nat, q < H.size → t.heap[q]? = H[q]?) → thX D ws tys A ex E s t := fun t ha hz hk =>
  ⟨(), trivial, ⟨hex, hP.kept (fun k q hq => hk q.1 (hP k q hq).lt), va_K.moved ha hK, hD⟩, Nat.le_trans hS.1 hz, fun q h1 h2 => by rw [hk q (Nat.lt_of_lt_of_le h1 hS.1)]; exact hS.2.1 q h1 h2⟩
section R11
variable {p : Program} {l : Launch} {e : Env} {R : Room} {s : State} {m : MethodId} {args : Array Value} {below : List Frame} {meth : Method} {c : Code} {H : Heap} {locs : List Loc} {cells slots : Nat} {Q : State → Prop}
variable {y : MethodName} {bytes cc : ByteArray} {maxL nL n index pc mc ms : Nat} {ret : Option FieldType} {wsC : List Cond} {rm : Room} {Ts : List Cond} {own C : String} {b : Addr} {As rest st : List Value} {ls : Array Slot}
variable {D : va_G} {wall ws ws' ws1 wrst : va_W} {tys : List (ClassId × FieldType)} {q0 ci : Nat} {T : u_T} {NN : Nat} {fs : List Value} {A A0 : Nat → Prop} {H0 : Heap}
/-- a call that may throw, of a method that owns the places isC -/
theorem th_callV {i1 i2 a1 a2 : Nat} {t1 t2 E1 E2 : String} {post : Int32 → Prop} {ex : String → Prop} (S : CallFix p m c cc nL s args Ts own) (hM : vx_Met l y wsC rm (th D ws tys H.size i1 i2 t1 t2 a1 a2 E1 E2 (.ref b :: As)) (wrQ D ws' tys (va_A ws H.size) post) (thX D ws tys (va_A ws H.size) ex) mc ms (va_A ws H.size)) (cw : CallW R s args own C index y bytes maxL ret wsC rm mc ms n)
    (hK : va_K D vwCl tys s) (hP : va_P D vwCl wall H) (hD : va_D A0 wall) (hS : va_S A0 H0 H locs) (hA : ∀ q, H0.size ≤ q → A0 q) (hX : xw A0 i1 i2 t1 t2 a1 a2 E1 E2 s H) (isC isR : List Nat) (hC : isC.map (fun i => wall[i]?) = ws.map some) (hR : isR.map (fun i => wall[i]?) = wrst.map some) (h1 : va_nd isC = true) (h2 : va_nd isR = true) (hdis : ∀ i ∈ isR, i ∉ isC)
    (hc : vwCl[ci]? = some (C, T, NN)) (he : ws[q0]? = some (b, .inr (ci, fs))) (hn : As.length = n) (hsize : ls.size = nL) (hst : st = As.reverse ++ .ref b :: rest) (hW : (rest.map fun v => v.category).sum ≤ 8) (hdg : decode cc pc = .ok (.invokevirtual index, 3)) (hf : cells + mc ≤ R.cells ∧ slots + ms ≤ R.slots)
    (kx : ∀ (E : String) (ce : Cell) (q9 : Addr) (H1 : Heap) (locs1 : List Loc), ex E → va_P D vwCl (wrst ++ ws) H1 → va_D A0 (wrst ++ ws) → va_S A0 H0 H1 locs1 → H1[q9]? = some ce → ce.vm = .none → s.vm.findClass E = some ce.cls → vx_W p l e R s m args below meth c H1 locs1 (cells + mc) (slots + ms) Q (F0 m pc ls rest) q9)
    (kk : ∀ (r : Int32) (H1 : Heap) (locs1 : List Loc), post r → va_P D vwCl (wrst ++ ws') H1 → va_D A0 (wrst ++ ws') → va_S A0 H0 H1 locs1 → W p l e R s m args below meth c H1 locs1 (cells + mc) (slots + ms) Q (F0 m (pc + 3) ls (.int r :: rest))) : W p l e R s m args below meth c H locs cells slots Q (F0 m pc ls st) := by
  have hPc : va_P D vwCl ws H := hP.sub isC (sub_of hC)
  have hDc : va_D A0 ws := hD.sub isC h1 hC
  have hFc := va_free (wc := ws) hD hS hA isC hC
  refine vx_calli (vx_runV (As := As) (rest := rest) S hM cw ⟨th_blind, va_recv hK hPc hc he, fun U hU hW => ⟨rfl, by rw [hU], by rw [hU]; exact hPc, va_K.moved hW.alike hK, hDc.weaken (fun _ _ _ _ => trivial), by rw [hU]; exact (hX.narrow hFc).warm hW⟩⟩ rfl hn hsize hst (lv_room hW) hdg hf) hS (fun q _ h => hFc q h) hFc (fun q _ h => hFc q h) (fun E ce q9 u t H1 locs1 ht hvm hw hB hz hk hS1 hce hcv hcl => ?_) (fun r u t H1 locs1 ht hvm hw hB hz hk hS1 => ?_)
  · obtain ⟨hex, hP1, hK1, hD1⟩ := hB
    rw [ht] at hP1
    obtain ⟨hP2, hD2⟩ := va_join hP hD isC isR hC hR h2 hdis hk hFc hP1 hD1
    exact kx E ce q9 H1 locs1 hex hP2 hD2 hS1 hce hcv hcl
  · obtain ⟨hP1, hK1, hD1⟩ := hB
    rw [ht] at hP1
    obtain ⟨hP2, hD2⟩ := va_join hP hD isC isR hC hR h2 hdis hk hFc hP1 hD1
    exact kk r H1 locs1 hw hP2 hD2 hS1
theorem th_callVl {i1 i2 a1 a2 : Nat} {t1 t2 E1 E2 : String} {post : Int64 → Prop} {ex : String → Prop} (S : CallFix p m c cc nL s args Ts own) (hM : vx_Met l y wsC rm (th D ws tys H.size i1 i2 t1 t2 a1 a2 E1 E2 (.ref b :: As)) (wrL D ws' tys (va_A ws H.size) post) (thX D ws tys (va_A ws H.size) ex) mc ms (va_A ws H.size)) (cw : CallW R s args own C index y bytes maxL ret wsC rm mc ms n)
    (hK : va_K D vwCl tys s) (hP : va_P D vwCl wall H) (hD : va_D A0 wall) (hS : va_S A0 H0 H locs) (hA : ∀ q, H0.size ≤ q → A0 q) (hX : xw A0 i1 i2 t1 t2 a1 a2 E1 E2 s H) (isC isR : List Nat) (hC : isC.map (fun i => wall[i]?) = ws.map some) (hR : isR.map (fun i => wall[i]?) = wrst.map some) (h1 : va_nd isC = true) (h2 : va_nd isR = true) (hdis : ∀ i ∈ isR, i ∉ isC)
    (hc : vwCl[ci]? = some (C, T, NN)) (he : ws[q0]? = some (b, .inr (ci, fs))) (hn : As.length = n) (hsize : ls.size = nL) (hst : st = As.reverse ++ .ref b :: rest) (hW : (rest.map fun v => v.category).sum ≤ 8) (hdg : decode cc pc = .ok (.invokevirtual index, 3)) (hf : cells + mc ≤ R.cells ∧ slots + ms ≤ R.slots)
    (kx : ∀ (E : String) (ce : Cell) (q9 : Addr) (H1 : Heap) (locs1 : List Loc), ex E → va_P D vwCl (wrst ++ ws) H1 → va_D A0 (wrst ++ ws) → va_S A0 H0 H1 locs1 → H1[q9]? = some ce → ce.vm = .none → s.vm.findClass E = some ce.cls → vx_W p l e R s m args below meth c H1 locs1 (cells + mc) (slots + ms) Q (F0 m pc ls rest) q9)
    (kk : ∀ (r : Int64) (H1 : Heap) (locs1 : List Loc), post r → va_P D vwCl (wrst ++ ws') H1 → va_D A0 (wrst ++ ws') → va_S A0 H0 H1 locs1 → W p l e R s m args below meth c H1 locs1 (cells + mc) (slots + ms) Q (F0 m (pc + 3) ls (.long r :: rest))) : W p l e R s m args below meth c H locs cells slots Q (F0 m pc ls st) := by
  have hPc : va_P D vwCl ws H := hP.sub isC (sub_of hC)
  have hDc : va_D A0 ws := hD.sub isC h1 hC
  have hFc := va_free (wc := ws) hD hS hA isC hC
  refine vx_calll (vx_runV (As := As) (rest := rest) S hM cw ⟨th_blind, va_recv hK hPc hc he, fun U hU hW => ⟨rfl, by rw [hU], by rw [hU]; exact hPc, va_K.moved hW.alike hK, hDc.weaken (fun _ _ _ _ => trivial), by rw [hU]; exact (hX.narrow hFc).warm hW⟩⟩ rfl hn hsize hst (lv_room hW) hdg hf) hS (fun q _ h => hFc q h) hFc (fun q _ h => hFc q h) (fun E ce q9 u t H1 locs1 ht hvm hw hB hz hk hS1 hce hcv hcl => ?_) (fun r u t H1 locs1 ht hvm hw hB hz hk hS1 => ?_)
  · obtain ⟨hex, hP1, hK1, hD1⟩ := hB
    rw [ht] at hP1
    obtain ⟨hP2, hD2⟩ := va_join hP hD isC isR hC hR h2 hdis hk hFc hP1 hD1
    exact kx E ce q9 H1 locs1 hex hP2 hD2 hS1 hce hcv hcl
  · obtain ⟨hP1, hK1, hD1⟩ := hB
    rw [ht] at hP1
    obtain ⟨hP2, hD2⟩ := va_join hP hD isC isR hC hR h2 hdis hk hFc hP1 hD1
    exact kk r H1 locs1 hw hP2 hD2 hS1
/-- an array of longs, of ints -/
theorem ix_newl (hexec : p.tables.exec = Jvm.exec) (hb : c.code = cc) (harr : (Cond.arrayClass .long).before args s = true) (hK : va_K D vwCl tys s) (hP : va_P D vwCl ws H) (hD : va_D A ws) (hS : va_S A H0 H locs) (hA : ∀ q, H0.size ≤ q → A q) {k : Nat} (hk : k ≤ 67108864) (hcells : cells + 1 ≤ R.cells) (hslots : slots + k ≤ R.slots) (hdg : decode cc pc = .ok (.newarray .long, 2))
    (kk : ∀ (q : Nat) (cA : ClassId) (H1 : Heap), va_K D vwCl (tys ++ [(cA, .long)]) s → va_P D vwCl (ws ++ [(q, .inl (cA, k, .inr (.inl (fun _ => 0))))]) H1 → va_D A (ws ++ [(q, .inl (cA, k, .inr (.inl (fun _ => 0))))]) → va_S A H0 H1 locs →
      W p l e R s m args below meth c H1 locs (cells + 1) (slots + k) Q (F0 m (pc + 2) ls (.ref q :: rest))) : W p l e R s m args below meth c H locs cells slots Q (F0 m pc ls (.int (nI k) :: rest)) :=
  va_newa (atype := .long) (ty := .long) (a0 := (k, .inr (.inl (fun _ => 0)))) hexec hb harr rfl hK hP hD hS hA (fun _ => rfl) (nI_pos (by omega)) (nI_clamp (by omega)) (by show k * 8 ≤ 536870912; omega) hcells hslots hdg kk
theorem ix_newi (hexec : p.tables.exec = Jvm.exec) (hb : c.code = cc) (harr : (Cond.arrayClass .int).before args s = true) (hK : va_K D vwCl tys s) (hP : va_P D vwCl ws H) (hD : va_D A ws) (hS : va_S A H0 H locs) (hA : ∀ q, H0.size ≤ q → A q) {k : Nat} (hk : k ≤ 67108864) (hcells : cells + 1 ≤ R.cells) (hslots : slots + k ≤ R.slots) (hdg : decode cc pc = .ok (.newarray .int, 2))
    (kk : ∀ (q : Nat) (cA : ClassId) (H1 : Heap), va_K D vwCl (tys ++ [(cA, .int)]) s → va_P D vwCl (ws ++ [(q, .inl (cA, k, .inl (fun _ => 0)))]) H1 → va_D A (ws ++ [(q, .inl (cA, k, .inl (fun _ => 0)))]) → va_S A H0 H1 locs →
      W p l e R s m args below meth c H1 locs (cells + 1) (slots + k) Q (F0 m (pc + 2) ls (.ref q :: rest))) : W p l e R s m args below meth c H locs cells slots Q (F0 m pc ls (.int (nI k) :: rest)) :=
  va_newa (atype := .int) (ty := .int) (a0 := (k, .inl (fun _ => 0))) hexec hb harr rfl hK hP hD hS hA (fun _ => rfl) (nI_pos (by omega)) (nI_clamp (by omega)) (by show k * 4 ≤ 536870912; omega) hcells hslots hdg kk
end R11
