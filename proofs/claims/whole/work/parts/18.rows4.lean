/-! the law's own rows -/
section R18
variable {p : Program} {l : Launch} {e : Env} {R : Room} {s : State} {m : MethodId} {args : Array Value} {below : List Frame} {meth : Method} {c : Code} {H : Heap} {locs : List Loc} {cells slots : Nat} {Q : State → Prop}
variable {y : MethodName} {bytes cc : ByteArray} {maxL nL n index pc mc ms : Nat} {ret : Option FieldType} {hh : List (Nat × Nat × Nat × Nat)} {wsC : List Cond} {rm : Room} {Ts : List Cond} {own C : String} {b : Addr} {As rest st : List Value} {ls : Array Slot}
variable {D : va_G} {wall ws ws' ws1 wrst : va_W} {tys : List (ClassId × FieldType)} {q0 ci : Nat} {T : u_T} {NN : Nat} {fs : List Value} {A A0 : Nat → Prop} {H0 : Heap}
/-- a call of a static method with a table, that owns the places isC -/
theorem th_callSW {i1 i2 a1 a2 : Nat} {t1 t2 E1 E2 : String} {post : Int32 → Prop} (S : CallFix p m c cc nL s args Ts own) (hM : Met l y wsC rm (th D ws tys H.size i1 i2 t1 t2 a1 a2 E1 E2 As) (wrQ D ws' tys (va_A ws H.size) post) mc ms (va_A ws H.size)) (cw : vx_CSW R s args own index y bytes maxL ret hh wsC rm mc ms n)
    (hK : va_K D vwCl tys s) (hP : va_P D vwCl wall H) (hD : va_D A0 wall) (hS : va_S A0 H0 H locs) (hA : ∀ q, H0.size ≤ q → A0 q) (hX : xw A0 i1 i2 t1 t2 a1 a2 E1 E2 s H) (isC isR : List Nat) (hC : isC.map (fun i => wall[i]?) = ws.map some) (hR : isR.map (fun i => wall[i]?) = wrst.map some) (h1 : va_nd isC = true) (h2 : va_nd isR = true) (hdis : ∀ i ∈ isR, i ∉ isC)
    (hn : As.length = n) (hsize : ls.size = nL) (hst : st = As.reverse ++ rest) (hW : (rest.map fun v => v.category).sum ≤ 8) (hdg : decode cc pc = .ok (.invokestatic index, 3)) (hf : cells + mc ≤ R.cells ∧ slots + ms ≤ R.slots)
    (kk : ∀ (r : Int32) (H1 : Heap) (locs1 : List Loc), post r → va_P D vwCl (wrst ++ ws') H1 → va_D A0 (wrst ++ ws') → va_S A0 H0 H1 locs1 → W p l e R s m args below meth c H1 locs1 (cells + mc) (slots + ms) Q (F0 m (pc + 3) ls (.int r :: rest))) : W p l e R s m args below meth c H locs cells slots Q (F0 m pc ls st) := by
  have hPc : va_P D vwCl ws H := hP.sub isC (sub_of hC)
  have hDc : va_D A0 ws := hD.sub isC h1 hC
  have hFc := va_free (wc := ws) hD hS hA isC hC
  refine va_calli (vx_runSW (As := As) (rest := rest) S hM cw ⟨th_blind, fun U hU hW => ⟨rfl, by rw [hU], by rw [hU]; exact hPc, va_K.moved hW.alike hK, hDc.weaken (fun _ _ _ _ => trivial), by rw [hU]; exact (hX.narrow hFc).warm hW⟩⟩ rfl hn hsize hst (lv_room hW) hdg hf) hS (fun q _ h => hFc q h) hFc (fun r u t H1 locs1 ht hvm hw hB hz hk hS1 => ?_)
  obtain ⟨hP1, hK1, hD1⟩ := hB
  rw [ht] at hP1
  obtain ⟨hP2, hD2⟩ := va_join hP hD isC isR hC hR h2 hdis hk hFc hP1 hD1
  exact kk r H1 locs1 hw hP2 hD2 hS1
/-- the law's script, by natural numbers -/
theorem ix_sld {b L : Nat} {xs : Nat → Int32} (hexec : p.tables.exec = Jvm.exec) (hb : c.code = cc) (hX : va_X b L xs s H0) (hbl : b < H0.size) (hbA : ¬ A b) (hS : va_S A H0 H locs) {i : Nat} (hi : i < L) (hL : L < 2 ^ 31) (hdg : decode cc pc = .ok (.iaload, 1))
    (kk : W p l e R s m args below meth c H locs cells slots Q (F0 m (pc + 1) ls (.int (xs i) :: rest))) : W p l e R s m args below meth c H locs cells slots Q (F0 m pc ls (.int (nI i) :: .ref b :: rest)) :=
  va_sld hexec hb hX hbl hbA hS (vp_in_nI hi hL) hdg (by rw [nI_clamp (by omega)]; exact kk)
end R18
theorem law_cmp {L i : Nat} (hL : L ≤ 2560) (hi : i ≤ 2560) : nI L - nI 5 < nI i ↔ L < i + 5 := by
  rw [Int32.lt_iff_toInt_lt, pk_sub_toInt (by omega) (by omega), nI_toInt (by omega)]
  omega
