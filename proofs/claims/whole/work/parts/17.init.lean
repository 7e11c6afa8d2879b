set_option maxHeartbeats 4000000 in
set_option maxRecDepth 100000 in
theorem k_X0_init (l : Launch) (dC : Nat → ClassId) (dI : Nat → Nat → Nat) (x sz : Nat) : Met l yX0_init wsX0_init ({ frames := 1, cells := 3, slots := 7684, locals := 12 } : Room) (wr (dC, dI) [(x, .inr (0, [.null, .null, .null, .int 0]))] [] sz [.ref x]) (va_Qv (fun (_ : Unit) => True) (fun _ t9 => ∃ (g t f : Nat) (cI cJ : ClassId), wrB (dC, dI) (wX cI cJ x g t f (fun _ => 0) (fun _ => 0) (fun _ => 0) 0) (tK cI cJ) (va_A [(x, .inr (0, [.null, .null, .null, .int 0]))] sz) t9) (va_A [(x, .inr (0, [.null, .null, .null, .int 0]))] sz)) 3 7684 (va_A [(x, .inr (0, [.null, .null, .null, .int 0]))] sz) := by
  refine Met.ofW (cc := cX0_init) (maxL := 1) (ret := none) (by decide) rfl ?_
  intro p e s m args below meth c s₁ B hml hv
  obtain ⟨rfl, hsz, hP, hK, hD0⟩ := hv
  have hx := B.exec
  have hb := B.bytes
  have hr := B.returns
  have hts := atoms_spec (ws := wsX0_init) B.pre
  have hown : s.vm.findClass RX0 = some m.cls := findClass_of_methodNamed B.named
  have hlocks := B.notSynchronized
  have hinX0 : ∀ w ∈ u_ws RX0 TX0 4, w ∈ wsX0_init := by decide +kernel
  have hf9 := hts (.fieldLink RX0 9 "GameArbiter" "given" "[J") (by decide +kernel)
  have hf13 := hts (.fieldLink RX0 13 "GameArbiter" "told" "[J") (by decide +kernel)
  have hf16 := hts (.fieldLink RX0 16 "GameArbiter" "facts" "[I") (by decide +kernel)
  have hf20 := hts (.fieldLink RX0 20 "GameArbiter" "positions" "I") (by decide +kernel)
  have hl := lv_entry ([.ref x]) (n := 1) (Nat.le_of_ble_eq_true rfl)
  rw [lg_entry_eq]
  generalize (lg_sl ([.ref x]) ++ List.replicate (1 - (lg_sl ([.ref x])).length) Slot.unset).toArray = ls at hl ⊢
  replace hl : lv_has ls 1 [(0, .ref x)] := hl
  have hin : meth.name = "<init>" := (name_of_methodNamed B.named B.method).1
  subst hsz
  have hD := hD0.self (sz := s.heap.size)
  generalize hAe : va_A [(x, .inr (0, [.null, .null, .null, .int 0]))] s.heap.size = A at hD ⊢
  have hA : ∀ q : Nat, s.heap.size ≤ q → A q := fun q h => by rw [← hAe]; exact Or.inr h
  have hS : va_S A s.heap s.heap [] := va_S.rf
  replace hP : va_P (dC, dI) vwCl [(x, .inr (0, [.null, .null, .null, .int 0]))] s.heap := hP
  replace hD : va_D A [(x, .inr (0, [.null, .null, .null, .int 0]))] := hD
  refine lv_aload_n hx hb dX0_init_0 rfl (lv_at hl 0 rfl) ?_
  refine W.objInit hx hb hown (hts (.methodLink RX0 1 objectInit) (by decide +kernel)) (hts (.instanceMethod objectInit) (by decide +kernel)) (hts _ (List.mem_cons_of_mem _ (List.mem_append_left _ (List.mem_of_getElem? (i := 2) rfl)))) rfl (by rw [hml]; exact hl.1) rfl dX0_init_1 (Nat.le_of_ble_eq_true rfl) (Nat.le_of_ble_eq_true rfl) ?_
  refine W.eq (g2 := F0 m 4 ls []) rfl ?_
  refine lv_aload_n hx hb dX0_init_4 rfl (lv_at hl 0 rfl) ?_
  refine lv_iconst (v := nI 4) hx hb dX0_init_5 (by decide) ?_
  refine ix_newl hx hb (hts (.arrayClass .long) (by decide +kernel)) hK hP hD hS hA (k := 4) (by decide) (Nat.le_of_ble_eq_true rfl) (Nat.le_of_ble_eq_true rfl) dX0_init_6 (fun g cJ H hK hP hD hS => ?_)
  refine W.widen (k := 1) (n := 4) (by omega) (by omega) ?_
  replace hK : va_K (dC, dI) vwCl [(cJ, .long)] s := hK
  replace hP : va_P (dC, dI) vwCl [(x, .inr (0, [.null, .null, .null, .int 0])), (g, .inl (cJ, 4, .inr (.inl (fun _ => 0))))] H := hP
  replace hD : va_D A [(x, .inr (0, [.null, .null, .null, .int 0])), (g, .inl (cJ, 4, .inr (.inl (fun _ => 0))))] := hD
  refine va_putF (D := (dC, dI)) (ci := 0) (v := .ref g) (ty := .array .long) (C := RX0) (T := TX0) (N := 4) hx hb hts hinX0 tyX0 tyX0_ok nmX0 hown hK hP hD hS 0 rfl rfl 0 (by decide) hf9 (fun _ h9 => h9) rfl hin rfl (by decide +kernel) rfl rfl (Nat.le_of_ble_eq_true rfl) dX0_init_8 (fun H locs hP hD hS => ?_)
  replace hP : va_P (dC, dI) vwCl [(x, .inr (0, [.ref g, .null, .null, .int 0])), (g, .inl (cJ, 4, .inr (.inl (fun _ => 0))))] H := hP
  replace hD : va_D A [(x, .inr (0, [.ref g, .null, .null, .int 0])), (g, .inl (cJ, 4, .inr (.inl (fun _ => 0))))] := hD
  refine lv_aload_n hx hb dX0_init_11 rfl (lv_at hl 0 rfl) ?_
  refine lv_sipush (v := nI 2560) hx hb dX0_init_12 (by decide) ?_
  refine ix_newl hx hb (hts (.arrayClass .long) (by decide +kernel)) hK hP hD hS hA (k := 2560) (by decide) (Nat.le_of_ble_eq_true rfl) (Nat.le_of_ble_eq_true rfl) dX0_init_15 (fun t cz H hK hP hD hS => ?_)
  refine W.widen (k := 2) (n := 2564) (by omega) (by omega) ?_
  obtain rfl := ty_long (i := 0) (j := 1) hK rfl rfl
  replace hK : va_K (dC, dI) vwCl [(cJ, .long)] s := hK.sub [0] rfl
  replace hP : va_P (dC, dI) vwCl [(x, .inr (0, [.ref g, .null, .null, .int 0])), (g, .inl (cJ, 4, .inr (.inl (fun _ => 0)))), (t, .inl (cJ, 2560, .inr (.inl (fun _ => 0))))] H := hP
  replace hD : va_D A [(x, .inr (0, [.ref g, .null, .null, .int 0])), (g, .inl (cJ, 4, .inr (.inl (fun _ => 0)))), (t, .inl (cJ, 2560, .inr (.inl (fun _ => 0))))] := hD
  refine va_putF (D := (dC, dI)) (ci := 0) (v := .ref t) (ty := .array .long) (C := RX0) (T := TX0) (N := 4) hx hb hts hinX0 tyX0 tyX0_ok nmX0 hown hK hP hD hS 0 rfl rfl 1 (by decide) hf13 (fun _ h9 => h9) rfl hin rfl (by decide +kernel) rfl rfl (Nat.le_of_ble_eq_true rfl) dX0_init_17 (fun H locs hP hD hS => ?_)
  replace hP : va_P (dC, dI) vwCl [(x, .inr (0, [.ref g, .ref t, .null, .int 0])), (g, .inl (cJ, 4, .inr (.inl (fun _ => 0)))), (t, .inl (cJ, 2560, .inr (.inl (fun _ => 0))))] H := hP
  replace hD : va_D A [(x, .inr (0, [.ref g, .ref t, .null, .int 0])), (g, .inl (cJ, 4, .inr (.inl (fun _ => 0)))), (t, .inl (cJ, 2560, .inr (.inl (fun _ => 0))))] := hD
  refine lv_aload_n hx hb dX0_init_20 rfl (lv_at hl 0 rfl) ?_
  refine lv_sipush (v := nI 5120) hx hb dX0_init_21 (by decide) ?_
  refine ix_newi hx hb (hts (.arrayClass .int) (by decide +kernel)) hK hP hD hS hA (k := 5120) (by decide) (Nat.le_of_ble_eq_true rfl) (Nat.le_of_ble_eq_true rfl) dX0_init_24 (fun f cI H hK hP hD hS => ?_)
  refine W.widen (k := 3) (n := 7684) (by omega) (by omega) ?_
  replace hK : va_K (dC, dI) vwCl [(cJ, .long), (cI, .int)] s := hK
  replace hP : va_P (dC, dI) vwCl [(x, .inr (0, [.ref g, .ref t, .null, .int 0])), (g, .inl (cJ, 4, .inr (.inl (fun _ => 0)))), (t, .inl (cJ, 2560, .inr (.inl (fun _ => 0)))), (f, .inl (cI, 5120, .inl (fun _ => 0)))] H := hP
  replace hD : va_D A [(x, .inr (0, [.ref g, .ref t, .null, .int 0])), (g, .inl (cJ, 4, .inr (.inl (fun _ => 0)))), (t, .inl (cJ, 2560, .inr (.inl (fun _ => 0)))), (f, .inl (cI, 5120, .inl (fun _ => 0)))] := hD
  refine va_putF (D := (dC, dI)) (ci := 0) (v := .ref f) (ty := .array .int) (C := RX0) (T := TX0) (N := 4) hx hb hts hinX0 tyX0 tyX0_ok nmX0 hown hK hP hD hS 0 rfl rfl 2 (by decide) hf16 (fun _ h9 => h9) rfl hin rfl (by decide +kernel) rfl rfl (Nat.le_of_ble_eq_true rfl) dX0_init_26 (fun H locs hP hD hS => ?_)
  replace hP : va_P (dC, dI) vwCl [(x, .inr (0, [.ref g, .ref t, .ref f, .int 0])), (g, .inl (cJ, 4, .inr (.inl (fun _ => 0)))), (t, .inl (cJ, 2560, .inr (.inl (fun _ => 0)))), (f, .inl (cI, 5120, .inl (fun _ => 0)))] H := hP
  replace hD : va_D A [(x, .inr (0, [.ref g, .ref t, .ref f, .int 0])), (g, .inl (cJ, 4, .inr (.inl (fun _ => 0)))), (t, .inl (cJ, 2560, .inr (.inl (fun _ => 0)))), (f, .inl (cI, 5120, .inl (fun _ => 0)))] := hD
  refine lv_aload_n hx hb dX0_init_29 rfl (lv_at hl 0 rfl) ?_
  refine lv_iconst (v := nI 0) hx hb dX0_init_30 (by decide) ?_
  refine va_put (D := (dC, dI)) (ci := 0) (v := .int (nI 0)) (ty := .int) (C := RX0) (T := TX0) (N := 4) hx hb hts hinX0 tyX0 tyX0_ok nmX0 hown hK hP hD hS 0 rfl rfl 3 (by decide) hf20 (fun _ h9 => h9) rfl (by decide +kernel) rfl rfl (Nat.le_of_ble_eq_true rfl) dX0_init_31 (fun H locs hP hD hS => ?_)
  replace hP : va_P (dC, dI) vwCl [(x, .inr (0, [.ref g, .ref t, .ref f, .int (nI 0)])), (g, .inl (cJ, 4, .inr (.inl (fun _ => 0)))), (t, .inl (cJ, 2560, .inr (.inl (fun _ => 0)))), (f, .inl (cI, 5120, .inl (fun _ => 0)))] H := hP
  replace hD : va_D A [(x, .inr (0, [.ref g, .ref t, .ref f, .int (nI 0)])), (g, .inl (cJ, 4, .inr (.inl (fun _ => 0)))), (t, .inl (cJ, 2560, .inr (.inl (fun _ => 0)))), (f, .inl (cI, 5120, .inl (fun _ => 0)))] := hD
  exact W.vret hx hb hr (fun t9 ht hW => ⟨⟨(), rfl, trivial, g, t, f, cI, cJ, by rw [ht]; exact hP, va_K.moved hW.alike hK, hD⟩, hS.F ht⟩) hS.2.2 dX0_init_34
set_option maxHeartbeats 4000000 in
set_option maxRecDepth 100000 in
theorem k_X1_init (l : Launch) (dC : Nat → ClassId) (dI : Nat → Nat → Nat) (y sz : Nat) : Met l yX1_init wsX1_init ({ frames := 1, cells := 5, slots := 42944, locals := 12 } : Room) (wr (dC, dI) [(y, .inr (1, [.int 0, .null, .int 0, .null, .null, .null, .null]))] [] sz [.ref y]) (va_Qv (fun (_ : Unit) => True) (fun _ t9 => ∃ (a b c9 d v : Nat) (cI : ClassId), wrB (dC, dI) (wM cI y a b c9 d v 0 (fun _ => 0) 0 (fun _ => 0) (fun _ => 0) (fun _ => 0) (fun _ => 0)) (tM cI) (va_A [(y, .inr (1, [.int 0, .null, .int 0, .null, .null, .null, .null]))] sz) t9) (va_A [(y, .inr (1, [.int 0, .null, .int 0, .null, .null, .null, .null]))] sz)) 5 42944 (va_A [(y, .inr (1, [.int 0, .null, .int 0, .null, .null, .null, .null]))] sz) := by
  refine Met.ofW (cc := cX1_init) (maxL := 1) (ret := none) (by decide) rfl ?_
  intro p e s m args below meth c s₁ B hml hv
  obtain ⟨rfl, hsz, hP, hK, hD0⟩ := hv
  have hx := B.exec
  have hb := B.bytes
  have hr := B.returns
  have hts := atoms_spec (ws := wsX1_init) B.pre
  have hown : s.vm.findClass RX1 = some m.cls := findClass_of_methodNamed B.named
  have hlocks := B.notSynchronized
  have hinX1 : ∀ w ∈ u_ws RX1 TX1 7, w ∈ wsX1_init := by decide +kernel
  have hf7 := hts (.fieldLink RX1 7 "GameArbiterModel" "next" "[I") (by decide +kernel)
  have hf14 := hts (.fieldLink RX1 14 "GameArbiterModel" "men" "[I") (by decide +kernel)
  have hf17 := hts (.fieldLink RX1 17 "GameArbiterModel" "states" "[I") (by decide +kernel)
  have hf20 := hts (.fieldLink RX1 20 "GameArbiterModel" "clocks" "[I") (by decide +kernel)
  have hf23 := hts (.fieldLink RX1 23 "GameArbiterModel" "verdicts" "[I") (by decide +kernel)
  have hl := lv_entry ([.ref y]) (n := 1) (Nat.le_of_ble_eq_true rfl)
  rw [lg_entry_eq]
  generalize (lg_sl ([.ref y]) ++ List.replicate (1 - (lg_sl ([.ref y])).length) Slot.unset).toArray = ls at hl ⊢
  replace hl : lv_has ls 1 [(0, .ref y)] := hl
  have hin : meth.name = "<init>" := (name_of_methodNamed B.named B.method).1
  subst hsz
  have hD := hD0.self (sz := s.heap.size)
  generalize hAe : va_A [(y, .inr (1, [.int 0, .null, .int 0, .null, .null, .null, .null]))] s.heap.size = A at hD ⊢
  have hA : ∀ q : Nat, s.heap.size ≤ q → A q := fun q h => by rw [← hAe]; exact Or.inr h
  have hS : va_S A s.heap s.heap [] := va_S.rf
  replace hP : va_P (dC, dI) vwCl [(y, .inr (1, [.int 0, .null, .int 0, .null, .null, .null, .null]))] s.heap := hP
  replace hD : va_D A [(y, .inr (1, [.int 0, .null, .int 0, .null, .null, .null, .null]))] := hD
  refine lv_aload_n hx hb dX1_init_0 rfl (lv_at hl 0 rfl) ?_
  refine W.objInit hx hb hown (hts (.methodLink RX1 1 objectInit) (by decide +kernel)) (hts (.instanceMethod objectInit) (by decide +kernel)) (hts _ (List.mem_cons_of_mem _ (List.mem_append_left _ (List.mem_of_getElem? (i := 2) rfl)))) rfl (by rw [hml]; exact hl.1) rfl dX1_init_1 (Nat.le_of_ble_eq_true rfl) (Nat.le_of_ble_eq_true rfl) ?_
  refine W.eq (g2 := F0 m 4 ls []) rfl ?_
  refine lv_aload_n hx hb dX1_init_4 rfl (lv_at hl 0 rfl) ?_
  refine lv_bipush (v := nI 64) hx hb dX1_init_5 (by decide) ?_
  refine ix_newi hx hb (hts (.arrayClass .int) (by decide +kernel)) hK hP hD hS hA (k := 64) (by decide) (Nat.le_of_ble_eq_true rfl) (Nat.le_of_ble_eq_true rfl) dX1_init_7 (fun a cI H hK hP hD hS => ?_)
  refine W.widen (k := 1) (n := 64) (by omega) (by omega) ?_
  replace hK : va_K (dC, dI) vwCl [(cI, .int)] s := hK
  replace hP : va_P (dC, dI) vwCl [(y, .inr (1, [.int 0, .null, .int 0, .null, .null, .null, .null])), (a, .inl (cI, 64, .inl (fun _ => 0)))] H := hP
  replace hD : va_D A [(y, .inr (1, [.int 0, .null, .int 0, .null, .null, .null, .null])), (a, .inl (cI, 64, .inl (fun _ => 0)))] := hD
  refine va_putF (D := (dC, dI)) (ci := 1) (v := .ref a) (ty := .array .int) (C := RX1) (T := TX1) (N := 7) hx hb hts hinX1 tyX1 tyX1_ok nmX1 hown hK hP hD hS 0 rfl rfl 1 (by decide) hf7 (fun _ h9 => h9) rfl hin rfl (by decide +kernel) rfl rfl (Nat.le_of_ble_eq_true rfl) dX1_init_9 (fun H locs hP hD hS => ?_)
  replace hP : va_P (dC, dI) vwCl [(y, .inr (1, [.int 0, .ref a, .int 0, .null, .null, .null, .null])), (a, .inl (cI, 64, .inl (fun _ => 0)))] H := hP
  replace hD : va_D A [(y, .inr (1, [.int 0, .ref a, .int 0, .null, .null, .null, .null])), (a, .inl (cI, 64, .inl (fun _ => 0)))] := hD
  refine lv_aload_n hx hb dX1_init_12 rfl (lv_at hl 0 rfl) ?_
  refine lv_ldc (v := (40960)) hx hb hown (hts (.constant RX1 13 (40960)) (by decide +kernel)) dX1_init_13 ?_
  refine lv_is (y := nI 40960) (by decide) ?_
  refine ix_newi hx hb (hts (.arrayClass .int) (by decide +kernel)) hK hP hD hS hA (k := 40960) (by decide) (Nat.le_of_ble_eq_true rfl) (Nat.le_of_ble_eq_true rfl) dX1_init_15 (fun b cz H hK hP hD hS => ?_)
  refine W.widen (k := 2) (n := 41024) (by omega) (by omega) ?_
  obtain rfl := ty_int (i := 0) (j := 1) hK rfl rfl
  replace hK : va_K (dC, dI) vwCl [(cI, .int)] s := hK.sub [0] rfl
  replace hP : va_P (dC, dI) vwCl [(y, .inr (1, [.int 0, .ref a, .int 0, .null, .null, .null, .null])), (a, .inl (cI, 64, .inl (fun _ => 0))), (b, .inl (cI, 40960, .inl (fun _ => 0)))] H := hP
  replace hD : va_D A [(y, .inr (1, [.int 0, .ref a, .int 0, .null, .null, .null, .null])), (a, .inl (cI, 64, .inl (fun _ => 0))), (b, .inl (cI, 40960, .inl (fun _ => 0)))] := hD
  refine va_putF (D := (dC, dI)) (ci := 1) (v := .ref b) (ty := .array .int) (C := RX1) (T := TX1) (N := 7) hx hb hts hinX1 tyX1 tyX1_ok nmX1 hown hK hP hD hS 0 rfl rfl 3 (by decide) hf14 (fun _ h9 => h9) rfl hin rfl (by decide +kernel) rfl rfl (Nat.le_of_ble_eq_true rfl) dX1_init_17 (fun H locs hP hD hS => ?_)
  replace hP : va_P (dC, dI) vwCl [(y, .inr (1, [.int 0, .ref a, .int 0, .ref b, .null, .null, .null])), (a, .inl (cI, 64, .inl (fun _ => 0))), (b, .inl (cI, 40960, .inl (fun _ => 0)))] H := hP
  replace hD : va_D A [(y, .inr (1, [.int 0, .ref a, .int 0, .ref b, .null, .null, .null])), (a, .inl (cI, 64, .inl (fun _ => 0))), (b, .inl (cI, 40960, .inl (fun _ => 0)))] := hD
  refine lv_aload_n hx hb dX1_init_20 rfl (lv_at hl 0 rfl) ?_
  refine lv_sipush (v := nI 640) hx hb dX1_init_21 (by decide) ?_
  refine ix_newi hx hb (hts (.arrayClass .int) (by decide +kernel)) hK hP hD hS hA (k := 640) (by decide) (Nat.le_of_ble_eq_true rfl) (Nat.le_of_ble_eq_true rfl) dX1_init_24 (fun c9 cz H hK hP hD hS => ?_)
  refine W.widen (k := 3) (n := 41664) (by omega) (by omega) ?_
  obtain rfl := ty_int (i := 0) (j := 1) hK rfl rfl
  replace hK : va_K (dC, dI) vwCl [(cI, .int)] s := hK.sub [0] rfl
  replace hP : va_P (dC, dI) vwCl [(y, .inr (1, [.int 0, .ref a, .int 0, .ref b, .null, .null, .null])), (a, .inl (cI, 64, .inl (fun _ => 0))), (b, .inl (cI, 40960, .inl (fun _ => 0))), (c9, .inl (cI, 640, .inl (fun _ => 0)))] H := hP
  replace hD : va_D A [(y, .inr (1, [.int 0, .ref a, .int 0, .ref b, .null, .null, .null])), (a, .inl (cI, 64, .inl (fun _ => 0))), (b, .inl (cI, 40960, .inl (fun _ => 0))), (c9, .inl (cI, 640, .inl (fun _ => 0)))] := hD
  refine va_putF (D := (dC, dI)) (ci := 1) (v := .ref c9) (ty := .array .int) (C := RX1) (T := TX1) (N := 7) hx hb hts hinX1 tyX1 tyX1_ok nmX1 hown hK hP hD hS 0 rfl rfl 4 (by decide) hf17 (fun _ h9 => h9) rfl hin rfl (by decide +kernel) rfl rfl (Nat.le_of_ble_eq_true rfl) dX1_init_26 (fun H locs hP hD hS => ?_)
  replace hP : va_P (dC, dI) vwCl [(y, .inr (1, [.int 0, .ref a, .int 0, .ref b, .ref c9, .null, .null])), (a, .inl (cI, 64, .inl (fun _ => 0))), (b, .inl (cI, 40960, .inl (fun _ => 0))), (c9, .inl (cI, 640, .inl (fun _ => 0)))] H := hP
  replace hD : va_D A [(y, .inr (1, [.int 0, .ref a, .int 0, .ref b, .ref c9, .null, .null])), (a, .inl (cI, 64, .inl (fun _ => 0))), (b, .inl (cI, 40960, .inl (fun _ => 0))), (c9, .inl (cI, 640, .inl (fun _ => 0)))] := hD
  refine lv_aload_n hx hb dX1_init_29 rfl (lv_at hl 0 rfl) ?_
  refine lv_sipush (v := nI 640) hx hb dX1_init_30 (by decide) ?_
  refine ix_newi hx hb (hts (.arrayClass .int) (by decide +kernel)) hK hP hD hS hA (k := 640) (by decide) (Nat.le_of_ble_eq_true rfl) (Nat.le_of_ble_eq_true rfl) dX1_init_33 (fun d cz H hK hP hD hS => ?_)
  refine W.widen (k := 4) (n := 42304) (by omega) (by omega) ?_
  obtain rfl := ty_int (i := 0) (j := 1) hK rfl rfl
  replace hK : va_K (dC, dI) vwCl [(cI, .int)] s := hK.sub [0] rfl
  replace hP : va_P (dC, dI) vwCl [(y, .inr (1, [.int 0, .ref a, .int 0, .ref b, .ref c9, .null, .null])), (a, .inl (cI, 64, .inl (fun _ => 0))), (b, .inl (cI, 40960, .inl (fun _ => 0))), (c9, .inl (cI, 640, .inl (fun _ => 0))), (d, .inl (cI, 640, .inl (fun _ => 0)))] H := hP
  replace hD : va_D A [(y, .inr (1, [.int 0, .ref a, .int 0, .ref b, .ref c9, .null, .null])), (a, .inl (cI, 64, .inl (fun _ => 0))), (b, .inl (cI, 40960, .inl (fun _ => 0))), (c9, .inl (cI, 640, .inl (fun _ => 0))), (d, .inl (cI, 640, .inl (fun _ => 0)))] := hD
  refine va_putF (D := (dC, dI)) (ci := 1) (v := .ref d) (ty := .array .int) (C := RX1) (T := TX1) (N := 7) hx hb hts hinX1 tyX1 tyX1_ok nmX1 hown hK hP hD hS 0 rfl rfl 5 (by decide) hf20 (fun _ h9 => h9) rfl hin rfl (by decide +kernel) rfl rfl (Nat.le_of_ble_eq_true rfl) dX1_init_35 (fun H locs hP hD hS => ?_)
  replace hP : va_P (dC, dI) vwCl [(y, .inr (1, [.int 0, .ref a, .int 0, .ref b, .ref c9, .ref d, .null])), (a, .inl (cI, 64, .inl (fun _ => 0))), (b, .inl (cI, 40960, .inl (fun _ => 0))), (c9, .inl (cI, 640, .inl (fun _ => 0))), (d, .inl (cI, 640, .inl (fun _ => 0)))] H := hP
  replace hD : va_D A [(y, .inr (1, [.int 0, .ref a, .int 0, .ref b, .ref c9, .ref d, .null])), (a, .inl (cI, 64, .inl (fun _ => 0))), (b, .inl (cI, 40960, .inl (fun _ => 0))), (c9, .inl (cI, 640, .inl (fun _ => 0))), (d, .inl (cI, 640, .inl (fun _ => 0)))] := hD
  refine lv_aload_n hx hb dX1_init_38 rfl (lv_at hl 0 rfl) ?_
  refine lv_sipush (v := nI 640) hx hb dX1_init_39 (by decide) ?_
  refine ix_newi hx hb (hts (.arrayClass .int) (by decide +kernel)) hK hP hD hS hA (k := 640) (by decide) (Nat.le_of_ble_eq_true rfl) (Nat.le_of_ble_eq_true rfl) dX1_init_42 (fun v cz H hK hP hD hS => ?_)
  refine W.widen (k := 5) (n := 42944) (by omega) (by omega) ?_
  obtain rfl := ty_int (i := 0) (j := 1) hK rfl rfl
  replace hK : va_K (dC, dI) vwCl [(cI, .int)] s := hK.sub [0] rfl
  replace hP : va_P (dC, dI) vwCl [(y, .inr (1, [.int 0, .ref a, .int 0, .ref b, .ref c9, .ref d, .null])), (a, .inl (cI, 64, .inl (fun _ => 0))), (b, .inl (cI, 40960, .inl (fun _ => 0))), (c9, .inl (cI, 640, .inl (fun _ => 0))), (d, .inl (cI, 640, .inl (fun _ => 0))), (v, .inl (cI, 640, .inl (fun _ => 0)))] H := hP
  replace hD : va_D A [(y, .inr (1, [.int 0, .ref a, .int 0, .ref b, .ref c9, .ref d, .null])), (a, .inl (cI, 64, .inl (fun _ => 0))), (b, .inl (cI, 40960, .inl (fun _ => 0))), (c9, .inl (cI, 640, .inl (fun _ => 0))), (d, .inl (cI, 640, .inl (fun _ => 0))), (v, .inl (cI, 640, .inl (fun _ => 0)))] := hD
  refine va_putF (D := (dC, dI)) (ci := 1) (v := .ref v) (ty := .array .int) (C := RX1) (T := TX1) (N := 7) hx hb hts hinX1 tyX1 tyX1_ok nmX1 hown hK hP hD hS 0 rfl rfl 6 (by decide) hf23 (fun _ h9 => h9) rfl hin rfl (by decide +kernel) rfl rfl (Nat.le_of_ble_eq_true rfl) dX1_init_44 (fun H locs hP hD hS => ?_)
  replace hP : va_P (dC, dI) vwCl [(y, .inr (1, [.int 0, .ref a, .int 0, .ref b, .ref c9, .ref d, .ref v])), (a, .inl (cI, 64, .inl (fun _ => 0))), (b, .inl (cI, 40960, .inl (fun _ => 0))), (c9, .inl (cI, 640, .inl (fun _ => 0))), (d, .inl (cI, 640, .inl (fun _ => 0))), (v, .inl (cI, 640, .inl (fun _ => 0)))] H := hP
  replace hD : va_D A [(y, .inr (1, [.int 0, .ref a, .int 0, .ref b, .ref c9, .ref d, .ref v])), (a, .inl (cI, 64, .inl (fun _ => 0))), (b, .inl (cI, 40960, .inl (fun _ => 0))), (c9, .inl (cI, 640, .inl (fun _ => 0))), (d, .inl (cI, 640, .inl (fun _ => 0))), (v, .inl (cI, 640, .inl (fun _ => 0)))] := hD
  exact W.vret hx hb hr (fun t9 ht hW => ⟨⟨(), rfl, trivial, a, b, c9, d, v, cI, by rw [ht]; exact hP, va_K.moved hW.alike hK, hD⟩, hS.F ht⟩) hS.2.2 dX1_init_47
