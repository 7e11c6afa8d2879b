/-- whether begin takes its arguments, whether next does (0 yes, 1 no further position, 2 not these) -/
def ga_okB (st mv cl : Int32) : Nat := if ga_isState st = 0 then 1 else if ga_isMoves mv = 0 then 1 else if ga_isClock cl = 0 then 1 else 0
def ga_okN (F : Nat → Int32) (n : Nat) (st mv : Int32) : Nat := if ga_takes F n = 0 then 1 else if ga_isState st = 0 then 2 else if ga_isMoves mv = 0 then 2 else 0
def ga_clN (F : Nat → Int32) (n : Nat) (ir : Int32) : Int32 := if ir = 0 then F ((n - 1) * 8 + 1) + nI 1 else nI 0
def ga_okO (n : Nat) (i w : Int32) : Nat := if ga_isPos n i = 0 then 1 else if w < 0 then 1 else if w < nI 8 then 0 else 1
def ga_okT (q : Int32) : Nat := if ga_isState q = 0 then 1 else 0
def ga_okM (n : Nat) (i q : Int32) : Nat := if ga_isPos n i = 0 then 1 else if ga_isPart q = 0 then 1 else 0
theorem ga_takes_n {F : Nat → Int32} {n : Nat} (h : ¬ ga_takes F n = 0) : 0 < n ∧ n < 640 := by
  by_cases h1 : n = 0
  · rw [ga_takes, if_pos h1] at h; exact absurd nI_0 h
  · by_cases h2 : n < 640
    · exact ⟨by omega, h2⟩
    · rw [ga_takes, if_neg h1, if_neg h2] at h; exact absurd nI_0 h
set_option maxHeartbeats 4000000 in
set_option maxRecDepth 100000 in
theorem k_X0_begin (l : Launch) (dC : Nat → ClassId) (dI : Nat → Nat → Nat) (cI cJ : ClassId) (x g t f : Nat) (G T : Nat → Int64) (F : Nat → Int32) (n : Nat) (st mv ck cl : Int32) (sz : Nat) (hn : n ≤ 640) {a1 a2 : Nat} (hno : l.stackTraces = false) : vx_Met l yX0_begin wsX0_begin ({ frames := 6, cells := 1, slots := 6, locals := 121 } : Room) (th (dC, dI) (wX cI cJ x g t f G T F n) (tK cI cJ) sz 43 43 "the state, the moves or the clock is none that there is" "the state, the moves or the clock is none that there is" a1 a2 "java/lang/IllegalArgumentException" "java/lang/IllegalArgumentException" [.ref x, .int st, .int mv, .int ck, .int cl]) (wrQ (dC, dI) (wX cI cJ x g t f G (ap_T G T 0) (ap_F G T F 0 st mv ck cl) (0 + 1)) (tK cI cJ) (va_A (wX cI cJ x g t f G T F n) sz) (fun r => ga_okB st mv cl = 0 ∧ r = ap_vd G T F 0 st mv ck cl)) (thX (dC, dI) (wX cI cJ x g t f G T F n) (tK cI cJ) (va_A (wX cI cJ x g t f G T F n) sz) (fun E => E = "java/lang/IllegalArgumentException" ∧ ga_okB st mv cl = 1)) 1 6 (va_A (wX cI cJ x g t f G T F n) sz) := by
  refine vx_ofW (cc := cX0_begin) (maxL := 5) (ret := (some .int)) (by decide) rfl ?_
  intro p e s m args below meth c s₁ B hml hnoEx hv
  obtain ⟨rfl, hsz, hP, hK, hD0, hX⟩ := hv
  have hx := B.exec
  have hb := B.bytes
  have hr := B.returns
  have hts := atoms_spec (ws := wsX0_begin) B.pre
  have hown : s.vm.findClass RX0 = some m.cls := findClass_of_methodNamed B.named
  have hlocks := B.notSynchronized
  have hinX0 : ∀ w ∈ u_ws RX0 TX0 4, w ∈ wsX0_begin := by decide +kernel
  have hf20 := hts (.fieldLink RX0 20 "GameArbiter" "positions" "I") (by decide +kernel)
  have hl := lv_entry ([.ref x, .int st, .int mv, .int ck, .int cl]) (n := 5) (Nat.le_of_ble_eq_true rfl)
  rw [lg_entry_eq]
  generalize (lg_sl ([.ref x, .int st, .int mv, .int ck, .int cl]) ++ List.replicate (5 - (lg_sl ([.ref x, .int st, .int mv, .int ck, .int cl])).length) Slot.unset).toArray = ls at hl ⊢
  replace hl : lv_has ls 5 [(0, .ref x), (1, .int st), (2, .int mv), (3, .int ck), (4, .int cl)] := hl
  subst hsz
  have hD := hD0.self (sz := s.heap.size)
  generalize hAe : va_A (wX cI cJ x g t f G T F n) s.heap.size = A at hD hX ⊢
  have hA : ∀ q : Nat, s.heap.size ≤ q → A q := fun q h => by rw [← hAe]; exact Or.inr h
  have hS : va_S A s.heap s.heap [] := va_S.rf
  replace hP : va_P (dC, dI) vwCl [(x, .inr (0, [.ref g, .ref t, .ref f, .int (nI n)])), (g, .inl (cJ, 4, .inr (.inl G))), (t, .inl (cJ, 2560, .inr (.inl T))), (f, .inl (cI, 5120, .inl F))] s.heap := hP
  replace hD : va_D A [(x, .inr (0, [.ref g, .ref t, .ref f, .int (nI n)])), (g, .inl (cJ, 4, .inr (.inl G))), (t, .inl (cJ, 2560, .inr (.inl T))), (f, .inl (cI, 5120, .inl F))] := hD
  refine lv_iload_n hx hb dX0_begin_0 rfl (lv_at hl 1 rfl) ?_
  refine pu_callS (rest := []) ⟨hx, hb, hml, hown, hts⟩ (k_X0_isState l st) (va_cwS 1 hts gX0_begin_X0_isState rfl rfl rfl (by decide +kernel) ⟨Nat.le_of_ble_eq_true rfl, Nat.le_of_ble_eq_true rfl⟩) rfl hl.1 rfl (Nat.le_of_ble_eq_true rfl) dX0_begin_1 ⟨Nat.zero_le _, Nat.zero_le _⟩ ?_
  refine lv_if_eq (tgt := 22) hx hb dX0_begin_4 (by decide) (fun c_1 => ?_) (fun c_1 => ?_)
  · exact vx_throwS (own := RX0) (cls := "java/lang/IllegalArgumentException") (text := "the state, the moves or the clock is none that there is") (names := ["java/lang/RuntimeException", "java/lang/Exception"]) (ik := 41) (ic := 45) hx hb hno hown (by decide +kernel) (by decide +kernel) (hts (.classLink RX0 41 "java/lang/IllegalArgumentException") (by decide +kernel)) (hts (.initialized "java/lang/IllegalArgumentException") (by decide +kernel)) hX.2.2.1 (vx_hat (L := vx_atS RX0 45 "java/lang/IllegalArgumentException" ["java/lang/RuntimeException", "java/lang/Exception"]) (B := [.castable "java/lang/IllegalArgumentException" "java/lang/IllegalArgumentException", .declares (dcl "java/lang/RuntimeException"), .declares (dcl "java/lang/Exception"), .declares (dcl "java/lang/Throwable")]) (fun w hw => hts w ((by decide +kernel : ∀ w ∈ (vx_atS RX0 45 "java/lang/IllegalArgumentException" ["java/lang/RuntimeException", "java/lang/Exception"]).filter goodWord, w ∈ wsX0_begin) w hw)) (by decide +kernel) (vx_c (va_Nw.use rfl hX.2.2.2.2.1) (vx_c (va_Nw.use rfl hX.2.2.2.2.2.2.1) (vx_c (va_Nw.use rfl hX.2.2.2.2.2.2.2.1) (vx_c (va_Nw.use rfl hX.2.2.2.2.2.2.2.2.1) vx_n))))) (by decide +kernel) hX.1 hX.2.1 hS (hl.1.trans hml.symm) dX0_begin_22 dX0_begin_25 dX0_begin_26 dX0_begin_28 dX0_begin_31 (fun z hz => (hnoEx z hz).elim) (Nat.le_of_ble_eq_true rfl) (by decide) (by decide) (by decide) hlocks (th_end hP hK hD hS (⟨rfl, by rw [ga_okB, if_pos c_1]⟩)) hS.2.2 (by decide) (by decide)
  · refine lv_iload_n hx hb dX0_begin_7 rfl (lv_at hl 2 rfl) ?_
    refine pu_callS (rest := []) ⟨hx, hb, hml, hown, hts⟩ (k_X0_isMoves l mv) (va_cwS 1 hts gX0_begin_X0_isMoves rfl rfl rfl (by decide +kernel) ⟨Nat.le_of_ble_eq_true rfl, Nat.le_of_ble_eq_true rfl⟩) rfl hl.1 rfl (Nat.le_of_ble_eq_true rfl) dX0_begin_8 ⟨Nat.zero_le _, Nat.zero_le _⟩ ?_
    refine lv_if_eq (tgt := 22) hx hb dX0_begin_11 (by decide) (fun c_2 => ?_) (fun c_2 => ?_)
    · exact vx_throwS (own := RX0) (cls := "java/lang/IllegalArgumentException") (text := "the state, the moves or the clock is none that there is") (names := ["java/lang/RuntimeException", "java/lang/Exception"]) (ik := 41) (ic := 45) hx hb hno hown (by decide +kernel) (by decide +kernel) (hts (.classLink RX0 41 "java/lang/IllegalArgumentException") (by decide +kernel)) (hts (.initialized "java/lang/IllegalArgumentException") (by decide +kernel)) hX.2.2.1 (vx_hat (L := vx_atS RX0 45 "java/lang/IllegalArgumentException" ["java/lang/RuntimeException", "java/lang/Exception"]) (B := [.castable "java/lang/IllegalArgumentException" "java/lang/IllegalArgumentException", .declares (dcl "java/lang/RuntimeException"), .declares (dcl "java/lang/Exception"), .declares (dcl "java/lang/Throwable")]) (fun w hw => hts w ((by decide +kernel : ∀ w ∈ (vx_atS RX0 45 "java/lang/IllegalArgumentException" ["java/lang/RuntimeException", "java/lang/Exception"]).filter goodWord, w ∈ wsX0_begin) w hw)) (by decide +kernel) (vx_c (va_Nw.use rfl hX.2.2.2.2.1) (vx_c (va_Nw.use rfl hX.2.2.2.2.2.2.1) (vx_c (va_Nw.use rfl hX.2.2.2.2.2.2.2.1) (vx_c (va_Nw.use rfl hX.2.2.2.2.2.2.2.2.1) vx_n))))) (by decide +kernel) hX.1 hX.2.1 hS (hl.1.trans hml.symm) dX0_begin_22 dX0_begin_25 dX0_begin_26 dX0_begin_28 dX0_begin_31 (fun z hz => (hnoEx z hz).elim) (Nat.le_of_ble_eq_true rfl) (by decide) (by decide) (by decide) hlocks (th_end hP hK hD hS (⟨rfl, by rw [ga_okB, if_neg c_1, if_pos c_2]⟩)) hS.2.2 (by decide) (by decide)
    · refine lv_iload hx hb dX0_begin_14 (lv_at hl 4 rfl) ?_
      refine pu_callS (rest := []) ⟨hx, hb, hml, hown, hts⟩ (k_X0_isClock l cl) (va_cwS 1 hts gX0_begin_X0_isClock rfl rfl rfl (by decide +kernel) ⟨Nat.le_of_ble_eq_true rfl, Nat.le_of_ble_eq_true rfl⟩) rfl hl.1 rfl (Nat.le_of_ble_eq_true rfl) dX0_begin_16 ⟨Nat.zero_le _, Nat.zero_le _⟩ ?_
      refine lv_if_ne (tgt := 32) hx hb dX0_begin_19 (by decide) (fun c_3 => ?_) (fun c_3 => ?_)
      · refine lv_aload_n hx hb dX0_begin_32 rfl (lv_at hl 0 rfl) ?_
        refine lv_iconst (v := nI 0) hx hb dX0_begin_33 (by decide) ?_
        refine va_put (D := (dC, dI)) (ci := 0) (v := .int (nI 0)) (ty := .int) (C := RX0) (T := TX0) (N := 4) hx hb hts hinX0 tyX0 tyX0_ok nmX0 hown hK hP hD hS 0 rfl rfl 3 (by decide) hf20 (fun _ h9 => h9) rfl (by decide +kernel) rfl rfl (Nat.le_of_ble_eq_true rfl) dX0_begin_34 (fun H locs hP hD hS => ?_)
        replace hP : va_P (dC, dI) vwCl [(x, .inr (0, [.ref g, .ref t, .ref f, .int (nI 0)])), (g, .inl (cJ, 4, .inr (.inl G))), (t, .inl (cJ, 2560, .inr (.inl T))), (f, .inl (cI, 5120, .inl F))] H := hP
        replace hD : va_D A [(x, .inr (0, [.ref g, .ref t, .ref f, .int (nI 0)])), (g, .inl (cJ, 4, .inr (.inl G))), (t, .inl (cJ, 2560, .inr (.inl T))), (f, .inl (cI, 5120, .inl F))] := hD
        refine lv_aload_n hx hb dX0_begin_37 rfl (lv_at hl 0 rfl) ?_
        refine lv_iload_n hx hb dX0_begin_38 rfl (lv_at hl 1 rfl) ?_
        refine lv_iload_n hx hb dX0_begin_39 rfl (lv_at hl 2 rfl) ?_
        refine lv_iload_n hx hb dX0_begin_40 rfl (lv_at hl 3 rfl) ?_
        refine lv_iload hx hb dX0_begin_41 (lv_at hl 4 rfl) ?_
        refine wr_callV (rest := []) (ws' := [(x, .inr (0, [.ref g, .ref t, .ref f, .int (nI (0 + 1))])), (g, .inl (cJ, 4, .inr (.inl G))), (t, .inl (cJ, 2560, .inr (.inl (ap_T G T 0)))), (f, .inl (cI, 5120, .inl (ap_F G T F 0 st mv ck cl)))]) (wrst := []) ⟨hx, hb, hml, hown, hts⟩ (k_X0_append l dC dI cI cJ x g t f G T F 0 st mv ck cl H.size (by omega)) (cwV 4 hts gX0_begin_X0_append rfl rfl rfl (by decide +kernel) ⟨Nat.le_of_ble_eq_true rfl, Nat.le_of_ble_eq_true rfl⟩) hK hP hD hS hA [0, 1, 2, 3] [] rfl rfl (by decide) (by decide) (by decide) rfl (q0 := 0) rfl rfl hl.1 rfl (Nat.le_of_ble_eq_true rfl) dX0_begin_43 ⟨Nat.zero_le _, Nat.zero_le _⟩ (fun r_4 H locs hr_4 hP hD hS => ?_)
        have hP : va_P (dC, dI) vwCl [(x, .inr (0, [.ref g, .ref t, .ref f, .int (nI (0 + 1))])), (g, .inl (cJ, 4, .inr (.inl G))), (t, .inl (cJ, 2560, .inr (.inl (ap_T G T 0)))), (f, .inl (cI, 5120, .inl (ap_F G T F 0 st mv ck cl)))] H := hP
        have hD : va_D A [(x, .inr (0, [.ref g, .ref t, .ref f, .int (nI (0 + 1))])), (g, .inl (cJ, 4, .inr (.inl G))), (t, .inl (cJ, 2560, .inr (.inl (ap_T G T 0)))), (f, .inl (cI, 5120, .inl (ap_F G T F 0 st mv ck cl)))] := hD
        refine lv_is hr_4 ?_
        refine vx_ret (W.widen (k := 1) (n := 6) (by omega) (by omega) ?_)
        exact wr_ret hx hb hr hlocks (⟨by rw [ga_okB, if_neg c_1, if_neg c_2, if_neg c_3], rfl⟩) (rfl) hP hK hD hS dX0_begin_46
      · exact vx_throwS (own := RX0) (cls := "java/lang/IllegalArgumentException") (text := "the state, the moves or the clock is none that there is") (names := ["java/lang/RuntimeException", "java/lang/Exception"]) (ik := 41) (ic := 45) hx hb hno hown (by decide +kernel) (by decide +kernel) (hts (.classLink RX0 41 "java/lang/IllegalArgumentException") (by decide +kernel)) (hts (.initialized "java/lang/IllegalArgumentException") (by decide +kernel)) hX.2.2.1 (vx_hat (L := vx_atS RX0 45 "java/lang/IllegalArgumentException" ["java/lang/RuntimeException", "java/lang/Exception"]) (B := [.castable "java/lang/IllegalArgumentException" "java/lang/IllegalArgumentException", .declares (dcl "java/lang/RuntimeException"), .declares (dcl "java/lang/Exception"), .declares (dcl "java/lang/Throwable")]) (fun w hw => hts w ((by decide +kernel : ∀ w ∈ (vx_atS RX0 45 "java/lang/IllegalArgumentException" ["java/lang/RuntimeException", "java/lang/Exception"]).filter goodWord, w ∈ wsX0_begin) w hw)) (by decide +kernel) (vx_c (va_Nw.use rfl hX.2.2.2.2.1) (vx_c (va_Nw.use rfl hX.2.2.2.2.2.2.1) (vx_c (va_Nw.use rfl hX.2.2.2.2.2.2.2.1) (vx_c (va_Nw.use rfl hX.2.2.2.2.2.2.2.2.1) vx_n))))) (by decide +kernel) hX.1 hX.2.1 hS (hl.1.trans hml.symm) dX0_begin_22 dX0_begin_25 dX0_begin_26 dX0_begin_28 dX0_begin_31 (fun z hz => (hnoEx z hz).elim) (Nat.le_of_ble_eq_true rfl) (by decide) (by decide) (by decide) hlocks (th_end hP hK hD hS (⟨rfl, by rw [ga_okB, if_neg c_1, if_neg c_2, if_pos c_3]⟩)) hS.2.2 (by decide) (by decide)
set_option maxHeartbeats 4000000 in
set_option maxRecDepth 100000 in
theorem k_X0_next (l : Launch) (dC : Nat → ClassId) (dI : Nat → Nat → Nat) (cI cJ : ClassId) (x g t f : Nat) (G T : Nat → Int64) (F : Nat → Int32) (n : Nat) (st mv ck ir : Int32) (sz : Nat) (hn : n ≤ 640) {a1 a2 : Nat} (hno : l.stackTraces = false) : vx_Met l yX0_next wsX0_next ({ frames := 6, cells := 1, slots := 6, locals := 121 } : Room) (th (dC, dI) (wX cI cJ x g t f G T F n) (tK cI cJ) sz 58 61 "the game takes no further position" "the state or the moves are none that there are" a1 a2 "java/lang/IllegalStateException" "java/lang/IllegalArgumentException" [.ref x, .int st, .int mv, .int ck, .int ir]) (wrQ (dC, dI) (wX cI cJ x g t f G (ap_T G T n) (ap_F G T F n st mv ck (ga_clN F n ir)) (n + 1)) (tK cI cJ) (va_A (wX cI cJ x g t f G T F n) sz) (fun r => ga_okN F n st mv = 0 ∧ r = ap_vd G T F n st mv ck (ga_clN F n ir))) (thX (dC, dI) (wX cI cJ x g t f G T F n) (tK cI cJ) (va_A (wX cI cJ x g t f G T F n) sz) (fun E => (E = "java/lang/IllegalStateException" ∧ ga_okN F n st mv = 1) ∨ (E = "java/lang/IllegalArgumentException" ∧ ga_okN F n st mv = 2))) 1 6 (va_A (wX cI cJ x g t f G T F n) sz) := by
  refine vx_ofW (cc := cX0_next) (maxL := 6) (ret := (some .int)) (by decide) rfl ?_
  intro p e s m args below meth c s₁ B hml hnoEx hv
  obtain ⟨rfl, hsz, hP, hK, hD0, hX⟩ := hv
  have hx := B.exec
  have hb := B.bytes
  have hr := B.returns
  have hts := atoms_spec (ws := wsX0_next) B.pre
  have hown : s.vm.findClass RX0 = some m.cls := findClass_of_methodNamed B.named
  have hlocks := B.notSynchronized
  have hinX0 : ∀ w ∈ u_ws RX0 TX0 4, w ∈ wsX0_next := by decide +kernel
  have hf20 := hts (.fieldLink RX0 20 "GameArbiter" "positions" "I") (by decide +kernel)
  have hl := lv_entry ([.ref x, .int st, .int mv, .int ck, .int ir]) (n := 6) (Nat.le_of_ble_eq_true rfl)
  rw [lg_entry_eq]
  generalize (lg_sl ([.ref x, .int st, .int mv, .int ck, .int ir]) ++ List.replicate (6 - (lg_sl ([.ref x, .int st, .int mv, .int ck, .int ir])).length) Slot.unset).toArray = ls at hl ⊢
  replace hl : lv_has ls 6 [(0, .ref x), (1, .int st), (2, .int mv), (3, .int ck), (4, .int ir)] := hl
  subst hsz
  have hD := hD0.self (sz := s.heap.size)
  generalize hAe : va_A (wX cI cJ x g t f G T F n) s.heap.size = A at hD hX ⊢
  have hA : ∀ q : Nat, s.heap.size ≤ q → A q := fun q h => by rw [← hAe]; exact Or.inr h
  have hS : va_S A s.heap s.heap [] := va_S.rf
  replace hP : va_P (dC, dI) vwCl [(x, .inr (0, [.ref g, .ref t, .ref f, .int (nI n)])), (g, .inl (cJ, 4, .inr (.inl G))), (t, .inl (cJ, 2560, .inr (.inl T))), (f, .inl (cI, 5120, .inl F))] s.heap := hP
  replace hD : va_D A [(x, .inr (0, [.ref g, .ref t, .ref f, .int (nI n)])), (g, .inl (cJ, 4, .inr (.inl G))), (t, .inl (cJ, 2560, .inr (.inl T))), (f, .inl (cI, 5120, .inl F))] := hD
  refine lv_aload_n hx hb dX0_next_0 rfl (lv_at hl 0 rfl) ?_
  refine rd_callV (rest := []) ⟨hx, hb, hml, hown, hts⟩ (k_X0_takesAnother l dC dI cI cJ x g t f G T F n (by omega)) (cwV 0 hts gX0_next_X0_takesAnother rfl rfl rfl (by decide +kernel) ⟨Nat.le_of_ble_eq_true rfl, Nat.le_of_ble_eq_true rfl⟩) hK hP rfl (q0 := 0) rfl rfl hl.1 rfl (Nat.le_of_ble_eq_true rfl) dX0_next_1 ⟨Nat.zero_le _, Nat.zero_le _⟩ ?_
  refine lv_if_ne (tgt := 17) hx hb dX0_next_4 (by decide) (fun c_1 => ?_) (fun c_1 => ?_)
  · have hnn := ga_takes_n c_1
    refine lv_iload_n hx hb dX0_next_17 rfl (lv_at hl 1 rfl) ?_
    refine pu_callS (rest := []) ⟨hx, hb, hml, hown, hts⟩ (k_X0_isState l st) (va_cwS 1 hts gX0_next_X0_isState rfl rfl rfl (by decide +kernel) ⟨Nat.le_of_ble_eq_true rfl, Nat.le_of_ble_eq_true rfl⟩) rfl hl.1 rfl (Nat.le_of_ble_eq_true rfl) dX0_next_18 ⟨Nat.zero_le _, Nat.zero_le _⟩ ?_
    refine lv_if_eq (tgt := 31) hx hb dX0_next_21 (by decide) (fun c_2 => ?_) (fun c_2 => ?_)
    · exact vx_throwS (own := RX0) (cls := "java/lang/IllegalArgumentException") (text := "the state or the moves are none that there are") (names := ["java/lang/RuntimeException", "java/lang/Exception"]) (ik := 41) (ic := 45) hx hb hno hown (by decide +kernel) (by decide +kernel) (hts (.classLink RX0 41 "java/lang/IllegalArgumentException") (by decide +kernel)) (hts (.initialized "java/lang/IllegalArgumentException") (by decide +kernel)) hX.2.2.2.1 (vx_hat (L := vx_atS RX0 45 "java/lang/IllegalArgumentException" ["java/lang/RuntimeException", "java/lang/Exception"]) (B := [.castable "java/lang/IllegalArgumentException" "java/lang/IllegalArgumentException", .declares (dcl "java/lang/RuntimeException"), .declares (dcl "java/lang/Exception"), .declares (dcl "java/lang/Throwable")]) (fun w hw => hts w ((by decide +kernel : ∀ w ∈ (vx_atS RX0 45 "java/lang/IllegalArgumentException" ["java/lang/RuntimeException", "java/lang/Exception"]).filter goodWord, w ∈ wsX0_next) w hw)) (by decide +kernel) (vx_c (va_Nw.use rfl hX.2.2.2.2.2.1) (vx_c (va_Nw.use rfl hX.2.2.2.2.2.2.1) (vx_c (va_Nw.use rfl hX.2.2.2.2.2.2.2.1) (vx_c (va_Nw.use rfl hX.2.2.2.2.2.2.2.2.1) vx_n))))) (by decide +kernel) hX.1 hX.2.1 hS (hl.1.trans hml.symm) dX0_next_31 dX0_next_34 dX0_next_35 dX0_next_37 dX0_next_40 (fun z hz => (hnoEx z hz).elim) (Nat.le_of_ble_eq_true rfl) (by decide) (by decide) (by decide) hlocks (th_end hP hK hD hS (Or.inr ⟨rfl, by rw [ga_okN, if_neg c_1, if_pos c_2]⟩)) hS.2.2 (by decide) (by decide)
    · refine lv_iload_n hx hb dX0_next_24 rfl (lv_at hl 2 rfl) ?_
      refine pu_callS (rest := []) ⟨hx, hb, hml, hown, hts⟩ (k_X0_isMoves l mv) (va_cwS 1 hts gX0_next_X0_isMoves rfl rfl rfl (by decide +kernel) ⟨Nat.le_of_ble_eq_true rfl, Nat.le_of_ble_eq_true rfl⟩) rfl hl.1 rfl (Nat.le_of_ble_eq_true rfl) dX0_next_25 ⟨Nat.zero_le _, Nat.zero_le _⟩ ?_
      refine lv_if_ne (tgt := 41) hx hb dX0_next_28 (by decide) (fun c_3 => ?_) (fun c_3 => ?_)
      · refine lv_iload hx hb dX0_next_41 (lv_at hl 4 rfl) ?_
        refine lv_if_eq (tgt := 50) hx hb dX0_next_43 (by decide) (fun c_4 => ?_) (fun c_4 => ?_)
        · refine lv_aload_n hx hb dX0_next_50 rfl (lv_at hl 0 rfl) ?_
          refine lv_aload_n hx hb dX0_next_51 rfl (lv_at hl 0 rfl) ?_
          refine va_get (D := (dC, dI)) (ci := 0) (v := .int (nI n)) (C := RX0) (T := TX0) (N := 4) hx hb hts hinX0 hown hK hP 0 rfl rfl 3 (by decide) hf20 (fun _ h9 => h9) rfl dX0_next_52 ?_
          refine lv_iconst (v := nI 1) hx hb dX0_next_55 (by decide) ?_
          refine lv_isub hx hb dX0_next_56 ?_
          refine lv_is (pk_sub (by omega)) ?_
          refine lv_iconst (v := nI 1) hx hb dX0_next_57 (by decide) ?_
          refine rd_callV (rest := []) ⟨hx, hb, hml, hown, hts⟩ (k_X0_factOf l dC dI cI cJ x g t f G T F n (n - 1) 1 (by omega)) (cwV 2 hts gX0_next_X0_factOf rfl rfl rfl (by decide +kernel) ⟨Nat.le_of_ble_eq_true rfl, Nat.le_of_ble_eq_true rfl⟩) hK hP rfl (q0 := 0) rfl rfl hl.1 rfl (Nat.le_of_ble_eq_true rfl) dX0_next_58 ⟨Nat.zero_le _, Nat.zero_le _⟩ ?_
          refine lv_iconst (v := nI 1) hx hb dX0_next_61 (by decide) ?_
          refine lv_iadd hx hb dX0_next_62 ?_
          refine lv_is (show (F ((n - 1) * 8 + 1)) + (nI 1) = ga_clN F n ir from by rw [ga_clN, if_pos c_4]) ?_
          refine lv_istore (lv' := [(5, .int (ga_clN F n ir)), (0, .ref x), (1, .int st), (2, .int mv), (3, .int ck), (4, .int ir)]) hx hb dX0_next_63 hl (by decide) rfl (fun ls hl => ?_)
          refine lv_aload_n hx hb dX0_next_65 rfl (lv_at hl 1 rfl) ?_
          refine lv_iload_n hx hb dX0_next_66 rfl (lv_at hl 2 rfl) ?_
          refine lv_iload_n hx hb dX0_next_67 rfl (lv_at hl 3 rfl) ?_
          refine lv_iload_n hx hb dX0_next_68 rfl (lv_at hl 4 rfl) ?_
          refine lv_iload hx hb dX0_next_69 (lv_at hl 0 rfl) ?_
          refine wr_callV (rest := []) (ws' := [(x, .inr (0, [.ref g, .ref t, .ref f, .int (nI (n + 1))])), (g, .inl (cJ, 4, .inr (.inl G))), (t, .inl (cJ, 2560, .inr (.inl (ap_T G T n)))), (f, .inl (cI, 5120, .inl (ap_F G T F n st mv ck (ga_clN F n ir))))]) (wrst := []) ⟨hx, hb, hml, hown, hts⟩ (k_X0_append l dC dI cI cJ x g t f G T F n st mv ck (ga_clN F n ir) s.heap.size (by omega)) (cwV 4 hts gX0_next_X0_append rfl rfl rfl (by decide +kernel) ⟨Nat.le_of_ble_eq_true rfl, Nat.le_of_ble_eq_true rfl⟩) hK hP hD hS hA [0, 1, 2, 3] [] rfl rfl (by decide) (by decide) (by decide) rfl (q0 := 0) rfl rfl hl.1 rfl (Nat.le_of_ble_eq_true rfl) dX0_next_71 ⟨Nat.zero_le _, Nat.zero_le _⟩ (fun r_5 H locs hr_5 hP hD hS => ?_)
          have hP : va_P (dC, dI) vwCl [(x, .inr (0, [.ref g, .ref t, .ref f, .int (nI (n + 1))])), (g, .inl (cJ, 4, .inr (.inl G))), (t, .inl (cJ, 2560, .inr (.inl (ap_T G T n)))), (f, .inl (cI, 5120, .inl (ap_F G T F n st mv ck (ga_clN F n ir))))] H := hP
          have hD : va_D A [(x, .inr (0, [.ref g, .ref t, .ref f, .int (nI (n + 1))])), (g, .inl (cJ, 4, .inr (.inl G))), (t, .inl (cJ, 2560, .inr (.inl (ap_T G T n)))), (f, .inl (cI, 5120, .inl (ap_F G T F n st mv ck (ga_clN F n ir))))] := hD
          refine lv_is hr_5 ?_
          refine vx_ret (W.widen (k := 1) (n := 6) (by omega) (by omega) ?_)
          exact wr_ret hx hb hr hlocks (⟨by rw [ga_okN, if_neg c_1, if_neg c_2, if_neg c_3], rfl⟩) (rfl) hP hK hD hS dX0_next_74
        · refine lv_iconst (v := nI 0) hx hb dX0_next_46 (by decide) ?_
          refine lv_goto (tgt := 63) hx hb dX0_next_47 (by decide) ?_
          refine lv_is (show nI 0 = ga_clN F n ir from by rw [ga_clN, if_neg c_4]) ?_
          refine lv_istore (lv' := [(5, .int (ga_clN F n ir)), (0, .ref x), (1, .int st), (2, .int mv), (3, .int ck), (4, .int ir)]) hx hb dX0_next_63 hl (by decide) rfl (fun ls hl => ?_)
          refine lv_aload_n hx hb dX0_next_65 rfl (lv_at hl 1 rfl) ?_
          refine lv_iload_n hx hb dX0_next_66 rfl (lv_at hl 2 rfl) ?_
          refine lv_iload_n hx hb dX0_next_67 rfl (lv_at hl 3 rfl) ?_
          refine lv_iload_n hx hb dX0_next_68 rfl (lv_at hl 4 rfl) ?_
          refine lv_iload hx hb dX0_next_69 (lv_at hl 0 rfl) ?_
          refine wr_callV (rest := []) (ws' := [(x, .inr (0, [.ref g, .ref t, .ref f, .int (nI (n + 1))])), (g, .inl (cJ, 4, .inr (.inl G))), (t, .inl (cJ, 2560, .inr (.inl (ap_T G T n)))), (f, .inl (cI, 5120, .inl (ap_F G T F n st mv ck (ga_clN F n ir))))]) (wrst := []) ⟨hx, hb, hml, hown, hts⟩ (k_X0_append l dC dI cI cJ x g t f G T F n st mv ck (ga_clN F n ir) s.heap.size (by omega)) (cwV 4 hts gX0_next_X0_append rfl rfl rfl (by decide +kernel) ⟨Nat.le_of_ble_eq_true rfl, Nat.le_of_ble_eq_true rfl⟩) hK hP hD hS hA [0, 1, 2, 3] [] rfl rfl (by decide) (by decide) (by decide) rfl (q0 := 0) rfl rfl hl.1 rfl (Nat.le_of_ble_eq_true rfl) dX0_next_71 ⟨Nat.zero_le _, Nat.zero_le _⟩ (fun r_6 H locs hr_6 hP hD hS => ?_)
          have hP : va_P (dC, dI) vwCl [(x, .inr (0, [.ref g, .ref t, .ref f, .int (nI (n + 1))])), (g, .inl (cJ, 4, .inr (.inl G))), (t, .inl (cJ, 2560, .inr (.inl (ap_T G T n)))), (f, .inl (cI, 5120, .inl (ap_F G T F n st mv ck (ga_clN F n ir))))] H := hP
          have hD : va_D A [(x, .inr (0, [.ref g, .ref t, .ref f, .int (nI (n + 1))])), (g, .inl (cJ, 4, .inr (.inl G))), (t, .inl (cJ, 2560, .inr (.inl (ap_T G T n)))), (f, .inl (cI, 5120, .inl (ap_F G T F n st mv ck (ga_clN F n ir))))] := hD
          refine lv_is hr_6 ?_
          refine vx_ret (W.widen (k := 1) (n := 6) (by omega) (by omega) ?_)
          exact wr_ret hx hb hr hlocks (⟨by rw [ga_okN, if_neg c_1, if_neg c_2, if_neg c_3], rfl⟩) (rfl) hP hK hD hS dX0_next_74
      · exact vx_throwS (own := RX0) (cls := "java/lang/IllegalArgumentException") (text := "the state or the moves are none that there are") (names := ["java/lang/RuntimeException", "java/lang/Exception"]) (ik := 41) (ic := 45) hx hb hno hown (by decide +kernel) (by decide +kernel) (hts (.classLink RX0 41 "java/lang/IllegalArgumentException") (by decide +kernel)) (hts (.initialized "java/lang/IllegalArgumentException") (by decide +kernel)) hX.2.2.2.1 (vx_hat (L := vx_atS RX0 45 "java/lang/IllegalArgumentException" ["java/lang/RuntimeException", "java/lang/Exception"]) (B := [.castable "java/lang/IllegalArgumentException" "java/lang/IllegalArgumentException", .declares (dcl "java/lang/RuntimeException"), .declares (dcl "java/lang/Exception"), .declares (dcl "java/lang/Throwable")]) (fun w hw => hts w ((by decide +kernel : ∀ w ∈ (vx_atS RX0 45 "java/lang/IllegalArgumentException" ["java/lang/RuntimeException", "java/lang/Exception"]).filter goodWord, w ∈ wsX0_next) w hw)) (by decide +kernel) (vx_c (va_Nw.use rfl hX.2.2.2.2.2.1) (vx_c (va_Nw.use rfl hX.2.2.2.2.2.2.1) (vx_c (va_Nw.use rfl hX.2.2.2.2.2.2.2.1) (vx_c (va_Nw.use rfl hX.2.2.2.2.2.2.2.2.1) vx_n))))) (by decide +kernel) hX.1 hX.2.1 hS (hl.1.trans hml.symm) dX0_next_31 dX0_next_34 dX0_next_35 dX0_next_37 dX0_next_40 (fun z hz => (hnoEx z hz).elim) (Nat.le_of_ble_eq_true rfl) (by decide) (by decide) (by decide) hlocks (th_end hP hK hD hS (Or.inr ⟨rfl, by rw [ga_okN, if_neg c_1, if_neg c_2, if_pos c_3]⟩)) hS.2.2 (by decide) (by decide)
  · exact vx_throwS (own := RX0) (cls := "java/lang/IllegalStateException") (text := "the game takes no further position") (names := ["java/lang/RuntimeException", "java/lang/Exception"]) (ik := 56) (ic := 60) hx hb hno hown (by decide +kernel) (by decide +kernel) (hts (.classLink RX0 56 "java/lang/IllegalStateException") (by decide +kernel)) (hts (.initialized "java/lang/IllegalStateException") (by decide +kernel)) hX.2.2.1 (vx_hat (L := vx_atS RX0 60 "java/lang/IllegalStateException" ["java/lang/RuntimeException", "java/lang/Exception"]) (B := [.castable "java/lang/IllegalStateException" "java/lang/IllegalStateException", .declares (dcl "java/lang/RuntimeException"), .declares (dcl "java/lang/Exception"), .declares (dcl "java/lang/Throwable")]) (fun w hw => hts w ((by decide +kernel : ∀ w ∈ (vx_atS RX0 60 "java/lang/IllegalStateException" ["java/lang/RuntimeException", "java/lang/Exception"]).filter goodWord, w ∈ wsX0_next) w hw)) (by decide +kernel) (vx_c (va_Nw.use rfl hX.2.2.2.2.1) (vx_c (va_Nw.use rfl hX.2.2.2.2.2.2.1) (vx_c (va_Nw.use rfl hX.2.2.2.2.2.2.2.1) (vx_c (va_Nw.use rfl hX.2.2.2.2.2.2.2.2.1) vx_n))))) (by decide +kernel) hX.1 hX.2.1 hS (hl.1.trans hml.symm) dX0_next_7 dX0_next_10 dX0_next_11 dX0_next_13 dX0_next_16 (fun z hz => (hnoEx z hz).elim) (Nat.le_of_ble_eq_true rfl) (by decide) (by decide) (by decide) hlocks (th_end hP hK hD hS (Or.inl ⟨rfl, by rw [ga_okN, if_pos c_1]⟩)) hS.2.2 (by decide) (by decide)
set_option maxHeartbeats 4000000 in
set_option maxRecDepth 100000 in
theorem k_X0_of (l : Launch) (dC : Nat → ClassId) (dI : Nat → Nat → Nat) (cI cJ : ClassId) (x g t f : Nat) (G T : Nat → Int64) (F : Nat → Int32) (n : Nat) (i w : Int32) (sz : Nat) (hn : n ≤ 640) {a1 a2 : Nat} (hno : l.stackTraces = false) : vx_Met l yX0_of wsX0_of ({ frames := 6, cells := 1, slots := 6, locals := 100 } : Room) (th (dC, dI) (wX cI cJ x g t f G T F n) (tK cI cJ) sz 72 72 "no such position, or no such fact of it" "no such position, or no such fact of it" a1 a2 "java/lang/IndexOutOfBoundsException" "java/lang/IndexOutOfBoundsException" [.ref x, .int i, .int w]) (wrQ (dC, dI) (wX cI cJ x g t f G T F n) (tK cI cJ) (va_A (wX cI cJ x g t f G T F n) sz) (fun r => ga_okO n i w = 0 ∧ r = F (i.toNatClampNeg * 8 + w.toNatClampNeg))) (thX (dC, dI) (wX cI cJ x g t f G T F n) (tK cI cJ) (va_A (wX cI cJ x g t f G T F n) sz) (fun E => E = "java/lang/IndexOutOfBoundsException" ∧ ga_okO n i w = 1)) 1 6 (va_A (wX cI cJ x g t f G T F n) sz) := by
  refine vx_ofW (cc := cX0_of) (maxL := 3) (ret := (some .int)) (by decide) rfl ?_
  intro p e s m args below meth c s₁ B hml hnoEx hv
  obtain ⟨rfl, hsz, hP, hK, hD0, hX⟩ := hv
  have hx := B.exec
  have hb := B.bytes
  have hr := B.returns
  have hts := atoms_spec (ws := wsX0_of) B.pre
  have hown : s.vm.findClass RX0 = some m.cls := findClass_of_methodNamed B.named
  have hlocks := B.notSynchronized
  have hinX0 : ∀ w ∈ u_ws RX0 TX0 4, w ∈ wsX0_of := by decide +kernel
  have hl := lv_entry ([.ref x, .int i, .int w]) (n := 3) (Nat.le_of_ble_eq_true rfl)
  rw [lg_entry_eq]
  generalize (lg_sl ([.ref x, .int i, .int w]) ++ List.replicate (3 - (lg_sl ([.ref x, .int i, .int w])).length) Slot.unset).toArray = ls at hl ⊢
  replace hl : lv_has ls 3 [(0, .ref x), (1, .int i), (2, .int w)] := hl
  subst hsz
  have hD := hD0.self (sz := s.heap.size)
  generalize hAe : va_A (wX cI cJ x g t f G T F n) s.heap.size = A at hD hX ⊢
  have hA : ∀ q : Nat, s.heap.size ≤ q → A q := fun q h => by rw [← hAe]; exact Or.inr h
  have hS : va_S A s.heap s.heap [] := va_S.rf
  replace hP : va_P (dC, dI) vwCl [(x, .inr (0, [.ref g, .ref t, .ref f, .int (nI n)])), (g, .inl (cJ, 4, .inr (.inl G))), (t, .inl (cJ, 2560, .inr (.inl T))), (f, .inl (cI, 5120, .inl F))] s.heap := hP
  replace hD : va_D A [(x, .inr (0, [.ref g, .ref t, .ref f, .int (nI n)])), (g, .inl (cJ, 4, .inr (.inl G))), (t, .inl (cJ, 2560, .inr (.inl T))), (f, .inl (cI, 5120, .inl F))] := hD
  refine lv_aload_n hx hb dX0_of_0 rfl (lv_at hl 0 rfl) ?_
  refine lv_iload_n hx hb dX0_of_1 rfl (lv_at hl 1 rfl) ?_
  refine rd_callV (rest := []) ⟨hx, hb, hml, hown, hts⟩ (k_X0_isPosition l dC dI cI cJ x g t f G T F n i) (cwV 1 hts gX0_of_X0_isPosition rfl rfl rfl (by decide +kernel) ⟨Nat.le_of_ble_eq_true rfl, Nat.le_of_ble_eq_true rfl⟩) hK hP rfl (q0 := 0) rfl rfl hl.1 rfl (Nat.le_of_ble_eq_true rfl) dX0_of_2 ⟨Nat.zero_le _, Nat.zero_le _⟩ ?_
  refine lv_if_eq (tgt := 18) hx hb dX0_of_5 (by decide) (fun c_1 => ?_) (fun c_1 => ?_)
  · exact vx_throwS (own := RX0) (cls := "java/lang/IndexOutOfBoundsException") (text := "no such position, or no such fact of it") (names := ["java/lang/RuntimeException", "java/lang/Exception"]) (ik := 70) (ic := 74) hx hb hno hown (by decide +kernel) (by decide +kernel) (hts (.classLink RX0 70 "java/lang/IndexOutOfBoundsException") (by decide +kernel)) (hts (.initialized "java/lang/IndexOutOfBoundsException") (by decide +kernel)) hX.2.2.1 (vx_hat (L := vx_atS RX0 74 "java/lang/IndexOutOfBoundsException" ["java/lang/RuntimeException", "java/lang/Exception"]) (B := [.castable "java/lang/IndexOutOfBoundsException" "java/lang/IndexOutOfBoundsException", .declares (dcl "java/lang/RuntimeException"), .declares (dcl "java/lang/Exception"), .declares (dcl "java/lang/Throwable")]) (fun w hw => hts w ((by decide +kernel : ∀ w ∈ (vx_atS RX0 74 "java/lang/IndexOutOfBoundsException" ["java/lang/RuntimeException", "java/lang/Exception"]).filter goodWord, w ∈ wsX0_of) w hw)) (by decide +kernel) (vx_c (va_Nw.use rfl hX.2.2.2.2.1) (vx_c (va_Nw.use rfl hX.2.2.2.2.2.2.1) (vx_c (va_Nw.use rfl hX.2.2.2.2.2.2.2.1) (vx_c (va_Nw.use rfl hX.2.2.2.2.2.2.2.2.1) vx_n))))) (by decide +kernel) hX.1 hX.2.1 hS (hl.1.trans hml.symm) dX0_of_18 dX0_of_21 dX0_of_22 dX0_of_24 dX0_of_27 (fun z hz => (hnoEx z hz).elim) (Nat.le_of_ble_eq_true rfl) (by decide) (by decide) (by decide) hlocks (th_end hP hK hD hS (⟨rfl, by rw [ga_okO, if_pos c_1]⟩)) hS.2.2 (by decide) (by decide)
  · obtain ⟨a, ha, rfl⟩ := ga_isPos_nat hn c_1
    refine lv_iload_n hx hb dX0_of_8 rfl (lv_at hl 2 rfl) ?_
    refine lv_if_lt (tgt := 18) hx hb dX0_of_9 (by decide) (fun c_2 => ?_) (fun c_2 => ?_)
    · exact vx_throwS (own := RX0) (cls := "java/lang/IndexOutOfBoundsException") (text := "no such position, or no such fact of it") (names := ["java/lang/RuntimeException", "java/lang/Exception"]) (ik := 70) (ic := 74) hx hb hno hown (by decide +kernel) (by decide +kernel) (hts (.classLink RX0 70 "java/lang/IndexOutOfBoundsException") (by decide +kernel)) (hts (.initialized "java/lang/IndexOutOfBoundsException") (by decide +kernel)) hX.2.2.1 (vx_hat (L := vx_atS RX0 74 "java/lang/IndexOutOfBoundsException" ["java/lang/RuntimeException", "java/lang/Exception"]) (B := [.castable "java/lang/IndexOutOfBoundsException" "java/lang/IndexOutOfBoundsException", .declares (dcl "java/lang/RuntimeException"), .declares (dcl "java/lang/Exception"), .declares (dcl "java/lang/Throwable")]) (fun w hw => hts w ((by decide +kernel : ∀ w ∈ (vx_atS RX0 74 "java/lang/IndexOutOfBoundsException" ["java/lang/RuntimeException", "java/lang/Exception"]).filter goodWord, w ∈ wsX0_of) w hw)) (by decide +kernel) (vx_c (va_Nw.use rfl hX.2.2.2.2.1) (vx_c (va_Nw.use rfl hX.2.2.2.2.2.2.1) (vx_c (va_Nw.use rfl hX.2.2.2.2.2.2.2.1) (vx_c (va_Nw.use rfl hX.2.2.2.2.2.2.2.2.1) vx_n))))) (by decide +kernel) hX.1 hX.2.1 hS (hl.1.trans hml.symm) dX0_of_18 dX0_of_21 dX0_of_22 dX0_of_24 dX0_of_27 (fun z hz => (hnoEx z hz).elim) (Nat.le_of_ble_eq_true rfl) (by decide) (by decide) (by decide) hlocks (th_end hP hK hD hS (⟨rfl, by rw [ga_okO, if_neg c_1, if_pos c_2]⟩)) hS.2.2 (by decide) (by decide)
    · refine lv_iload_n hx hb dX0_of_12 rfl (lv_at hl 2 rfl) ?_
      refine lv_bipush (v := nI 8) hx hb dX0_of_13 (by decide) ?_
      refine lv_icmp_lt (tgt := 28) hx hb dX0_of_15 (by decide) (fun c_3 => ?_) (fun c_3 => ?_)
      · obtain ⟨b9, hb9, rfl⟩ := nI_of c_2
        have hb8 : b9 < 8 := (nI_ltI (by omega) (by omega)).mp c_3
        refine lv_aload_n hx hb dX0_of_28 rfl (lv_at hl 0 rfl) ?_
        refine lv_iload_n hx hb dX0_of_29 rfl (lv_at hl 1 rfl) ?_
        refine lv_iload_n hx hb dX0_of_30 rfl (lv_at hl 2 rfl) ?_
        refine rd_callV (rest := []) ⟨hx, hb, hml, hown, hts⟩ (k_X0_factOf l dC dI cI cJ x g t f G T F n a b9 (by omega)) (cwV 2 hts gX0_of_X0_factOf rfl rfl rfl (by decide +kernel) ⟨Nat.le_of_ble_eq_true rfl, Nat.le_of_ble_eq_true rfl⟩) hK hP rfl (q0 := 0) rfl rfl hl.1 rfl (Nat.le_of_ble_eq_true rfl) dX0_of_31 ⟨Nat.zero_le _, Nat.zero_le _⟩ ?_
        refine vx_ret (W.widen (k := 1) (n := 6) (by omega) (by omega) ?_)
        exact wr_ret hx hb hr hlocks (⟨by rw [ga_okO, if_neg c_1, if_neg c_2, if_pos c_3], by rw [nI_clamp (by omega), nI_clamp (by omega)]⟩) (rfl) hP hK hD hS dX0_of_34
      · exact vx_throwS (own := RX0) (cls := "java/lang/IndexOutOfBoundsException") (text := "no such position, or no such fact of it") (names := ["java/lang/RuntimeException", "java/lang/Exception"]) (ik := 70) (ic := 74) hx hb hno hown (by decide +kernel) (by decide +kernel) (hts (.classLink RX0 70 "java/lang/IndexOutOfBoundsException") (by decide +kernel)) (hts (.initialized "java/lang/IndexOutOfBoundsException") (by decide +kernel)) hX.2.2.1 (vx_hat (L := vx_atS RX0 74 "java/lang/IndexOutOfBoundsException" ["java/lang/RuntimeException", "java/lang/Exception"]) (B := [.castable "java/lang/IndexOutOfBoundsException" "java/lang/IndexOutOfBoundsException", .declares (dcl "java/lang/RuntimeException"), .declares (dcl "java/lang/Exception"), .declares (dcl "java/lang/Throwable")]) (fun w hw => hts w ((by decide +kernel : ∀ w ∈ (vx_atS RX0 74 "java/lang/IndexOutOfBoundsException" ["java/lang/RuntimeException", "java/lang/Exception"]).filter goodWord, w ∈ wsX0_of) w hw)) (by decide +kernel) (vx_c (va_Nw.use rfl hX.2.2.2.2.1) (vx_c (va_Nw.use rfl hX.2.2.2.2.2.2.1) (vx_c (va_Nw.use rfl hX.2.2.2.2.2.2.2.1) (vx_c (va_Nw.use rfl hX.2.2.2.2.2.2.2.2.1) vx_n))))) (by decide +kernel) hX.1 hX.2.1 hS (hl.1.trans hml.symm) dX0_of_18 dX0_of_21 dX0_of_22 dX0_of_24 dX0_of_27 (fun z hz => (hnoEx z hz).elim) (Nat.le_of_ble_eq_true rfl) (by decide) (by decide) (by decide) hlocks (th_end hP hK hD hS (⟨rfl, by rw [ga_okO, if_neg c_1, if_neg c_2, if_neg c_3]⟩)) hS.2.2 (by decide) (by decide)
set_option maxHeartbeats 4000000 in
set_option maxRecDepth 100000 in
theorem k_X0_men (l : Launch) (dC : Nat → ClassId) (dI : Nat → Nat → Nat) (cI cJ : ClassId) (x g t f : Nat) (G T : Nat → Int64) (F : Nat → Int32) (n : Nat) (i q : Int32) (sz : Nat) (hn : n ≤ 640) {a1 a2 : Nat} (hno : l.stackTraces = false) : vx_Met l yX0_men wsX0_men ({ frames := 6, cells := 1, slots := 6, locals := 100 } : Room) (th (dC, dI) (wX cI cJ x g t f G T F n) (tK cI cJ) sz 75 75 "no such position, or no such part of it" "no such position, or no such part of it" a1 a2 "java/lang/IndexOutOfBoundsException" "java/lang/IndexOutOfBoundsException" [.ref x, .int i, .int q]) (wrL (dC, dI) (wX cI cJ x g t f G T F n) (tK cI cJ) (va_A (wX cI cJ x g t f G T F n) sz) (fun r => ga_okM n i q = 0 ∧ r = T (i.toNatClampNeg * 4 + q.toNatClampNeg))) (thX (dC, dI) (wX cI cJ x g t f G T F n) (tK cI cJ) (va_A (wX cI cJ x g t f G T F n) sz) (fun E => E = "java/lang/IndexOutOfBoundsException" ∧ ga_okM n i q = 1)) 1 6 (va_A (wX cI cJ x g t f G T F n) sz) := by
  refine vx_ofW (cc := cX0_men) (maxL := 3) (ret := (some .long)) (by decide) rfl ?_
  intro p e s m args below meth c s₁ B hml hnoEx hv
  obtain ⟨rfl, hsz, hP, hK, hD0, hX⟩ := hv
  have hx := B.exec
  have hb := B.bytes
  have hr := B.returns
  have hts := atoms_spec (ws := wsX0_men) B.pre
  have hown : s.vm.findClass RX0 = some m.cls := findClass_of_methodNamed B.named
  have hlocks := B.notSynchronized
  have hinX0 : ∀ w ∈ u_ws RX0 TX0 4, w ∈ wsX0_men := by decide +kernel
  have hf13 := hts (.fieldLink RX0 13 "GameArbiter" "told" "[J") (by decide +kernel)
  have hl := lv_entry ([.ref x, .int i, .int q]) (n := 3) (Nat.le_of_ble_eq_true rfl)
  rw [lg_entry_eq]
  generalize (lg_sl ([.ref x, .int i, .int q]) ++ List.replicate (3 - (lg_sl ([.ref x, .int i, .int q])).length) Slot.unset).toArray = ls at hl ⊢
  replace hl : lv_has ls 3 [(0, .ref x), (1, .int i), (2, .int q)] := hl
  subst hsz
  have hD := hD0.self (sz := s.heap.size)
  generalize hAe : va_A (wX cI cJ x g t f G T F n) s.heap.size = A at hD hX ⊢
  have hA : ∀ q : Nat, s.heap.size ≤ q → A q := fun q h => by rw [← hAe]; exact Or.inr h
  have hS : va_S A s.heap s.heap [] := va_S.rf
  replace hP : va_P (dC, dI) vwCl [(x, .inr (0, [.ref g, .ref t, .ref f, .int (nI n)])), (g, .inl (cJ, 4, .inr (.inl G))), (t, .inl (cJ, 2560, .inr (.inl T))), (f, .inl (cI, 5120, .inl F))] s.heap := hP
  replace hD : va_D A [(x, .inr (0, [.ref g, .ref t, .ref f, .int (nI n)])), (g, .inl (cJ, 4, .inr (.inl G))), (t, .inl (cJ, 2560, .inr (.inl T))), (f, .inl (cI, 5120, .inl F))] := hD
  refine lv_aload_n hx hb dX0_men_0 rfl (lv_at hl 0 rfl) ?_
  refine lv_iload_n hx hb dX0_men_1 rfl (lv_at hl 1 rfl) ?_
  refine rd_callV (rest := []) ⟨hx, hb, hml, hown, hts⟩ (k_X0_isPosition l dC dI cI cJ x g t f G T F n i) (cwV 1 hts gX0_men_X0_isPosition rfl rfl rfl (by decide +kernel) ⟨Nat.le_of_ble_eq_true rfl, Nat.le_of_ble_eq_true rfl⟩) hK hP rfl (q0 := 0) rfl rfl hl.1 rfl (Nat.le_of_ble_eq_true rfl) dX0_men_2 ⟨Nat.zero_le _, Nat.zero_le _⟩ ?_
  refine lv_if_eq (tgt := 15) hx hb dX0_men_5 (by decide) (fun c_1 => ?_) (fun c_1 => ?_)
  · exact vx_throwS (own := RX0) (cls := "java/lang/IndexOutOfBoundsException") (text := "no such position, or no such part of it") (names := ["java/lang/RuntimeException", "java/lang/Exception"]) (ik := 70) (ic := 74) hx hb hno hown (by decide +kernel) (by decide +kernel) (hts (.classLink RX0 70 "java/lang/IndexOutOfBoundsException") (by decide +kernel)) (hts (.initialized "java/lang/IndexOutOfBoundsException") (by decide +kernel)) hX.2.2.1 (vx_hat (L := vx_atS RX0 74 "java/lang/IndexOutOfBoundsException" ["java/lang/RuntimeException", "java/lang/Exception"]) (B := [.castable "java/lang/IndexOutOfBoundsException" "java/lang/IndexOutOfBoundsException", .declares (dcl "java/lang/RuntimeException"), .declares (dcl "java/lang/Exception"), .declares (dcl "java/lang/Throwable")]) (fun w hw => hts w ((by decide +kernel : ∀ w ∈ (vx_atS RX0 74 "java/lang/IndexOutOfBoundsException" ["java/lang/RuntimeException", "java/lang/Exception"]).filter goodWord, w ∈ wsX0_men) w hw)) (by decide +kernel) (vx_c (va_Nw.use rfl hX.2.2.2.2.1) (vx_c (va_Nw.use rfl hX.2.2.2.2.2.2.1) (vx_c (va_Nw.use rfl hX.2.2.2.2.2.2.2.1) (vx_c (va_Nw.use rfl hX.2.2.2.2.2.2.2.2.1) vx_n))))) (by decide +kernel) hX.1 hX.2.1 hS (hl.1.trans hml.symm) dX0_men_15 dX0_men_18 dX0_men_19 dX0_men_21 dX0_men_24 (fun z hz => (hnoEx z hz).elim) (Nat.le_of_ble_eq_true rfl) (by decide) (by decide) (by decide) hlocks (th_end hP hK hD hS (⟨rfl, by rw [ga_okM, if_pos c_1]⟩)) hS.2.2 (by decide) (by decide)
  · obtain ⟨a, ha, rfl⟩ := ga_isPos_nat hn c_1
    refine lv_iload_n hx hb dX0_men_8 rfl (lv_at hl 2 rfl) ?_
    refine pu_callS (rest := []) ⟨hx, hb, hml, hown, hts⟩ (k_X0_isPart l q) (va_cwS 1 hts gX0_men_X0_isPart rfl rfl rfl (by decide +kernel) ⟨Nat.le_of_ble_eq_true rfl, Nat.le_of_ble_eq_true rfl⟩) rfl hl.1 rfl (Nat.le_of_ble_eq_true rfl) dX0_men_9 ⟨Nat.zero_le _, Nat.zero_le _⟩ ?_
    refine lv_if_ne (tgt := 25) hx hb dX0_men_12 (by decide) (fun c_2 => ?_) (fun c_2 => ?_)
    · obtain ⟨b9, hb9, rfl⟩ := ga_isPart_nat c_2
      refine lv_aload_n hx hb dX0_men_25 rfl (lv_at hl 0 rfl) ?_
      refine va_get (D := (dC, dI)) (ci := 0) (v := .ref t) (C := RX0) (T := TX0) (N := 4) hx hb hts hinX0 hown hK hP 0 rfl rfl 1 (by decide) hf13 (fun _ h9 => h9) rfl dX0_men_26 ?_
      refine lv_iload_n hx hb dX0_men_29 rfl (lv_at hl 1 rfl) ?_
      refine lv_iconst (v := nI 4) hx hb dX0_men_30 (by decide) ?_
      refine lv_imul hx hb dX0_men_31 ?_
      refine lv_is (pk_mul _ _) ?_
      refine lv_iload_n hx hb dX0_men_32 rfl (lv_at hl 2 rfl) ?_
      refine lv_iadd hx hb dX0_men_33 ?_
      refine lv_is (nI_add _ _) ?_
      refine ix_lald hx hb hK hP 2 0 rfl rfl (show (a * 4) + b9 < 2560 by omega) (by decide) dX0_men_34 ?_
      refine vx_ret (W.widen (k := 1) (n := 6) (by omega) (by omega) ?_)
      exact wr_retl hx hb hr hlocks (⟨by rw [ga_okM, if_neg c_1, if_neg c_2], by rw [nI_clamp (by omega), nI_clamp (by omega)]⟩) (rfl) hP hK hD hS dX0_men_35
    · exact vx_throwS (own := RX0) (cls := "java/lang/IndexOutOfBoundsException") (text := "no such position, or no such part of it") (names := ["java/lang/RuntimeException", "java/lang/Exception"]) (ik := 70) (ic := 74) hx hb hno hown (by decide +kernel) (by decide +kernel) (hts (.classLink RX0 70 "java/lang/IndexOutOfBoundsException") (by decide +kernel)) (hts (.initialized "java/lang/IndexOutOfBoundsException") (by decide +kernel)) hX.2.2.1 (vx_hat (L := vx_atS RX0 74 "java/lang/IndexOutOfBoundsException" ["java/lang/RuntimeException", "java/lang/Exception"]) (B := [.castable "java/lang/IndexOutOfBoundsException" "java/lang/IndexOutOfBoundsException", .declares (dcl "java/lang/RuntimeException"), .declares (dcl "java/lang/Exception"), .declares (dcl "java/lang/Throwable")]) (fun w hw => hts w ((by decide +kernel : ∀ w ∈ (vx_atS RX0 74 "java/lang/IndexOutOfBoundsException" ["java/lang/RuntimeException", "java/lang/Exception"]).filter goodWord, w ∈ wsX0_men) w hw)) (by decide +kernel) (vx_c (va_Nw.use rfl hX.2.2.2.2.1) (vx_c (va_Nw.use rfl hX.2.2.2.2.2.2.1) (vx_c (va_Nw.use rfl hX.2.2.2.2.2.2.2.1) (vx_c (va_Nw.use rfl hX.2.2.2.2.2.2.2.2.1) vx_n))))) (by decide +kernel) hX.1 hX.2.1 hS (hl.1.trans hml.symm) dX0_men_15 dX0_men_18 dX0_men_19 dX0_men_21 dX0_men_24 (fun z hz => (hnoEx z hz).elim) (Nat.le_of_ble_eq_true rfl) (by decide) (by decide) (by decide) hlocks (th_end hP hK hD hS (⟨rfl, by rw [ga_okM, if_neg c_1, if_pos c_2]⟩)) hS.2.2 (by decide) (by decide)
set_option maxHeartbeats 4000000 in
set_option maxRecDepth 100000 in
theorem k_X0_times (l : Launch) (dC : Nat → ClassId) (dI : Nat → Nat → Nat) (cI cJ : ClassId) (x g t f : Nat) (G T : Nat → Int64) (F : Nat → Int32) (n : Nat) (q : Int32) (sz : Nat) (hn : n ≤ 640) {a1 a2 : Nat} (hno : l.stackTraces = false) : vx_Met l yX0_times wsX0_times ({ frames := 6, cells := 1, slots := 6, locals := 100 } : Room) (th (dC, dI) (wX cI cJ x g t f G T F n) (tK cI cJ) sz 77 77 "the state is none that there is" "the state is none that there is" a1 a2 "java/lang/IllegalArgumentException" "java/lang/IllegalArgumentException" [.ref x, .int q]) (wrQ (dC, dI) (wX cI cJ x g t f G T F n) (tK cI cJ) (va_A (wX cI cJ x g t f G T F n) sz) (fun r => ga_okT q = 0 ∧ r = ga_cup F n (ga_last G T F q n))) (thX (dC, dI) (wX cI cJ x g t f G T F n) (tK cI cJ) (va_A (wX cI cJ x g t f G T F n) sz) (fun E => E = "java/lang/IllegalArgumentException" ∧ ga_okT q = 1)) 1 6 (va_A (wX cI cJ x g t f G T F n) sz) := by
  refine vx_ofW (cc := cX0_times) (maxL := 2) (ret := (some .int)) (by decide) rfl ?_
  intro p e s m args below meth c s₁ B hml hnoEx hv
  obtain ⟨rfl, hsz, hP, hK, hD0, hX⟩ := hv
  have hx := B.exec
  have hb := B.bytes
  have hr := B.returns
  have hts := atoms_spec (ws := wsX0_times) B.pre
  have hown : s.vm.findClass RX0 = some m.cls := findClass_of_methodNamed B.named
  have hlocks := B.notSynchronized
  have hinX0 : ∀ w ∈ u_ws RX0 TX0 4, w ∈ wsX0_times := by decide +kernel
  have hl := lv_entry ([.ref x, .int q]) (n := 2) (Nat.le_of_ble_eq_true rfl)
  rw [lg_entry_eq]
  generalize (lg_sl ([.ref x, .int q]) ++ List.replicate (2 - (lg_sl ([.ref x, .int q])).length) Slot.unset).toArray = ls at hl ⊢
  replace hl : lv_has ls 2 [(0, .ref x), (1, .int q)] := hl
  subst hsz
  have hD := hD0.self (sz := s.heap.size)
  generalize hAe : va_A (wX cI cJ x g t f G T F n) s.heap.size = A at hD hX ⊢
  have hA : ∀ q : Nat, s.heap.size ≤ q → A q := fun q h => by rw [← hAe]; exact Or.inr h
  have hS : va_S A s.heap s.heap [] := va_S.rf
  replace hP : va_P (dC, dI) vwCl [(x, .inr (0, [.ref g, .ref t, .ref f, .int (nI n)])), (g, .inl (cJ, 4, .inr (.inl G))), (t, .inl (cJ, 2560, .inr (.inl T))), (f, .inl (cI, 5120, .inl F))] s.heap := hP
  replace hD : va_D A [(x, .inr (0, [.ref g, .ref t, .ref f, .int (nI n)])), (g, .inl (cJ, 4, .inr (.inl G))), (t, .inl (cJ, 2560, .inr (.inl T))), (f, .inl (cI, 5120, .inl F))] := hD
  refine lv_iload_n hx hb dX0_times_0 rfl (lv_at hl 1 rfl) ?_
  refine pu_callS (rest := []) ⟨hx, hb, hml, hown, hts⟩ (k_X0_isState l q) (va_cwS 1 hts gX0_times_X0_isState rfl rfl rfl (by decide +kernel) ⟨Nat.le_of_ble_eq_true rfl, Nat.le_of_ble_eq_true rfl⟩) rfl hl.1 rfl (Nat.le_of_ble_eq_true rfl) dX0_times_1 ⟨Nat.zero_le _, Nat.zero_le _⟩ ?_
  refine lv_if_ne (tgt := 17) hx hb dX0_times_4 (by decide) (fun c_1 => ?_) (fun c_1 => ?_)
  · refine lv_aload_n hx hb dX0_times_17 rfl (lv_at hl 0 rfl) ?_
    refine lv_aload_n hx hb dX0_times_18 rfl (lv_at hl 0 rfl) ?_
    refine lv_iload_n hx hb dX0_times_19 rfl (lv_at hl 1 rfl) ?_
    refine rd_callV (rest := [.ref x]) ⟨hx, hb, hml, hown, hts⟩ (k_X0_lastSame l dC dI cI cJ x g t f G T F n q (by omega)) (cwV 1 hts gX0_times_X0_lastSame rfl rfl rfl (by decide +kernel) ⟨Nat.le_of_ble_eq_true rfl, Nat.le_of_ble_eq_true rfl⟩) hK hP rfl (q0 := 0) rfl rfl hl.1 rfl (Nat.le_of_ble_eq_true rfl) dX0_times_20 ⟨Nat.zero_le _, Nat.zero_le _⟩ ?_
    refine rd_callV (rest := []) ⟨hx, hb, hml, hown, hts⟩ (k_X0_countUpTo l dC dI cI cJ x g t f G T F n (ga_last G T F q n) (by omega)) (cwV 1 hts gX0_times_X0_countUpTo rfl rfl rfl (by decide +kernel) ⟨Nat.le_of_ble_eq_true rfl, Nat.le_of_ble_eq_true rfl⟩) hK hP rfl (q0 := 0) rfl rfl hl.1 rfl (Nat.le_of_ble_eq_true rfl) dX0_times_23 ⟨Nat.zero_le _, Nat.zero_le _⟩ ?_
    refine vx_ret (W.widen (k := 1) (n := 6) (by omega) (by omega) ?_)
    exact wr_ret hx hb hr hlocks (⟨by rw [ga_okT, if_neg c_1], rfl⟩) (rfl) hP hK hD hS dX0_times_26
  · exact vx_throwS (own := RX0) (cls := "java/lang/IllegalArgumentException") (text := "the state is none that there is") (names := ["java/lang/RuntimeException", "java/lang/Exception"]) (ik := 41) (ic := 45) hx hb hno hown (by decide +kernel) (by decide +kernel) (hts (.classLink RX0 41 "java/lang/IllegalArgumentException") (by decide +kernel)) (hts (.initialized "java/lang/IllegalArgumentException") (by decide +kernel)) hX.2.2.1 (vx_hat (L := vx_atS RX0 45 "java/lang/IllegalArgumentException" ["java/lang/RuntimeException", "java/lang/Exception"]) (B := [.castable "java/lang/IllegalArgumentException" "java/lang/IllegalArgumentException", .declares (dcl "java/lang/RuntimeException"), .declares (dcl "java/lang/Exception"), .declares (dcl "java/lang/Throwable")]) (fun w hw => hts w ((by decide +kernel : ∀ w ∈ (vx_atS RX0 45 "java/lang/IllegalArgumentException" ["java/lang/RuntimeException", "java/lang/Exception"]).filter goodWord, w ∈ wsX0_times) w hw)) (by decide +kernel) (vx_c (va_Nw.use rfl hX.2.2.2.2.1) (vx_c (va_Nw.use rfl hX.2.2.2.2.2.2.1) (vx_c (va_Nw.use rfl hX.2.2.2.2.2.2.2.1) (vx_c (va_Nw.use rfl hX.2.2.2.2.2.2.2.2.1) vx_n))))) (by decide +kernel) hX.1 hX.2.1 hS (hl.1.trans hml.symm) dX0_times_7 dX0_times_10 dX0_times_11 dX0_times_13 dX0_times_16 (fun z hz => (hnoEx z hz).elim) (Nat.le_of_ble_eq_true rfl) (by decide) (by decide) (by decide) hlocks (th_end hP hK hD hS (⟨rfl, by rw [ga_okT, if_pos c_1]⟩)) hS.2.2 (by decide) (by decide)
