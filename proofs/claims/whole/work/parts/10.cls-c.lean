def ga_look (F : Nat → Int32) (n : Nat) (q : Int32) : Int32 := if q = nI 0 then nI n else if q = nI 1 then nI (ga_diff F n) else if q = nI 2 then ga_great F 0 n else if q = nI 3 then ga_great F 1 n else -1
set_option maxHeartbeats 4000000 in
set_option maxRecDepth 100000 in
theorem k_X0_squares (l : Launch) (dC : Nat → ClassId) (dI : Nat → Nat → Nat) (cI cJ : ClassId) (x g t f : Nat) (G T : Nat → Int64) (F : Nat → Int32) (n : Nat) (q : Int32) (mn : Int64) (sz : Nat)  : Met l yX0_squares wsX0_squares ({ frames := 2, cells := 0, slots := 0, locals := 45 } : Room) (wr (dC, dI) (wX cI cJ x g t f G T F n) (tK cI cJ) sz [.ref x, .int q, .long mn]) (wrQ (dC, dI) (wX cI cJ x g t f (ga_sqG G q mn) T F n) (tK cI cJ) (va_A (wX cI cJ x g t f G T F n) sz) (fun r => r = ga_sqR q mn)) 0 0 (va_A (wX cI cJ x g t f G T F n) sz) := by
  refine Met.ofW (cc := cX0_squares) (maxL := 4) (ret := (some .boolean)) (by decide) rfl ?_
  intro p e s m args below meth c s₁ B hml hv
  obtain ⟨rfl, hsz, hP, hK, hD0⟩ := hv
  have hx := B.exec
  have hb := B.bytes
  have hr := B.returns
  have hts := atoms_spec (ws := wsX0_squares) B.pre
  have hown : s.vm.findClass RX0 = some m.cls := findClass_of_methodNamed B.named
  have hlocks := B.notSynchronized
  have hinX0 : ∀ w ∈ u_ws RX0 TX0 4, w ∈ wsX0_squares := by decide +kernel
  have hf9 := hts (.fieldLink RX0 9 "GameArbiter" "given" "[J") (by decide +kernel)
  have hl := lv_entry ([.ref x, .int q, .long mn]) (n := 4) (Nat.le_of_ble_eq_true rfl)
  rw [lg_entry_eq]
  generalize (lg_sl ([.ref x, .int q, .long mn]) ++ List.replicate (4 - (lg_sl ([.ref x, .int q, .long mn])).length) Slot.unset).toArray = ls at hl ⊢
  replace hl : lv_has ls 4 [(0, .ref x), (1, .int q), (2, .long mn)] := hl
  subst hsz
  have hD := hD0.self (sz := s.heap.size)
  generalize hAe : va_A (wX cI cJ x g t f G T F n) s.heap.size = A at hD ⊢
  have hA : ∀ q : Nat, s.heap.size ≤ q → A q := fun q h => by rw [← hAe]; exact Or.inr h
  have hS : va_S A s.heap s.heap [] := va_S.rf
  replace hP : va_P (dC, dI) vwCl [(x, .inr (0, [.ref g, .ref t, .ref f, .int (nI n)])), (g, .inl (cJ, 4, .inr (.inl G))), (t, .inl (cJ, 2560, .inr (.inl T))), (f, .inl (cI, 5120, .inl F))] s.heap := hP
  replace hD : va_D A [(x, .inr (0, [.ref g, .ref t, .ref f, .int (nI n)])), (g, .inl (cJ, 4, .inr (.inl G))), (t, .inl (cJ, 2560, .inr (.inl T))), (f, .inl (cI, 5120, .inl F))] := hD
  refine lv_iload_n hx hb dX0_squares_0 rfl (lv_at hl 1 rfl) ?_
  refine pu_callS (rest := []) ⟨hx, hb, hml, hown, hts⟩ (k_X0_isPart l q) (va_cwS 1 hts gX0_squares_X0_isPart rfl rfl rfl (by decide +kernel) ⟨Nat.le_of_ble_eq_true rfl, Nat.le_of_ble_eq_true rfl⟩) rfl hl.1 rfl (Nat.le_of_ble_eq_true rfl) dX0_squares_1 ⟨Nat.zero_le _, Nat.zero_le _⟩ ?_
  refine lv_if_eq (tgt := 14) hx hb dX0_squares_4 (by decide) (fun c_1 => ?_) (fun c_1 => ?_)
  · refine lv_iconst (v := nI 0) hx hb dX0_squares_14 (by decide) ?_
    exact wr_retz hx hb hr hlocks rfl (by rw [ga_sqR, if_pos c_1]) (by rw [ga_sqG, if_pos c_1]) hP hK hD hS dX0_squares_15
  · obtain ⟨a, ha, rfl⟩ := ga_isPart_nat c_1
    refine lv_lload_n hx hb dX0_squares_7 rfl (lv_at hl 2 rfl) ?_
    refine pu_callS (rest := []) ⟨hx, hb, hml, hown, hts⟩ (k_X0_areMen l mn) (va_cwS 1 hts gX0_squares_X0_areMen rfl rfl rfl (by decide +kernel) ⟨Nat.le_of_ble_eq_true rfl, Nat.le_of_ble_eq_true rfl⟩) rfl hl.1 rfl (Nat.le_of_ble_eq_true rfl) dX0_squares_8 ⟨Nat.zero_le _, Nat.zero_le _⟩ ?_
    refine lv_if_ne (tgt := 16) hx hb dX0_squares_11 (by decide) (fun c_2 => ?_) (fun c_2 => ?_)
    · refine lv_aload_n hx hb dX0_squares_16 rfl (lv_at hl 0 rfl) ?_
      refine va_get (D := (dC, dI)) (ci := 0) (v := .ref g) (C := RX0) (T := TX0) (N := 4) hx hb hts hinX0 hown hK hP 0 rfl rfl 0 (by decide) hf9 (fun _ h9 => h9) rfl dX0_squares_17 ?_
      refine lv_iload_n hx hb dX0_squares_20 rfl (lv_at hl 1 rfl) ?_
      refine lv_lload_n hx hb dX0_squares_21 rfl (lv_at hl 2 rfl) ?_
      refine ix_last hx hb hK hP hD hS 1 0 rfl rfl (show a < 4 by omega) (by decide) dX0_squares_22 (fun H locs hP hD hS => ?_)
      replace hP : va_P (dC, dI) vwCl [(x, .inr (0, [.ref g, .ref t, .ref f, .int (nI n)])), (g, .inl (cJ, 4, .inr (.inl (vp_updL G a mn)))), (t, .inl (cJ, 2560, .inr (.inl T))), (f, .inl (cI, 5120, .inl F))] H := hP
      replace hD : va_D A [(x, .inr (0, [.ref g, .ref t, .ref f, .int (nI n)])), (g, .inl (cJ, 4, .inr (.inl (vp_updL G a mn)))), (t, .inl (cJ, 2560, .inr (.inl T))), (f, .inl (cI, 5120, .inl F))] := hD
      refine lv_iconst (v := nI 1) hx hb dX0_squares_23 (by decide) ?_
      exact wr_retz hx hb hr hlocks rfl (by rw [ga_sqR, if_neg c_1, if_neg c_2]) (by rw [ga_sqG, if_neg c_1, if_neg c_2, nI_clamp (by omega)]) hP hK hD hS dX0_squares_24
    · refine lv_iconst (v := nI 0) hx hb dX0_squares_14 (by decide) ?_
      exact wr_retz hx hb hr hlocks rfl (by rw [ga_sqR, if_neg c_1, if_pos c_2]) (by rw [ga_sqG, if_neg c_1, if_pos c_2]) hP hK hD hS dX0_squares_15
set_option maxHeartbeats 4000000 in
set_option maxRecDepth 100000 in
theorem k_X0_back (l : Launch) (dC : Nat → ClassId) (dI : Nat → Nat → Nat) (cI cJ : ClassId) (x g t f : Nat) (G T : Nat → Int64) (F : Nat → Int32) (n : Nat) (sz : Nat) (hn : n ≤ 640) : Met l yX0_back wsX0_back ({ frames := 0, cells := 0, slots := 0, locals := 0 } : Room) (wr (dC, dI) (wX cI cJ x g t f G T F n) (tK cI cJ) sz [.ref x]) (wrQ (dC, dI) (wX cI cJ x g t f G T F (n - 1)) (tK cI cJ) (va_A (wX cI cJ x g t f G T F n) sz) (fun r => r = if n = 0 then nI 0 else nI 1)) 0 0 (va_A (wX cI cJ x g t f G T F n) sz) := by
  refine Met.ofW (cc := cX0_back) (maxL := 1) (ret := (some .boolean)) (by decide) rfl ?_
  intro p e s m args below meth c s₁ B hml hv
  obtain ⟨rfl, hsz, hP, hK, hD0⟩ := hv
  have hx := B.exec
  have hb := B.bytes
  have hr := B.returns
  have hts := atoms_spec (ws := wsX0_back) B.pre
  have hown : s.vm.findClass RX0 = some m.cls := findClass_of_methodNamed B.named
  have hlocks := B.notSynchronized
  have hinX0 : ∀ w ∈ u_ws RX0 TX0 4, w ∈ wsX0_back := by decide +kernel
  have hf20 := hts (.fieldLink RX0 20 "GameArbiter" "positions" "I") (by decide +kernel)
  have hl := lv_entry ([.ref x]) (n := 1) (Nat.le_of_ble_eq_true rfl)
  rw [lg_entry_eq]
  generalize (lg_sl ([.ref x]) ++ List.replicate (1 - (lg_sl ([.ref x])).length) Slot.unset).toArray = ls at hl ⊢
  replace hl : lv_has ls 1 [(0, .ref x)] := hl
  subst hsz
  have hD := hD0.self (sz := s.heap.size)
  generalize hAe : va_A (wX cI cJ x g t f G T F n) s.heap.size = A at hD ⊢
  have hA : ∀ q : Nat, s.heap.size ≤ q → A q := fun q h => by rw [← hAe]; exact Or.inr h
  have hS : va_S A s.heap s.heap [] := va_S.rf
  replace hP : va_P (dC, dI) vwCl [(x, .inr (0, [.ref g, .ref t, .ref f, .int (nI n)])), (g, .inl (cJ, 4, .inr (.inl G))), (t, .inl (cJ, 2560, .inr (.inl T))), (f, .inl (cI, 5120, .inl F))] s.heap := hP
  replace hD : va_D A [(x, .inr (0, [.ref g, .ref t, .ref f, .int (nI n)])), (g, .inl (cJ, 4, .inr (.inl G))), (t, .inl (cJ, 2560, .inr (.inl T))), (f, .inl (cI, 5120, .inl F))] := hD
  refine lv_aload_n hx hb dX0_back_0 rfl (lv_at hl 0 rfl) ?_
  refine va_get (D := (dC, dI)) (ci := 0) (v := .int (nI n)) (C := RX0) (T := TX0) (N := 4) hx hb hts hinX0 hown hK hP 0 rfl rfl 3 (by decide) hf20 (fun _ h9 => h9) rfl dX0_back_1 ?_
  refine lv_if_ne (tgt := 9) hx hb dX0_back_4 (by decide) (fun c_1 => ?_) (fun c_1 => ?_)
  · have c_1 : ¬ (n = 0) := fun h => c_1 ((nz_eq (show n < 2 ^ 31 by omega)).mpr h)
    refine lv_aload_n hx hb dX0_back_9 rfl (lv_at hl 0 rfl) ?_
    refine lv_dup hx hb dX0_back_10 rfl ?_
    refine va_get (D := (dC, dI)) (ci := 0) (v := .int (nI n)) (C := RX0) (T := TX0) (N := 4) hx hb hts hinX0 hown hK hP 0 rfl rfl 3 (by decide) hf20 (fun _ h9 => h9) rfl dX0_back_11 ?_
    refine lv_iconst (v := nI 1) hx hb dX0_back_14 (by decide) ?_
    refine lv_isub hx hb dX0_back_15 ?_
    refine lv_is (pk_sub (by omega)) ?_
    refine va_put (D := (dC, dI)) (ci := 0) (v := .int (nI (n - 1))) (ty := .int) (C := RX0) (T := TX0) (N := 4) hx hb hts hinX0 tyX0 tyX0_ok nmX0 hown hK hP hD hS 0 rfl rfl 3 (by decide) hf20 (fun _ h9 => h9) rfl (by decide +kernel) rfl rfl (Nat.le_of_ble_eq_true rfl) dX0_back_16 (fun H locs hP hD hS => ?_)
    replace hP : va_P (dC, dI) vwCl [(x, .inr (0, [.ref g, .ref t, .ref f, .int (nI (n - 1))])), (g, .inl (cJ, 4, .inr (.inl G))), (t, .inl (cJ, 2560, .inr (.inl T))), (f, .inl (cI, 5120, .inl F))] H := hP
    replace hD : va_D A [(x, .inr (0, [.ref g, .ref t, .ref f, .int (nI (n - 1))])), (g, .inl (cJ, 4, .inr (.inl G))), (t, .inl (cJ, 2560, .inr (.inl T))), (f, .inl (cI, 5120, .inl F))] := hD
    refine lv_iconst (v := nI 1) hx hb dX0_back_19 (by decide) ?_
    exact wr_retz hx hb hr hlocks rfl (by rw [if_neg c_1]) (rfl) hP hK hD hS dX0_back_20
  · have c_1 : n = 0 := (nz_eq (show n < 2 ^ 31 by omega)).mp c_1
    refine lv_iconst (v := nI 0) hx hb dX0_back_7 (by decide) ?_
    exact wr_retz hx hb hr hlocks rfl (by rw [if_pos c_1]) (by rw [show n - 1 = n by omega]) hP hK hD hS dX0_back_8
set_option maxHeartbeats 4000000 in
set_option maxRecDepth 100000 in
theorem k_X0_append (l : Launch) (dC : Nat → ClassId) (dI : Nat → Nat → Nat) (cI cJ : ClassId) (x g t f : Nat) (G T : Nat → Int64) (F : Nat → Int32) (n : Nat) (st mv ck cl : Int32) (sz : Nat) (hn : n < 640) : Met l yX0_append wsX0_append ({ frames := 4, cells := 0, slots := 0, locals := 90 } : Room) (wr (dC, dI) (wX cI cJ x g t f G T F n) (tK cI cJ) sz [.ref x, .int st, .int mv, .int ck, .int cl]) (wrQ (dC, dI) (wX cI cJ x g t f G (ap_T G T n) (ap_F G T F n st mv ck cl) (n + 1)) (tK cI cJ) (va_A (wX cI cJ x g t f G T F n) sz) (fun r => r = ap_vd G T F n st mv ck cl)) 0 0 (va_A (wX cI cJ x g t f G T F n) sz) := by
  refine Met.ofW (cc := cX0_append) (maxL := 12) (ret := (some .int)) (by decide) rfl ?_
  intro p e s m args below meth c s₁ B hml hv
  obtain ⟨rfl, hsz, hP, hK, hD0⟩ := hv
  have hx := B.exec
  have hb := B.bytes
  have hr := B.returns
  have hts := atoms_spec (ws := wsX0_append) B.pre
  have hown : s.vm.findClass RX0 = some m.cls := findClass_of_methodNamed B.named
  have hlocks := B.notSynchronized
  have hinX0 : ∀ w ∈ u_ws RX0 TX0 4, w ∈ wsX0_append := by decide +kernel
  have hf9 := hts (.fieldLink RX0 9 "GameArbiter" "given" "[J") (by decide +kernel)
  have hf13 := hts (.fieldLink RX0 13 "GameArbiter" "told" "[J") (by decide +kernel)
  have hf16 := hts (.fieldLink RX0 16 "GameArbiter" "facts" "[I") (by decide +kernel)
  have hf20 := hts (.fieldLink RX0 20 "GameArbiter" "positions" "I") (by decide +kernel)
  have hl := lv_entry ([.ref x, .int st, .int mv, .int ck, .int cl]) (n := 12) (Nat.le_of_ble_eq_true rfl)
  rw [lg_entry_eq]
  generalize (lg_sl ([.ref x, .int st, .int mv, .int ck, .int cl]) ++ List.replicate (12 - (lg_sl ([.ref x, .int st, .int mv, .int ck, .int cl])).length) Slot.unset).toArray = ls at hl ⊢
  replace hl : lv_has ls 12 [(0, .ref x), (1, .int st), (2, .int mv), (3, .int ck), (4, .int cl)] := hl
  subst hsz
  have hD := hD0.self (sz := s.heap.size)
  generalize hAe : va_A (wX cI cJ x g t f G T F n) s.heap.size = A at hD ⊢
  have hA : ∀ q : Nat, s.heap.size ≤ q → A q := fun q h => by rw [← hAe]; exact Or.inr h
  have hS : va_S A s.heap s.heap [] := va_S.rf
  replace hP : va_P (dC, dI) vwCl [(x, .inr (0, [.ref g, .ref t, .ref f, .int (nI n)])), (g, .inl (cJ, 4, .inr (.inl G))), (t, .inl (cJ, 2560, .inr (.inl T))), (f, .inl (cI, 5120, .inl F))] s.heap := hP
  replace hD : va_D A [(x, .inr (0, [.ref g, .ref t, .ref f, .int (nI n)])), (g, .inl (cJ, 4, .inr (.inl G))), (t, .inl (cJ, 2560, .inr (.inl T))), (f, .inl (cI, 5120, .inl F))] := hD
  refine lv_aload_n hx hb dX0_append_0 rfl (lv_at hl 0 rfl) ?_
  refine va_get (D := (dC, dI)) (ci := 0) (v := .int (nI n)) (C := RX0) (T := TX0) (N := 4) hx hb hts hinX0 hown hK hP 0 rfl rfl 3 (by decide) hf20 (fun _ h9 => h9) rfl dX0_append_1 ?_
  refine lv_istore (lv' := [(5, .int (nI n)), (0, .ref x), (1, .int st), (2, .int mv), (3, .int ck), (4, .int cl)]) hx hb dX0_append_4 hl (by decide) rfl (fun ls hl => ?_)
  refine lv_aload_n hx hb dX0_append_6 rfl (lv_at hl 1 rfl) ?_
  refine lv_iload_n hx hb dX0_append_7 rfl (lv_at hl 2 rfl) ?_
  refine rd_callV (rest := []) ⟨hx, hb, hml, hown, hts⟩ (k_X0_lastSame l dC dI cI cJ x g t f G T F n st (by omega)) (cwV 1 hts gX0_append_X0_lastSame rfl rfl rfl (by decide +kernel) ⟨Nat.le_of_ble_eq_true rfl, Nat.le_of_ble_eq_true rfl⟩) hK hP rfl (q0 := 0) rfl rfl hl.1 rfl (Nat.le_of_ble_eq_true rfl) dX0_append_8 ⟨Nat.zero_le _, Nat.zero_le _⟩ ?_
  refine lv_istore (lv' := [(6, .int (ga_last G T F st n)), (5, .int (nI n)), (0, .ref x), (1, .int st), (2, .int mv), (3, .int ck), (4, .int cl)]) hx hb dX0_append_11 hl (by decide) rfl (fun ls hl => ?_)
  refine lv_aload_n hx hb dX0_append_13 rfl (lv_at hl 2 rfl) ?_
  refine lv_iload hx hb dX0_append_14 (lv_at hl 0 rfl) ?_
  refine rd_callV (rest := []) ⟨hx, hb, hml, hown, hts⟩ (k_X0_countUpTo l dC dI cI cJ x g t f G T F n (ga_last G T F st n) (by omega)) (cwV 1 hts gX0_append_X0_countUpTo rfl rfl rfl (by decide +kernel) ⟨Nat.le_of_ble_eq_true rfl, Nat.le_of_ble_eq_true rfl⟩) hK hP rfl (q0 := 0) rfl rfl hl.1 rfl (Nat.le_of_ble_eq_true rfl) dX0_append_16 ⟨Nat.zero_le _, Nat.zero_le _⟩ ?_
  refine lv_iconst (v := nI 1) hx hb dX0_append_19 (by decide) ?_
  refine lv_iadd hx hb dX0_append_20 ?_
  refine lv_istore (lv' := [(7, .int ((ga_cup F n (ga_last G T F st n)) + (nI 1))), (6, .int (ga_last G T F st n)), (5, .int (nI n)), (0, .ref x), (1, .int st), (2, .int mv), (3, .int ck), (4, .int cl)]) hx hb dX0_append_21 hl (by decide) rfl (fun ls hl => ?_)
  refine lv_bipush (v := nI 64) hx hb dX0_append_23 (by decide) ?_
  refine lv_aload_n hx hb dX0_append_25 rfl (lv_at hl 3 rfl) ?_
  refine lv_iconst (v := nI 0) hx hb dX0_append_26 (by decide) ?_
  have hcnnI0 := ga_cnt_le G (nI 0) 64
  refine rd_callV (rest := [.int (nI 64)]) ⟨hx, hb, hml, hown, hts⟩ (k_X0_countGiven l dC dI cI cJ x g t f G T F n (nI 0)) (cwV 1 hts gX0_append_X0_countGiven rfl rfl rfl (by decide +kernel) ⟨Nat.le_of_ble_eq_true rfl, Nat.le_of_ble_eq_true rfl⟩) hK hP rfl (q0 := 0) rfl rfl hl.1 rfl (Nat.le_of_ble_eq_true rfl) dX0_append_27 ⟨Nat.zero_le _, Nat.zero_le _⟩ ?_
  refine lv_isub hx hb dX0_append_30 ?_
  refine lv_is (pk_sub (by omega)) ?_
  refine lv_istore (lv' := [(8, .int (nI (64 - (ga_cnt G (nI 0) 64)))), (7, .int ((ga_cup F n (ga_last G T F st n)) + (nI 1))), (6, .int (ga_last G T F st n)), (5, .int (nI n)), (0, .ref x), (1, .int st), (2, .int mv), (3, .int ck), (4, .int cl)]) hx hb dX0_append_31 hl (by decide) rfl (fun ls hl => ?_)
  refine lv_aload_n hx hb dX0_append_33 rfl (lv_at hl 4 rfl) ?_
  refine lv_iload hx hb dX0_append_34 (lv_at hl 0 rfl) ?_
  refine rd_callV (rest := []) ⟨hx, hb, hml, hown, hts⟩ (k_X0_isGivenDead l dC dI cI cJ x g t f G T F n (nI (64 - (ga_cnt G (nI 0) 64)))) (cwV 1 hts gX0_append_X0_isGivenDead rfl rfl rfl (by decide +kernel) ⟨Nat.le_of_ble_eq_true rfl, Nat.le_of_ble_eq_true rfl⟩) hK hP rfl (q0 := 0) rfl rfl hl.1 rfl (Nat.le_of_ble_eq_true rfl) dX0_append_36 ⟨Nat.zero_le _, Nat.zero_le _⟩ ?_
  refine lv_istore (lv' := [(9, .int (ga_dead G (nI (64 - (ga_cnt G (nI 0) 64))))), (8, .int (nI (64 - (ga_cnt G (nI 0) 64)))), (7, .int ((ga_cup F n (ga_last G T F st n)) + (nI 1))), (6, .int (ga_last G T F st n)), (5, .int (nI n)), (0, .ref x), (1, .int st), (2, .int mv), (3, .int ck), (4, .int cl)]) hx hb dX0_append_39 hl (by decide) rfl (fun ls hl => ?_)
  refine lv_iload_n hx hb dX0_append_41 rfl (lv_at hl 7 rfl) ?_
  refine lv_iload_n hx hb dX0_append_42 rfl (lv_at hl 8 rfl) ?_
  refine lv_iload hx hb dX0_append_43 (lv_at hl 0 rfl) ?_
  refine lv_iload hx hb dX0_append_45 (lv_at hl 2 rfl) ?_
  refine lv_iload hx hb dX0_append_47 (lv_at hl 9 rfl) ?_
  refine pu_callS (rest := []) ⟨hx, hb, hml, hown, hts⟩ (k_X0_judge l mv ck (ga_dead G (nI (64 - (ga_cnt G (nI 0) 64)))) ((ga_cup F n (ga_last G T F st n)) + (nI 1)) cl) (va_cwS 5 hts gX0_append_X0_judge rfl rfl rfl (by decide +kernel) ⟨Nat.le_of_ble_eq_true rfl, Nat.le_of_ble_eq_true rfl⟩) rfl hl.1 rfl (Nat.le_of_ble_eq_true rfl) dX0_append_49 ⟨Nat.zero_le _, Nat.zero_le _⟩ ?_
  refine lv_istore (lv' := [(10, .int (ga_judge mv ck (ga_dead G (nI (64 - (ga_cnt G (nI 0) 64)))) ((ga_cup F n (ga_last G T F st n)) + (nI 1)) cl)), (9, .int (ga_dead G (nI (64 - (ga_cnt G (nI 0) 64))))), (8, .int (nI (64 - (ga_cnt G (nI 0) 64)))), (7, .int ((ga_cup F n (ga_last G T F st n)) + (nI 1))), (6, .int (ga_last G T F st n)), (5, .int (nI n)), (0, .ref x), (1, .int st), (2, .int mv), (3, .int ck), (4, .int cl)]) hx hb dX0_append_52 hl (by decide) rfl (fun ls hl => ?_)
  refine lv_iload hx hb dX0_append_54 (lv_at hl 5 rfl) ?_
  refine lv_bipush (v := nI 8) hx hb dX0_append_56 (by decide) ?_
  refine lv_imul hx hb dX0_append_58 ?_
  refine lv_is (pk_mul _ _) ?_
  refine lv_istore (lv' := [(11, .int (nI (n * 8))), (10, .int (ga_judge mv ck (ga_dead G (nI (64 - (ga_cnt G (nI 0) 64)))) ((ga_cup F n (ga_last G T F st n)) + (nI 1)) cl)), (9, .int (ga_dead G (nI (64 - (ga_cnt G (nI 0) 64))))), (8, .int (nI (64 - (ga_cnt G (nI 0) 64)))), (7, .int ((ga_cup F n (ga_last G T F st n)) + (nI 1))), (6, .int (ga_last G T F st n)), (5, .int (nI n)), (0, .ref x), (1, .int st), (2, .int mv), (3, .int ck), (4, .int cl)]) hx hb dX0_append_59 hl (by decide) rfl (fun ls hl => ?_)
  refine lv_aload_n hx hb dX0_append_61 rfl (lv_at hl 7 rfl) ?_
  refine va_get (D := (dC, dI)) (ci := 0) (v := .ref f) (C := RX0) (T := TX0) (N := 4) hx hb hts hinX0 hown hK hP 0 rfl rfl 2 (by decide) hf16 (fun _ h9 => h9) rfl dX0_append_62 ?_
  refine lv_iload hx hb dX0_append_65 (lv_at hl 0 rfl) ?_
  refine lv_iconst (v := nI 0) hx hb dX0_append_67 (by decide) ?_
  refine lv_iadd hx hb dX0_append_68 ?_
  refine lv_is (nI_add _ _) ?_
  refine lv_iload hx hb dX0_append_69 (lv_at hl 4 rfl) ?_
  refine ix_iast hx hb hK hP hD hS 3 1 rfl rfl (show (n * 8) + 0 < 5120 by omega) (by decide) dX0_append_71 (fun H locs hP hD hS => ?_)
  replace hP : va_P (dC, dI) vwCl [(x, .inr (0, [.ref g, .ref t, .ref f, .int (nI n)])), (g, .inl (cJ, 4, .inr (.inl G))), (t, .inl (cJ, 2560, .inr (.inl T))), (f, .inl (cI, 5120, .inl (upd F ((n * 8) + 0) ((ga_cup F n (ga_last G T F st n)) + (nI 1)))))] H := hP
  replace hD : va_D A [(x, .inr (0, [.ref g, .ref t, .ref f, .int (nI n)])), (g, .inl (cJ, 4, .inr (.inl G))), (t, .inl (cJ, 2560, .inr (.inl T))), (f, .inl (cI, 5120, .inl (upd F ((n * 8) + 0) ((ga_cup F n (ga_last G T F st n)) + (nI 1)))))] := hD
  refine lv_aload_n hx hb dX0_append_72 rfl (lv_at hl 7 rfl) ?_
  refine va_get (D := (dC, dI)) (ci := 0) (v := .ref f) (C := RX0) (T := TX0) (N := 4) hx hb hts hinX0 hown hK hP 0 rfl rfl 2 (by decide) hf16 (fun _ h9 => h9) rfl dX0_append_73 ?_
  refine lv_iload hx hb dX0_append_76 (lv_at hl 0 rfl) ?_
  refine lv_iconst (v := nI 1) hx hb dX0_append_78 (by decide) ?_
  refine lv_iadd hx hb dX0_append_79 ?_
  refine lv_is (nI_add _ _) ?_
  refine lv_iload hx hb dX0_append_80 (lv_at hl 11 rfl) ?_
  refine ix_iast hx hb hK hP hD hS 3 1 rfl rfl (show (n * 8) + 1 < 5120 by omega) (by decide) dX0_append_82 (fun H locs hP hD hS => ?_)
  replace hP : va_P (dC, dI) vwCl [(x, .inr (0, [.ref g, .ref t, .ref f, .int (nI n)])), (g, .inl (cJ, 4, .inr (.inl G))), (t, .inl (cJ, 2560, .inr (.inl T))), (f, .inl (cI, 5120, .inl (upd (upd F ((n * 8) + 0) ((ga_cup F n (ga_last G T F st n)) + (nI 1))) ((n * 8) + 1) cl)))] H := hP
  replace hD : va_D A [(x, .inr (0, [.ref g, .ref t, .ref f, .int (nI n)])), (g, .inl (cJ, 4, .inr (.inl G))), (t, .inl (cJ, 2560, .inr (.inl T))), (f, .inl (cI, 5120, .inl (upd (upd F ((n * 8) + 0) ((ga_cup F n (ga_last G T F st n)) + (nI 1))) ((n * 8) + 1) cl)))] := hD
  refine lv_aload_n hx hb dX0_append_83 rfl (lv_at hl 7 rfl) ?_
  refine va_get (D := (dC, dI)) (ci := 0) (v := .ref f) (C := RX0) (T := TX0) (N := 4) hx hb hts hinX0 hown hK hP 0 rfl rfl 2 (by decide) hf16 (fun _ h9 => h9) rfl dX0_append_84 ?_
  refine lv_iload hx hb dX0_append_87 (lv_at hl 0 rfl) ?_
  refine lv_iconst (v := nI 2) hx hb dX0_append_89 (by decide) ?_
  refine lv_iadd hx hb dX0_append_90 ?_
  refine lv_is (nI_add _ _) ?_
  refine lv_iload hx hb dX0_append_91 (lv_at hl 1 rfl) ?_
  refine ix_iast hx hb hK hP hD hS 3 1 rfl rfl (show (n * 8) + 2 < 5120 by omega) (by decide) dX0_append_93 (fun H locs hP hD hS => ?_)
  replace hP : va_P (dC, dI) vwCl [(x, .inr (0, [.ref g, .ref t, .ref f, .int (nI n)])), (g, .inl (cJ, 4, .inr (.inl G))), (t, .inl (cJ, 2560, .inr (.inl T))), (f, .inl (cI, 5120, .inl (upd (upd (upd F ((n * 8) + 0) ((ga_cup F n (ga_last G T F st n)) + (nI 1))) ((n * 8) + 1) cl) ((n * 8) + 2) (ga_judge mv ck (ga_dead G (nI (64 - (ga_cnt G (nI 0) 64)))) ((ga_cup F n (ga_last G T F st n)) + (nI 1)) cl))))] H := hP
  replace hD : va_D A [(x, .inr (0, [.ref g, .ref t, .ref f, .int (nI n)])), (g, .inl (cJ, 4, .inr (.inl G))), (t, .inl (cJ, 2560, .inr (.inl T))), (f, .inl (cI, 5120, .inl (upd (upd (upd F ((n * 8) + 0) ((ga_cup F n (ga_last G T F st n)) + (nI 1))) ((n * 8) + 1) cl) ((n * 8) + 2) (ga_judge mv ck (ga_dead G (nI (64 - (ga_cnt G (nI 0) 64)))) ((ga_cup F n (ga_last G T F st n)) + (nI 1)) cl))))] := hD
  refine lv_aload_n hx hb dX0_append_94 rfl (lv_at hl 7 rfl) ?_
  refine va_get (D := (dC, dI)) (ci := 0) (v := .ref f) (C := RX0) (T := TX0) (N := 4) hx hb hts hinX0 hown hK hP 0 rfl rfl 2 (by decide) hf16 (fun _ h9 => h9) rfl dX0_append_95 ?_
  refine lv_iload hx hb dX0_append_98 (lv_at hl 0 rfl) ?_
  refine lv_iconst (v := nI 3) hx hb dX0_append_100 (by decide) ?_
  refine lv_iadd hx hb dX0_append_101 ?_
  refine lv_is (nI_add _ _) ?_
  have J120 : ∀ v3 : Int32, v3 = ap_fi G T F n st mv ck cl → W p l e (headSpec wsX0_append ({ frames := 4, cells := 0, slots := 0, locals := 90 } : Room)).room s m ([.ref x, .int st, .int mv, .int ck, .int cl] : List Value).toArray below meth c H locs 0 0 (MQ below (wrQ (dC, dI) (wX cI cJ x g t f G (ap_T G T n) (ap_F G T F n st mv ck cl) (n + 1)) (tK cI cJ) A (fun r => r = ap_vd G T F n st mv ck cl)) ([.ref x, .int st, .int mv, .int ck, .int cl] : List Value).toArray s 0 0 A) (F0 m 120 ls [.int v3, .int (nI ((n * 8) + 3)), .ref f]) := by
    intro v3 ev3
    refine ix_iast hx hb hK hP hD hS 3 1 rfl rfl (show (n * 8) + 3 < 5120 by omega) (by decide) dX0_append_120 (fun H locs hP hD hS => ?_)
    replace hP : va_P (dC, dI) vwCl [(x, .inr (0, [.ref g, .ref t, .ref f, .int (nI n)])), (g, .inl (cJ, 4, .inr (.inl G))), (t, .inl (cJ, 2560, .inr (.inl T))), (f, .inl (cI, 5120, .inl (upd (upd (upd (upd F ((n * 8) + 0) ((ga_cup F n (ga_last G T F st n)) + (nI 1))) ((n * 8) + 1) cl) ((n * 8) + 2) (ga_judge mv ck (ga_dead G (nI (64 - (ga_cnt G (nI 0) 64)))) ((ga_cup F n (ga_last G T F st n)) + (nI 1)) cl)) ((n * 8) + 3) v3)))] H := hP
    replace hD : va_D A [(x, .inr (0, [.ref g, .ref t, .ref f, .int (nI n)])), (g, .inl (cJ, 4, .inr (.inl G))), (t, .inl (cJ, 2560, .inr (.inl T))), (f, .inl (cI, 5120, .inl (upd (upd (upd (upd F ((n * 8) + 0) ((ga_cup F n (ga_last G T F st n)) + (nI 1))) ((n * 8) + 1) cl) ((n * 8) + 2) (ga_judge mv ck (ga_dead G (nI (64 - (ga_cnt G (nI 0) 64)))) ((ga_cup F n (ga_last G T F st n)) + (nI 1)) cl)) ((n * 8) + 3) v3)))] := hD
    refine lv_aload_n hx hb dX0_append_121 rfl (lv_at hl 7 rfl) ?_
    refine va_get (D := (dC, dI)) (ci := 0) (v := .ref f) (C := RX0) (T := TX0) (N := 4) hx hb hts hinX0 hown hK hP 0 rfl rfl 2 (by decide) hf16 (fun _ h9 => h9) rfl dX0_append_122 ?_
    refine lv_iload hx hb dX0_append_125 (lv_at hl 0 rfl) ?_
    refine lv_iconst (v := nI 4) hx hb dX0_append_127 (by decide) ?_
    refine lv_iadd hx hb dX0_append_128 ?_
    refine lv_is (nI_add _ _) ?_
    refine lv_iload hx hb dX0_append_129 (lv_at hl 5 rfl) ?_
    refine ix_iast hx hb hK hP hD hS 3 1 rfl rfl (show (n * 8) + 4 < 5120 by omega) (by decide) dX0_append_131 (fun H locs hP hD hS => ?_)
    replace hP : va_P (dC, dI) vwCl [(x, .inr (0, [.ref g, .ref t, .ref f, .int (nI n)])), (g, .inl (cJ, 4, .inr (.inl G))), (t, .inl (cJ, 2560, .inr (.inl T))), (f, .inl (cI, 5120, .inl (upd (upd (upd (upd (upd F ((n * 8) + 0) ((ga_cup F n (ga_last G T F st n)) + (nI 1))) ((n * 8) + 1) cl) ((n * 8) + 2) (ga_judge mv ck (ga_dead G (nI (64 - (ga_cnt G (nI 0) 64)))) ((ga_cup F n (ga_last G T F st n)) + (nI 1)) cl)) ((n * 8) + 3) v3) ((n * 8) + 4) (ga_last G T F st n))))] H := hP
    replace hD : va_D A [(x, .inr (0, [.ref g, .ref t, .ref f, .int (nI n)])), (g, .inl (cJ, 4, .inr (.inl G))), (t, .inl (cJ, 2560, .inr (.inl T))), (f, .inl (cI, 5120, .inl (upd (upd (upd (upd (upd F ((n * 8) + 0) ((ga_cup F n (ga_last G T F st n)) + (nI 1))) ((n * 8) + 1) cl) ((n * 8) + 2) (ga_judge mv ck (ga_dead G (nI (64 - (ga_cnt G (nI 0) 64)))) ((ga_cup F n (ga_last G T F st n)) + (nI 1)) cl)) ((n * 8) + 3) v3) ((n * 8) + 4) (ga_last G T F st n))))] := hD
    refine lv_aload_n hx hb dX0_append_132 rfl (lv_at hl 7 rfl) ?_
    refine va_get (D := (dC, dI)) (ci := 0) (v := .ref f) (C := RX0) (T := TX0) (N := 4) hx hb hts hinX0 hown hK hP 0 rfl rfl 2 (by decide) hf16 (fun _ h9 => h9) rfl dX0_append_133 ?_
    refine lv_iload hx hb dX0_append_136 (lv_at hl 0 rfl) ?_
    refine lv_iconst (v := nI 5) hx hb dX0_append_138 (by decide) ?_
    refine lv_iadd hx hb dX0_append_139 ?_
    refine lv_is (nI_add _ _) ?_
    refine lv_iload_n hx hb dX0_append_140 rfl (lv_at hl 8 rfl) ?_
    refine ix_iast hx hb hK hP hD hS 3 1 rfl rfl (show (n * 8) + 5 < 5120 by omega) (by decide) dX0_append_141 (fun H locs hP hD hS => ?_)
    replace hP : va_P (dC, dI) vwCl [(x, .inr (0, [.ref g, .ref t, .ref f, .int (nI n)])), (g, .inl (cJ, 4, .inr (.inl G))), (t, .inl (cJ, 2560, .inr (.inl T))), (f, .inl (cI, 5120, .inl (upd (upd (upd (upd (upd (upd F ((n * 8) + 0) ((ga_cup F n (ga_last G T F st n)) + (nI 1))) ((n * 8) + 1) cl) ((n * 8) + 2) (ga_judge mv ck (ga_dead G (nI (64 - (ga_cnt G (nI 0) 64)))) ((ga_cup F n (ga_last G T F st n)) + (nI 1)) cl)) ((n * 8) + 3) v3) ((n * 8) + 4) (ga_last G T F st n)) ((n * 8) + 5) st)))] H := hP
    replace hD : va_D A [(x, .inr (0, [.ref g, .ref t, .ref f, .int (nI n)])), (g, .inl (cJ, 4, .inr (.inl G))), (t, .inl (cJ, 2560, .inr (.inl T))), (f, .inl (cI, 5120, .inl (upd (upd (upd (upd (upd (upd F ((n * 8) + 0) ((ga_cup F n (ga_last G T F st n)) + (nI 1))) ((n * 8) + 1) cl) ((n * 8) + 2) (ga_judge mv ck (ga_dead G (nI (64 - (ga_cnt G (nI 0) 64)))) ((ga_cup F n (ga_last G T F st n)) + (nI 1)) cl)) ((n * 8) + 3) v3) ((n * 8) + 4) (ga_last G T F st n)) ((n * 8) + 5) st)))] := hD
    refine lv_aload_n hx hb dX0_append_142 rfl (lv_at hl 7 rfl) ?_
    refine va_get (D := (dC, dI)) (ci := 0) (v := .ref f) (C := RX0) (T := TX0) (N := 4) hx hb hts hinX0 hown hK hP 0 rfl rfl 2 (by decide) hf16 (fun _ h9 => h9) rfl dX0_append_143 ?_
    refine lv_iload hx hb dX0_append_146 (lv_at hl 0 rfl) ?_
    refine lv_bipush (v := nI 6) hx hb dX0_append_148 (by decide) ?_
    refine lv_iadd hx hb dX0_append_150 ?_
    refine lv_is (nI_add _ _) ?_
    have J161 : ∀ v6 : Int32, v6 = (if ga_dead G (nI (ap_mn G)) = 0 then nI 0 else nI 1) → W p l e (headSpec wsX0_append ({ frames := 4, cells := 0, slots := 0, locals := 90 } : Room)).room s m ([.ref x, .int st, .int mv, .int ck, .int cl] : List Value).toArray below meth c H locs 0 0 (MQ below (wrQ (dC, dI) (wX cI cJ x g t f G (ap_T G T n) (ap_F G T F n st mv ck cl) (n + 1)) (tK cI cJ) A (fun r => r = ap_vd G T F n st mv ck cl)) ([.ref x, .int st, .int mv, .int ck, .int cl] : List Value).toArray s 0 0 A) (F0 m 161 ls [.int v6, .int (nI ((n * 8) + 6)), .ref f]) := by
      intro v6 ev6
      refine ix_iast hx hb hK hP hD hS 3 1 rfl rfl (show (n * 8) + 6 < 5120 by omega) (by decide) dX0_append_161 (fun H locs hP hD hS => ?_)
      replace hP : va_P (dC, dI) vwCl [(x, .inr (0, [.ref g, .ref t, .ref f, .int (nI n)])), (g, .inl (cJ, 4, .inr (.inl G))), (t, .inl (cJ, 2560, .inr (.inl T))), (f, .inl (cI, 5120, .inl (upd (upd (upd (upd (upd (upd (upd F ((n * 8) + 0) ((ga_cup F n (ga_last G T F st n)) + (nI 1))) ((n * 8) + 1) cl) ((n * 8) + 2) (ga_judge mv ck (ga_dead G (nI (64 - (ga_cnt G (nI 0) 64)))) ((ga_cup F n (ga_last G T F st n)) + (nI 1)) cl)) ((n * 8) + 3) v3) ((n * 8) + 4) (ga_last G T F st n)) ((n * 8) + 5) st) ((n * 8) + 6) v6)))] H := hP
      replace hD : va_D A [(x, .inr (0, [.ref g, .ref t, .ref f, .int (nI n)])), (g, .inl (cJ, 4, .inr (.inl G))), (t, .inl (cJ, 2560, .inr (.inl T))), (f, .inl (cI, 5120, .inl (upd (upd (upd (upd (upd (upd (upd F ((n * 8) + 0) ((ga_cup F n (ga_last G T F st n)) + (nI 1))) ((n * 8) + 1) cl) ((n * 8) + 2) (ga_judge mv ck (ga_dead G (nI (64 - (ga_cnt G (nI 0) 64)))) ((ga_cup F n (ga_last G T F st n)) + (nI 1)) cl)) ((n * 8) + 3) v3) ((n * 8) + 4) (ga_last G T F st n)) ((n * 8) + 5) st) ((n * 8) + 6) v6)))] := hD
      refine lv_aload_n hx hb dX0_append_162 rfl (lv_at hl 7 rfl) ?_
      refine va_get (D := (dC, dI)) (ci := 0) (v := .ref f) (C := RX0) (T := TX0) (N := 4) hx hb hts hinX0 hown hK hP 0 rfl rfl 2 (by decide) hf16 (fun _ h9 => h9) rfl dX0_append_163 ?_
      refine lv_iload hx hb dX0_append_166 (lv_at hl 0 rfl) ?_
      refine lv_bipush (v := nI 7) hx hb dX0_append_168 (by decide) ?_
      refine lv_iadd hx hb dX0_append_170 ?_
      refine lv_is (nI_add _ _) ?_
      refine lv_iload hx hb dX0_append_171 (lv_at hl 3 rfl) ?_
      refine ix_iast hx hb hK hP hD hS 3 1 rfl rfl (show (n * 8) + 7 < 5120 by omega) (by decide) dX0_append_173 (fun H locs hP hD hS => ?_)
      replace hP : va_P (dC, dI) vwCl [(x, .inr (0, [.ref g, .ref t, .ref f, .int (nI n)])), (g, .inl (cJ, 4, .inr (.inl G))), (t, .inl (cJ, 2560, .inr (.inl T))), (f, .inl (cI, 5120, .inl (upd (upd (upd (upd (upd (upd (upd (upd F ((n * 8) + 0) ((ga_cup F n (ga_last G T F st n)) + (nI 1))) ((n * 8) + 1) cl) ((n * 8) + 2) (ga_judge mv ck (ga_dead G (nI (64 - (ga_cnt G (nI 0) 64)))) ((ga_cup F n (ga_last G T F st n)) + (nI 1)) cl)) ((n * 8) + 3) v3) ((n * 8) + 4) (ga_last G T F st n)) ((n * 8) + 5) st) ((n * 8) + 6) v6) ((n * 8) + 7) (nI (64 - (ga_cnt G (nI 0) 64))))))] H := hP
      replace hD : va_D A [(x, .inr (0, [.ref g, .ref t, .ref f, .int (nI n)])), (g, .inl (cJ, 4, .inr (.inl G))), (t, .inl (cJ, 2560, .inr (.inl T))), (f, .inl (cI, 5120, .inl (upd (upd (upd (upd (upd (upd (upd (upd F ((n * 8) + 0) ((ga_cup F n (ga_last G T F st n)) + (nI 1))) ((n * 8) + 1) cl) ((n * 8) + 2) (ga_judge mv ck (ga_dead G (nI (64 - (ga_cnt G (nI 0) 64)))) ((ga_cup F n (ga_last G T F st n)) + (nI 1)) cl)) ((n * 8) + 3) v3) ((n * 8) + 4) (ga_last G T F st n)) ((n * 8) + 5) st) ((n * 8) + 6) v6) ((n * 8) + 7) (nI (64 - (ga_cnt G (nI 0) 64))))))] := hD
      refine lv_aload_n hx hb dX0_append_174 rfl (lv_at hl 7 rfl) ?_
      refine va_get (D := (dC, dI)) (ci := 0) (v := .ref g) (C := RX0) (T := TX0) (N := 4) hx hb hts hinX0 hown hK hP 0 rfl rfl 0 (by decide) hf9 (fun _ h9 => h9) rfl dX0_append_175 ?_
      refine lv_iconst (v := nI 0) hx hb dX0_append_178 (by decide) ?_
      refine lv_aload_n hx hb dX0_append_179 rfl (lv_at hl 7 rfl) ?_
      refine va_get (D := (dC, dI)) (ci := 0) (v := .ref t) (C := RX0) (T := TX0) (N := 4) hx hb hts hinX0 hown hK hP 0 rfl rfl 1 (by decide) hf13 (fun _ h9 => h9) rfl dX0_append_180 ?_
      refine lv_iload hx hb dX0_append_183 (lv_at hl 6 rfl) ?_
      refine lv_iconst (v := nI 4) hx hb dX0_append_185 (by decide) ?_
      refine lv_imul hx hb dX0_append_186 ?_
      refine lv_is (pk_mul _ _) ?_
      refine lv_iconst (v := nI 4) hx hb dX0_append_187 (by decide) ?_
      refine ix_copyl hx hb (hml.trans hl.1.symm) hown (hts (.methodLink RX0 107 arraycopyName) (by decide +kernel)) (hts (.native arraycopyName) (by decide +kernel)) (hts (.static arraycopyName) (by decide +kernel)) (hts (.initialized "java/lang/System") (by decide +kernel)) hK hP hD hS 1 2 0 rfl rfl rfl (show 0 + 4 ≤ 4 by omega) (show n * 4 + 4 ≤ 2560 by omega) (by decide) (by decide) (Nat.le_of_ble_eq_true rfl) (by decide) dX0_append_188 (fun H locs hP hD hS => ?_)
      have hP : va_P (dC, dI) vwCl [(x, .inr (0, [.ref g, .ref t, .ref f, .int (nI n)])), (g, .inl (cJ, 4, .inr (.inl G))), (t, .inl (cJ, 2560, .inr (.inl (va_cpy G T 0 (n * 4) 4)))), (f, .inl (cI, 5120, .inl (upd (upd (upd (upd (upd (upd (upd (upd F ((n * 8) + 0) ((ga_cup F n (ga_last G T F st n)) + (nI 1))) ((n * 8) + 1) cl) ((n * 8) + 2) (ga_judge mv ck (ga_dead G (nI (64 - (ga_cnt G (nI 0) 64)))) ((ga_cup F n (ga_last G T F st n)) + (nI 1)) cl)) ((n * 8) + 3) v3) ((n * 8) + 4) (ga_last G T F st n)) ((n * 8) + 5) st) ((n * 8) + 6) v6) ((n * 8) + 7) (nI (64 - (ga_cnt G (nI 0) 64))))))] H := hP
      have hD : va_D A [(x, .inr (0, [.ref g, .ref t, .ref f, .int (nI n)])), (g, .inl (cJ, 4, .inr (.inl G))), (t, .inl (cJ, 2560, .inr (.inl (va_cpy G T 0 (n * 4) 4)))), (f, .inl (cI, 5120, .inl (upd (upd (upd (upd (upd (upd (upd (upd F ((n * 8) + 0) ((ga_cup F n (ga_last G T F st n)) + (nI 1))) ((n * 8) + 1) cl) ((n * 8) + 2) (ga_judge mv ck (ga_dead G (nI (64 - (ga_cnt G (nI 0) 64)))) ((ga_cup F n (ga_last G T F st n)) + (nI 1)) cl)) ((n * 8) + 3) v3) ((n * 8) + 4) (ga_last G T F st n)) ((n * 8) + 5) st) ((n * 8) + 6) v6) ((n * 8) + 7) (nI (64 - (ga_cnt G (nI 0) 64))))))] := hD
      refine lv_aload_n hx hb dX0_append_191 rfl (lv_at hl 7 rfl) ?_
      refine lv_iload hx hb dX0_append_192 (lv_at hl 6 rfl) ?_
      refine lv_iconst (v := nI 1) hx hb dX0_append_194 (by decide) ?_
      refine lv_iadd hx hb dX0_append_195 ?_
      refine lv_is (nI_add _ _) ?_
      refine va_put (D := (dC, dI)) (ci := 0) (v := .int (nI (n + 1))) (ty := .int) (C := RX0) (T := TX0) (N := 4) hx hb hts hinX0 tyX0 tyX0_ok nmX0 hown hK hP hD hS 0 rfl rfl 3 (by decide) hf20 (fun _ h9 => h9) rfl (by decide +kernel) rfl rfl (Nat.le_of_ble_eq_true rfl) dX0_append_196 (fun H locs hP hD hS => ?_)
      replace hP : va_P (dC, dI) vwCl [(x, .inr (0, [.ref g, .ref t, .ref f, .int (nI (n + 1))])), (g, .inl (cJ, 4, .inr (.inl G))), (t, .inl (cJ, 2560, .inr (.inl (va_cpy G T 0 (n * 4) 4)))), (f, .inl (cI, 5120, .inl (upd (upd (upd (upd (upd (upd (upd (upd F ((n * 8) + 0) ((ga_cup F n (ga_last G T F st n)) + (nI 1))) ((n * 8) + 1) cl) ((n * 8) + 2) (ga_judge mv ck (ga_dead G (nI (64 - (ga_cnt G (nI 0) 64)))) ((ga_cup F n (ga_last G T F st n)) + (nI 1)) cl)) ((n * 8) + 3) v3) ((n * 8) + 4) (ga_last G T F st n)) ((n * 8) + 5) st) ((n * 8) + 6) v6) ((n * 8) + 7) (nI (64 - (ga_cnt G (nI 0) 64))))))] H := hP
      replace hD : va_D A [(x, .inr (0, [.ref g, .ref t, .ref f, .int (nI (n + 1))])), (g, .inl (cJ, 4, .inr (.inl G))), (t, .inl (cJ, 2560, .inr (.inl (va_cpy G T 0 (n * 4) 4)))), (f, .inl (cI, 5120, .inl (upd (upd (upd (upd (upd (upd (upd (upd F ((n * 8) + 0) ((ga_cup F n (ga_last G T F st n)) + (nI 1))) ((n * 8) + 1) cl) ((n * 8) + 2) (ga_judge mv ck (ga_dead G (nI (64 - (ga_cnt G (nI 0) 64)))) ((ga_cup F n (ga_last G T F st n)) + (nI 1)) cl)) ((n * 8) + 3) v3) ((n * 8) + 4) (ga_last G T F st n)) ((n * 8) + 5) st) ((n * 8) + 6) v6) ((n * 8) + 7) (nI (64 - (ga_cnt G (nI 0) 64))))))] := hD
      refine lv_iload hx hb dX0_append_199 (lv_at hl 1 rfl) ?_
      exact wr_ret hx hb hr hlocks (rfl) (by subst ev3; subst ev6; rfl) hP hK hD hS dX0_append_201
    refine lv_iload hx hb dX0_append_151 (lv_at hl 2 rfl) ?_
    refine lv_if_eq (tgt := 160) hx hb dX0_append_153 (by decide) (fun c_1 => ?_) (fun c_1 => ?_)
    · refine lv_iconst (v := nI 0) hx hb dX0_append_160 (by decide) ?_
      exact J161 _ (by rw [if_pos (show ga_dead G (nI (ap_mn G)) = 0 from c_1)])
    · refine lv_iconst (v := nI 1) hx hb dX0_append_156 (by decide) ?_
      refine lv_goto (tgt := 161) hx hb dX0_append_157 (by decide) ?_
      exact J161 _ (by rw [if_neg (show ¬ ga_dead G (nI (ap_mn G)) = 0 from c_1)])
  refine lv_iload hx hb dX0_append_102 (lv_at hl 5 rfl) ?_
  refine lv_iconst (v := (-1)) hx hb dX0_append_104 (by decide) ?_
  refine lv_icmp_ne (tgt := 113) hx hb dX0_append_105 (by decide) (fun c_2 => ?_) (fun c_2 => ?_)
  · obtain ⟨a, ha, ha2⟩ : ∃ a : Nat, a < n ∧ ga_last G T F st n = nI a := (ga_last_nat G T F st n).resolve_left c_2
    rw [ha2] at hl
    refine lv_aload_n hx hb dX0_append_113 rfl (lv_at hl 7 rfl) ?_
    refine lv_iload hx hb dX0_append_114 (lv_at hl 5 rfl) ?_
    refine lv_iconst (v := nI 3) hx hb dX0_append_116 (by decide) ?_
    refine rd_callV (rest := [.int (nI ((n * 8) + 3)), .ref f]) ⟨hx, hb, hml, hown, hts⟩ (k_X0_factOf l dC dI cI cJ x g t f G T (upd (upd (upd F ((n * 8) + 0) ((ga_cup F n (ga_last G T F st n)) + (nI 1))) ((n * 8) + 1) cl) ((n * 8) + 2) (ga_judge mv ck (ga_dead G (nI (64 - (ga_cnt G (nI 0) 64)))) ((ga_cup F n (ga_last G T F st n)) + (nI 1)) cl)) n a 3 (by omega)) (cwV 2 hts gX0_append_X0_factOf rfl rfl rfl (by decide +kernel) ⟨Nat.le_of_ble_eq_true rfl, Nat.le_of_ble_eq_true rfl⟩) hK hP rfl (q0 := 0) rfl rfl hl.1 rfl (Nat.le_of_ble_eq_true rfl) dX0_append_117 ⟨Nat.zero_le _, Nat.zero_le _⟩ ?_
    exact J120 _ (by rw [ap_fi, if_neg (show ¬ ap_be G T F n st = -1 from c_2)]; rw [show ap_be G T F n st = nI a from ha2, nI_clamp (by omega)]; rfl)
  · refine lv_iload hx hb dX0_append_108 (lv_at hl 6 rfl) ?_
    refine lv_goto (tgt := 120) hx hb dX0_append_110 (by decide) ?_
    exact J120 _ (by rw [ap_fi, if_pos (show ap_be G T F n st = -1 from c_2)])
set_option maxHeartbeats 4000000 in
set_option maxRecDepth 100000 in
theorem k_X0_verdict (l : Launch) (dC : Nat → ClassId) (dI : Nat → Nat → Nat) (cI cJ : ClassId) (x g t f : Nat) (G T : Nat → Int64) (F : Nat → Int32) (n : Nat) (hn : n ≤ 640) : Met l yX0_verdict wsX0_verdict ({ frames := 1, cells := 0, slots := 0, locals := 22 } : Room) (rd (dC, dI) (wX cI cJ x g t f G T F n) (tK cI cJ) [.ref x]) (QcRead (if n = 0 then -1 else F ((n - 1) * 8 + 2))) 0 0 nofree := by
  refine Met.ofW (cc := cX0_verdict) (maxL := 1) (ret := (some .int)) (by decide) rfl ?_
  intro p e s m args below meth c s₁ B hml hv
  obtain ⟨rfl, hP, hK⟩ := hv
  have hx := B.exec
  have hb := B.bytes
  have hr := B.returns
  have hts := atoms_spec (ws := wsX0_verdict) B.pre
  have hown : s.vm.findClass RX0 = some m.cls := findClass_of_methodNamed B.named
  have hlocks := B.notSynchronized
  have hinX0 : ∀ w ∈ u_ws RX0 TX0 4, w ∈ wsX0_verdict := by decide +kernel
  have hf20 := hts (.fieldLink RX0 20 "GameArbiter" "positions" "I") (by decide +kernel)
  have hl := lv_entry ([.ref x]) (n := 1) (Nat.le_of_ble_eq_true rfl)
  rw [lg_entry_eq]
  generalize (lg_sl ([.ref x]) ++ List.replicate (1 - (lg_sl ([.ref x])).length) Slot.unset).toArray = ls at hl ⊢
  replace hl : lv_has ls 1 [(0, .ref x)] := hl
  refine lv_aload_n hx hb dX0_verdict_0 rfl (lv_at hl 0 rfl) ?_
  refine va_get (D := (dC, dI)) (ci := 0) (v := .int (nI n)) (C := RX0) (T := TX0) (N := 4) hx hb hts hinX0 hown hK hP 0 rfl rfl 3 (by decide) hf20 (fun _ h9 => h9) rfl dX0_verdict_1 ?_
  refine lv_if_ne (tgt := 11) hx hb dX0_verdict_4 (by decide) (fun c_1 => ?_) (fun c_1 => ?_)
  · have c_1 : ¬ (n = 0) := fun h => c_1 ((nz_eq (show n < 2 ^ 31 by omega)).mpr h)
    refine lv_aload_n hx hb dX0_verdict_11 rfl (lv_at hl 0 rfl) ?_
    refine lv_aload_n hx hb dX0_verdict_12 rfl (lv_at hl 0 rfl) ?_
    refine va_get (D := (dC, dI)) (ci := 0) (v := .int (nI n)) (C := RX0) (T := TX0) (N := 4) hx hb hts hinX0 hown hK hP 0 rfl rfl 3 (by decide) hf20 (fun _ h9 => h9) rfl dX0_verdict_13 ?_
    refine lv_iconst (v := nI 1) hx hb dX0_verdict_16 (by decide) ?_
    refine lv_isub hx hb dX0_verdict_17 ?_
    refine lv_is (pk_sub (by omega)) ?_
    refine lv_iconst (v := nI 2) hx hb dX0_verdict_18 (by decide) ?_
    refine rd_callV (rest := []) ⟨hx, hb, hml, hown, hts⟩ (k_X0_factOf l dC dI cI cJ x g t f G T F n (n - 1) 2 (by omega)) (cwV 2 hts gX0_verdict_X0_factOf rfl rfl rfl (by decide +kernel) ⟨Nat.le_of_ble_eq_true rfl, Nat.le_of_ble_eq_true rfl⟩) hK hP rfl (q0 := 0) rfl rfl hl.1 rfl (Nat.le_of_ble_eq_true rfl) dX0_verdict_19 ⟨Nat.zero_le _, Nat.zero_le _⟩ ?_
    exact rd_ret hx hb hr hlocks (by rw [if_neg c_1]) dX0_verdict_22
  · have c_1 : n = 0 := (nz_eq (show n < 2 ^ 31 by omega)).mp c_1
    refine lv_iconst (v := (-1)) hx hb dX0_verdict_7 (by decide) ?_
    refine lv_goto (tgt := 22) hx hb dX0_verdict_8 (by decide) ?_
    exact rd_ret hx hb hr hlocks (by rw [if_pos c_1]) dX0_verdict_22
set_option maxHeartbeats 4000000 in
set_option maxRecDepth 100000 in
theorem k_X0_look (l : Launch) (dC : Nat → ClassId) (dI : Nat → Nat → Nat) (cI cJ : ClassId) (x g t f : Nat) (G T : Nat → Int64) (F : Nat → Int32) (n : Nat) (q : Int32) (hn : n ≤ 640) : Met l yX0_look wsX0_look ({ frames := 2, cells := 0, slots := 0, locals := 53 } : Room) (rd (dC, dI) (wX cI cJ x g t f G T F n) (tK cI cJ) [.ref x, .int q]) (QcRead (ga_look F n q)) 0 0 nofree := by
  refine Met.ofW (cc := cX0_look) (maxL := 2) (ret := (some .int)) (by decide) rfl ?_
  intro p e s m args below meth c s₁ B hml hv
  obtain ⟨rfl, hP, hK⟩ := hv
  have hx := B.exec
  have hb := B.bytes
  have hr := B.returns
  have hts := atoms_spec (ws := wsX0_look) B.pre
  have hown : s.vm.findClass RX0 = some m.cls := findClass_of_methodNamed B.named
  have hlocks := B.notSynchronized
  have hinX0 : ∀ w ∈ u_ws RX0 TX0 4, w ∈ wsX0_look := by decide +kernel
  have hf20 := hts (.fieldLink RX0 20 "GameArbiter" "positions" "I") (by decide +kernel)
  have hl := lv_entry ([.ref x, .int q]) (n := 2) (Nat.le_of_ble_eq_true rfl)
  rw [lg_entry_eq]
  generalize (lg_sl ([.ref x, .int q]) ++ List.replicate (2 - (lg_sl ([.ref x, .int q])).length) Slot.unset).toArray = ls at hl ⊢
  replace hl : lv_has ls 2 [(0, .ref x), (1, .int q)] := hl
  refine lv_iload_n hx hb dX0_look_0 rfl (lv_at hl 1 rfl) ?_
  by_cases w_0 : q = nI 0
  · refine lv_is w_0 ?_
    refine lv_tableIn (off := 31) (tgt := 32) hx hb dX0_look_1 (by decide) (by decide) rfl (by decide) ?_
    refine lv_aload_n hx hb dX0_look_32 rfl (lv_at hl 0 rfl) ?_
    refine va_get (D := (dC, dI)) (ci := 0) (v := .int (nI n)) (C := RX0) (T := TX0) (N := 4) hx hb hts hinX0 hown hK hP 0 rfl rfl 3 (by decide) hf20 (fun _ h9 => h9) rfl dX0_look_33 ?_
    exact rd_ret hx hb hr hlocks (by rw [ga_look, if_pos w_0]) dX0_look_36
  by_cases w_1 : q = nI 1
  · refine lv_is w_1 ?_
    refine lv_tableIn (off := 36) (tgt := 37) hx hb dX0_look_1 (by decide) (by decide) rfl (by decide) ?_
    refine lv_aload_n hx hb dX0_look_37 rfl (lv_at hl 0 rfl) ?_
    refine rd_callV (rest := []) ⟨hx, hb, hml, hown, hts⟩ (k_X0_differentPositions l dC dI cI cJ x g t f G T F n (by omega)) (cwV 0 hts gX0_look_X0_differentPositions rfl rfl rfl (by decide +kernel) ⟨Nat.le_of_ble_eq_true rfl, Nat.le_of_ble_eq_true rfl⟩) hK hP rfl (q0 := 0) rfl rfl hl.1 rfl (Nat.le_of_ble_eq_true rfl) dX0_look_38 ⟨Nat.zero_le _, Nat.zero_le _⟩ ?_
    exact rd_ret hx hb hr hlocks (by rw [ga_look, if_neg w_0, if_pos w_1]) dX0_look_41
  by_cases w_2 : q = nI 2
  · refine lv_is w_2 ?_
    refine lv_tableIn (off := 41) (tgt := 42) hx hb dX0_look_1 (by decide) (by decide) rfl (by decide) ?_
    refine lv_aload_n hx hb dX0_look_42 rfl (lv_at hl 0 rfl) ?_
    refine lv_iconst (v := nI 0) hx hb dX0_look_43 (by decide) ?_
    refine rd_callV (rest := []) ⟨hx, hb, hml, hown, hts⟩ (k_X0_greatest l dC dI cI cJ x g t f G T F n 0 (by omega) (by omega)) (cwV 1 hts gX0_look_X0_greatest rfl rfl rfl (by decide +kernel) ⟨Nat.le_of_ble_eq_true rfl, Nat.le_of_ble_eq_true rfl⟩) hK hP rfl (q0 := 0) rfl rfl hl.1 rfl (Nat.le_of_ble_eq_true rfl) dX0_look_44 ⟨Nat.zero_le _, Nat.zero_le _⟩ ?_
    exact rd_ret hx hb hr hlocks (by rw [ga_look, if_neg w_0, if_neg w_1, if_pos w_2]) dX0_look_47
  by_cases w_3 : q = nI 3
  · refine lv_is w_3 ?_
    refine lv_tableIn (off := 47) (tgt := 48) hx hb dX0_look_1 (by decide) (by decide) rfl (by decide) ?_
    refine lv_aload_n hx hb dX0_look_48 rfl (lv_at hl 0 rfl) ?_
    refine lv_iconst (v := nI 1) hx hb dX0_look_49 (by decide) ?_
    refine rd_callV (rest := []) ⟨hx, hb, hml, hown, hts⟩ (k_X0_greatest l dC dI cI cJ x g t f G T F n 1 (by omega) (by omega)) (cwV 1 hts gX0_look_X0_greatest rfl rfl rfl (by decide +kernel) ⟨Nat.le_of_ble_eq_true rfl, Nat.le_of_ble_eq_true rfl⟩) hK hP rfl (q0 := 0) rfl rfl hl.1 rfl (Nat.le_of_ble_eq_true rfl) dX0_look_50 ⟨Nat.zero_le _, Nat.zero_le _⟩ ?_
    exact rd_ret hx hb hr hlocks (by rw [ga_look, if_neg w_0, if_neg w_1, if_neg w_2, if_pos w_3]) dX0_look_53
  have hOut : q.toInt < 0 ∨ 3 < q.toInt := by
    have q0 := lv_neT w_0 (show (nI 0).toInt = 0 from rfl)
    have q1 := lv_neT w_1 (show (nI 1).toInt = 1 from rfl)
    have q2 := lv_neT w_2 (show (nI 2).toInt = 2 from rfl)
    have q3 := lv_neT w_3 (show (nI 3).toInt = 3 from rfl)
    omega
  refine lv_tableOut (tgt := 54) hx hb dX0_look_1 hOut (by decide) ?_
  refine lv_iconst (v := (-1)) hx hb dX0_look_54 (by decide) ?_
  exact rd_ret hx hb hr hlocks (by rw [ga_look, if_neg w_0, if_neg w_1, if_neg w_2, if_neg w_3]) dX0_look_55
