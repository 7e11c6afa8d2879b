set_option maxHeartbeats 4000000 in
set_option maxRecDepth 100000 in
theorem k_L_begin (l : Launch) (dC : Nat → ClassId) (dI : Nat → Nat → Nat) (cI cJ : ClassId) (x g t f : Nat) (G T : Nat → Int64) (F : Nat → Int32) (n : Nat) (o : Nat) (O : Nat → Int64) (st mv ck cl : Int32) (sz : Nat) (hn : n ≤ 640) {a1 a2 : Nat} (hno : l.stackTraces = false) : Met l yL_begin wsL_begin ({ frames := 7, cells := 1, slots := 6, locals := 145 } : Room) (th (dC, dI) [(x, .inr (0, [.ref g, .ref t, .ref f, .int (nI n)])), (g, .inl (cJ, 4, .inr (.inl G))), (t, .inl (cJ, 2560, .inr (.inl T))), (f, .inl (cI, 5120, .inl F)), (o, .inl (cJ, 1, .inr (.inl O)))] (tK cI cJ) sz 43 43 "the state, the moves or the clock is none that there is" "the state, the moves or the clock is none that there is" a1 a2 "java/lang/IllegalArgumentException" "java/lang/IllegalArgumentException" [.ref x, .int st, .int mv, .int ck, .int cl, .ref o]) (wrQ (dC, dI) [(x, .inr (0, [.ref g, .ref t, .ref f, .int (nI (sel (ga_okB st mv cl) (0 + 1) n))])), (g, .inl (cJ, 4, .inr (.inl G))), (t, .inl (cJ, 2560, .inr (.inl (sel (ga_okB st mv cl) (ap_T G T 0) T)))), (f, .inl (cI, 5120, .inl (sel (ga_okB st mv cl) (ap_F G T F 0 st mv ck cl) F))), (o, .inl (cJ, 1, .inr (.inl (sel (ga_okB st mv cl) (vp_updL O 0 ((ap_vd G T F 0 st mv ck cl).toInt64)) O))))] (tK cI cJ) (va_A [(x, .inr (0, [.ref g, .ref t, .ref f, .int (nI n)])), (g, .inl (cJ, 4, .inr (.inl G))), (t, .inl (cJ, 2560, .inr (.inl T))), (f, .inl (cI, 5120, .inl F)), (o, .inl (cJ, 1, .inr (.inl O)))] sz) (fun r => r = nI (ga_okB st mv cl))) 1 6 (va_A [(x, .inr (0, [.ref g, .ref t, .ref f, .int (nI n)])), (g, .inl (cJ, 4, .inr (.inl G))), (t, .inl (cJ, 2560, .inr (.inl T))), (f, .inl (cI, 5120, .inl F)), (o, .inl (cJ, 1, .inr (.inl O)))] sz) := by
  refine va_MetW (cc := cL_begin) (maxL := 7) (ret := (some .int)) (hh := [(0, 14, 17, 13)]) (by decide) rfl ?_
  intro p e s m args below meth c s₁ B hml hv
  obtain ⟨rfl, hsz, hP, hK, hD0, hX⟩ := hv
  have hx := B.exec
  have hb := B.bytes
  have hr := B.returns
  have hts := atoms_spec (ws := wsL_begin) B.pre
  have hown : s.vm.findClass RL = some m.cls := findClass_of_methodNamed B.named
  have hlocks := B.notSynchronized
  have hl := lv_entry ([.ref x, .int st, .int mv, .int ck, .int cl, .ref o]) (n := 7) (Nat.le_of_ble_eq_true rfl)
  rw [lg_entry_eq]
  generalize (lg_sl ([.ref x, .int st, .int mv, .int ck, .int cl, .ref o]) ++ List.replicate (7 - (lg_sl ([.ref x, .int st, .int mv, .int ck, .int cl, .ref o])).length) Slot.unset).toArray = ls at hl ⊢
  replace hl : lv_has ls 7 [(0, .ref x), (1, .int st), (2, .int mv), (3, .int ck), (4, .int cl), (5, .ref o)] := hl
  have hTab := vx_table (x := yL_begin) B (hts _ List.mem_cons_self)
  subst hsz
  have hD := hD0.self (sz := s.heap.size)
  generalize hAe : va_A [(x, .inr (0, [.ref g, .ref t, .ref f, .int (nI n)])), (g, .inl (cJ, 4, .inr (.inl G))), (t, .inl (cJ, 2560, .inr (.inl T))), (f, .inl (cI, 5120, .inl F)), (o, .inl (cJ, 1, .inr (.inl O)))] s.heap.size = A at hD hX ⊢
  have hA : ∀ q : Nat, s.heap.size ≤ q → A q := fun q h => by rw [← hAe]; exact Or.inr h
  have hS : va_S A s.heap s.heap [] := va_S.rf
  refine lv_aload hx hb dL_begin_0 (lv_at hl 5 rfl) ?_
  refine lv_iconst (v := nI 0) hx hb dL_begin_2 (by decide) ?_
  refine lv_aload_n hx hb dL_begin_3 rfl (lv_at hl 0 rfl) ?_
  refine lv_iload_n hx hb dL_begin_4 rfl (lv_at hl 1 rfl) ?_
  refine lv_iload_n hx hb dL_begin_5 rfl (lv_at hl 2 rfl) ?_
  refine lv_iload_n hx hb dL_begin_6 rfl (lv_at hl 3 rfl) ?_
  refine lv_iload hx hb dL_begin_7 (lv_at hl 4 rfl) ?_
  refine th_callV (rest := [.int (nI 0), .ref o]) (ws := [(x, .inr (0, [.ref g, .ref t, .ref f, .int (nI n)])), (g, .inl (cJ, 4, .inr (.inl G))), (t, .inl (cJ, 2560, .inr (.inl T))), (f, .inl (cI, 5120, .inl F))]) (ws' := [(x, .inr (0, [.ref g, .ref t, .ref f, .int (nI (0 + 1))])), (g, .inl (cJ, 4, .inr (.inl G))), (t, .inl (cJ, 2560, .inr (.inl (ap_T G T 0)))), (f, .inl (cI, 5120, .inl (ap_F G T F 0 st mv ck cl)))]) (wrst := [(o, .inl (cJ, 1, .inr (.inl O)))]) ⟨hx, hb, hml, hown, hts⟩ (k_X0_begin l dC dI cI cJ x g t f G T F n st mv ck cl s.heap.size hn hno) (cwV 4 hts gL_begin_X0_begin rfl rfl rfl (by decide +kernel) ⟨Nat.le_of_ble_eq_true rfl, Nat.le_of_ble_eq_true rfl⟩) hK hP hD hS hA hX [0, 1, 2, 3] [4] rfl rfl (by decide) (by decide) (by decide) rfl (q0 := 0) rfl rfl hl.1 rfl (Nat.le_of_ble_eq_true rfl) dL_begin_9 ⟨Nat.le_of_ble_eq_true rfl, Nat.le_of_ble_eq_true rfl⟩ (fun E ce q9 H locs hex hP hD hS hce hcv hcl => ?_) (fun r9 H locs hr9 hP hD hS => ?_)
  · obtain ⟨rfl, hok⟩ := hex
    refine xc_catch (own := RL) (E := "java/lang/IllegalArgumentException") (h := 17) hown (by rw [hTab]; exact Or.inr ⟨by decide, by decide, "java/lang/IllegalArgumentException", hts (.classLink RL 13 "java/lang/IllegalArgumentException") (by decide +kernel), Or.inl ⟨va_Nw.use rfl hX.2.2.2.2.1, rfl⟩⟩) hce hcv hcl ?_
    replace hP : va_P (dC, dI) vwCl [(o, .inl (cJ, 1, .inr (.inl O))), (x, .inr (0, [.ref g, .ref t, .ref f, .int (nI n)])), (g, .inl (cJ, 4, .inr (.inl G))), (t, .inl (cJ, 2560, .inr (.inl T))), (f, .inl (cI, 5120, .inl F))] H := hP
    replace hD : va_D A [(o, .inl (cJ, 1, .inr (.inl O))), (x, .inr (0, [.ref g, .ref t, .ref f, .int (nI n)])), (g, .inl (cJ, 4, .inr (.inl G))), (t, .inl (cJ, 2560, .inr (.inl T))), (f, .inl (cI, 5120, .inl F))] := hD
    refine lv_astore (lv' := [(6, .ref q9), (0, .ref x), (1, .int st), (2, .int mv), (3, .int ck), (4, .int cl), (5, .ref o)]) hx hb dL_begin_17 hl (by decide) rfl (fun ls hl => ?_)
    refine lv_iconst (v := nI 1) hx hb dL_begin_19 (by decide) ?_
    refine W.widen (k := 1) (n := 6) (by omega) (by omega) ?_
    replace hP := hP.sub (ws' := [(x, .inr (0, [.ref g, .ref t, .ref f, .int (nI n)])), (g, .inl (cJ, 4, .inr (.inl G))), (t, .inl (cJ, 2560, .inr (.inl T))), (f, .inl (cI, 5120, .inl F)), (o, .inl (cJ, 1, .inr (.inl O)))]) [1, 2, 3, 4, 0] rfl
    replace hD := hD.sub (ws' := [(x, .inr (0, [.ref g, .ref t, .ref f, .int (nI n)])), (g, .inl (cJ, 4, .inr (.inl G))), (t, .inl (cJ, 2560, .inr (.inl T))), (f, .inl (cI, 5120, .inl F)), (o, .inl (cJ, 1, .inr (.inl O)))]) [1, 2, 3, 4, 0] (by decide) rfl
    exact wr_ret hx hb hr hlocks (by rw [hok]) (by rw [hok]; rfl) hP hK hD hS dL_begin_20
  · obtain ⟨hok, hr9⟩ := hr9
    replace hP : va_P (dC, dI) vwCl [(o, .inl (cJ, 1, .inr (.inl O))), (x, .inr (0, [.ref g, .ref t, .ref f, .int (nI (0 + 1))])), (g, .inl (cJ, 4, .inr (.inl G))), (t, .inl (cJ, 2560, .inr (.inl (ap_T G T 0)))), (f, .inl (cI, 5120, .inl (ap_F G T F 0 st mv ck cl)))] H := hP
    replace hD : va_D A [(o, .inl (cJ, 1, .inr (.inl O))), (x, .inr (0, [.ref g, .ref t, .ref f, .int (nI (0 + 1))])), (g, .inl (cJ, 4, .inr (.inl G))), (t, .inl (cJ, 2560, .inr (.inl (ap_T G T 0)))), (f, .inl (cI, 5120, .inl (ap_F G T F 0 st mv ck cl)))] := hD
    refine lv_is hr9 ?_
    refine lv_i2l (v := (ap_vd G T F 0 st mv ck cl).toInt64) hx hb dL_begin_12 rfl ?_
    refine ix_last hx hb hK hP hD hS 0 0 rfl rfl (show 0 < 1 by omega) (by decide) dL_begin_13 (fun H locs hP hD hS => ?_)
    replace hP : va_P (dC, dI) vwCl [(o, .inl (cJ, 1, .inr (.inl (vp_updL O 0 ((ap_vd G T F 0 st mv ck cl).toInt64))))), (x, .inr (0, [.ref g, .ref t, .ref f, .int (nI (0 + 1))])), (g, .inl (cJ, 4, .inr (.inl G))), (t, .inl (cJ, 2560, .inr (.inl (ap_T G T 0)))), (f, .inl (cI, 5120, .inl (ap_F G T F 0 st mv ck cl)))] H := hP
    replace hD : va_D A [(o, .inl (cJ, 1, .inr (.inl (vp_updL O 0 ((ap_vd G T F 0 st mv ck cl).toInt64))))), (x, .inr (0, [.ref g, .ref t, .ref f, .int (nI (0 + 1))])), (g, .inl (cJ, 4, .inr (.inl G))), (t, .inl (cJ, 2560, .inr (.inl (ap_T G T 0)))), (f, .inl (cI, 5120, .inl (ap_F G T F 0 st mv ck cl)))] := hD
    refine lv_goto (tgt := 21) hx hb dL_begin_14 (by decide) ?_
    refine lv_iconst (v := nI 0) hx hb dL_begin_21 (by decide) ?_
    refine W.widen (k := 1) (n := 6) (by omega) (by omega) ?_
    replace hP := hP.sub (ws' := [(x, .inr (0, [.ref g, .ref t, .ref f, .int (nI (0 + 1))])), (g, .inl (cJ, 4, .inr (.inl G))), (t, .inl (cJ, 2560, .inr (.inl (ap_T G T 0)))), (f, .inl (cI, 5120, .inl (ap_F G T F 0 st mv ck cl))), (o, .inl (cJ, 1, .inr (.inl (vp_updL O 0 ((ap_vd G T F 0 st mv ck cl).toInt64)))))]) [1, 2, 3, 4, 0] rfl
    replace hD := hD.sub (ws' := [(x, .inr (0, [.ref g, .ref t, .ref f, .int (nI (0 + 1))])), (g, .inl (cJ, 4, .inr (.inl G))), (t, .inl (cJ, 2560, .inr (.inl (ap_T G T 0)))), (f, .inl (cI, 5120, .inl (ap_F G T F 0 st mv ck cl))), (o, .inl (cJ, 1, .inr (.inl (vp_updL O 0 ((ap_vd G T F 0 st mv ck cl).toInt64)))))]) [1, 2, 3, 4, 0] (by decide) rfl
    exact wr_ret hx hb hr hlocks (by rw [hok]) (by rw [hok]; rfl) hP hK hD hS dL_begin_22
set_option maxHeartbeats 4000000 in
set_option maxRecDepth 100000 in
theorem k_L_next (l : Launch) (dC : Nat → ClassId) (dI : Nat → Nat → Nat) (cI cJ : ClassId) (x g t f : Nat) (G T : Nat → Int64) (F : Nat → Int32) (n : Nat) (o : Nat) (O : Nat → Int64) (st mv ck ir : Int32) (sz : Nat) (hn : n ≤ 640) {a1 a2 : Nat} (hno : l.stackTraces = false) : Met l yL_next wsL_next ({ frames := 7, cells := 1, slots := 6, locals := 146 } : Room) (th (dC, dI) [(x, .inr (0, [.ref g, .ref t, .ref f, .int (nI n)])), (g, .inl (cJ, 4, .inr (.inl G))), (t, .inl (cJ, 2560, .inr (.inl T))), (f, .inl (cI, 5120, .inl F)), (o, .inl (cJ, 1, .inr (.inl O)))] (tK cI cJ) sz 58 61 "the game takes no further position" "the state or the moves are none that there are" a1 a2 "java/lang/IllegalStateException" "java/lang/IllegalArgumentException" [.ref x, .int st, .int mv, .int ck, .int ir, .ref o]) (wrQ (dC, dI) [(x, .inr (0, [.ref g, .ref t, .ref f, .int (nI (sel (ga_okN F n st mv) (n + 1) n))])), (g, .inl (cJ, 4, .inr (.inl G))), (t, .inl (cJ, 2560, .inr (.inl (sel (ga_okN F n st mv) (ap_T G T n) T)))), (f, .inl (cI, 5120, .inl (sel (ga_okN F n st mv) (ap_F G T F n st mv ck (ga_clN F n ir)) F))), (o, .inl (cJ, 1, .inr (.inl (sel (ga_okN F n st mv) (vp_updL O 0 ((ap_vd G T F n st mv ck (ga_clN F n ir)).toInt64)) O))))] (tK cI cJ) (va_A [(x, .inr (0, [.ref g, .ref t, .ref f, .int (nI n)])), (g, .inl (cJ, 4, .inr (.inl G))), (t, .inl (cJ, 2560, .inr (.inl T))), (f, .inl (cI, 5120, .inl F)), (o, .inl (cJ, 1, .inr (.inl O)))] sz) (fun r => r = nI (ga_okN F n st mv))) 1 6 (va_A [(x, .inr (0, [.ref g, .ref t, .ref f, .int (nI n)])), (g, .inl (cJ, 4, .inr (.inl G))), (t, .inl (cJ, 2560, .inr (.inl T))), (f, .inl (cI, 5120, .inl F)), (o, .inl (cJ, 1, .inr (.inl O)))] sz) := by
  refine va_MetW (cc := cL_next) (maxL := 7) (ret := (some .int)) (hh := [(0, 14, 17, 19), (0, 14, 21, 13)]) (by decide) rfl ?_
  intro p e s m args below meth c s₁ B hml hv
  obtain ⟨rfl, hsz, hP, hK, hD0, hX⟩ := hv
  have hx := B.exec
  have hb := B.bytes
  have hr := B.returns
  have hts := atoms_spec (ws := wsL_next) B.pre
  have hown : s.vm.findClass RL = some m.cls := findClass_of_methodNamed B.named
  have hlocks := B.notSynchronized
  have hl := lv_entry ([.ref x, .int st, .int mv, .int ck, .int ir, .ref o]) (n := 7) (Nat.le_of_ble_eq_true rfl)
  rw [lg_entry_eq]
  generalize (lg_sl ([.ref x, .int st, .int mv, .int ck, .int ir, .ref o]) ++ List.replicate (7 - (lg_sl ([.ref x, .int st, .int mv, .int ck, .int ir, .ref o])).length) Slot.unset).toArray = ls at hl ⊢
  replace hl : lv_has ls 7 [(0, .ref x), (1, .int st), (2, .int mv), (3, .int ck), (4, .int ir), (5, .ref o)] := hl
  have hTab := vx_table (x := yL_next) B (hts _ List.mem_cons_self)
  subst hsz
  have hD := hD0.self (sz := s.heap.size)
  generalize hAe : va_A [(x, .inr (0, [.ref g, .ref t, .ref f, .int (nI n)])), (g, .inl (cJ, 4, .inr (.inl G))), (t, .inl (cJ, 2560, .inr (.inl T))), (f, .inl (cI, 5120, .inl F)), (o, .inl (cJ, 1, .inr (.inl O)))] s.heap.size = A at hD hX ⊢
  have hA : ∀ q : Nat, s.heap.size ≤ q → A q := fun q h => by rw [← hAe]; exact Or.inr h
  have hS : va_S A s.heap s.heap [] := va_S.rf
  refine lv_aload hx hb dL_next_0 (lv_at hl 5 rfl) ?_
  refine lv_iconst (v := nI 0) hx hb dL_next_2 (by decide) ?_
  refine lv_aload_n hx hb dL_next_3 rfl (lv_at hl 0 rfl) ?_
  refine lv_iload_n hx hb dL_next_4 rfl (lv_at hl 1 rfl) ?_
  refine lv_iload_n hx hb dL_next_5 rfl (lv_at hl 2 rfl) ?_
  refine lv_iload_n hx hb dL_next_6 rfl (lv_at hl 3 rfl) ?_
  refine lv_iload hx hb dL_next_7 (lv_at hl 4 rfl) ?_
  refine th_callV (rest := [.int (nI 0), .ref o]) (ws := [(x, .inr (0, [.ref g, .ref t, .ref f, .int (nI n)])), (g, .inl (cJ, 4, .inr (.inl G))), (t, .inl (cJ, 2560, .inr (.inl T))), (f, .inl (cI, 5120, .inl F))]) (ws' := [(x, .inr (0, [.ref g, .ref t, .ref f, .int (nI (n + 1))])), (g, .inl (cJ, 4, .inr (.inl G))), (t, .inl (cJ, 2560, .inr (.inl (ap_T G T n)))), (f, .inl (cI, 5120, .inl (ap_F G T F n st mv ck (ga_clN F n ir))))]) (wrst := [(o, .inl (cJ, 1, .inr (.inl O)))]) ⟨hx, hb, hml, hown, hts⟩ (k_X0_next l dC dI cI cJ x g t f G T F n st mv ck ir s.heap.size hn hno) (cwV 4 hts gL_next_X0_next rfl rfl rfl (by decide +kernel) ⟨Nat.le_of_ble_eq_true rfl, Nat.le_of_ble_eq_true rfl⟩) hK hP hD hS hA hX [0, 1, 2, 3] [4] rfl rfl (by decide) (by decide) (by decide) rfl (q0 := 0) rfl rfl hl.1 rfl (Nat.le_of_ble_eq_true rfl) dL_next_9 ⟨Nat.le_of_ble_eq_true rfl, Nat.le_of_ble_eq_true rfl⟩ (fun E ce q9 H locs hex hP hD hS hce hcv hcl => ?_) (fun r9 H locs hr9 hP hD hS => ?_)
  · rcases hex with ⟨rfl, hok⟩ | ⟨rfl, hok⟩
    · refine xc_catch (own := RL) (E := "java/lang/IllegalStateException") (h := 17) hown (by rw [hTab]; exact Or.inr ⟨by decide, by decide, "java/lang/IllegalStateException", hts (.classLink RL 19 "java/lang/IllegalStateException") (by decide +kernel), Or.inl ⟨va_Nw.use rfl hX.2.2.2.2.1, rfl⟩⟩) hce hcv hcl ?_
      replace hP : va_P (dC, dI) vwCl [(o, .inl (cJ, 1, .inr (.inl O))), (x, .inr (0, [.ref g, .ref t, .ref f, .int (nI n)])), (g, .inl (cJ, 4, .inr (.inl G))), (t, .inl (cJ, 2560, .inr (.inl T))), (f, .inl (cI, 5120, .inl F))] H := hP
      replace hD : va_D A [(o, .inl (cJ, 1, .inr (.inl O))), (x, .inr (0, [.ref g, .ref t, .ref f, .int (nI n)])), (g, .inl (cJ, 4, .inr (.inl G))), (t, .inl (cJ, 2560, .inr (.inl T))), (f, .inl (cI, 5120, .inl F))] := hD
      refine lv_astore (lv' := [(6, .ref q9), (0, .ref x), (1, .int st), (2, .int mv), (3, .int ck), (4, .int ir), (5, .ref o)]) hx hb dL_next_17 hl (by decide) rfl (fun ls hl => ?_)
      refine lv_iconst (v := nI 1) hx hb dL_next_19 (by decide) ?_
      refine W.widen (k := 1) (n := 6) (by omega) (by omega) ?_
      replace hP := hP.sub (ws' := [(x, .inr (0, [.ref g, .ref t, .ref f, .int (nI n)])), (g, .inl (cJ, 4, .inr (.inl G))), (t, .inl (cJ, 2560, .inr (.inl T))), (f, .inl (cI, 5120, .inl F)), (o, .inl (cJ, 1, .inr (.inl O)))]) [1, 2, 3, 4, 0] rfl
      replace hD := hD.sub (ws' := [(x, .inr (0, [.ref g, .ref t, .ref f, .int (nI n)])), (g, .inl (cJ, 4, .inr (.inl G))), (t, .inl (cJ, 2560, .inr (.inl T))), (f, .inl (cI, 5120, .inl F)), (o, .inl (cJ, 1, .inr (.inl O)))]) [1, 2, 3, 4, 0] (by decide) rfl
      exact wr_ret hx hb hr hlocks (by rw [hok]) (by rw [hok]; rfl) hP hK hD hS dL_next_20
    · refine xc_catch (own := RL) (E := "java/lang/IllegalArgumentException") (h := 21) hown (by rw [hTab]; exact Or.inr ⟨by decide, by decide, "java/lang/IllegalStateException", hts (.classLink RL 19 "java/lang/IllegalStateException") (by decide +kernel), Or.inr ⟨hX.2.2.2.2.2.2.2.2.2.resolve_left (by decide), Or.inr ⟨by decide, by decide, "java/lang/IllegalArgumentException", hts (.classLink RL 13 "java/lang/IllegalArgumentException") (by decide +kernel), Or.inl ⟨va_Nw.use rfl hX.2.2.2.2.2.1, rfl⟩⟩⟩⟩) hce hcv hcl ?_
      replace hP : va_P (dC, dI) vwCl [(o, .inl (cJ, 1, .inr (.inl O))), (x, .inr (0, [.ref g, .ref t, .ref f, .int (nI n)])), (g, .inl (cJ, 4, .inr (.inl G))), (t, .inl (cJ, 2560, .inr (.inl T))), (f, .inl (cI, 5120, .inl F))] H := hP
      replace hD : va_D A [(o, .inl (cJ, 1, .inr (.inl O))), (x, .inr (0, [.ref g, .ref t, .ref f, .int (nI n)])), (g, .inl (cJ, 4, .inr (.inl G))), (t, .inl (cJ, 2560, .inr (.inl T))), (f, .inl (cI, 5120, .inl F))] := hD
      refine lv_astore (lv' := [(6, .ref q9), (0, .ref x), (1, .int st), (2, .int mv), (3, .int ck), (4, .int ir), (5, .ref o)]) hx hb dL_next_21 hl (by decide) rfl (fun ls hl => ?_)
      refine lv_iconst (v := nI 2) hx hb dL_next_23 (by decide) ?_
      refine W.widen (k := 1) (n := 6) (by omega) (by omega) ?_
      replace hP := hP.sub (ws' := [(x, .inr (0, [.ref g, .ref t, .ref f, .int (nI n)])), (g, .inl (cJ, 4, .inr (.inl G))), (t, .inl (cJ, 2560, .inr (.inl T))), (f, .inl (cI, 5120, .inl F)), (o, .inl (cJ, 1, .inr (.inl O)))]) [1, 2, 3, 4, 0] rfl
      replace hD := hD.sub (ws' := [(x, .inr (0, [.ref g, .ref t, .ref f, .int (nI n)])), (g, .inl (cJ, 4, .inr (.inl G))), (t, .inl (cJ, 2560, .inr (.inl T))), (f, .inl (cI, 5120, .inl F)), (o, .inl (cJ, 1, .inr (.inl O)))]) [1, 2, 3, 4, 0] (by decide) rfl
      exact wr_ret hx hb hr hlocks (by rw [hok]) (by rw [hok]; rfl) hP hK hD hS dL_next_24
  · obtain ⟨hok, hr9⟩ := hr9
    replace hP : va_P (dC, dI) vwCl [(o, .inl (cJ, 1, .inr (.inl O))), (x, .inr (0, [.ref g, .ref t, .ref f, .int (nI (n + 1))])), (g, .inl (cJ, 4, .inr (.inl G))), (t, .inl (cJ, 2560, .inr (.inl (ap_T G T n)))), (f, .inl (cI, 5120, .inl (ap_F G T F n st mv ck (ga_clN F n ir))))] H := hP
    replace hD : va_D A [(o, .inl (cJ, 1, .inr (.inl O))), (x, .inr (0, [.ref g, .ref t, .ref f, .int (nI (n + 1))])), (g, .inl (cJ, 4, .inr (.inl G))), (t, .inl (cJ, 2560, .inr (.inl (ap_T G T n)))), (f, .inl (cI, 5120, .inl (ap_F G T F n st mv ck (ga_clN F n ir))))] := hD
    refine lv_is hr9 ?_
    refine lv_i2l (v := (ap_vd G T F n st mv ck (ga_clN F n ir)).toInt64) hx hb dL_next_12 rfl ?_
    refine ix_last hx hb hK hP hD hS 0 0 rfl rfl (show 0 < 1 by omega) (by decide) dL_next_13 (fun H locs hP hD hS => ?_)
    replace hP : va_P (dC, dI) vwCl [(o, .inl (cJ, 1, .inr (.inl (vp_updL O 0 ((ap_vd G T F n st mv ck (ga_clN F n ir)).toInt64))))), (x, .inr (0, [.ref g, .ref t, .ref f, .int (nI (n + 1))])), (g, .inl (cJ, 4, .inr (.inl G))), (t, .inl (cJ, 2560, .inr (.inl (ap_T G T n)))), (f, .inl (cI, 5120, .inl (ap_F G T F n st mv ck (ga_clN F n ir))))] H := hP
    replace hD : va_D A [(o, .inl (cJ, 1, .inr (.inl (vp_updL O 0 ((ap_vd G T F n st mv ck (ga_clN F n ir)).toInt64))))), (x, .inr (0, [.ref g, .ref t, .ref f, .int (nI (n + 1))])), (g, .inl (cJ, 4, .inr (.inl G))), (t, .inl (cJ, 2560, .inr (.inl (ap_T G T n)))), (f, .inl (cI, 5120, .inl (ap_F G T F n st mv ck (ga_clN F n ir))))] := hD
    refine lv_goto (tgt := 25) hx hb dL_next_14 (by decide) ?_
    refine lv_iconst (v := nI 0) hx hb dL_next_25 (by decide) ?_
    refine W.widen (k := 1) (n := 6) (by omega) (by omega) ?_
    replace hP := hP.sub (ws' := [(x, .inr (0, [.ref g, .ref t, .ref f, .int (nI (n + 1))])), (g, .inl (cJ, 4, .inr (.inl G))), (t, .inl (cJ, 2560, .inr (.inl (ap_T G T n)))), (f, .inl (cI, 5120, .inl (ap_F G T F n st mv ck (ga_clN F n ir)))), (o, .inl (cJ, 1, .inr (.inl (vp_updL O 0 ((ap_vd G T F n st mv ck (ga_clN F n ir)).toInt64)))))]) [1, 2, 3, 4, 0] rfl
    replace hD := hD.sub (ws' := [(x, .inr (0, [.ref g, .ref t, .ref f, .int (nI (n + 1))])), (g, .inl (cJ, 4, .inr (.inl G))), (t, .inl (cJ, 2560, .inr (.inl (ap_T G T n)))), (f, .inl (cI, 5120, .inl (ap_F G T F n st mv ck (ga_clN F n ir)))), (o, .inl (cJ, 1, .inr (.inl (vp_updL O 0 ((ap_vd G T F n st mv ck (ga_clN F n ir)).toInt64)))))]) [1, 2, 3, 4, 0] (by decide) rfl
    exact wr_ret hx hb hr hlocks (by rw [hok]) (by rw [hok]; rfl) hP hK hD hS dL_next_26
set_option maxHeartbeats 4000000 in
set_option maxRecDepth 100000 in
theorem k_L_of (l : Launch) (dC : Nat → ClassId) (dI : Nat → Nat → Nat) (cI cJ : ClassId) (x g t f : Nat) (G T : Nat → Int64) (F : Nat → Int32) (n : Nat) (o : Nat) (O : Nat → Int64) (i w : Int32) (sz : Nat) (hn : n ≤ 640) {a1 a2 : Nat} (hno : l.stackTraces = false) : Met l yL_of wsL_of ({ frames := 7, cells := 1, slots := 6, locals := 122 } : Room) (th (dC, dI) [(x, .inr (0, [.ref g, .ref t, .ref f, .int (nI n)])), (g, .inl (cJ, 4, .inr (.inl G))), (t, .inl (cJ, 2560, .inr (.inl T))), (f, .inl (cI, 5120, .inl F)), (o, .inl (cJ, 1, .inr (.inl O)))] (tK cI cJ) sz 72 72 "no such position, or no such fact of it" "no such position, or no such fact of it" a1 a2 "java/lang/IndexOutOfBoundsException" "java/lang/IndexOutOfBoundsException" [.ref x, .int i, .int w, .ref o]) (wrQ (dC, dI) [(x, .inr (0, [.ref g, .ref t, .ref f, .int (nI n)])), (g, .inl (cJ, 4, .inr (.inl G))), (t, .inl (cJ, 2560, .inr (.inl T))), (f, .inl (cI, 5120, .inl F)), (o, .inl (cJ, 1, .inr (.inl (sel (ga_okO n i w) (vp_updL O 0 ((F (i.toNatClampNeg * 8 + w.toNatClampNeg)).toInt64)) O))))] (tK cI cJ) (va_A [(x, .inr (0, [.ref g, .ref t, .ref f, .int (nI n)])), (g, .inl (cJ, 4, .inr (.inl G))), (t, .inl (cJ, 2560, .inr (.inl T))), (f, .inl (cI, 5120, .inl F)), (o, .inl (cJ, 1, .inr (.inl O)))] sz) (fun r => r = nI (ga_okO n i w))) 1 6 (va_A [(x, .inr (0, [.ref g, .ref t, .ref f, .int (nI n)])), (g, .inl (cJ, 4, .inr (.inl G))), (t, .inl (cJ, 2560, .inr (.inl T))), (f, .inl (cI, 5120, .inl F)), (o, .inl (cJ, 1, .inr (.inl O)))] sz) := by
  refine va_MetW (cc := cL_of) (maxL := 5) (ret := (some .int)) (hh := [(0, 10, 13, 25)]) (by decide) rfl ?_
  intro p e s m args below meth c s₁ B hml hv
  obtain ⟨rfl, hsz, hP, hK, hD0, hX⟩ := hv
  have hx := B.exec
  have hb := B.bytes
  have hr := B.returns
  have hts := atoms_spec (ws := wsL_of) B.pre
  have hown : s.vm.findClass RL = some m.cls := findClass_of_methodNamed B.named
  have hlocks := B.notSynchronized
  have hl := lv_entry ([.ref x, .int i, .int w, .ref o]) (n := 5) (Nat.le_of_ble_eq_true rfl)
  rw [lg_entry_eq]
  generalize (lg_sl ([.ref x, .int i, .int w, .ref o]) ++ List.replicate (5 - (lg_sl ([.ref x, .int i, .int w, .ref o])).length) Slot.unset).toArray = ls at hl ⊢
  replace hl : lv_has ls 5 [(0, .ref x), (1, .int i), (2, .int w), (3, .ref o)] := hl
  have hTab := vx_table (x := yL_of) B (hts _ List.mem_cons_self)
  subst hsz
  have hD := hD0.self (sz := s.heap.size)
  generalize hAe : va_A [(x, .inr (0, [.ref g, .ref t, .ref f, .int (nI n)])), (g, .inl (cJ, 4, .inr (.inl G))), (t, .inl (cJ, 2560, .inr (.inl T))), (f, .inl (cI, 5120, .inl F)), (o, .inl (cJ, 1, .inr (.inl O)))] s.heap.size = A at hD hX ⊢
  have hA : ∀ q : Nat, s.heap.size ≤ q → A q := fun q h => by rw [← hAe]; exact Or.inr h
  have hS : va_S A s.heap s.heap [] := va_S.rf
  refine lv_aload_n hx hb dL_of_0 rfl (lv_at hl 3 rfl) ?_
  refine lv_iconst (v := nI 0) hx hb dL_of_1 (by decide) ?_
  refine lv_aload_n hx hb dL_of_2 rfl (lv_at hl 0 rfl) ?_
  refine lv_iload_n hx hb dL_of_3 rfl (lv_at hl 1 rfl) ?_
  refine lv_iload_n hx hb dL_of_4 rfl (lv_at hl 2 rfl) ?_
  refine th_callV (rest := [.int (nI 0), .ref o]) (ws := [(x, .inr (0, [.ref g, .ref t, .ref f, .int (nI n)])), (g, .inl (cJ, 4, .inr (.inl G))), (t, .inl (cJ, 2560, .inr (.inl T))), (f, .inl (cI, 5120, .inl F))]) (ws' := [(x, .inr (0, [.ref g, .ref t, .ref f, .int (nI n)])), (g, .inl (cJ, 4, .inr (.inl G))), (t, .inl (cJ, 2560, .inr (.inl T))), (f, .inl (cI, 5120, .inl F))]) (wrst := [(o, .inl (cJ, 1, .inr (.inl O)))]) ⟨hx, hb, hml, hown, hts⟩ (k_X0_of l dC dI cI cJ x g t f G T F n i w s.heap.size hn hno) (cwV 2 hts gL_of_X0_of rfl rfl rfl (by decide +kernel) ⟨Nat.le_of_ble_eq_true rfl, Nat.le_of_ble_eq_true rfl⟩) hK hP hD hS hA hX [0, 1, 2, 3] [4] rfl rfl (by decide) (by decide) (by decide) rfl (q0 := 0) rfl rfl hl.1 rfl (Nat.le_of_ble_eq_true rfl) dL_of_5 ⟨Nat.le_of_ble_eq_true rfl, Nat.le_of_ble_eq_true rfl⟩ (fun E ce q9 H locs hex hP hD hS hce hcv hcl => ?_) (fun r9 H locs hr9 hP hD hS => ?_)
  · obtain ⟨rfl, hok⟩ := hex
    refine xc_catch (own := RL) (E := "java/lang/IndexOutOfBoundsException") (h := 13) hown (by rw [hTab]; exact Or.inr ⟨by decide, by decide, "java/lang/IndexOutOfBoundsException", hts (.classLink RL 25 "java/lang/IndexOutOfBoundsException") (by decide +kernel), Or.inl ⟨va_Nw.use rfl hX.2.2.2.2.1, rfl⟩⟩) hce hcv hcl ?_
    replace hP : va_P (dC, dI) vwCl [(o, .inl (cJ, 1, .inr (.inl O))), (x, .inr (0, [.ref g, .ref t, .ref f, .int (nI n)])), (g, .inl (cJ, 4, .inr (.inl G))), (t, .inl (cJ, 2560, .inr (.inl T))), (f, .inl (cI, 5120, .inl F))] H := hP
    replace hD : va_D A [(o, .inl (cJ, 1, .inr (.inl O))), (x, .inr (0, [.ref g, .ref t, .ref f, .int (nI n)])), (g, .inl (cJ, 4, .inr (.inl G))), (t, .inl (cJ, 2560, .inr (.inl T))), (f, .inl (cI, 5120, .inl F))] := hD
    refine lv_astore (lv' := [(4, .ref q9), (0, .ref x), (1, .int i), (2, .int w), (3, .ref o)]) hx hb dL_of_13 hl (by decide) rfl (fun ls hl => ?_)
    refine lv_iconst (v := nI 1) hx hb dL_of_15 (by decide) ?_
    refine W.widen (k := 1) (n := 6) (by omega) (by omega) ?_
    replace hP := hP.sub (ws' := [(x, .inr (0, [.ref g, .ref t, .ref f, .int (nI n)])), (g, .inl (cJ, 4, .inr (.inl G))), (t, .inl (cJ, 2560, .inr (.inl T))), (f, .inl (cI, 5120, .inl F)), (o, .inl (cJ, 1, .inr (.inl O)))]) [1, 2, 3, 4, 0] rfl
    replace hD := hD.sub (ws' := [(x, .inr (0, [.ref g, .ref t, .ref f, .int (nI n)])), (g, .inl (cJ, 4, .inr (.inl G))), (t, .inl (cJ, 2560, .inr (.inl T))), (f, .inl (cI, 5120, .inl F)), (o, .inl (cJ, 1, .inr (.inl O)))]) [1, 2, 3, 4, 0] (by decide) rfl
    exact wr_ret hx hb hr hlocks (by rw [hok]) (by rw [hok]; rfl) hP hK hD hS dL_of_16
  · obtain ⟨hok, hr9⟩ := hr9
    replace hP : va_P (dC, dI) vwCl [(o, .inl (cJ, 1, .inr (.inl O))), (x, .inr (0, [.ref g, .ref t, .ref f, .int (nI n)])), (g, .inl (cJ, 4, .inr (.inl G))), (t, .inl (cJ, 2560, .inr (.inl T))), (f, .inl (cI, 5120, .inl F))] H := hP
    replace hD : va_D A [(o, .inl (cJ, 1, .inr (.inl O))), (x, .inr (0, [.ref g, .ref t, .ref f, .int (nI n)])), (g, .inl (cJ, 4, .inr (.inl G))), (t, .inl (cJ, 2560, .inr (.inl T))), (f, .inl (cI, 5120, .inl F))] := hD
    refine lv_is hr9 ?_
    refine lv_i2l (v := (F (i.toNatClampNeg * 8 + w.toNatClampNeg)).toInt64) hx hb dL_of_8 rfl ?_
    refine ix_last hx hb hK hP hD hS 0 0 rfl rfl (show 0 < 1 by omega) (by decide) dL_of_9 (fun H locs hP hD hS => ?_)
    replace hP : va_P (dC, dI) vwCl [(o, .inl (cJ, 1, .inr (.inl (vp_updL O 0 ((F (i.toNatClampNeg * 8 + w.toNatClampNeg)).toInt64))))), (x, .inr (0, [.ref g, .ref t, .ref f, .int (nI n)])), (g, .inl (cJ, 4, .inr (.inl G))), (t, .inl (cJ, 2560, .inr (.inl T))), (f, .inl (cI, 5120, .inl F))] H := hP
    replace hD : va_D A [(o, .inl (cJ, 1, .inr (.inl (vp_updL O 0 ((F (i.toNatClampNeg * 8 + w.toNatClampNeg)).toInt64))))), (x, .inr (0, [.ref g, .ref t, .ref f, .int (nI n)])), (g, .inl (cJ, 4, .inr (.inl G))), (t, .inl (cJ, 2560, .inr (.inl T))), (f, .inl (cI, 5120, .inl F))] := hD
    refine lv_goto (tgt := 17) hx hb dL_of_10 (by decide) ?_
    refine lv_iconst (v := nI 0) hx hb dL_of_17 (by decide) ?_
    refine W.widen (k := 1) (n := 6) (by omega) (by omega) ?_
    replace hP := hP.sub (ws' := [(x, .inr (0, [.ref g, .ref t, .ref f, .int (nI n)])), (g, .inl (cJ, 4, .inr (.inl G))), (t, .inl (cJ, 2560, .inr (.inl T))), (f, .inl (cI, 5120, .inl F)), (o, .inl (cJ, 1, .inr (.inl (vp_updL O 0 ((F (i.toNatClampNeg * 8 + w.toNatClampNeg)).toInt64)))))]) [1, 2, 3, 4, 0] rfl
    replace hD := hD.sub (ws' := [(x, .inr (0, [.ref g, .ref t, .ref f, .int (nI n)])), (g, .inl (cJ, 4, .inr (.inl G))), (t, .inl (cJ, 2560, .inr (.inl T))), (f, .inl (cI, 5120, .inl F)), (o, .inl (cJ, 1, .inr (.inl (vp_updL O 0 ((F (i.toNatClampNeg * 8 + w.toNatClampNeg)).toInt64)))))]) [1, 2, 3, 4, 0] (by decide) rfl
    exact wr_ret hx hb hr hlocks (by rw [hok]) (by rw [hok]; rfl) hP hK hD hS dL_of_18
set_option maxHeartbeats 4000000 in
set_option maxRecDepth 100000 in
theorem k_L_men (l : Launch) (dC : Nat → ClassId) (dI : Nat → Nat → Nat) (cI cJ : ClassId) (x g t f : Nat) (G T : Nat → Int64) (F : Nat → Int32) (n : Nat) (o : Nat) (O : Nat → Int64) (i q : Int32) (sz : Nat) (hn : n ≤ 640) {a1 a2 : Nat} (hno : l.stackTraces = false) : Met l yL_men wsL_men ({ frames := 7, cells := 1, slots := 6, locals := 122 } : Room) (th (dC, dI) [(x, .inr (0, [.ref g, .ref t, .ref f, .int (nI n)])), (g, .inl (cJ, 4, .inr (.inl G))), (t, .inl (cJ, 2560, .inr (.inl T))), (f, .inl (cI, 5120, .inl F)), (o, .inl (cJ, 1, .inr (.inl O)))] (tK cI cJ) sz 75 75 "no such position, or no such part of it" "no such position, or no such part of it" a1 a2 "java/lang/IndexOutOfBoundsException" "java/lang/IndexOutOfBoundsException" [.ref x, .int i, .int q, .ref o]) (wrQ (dC, dI) [(x, .inr (0, [.ref g, .ref t, .ref f, .int (nI n)])), (g, .inl (cJ, 4, .inr (.inl G))), (t, .inl (cJ, 2560, .inr (.inl T))), (f, .inl (cI, 5120, .inl F)), (o, .inl (cJ, 1, .inr (.inl (sel (ga_okM n i q) (vp_updL O 0 (T (i.toNatClampNeg * 4 + q.toNatClampNeg))) O))))] (tK cI cJ) (va_A [(x, .inr (0, [.ref g, .ref t, .ref f, .int (nI n)])), (g, .inl (cJ, 4, .inr (.inl G))), (t, .inl (cJ, 2560, .inr (.inl T))), (f, .inl (cI, 5120, .inl F)), (o, .inl (cJ, 1, .inr (.inl O)))] sz) (fun r => r = nI (ga_okM n i q))) 1 6 (va_A [(x, .inr (0, [.ref g, .ref t, .ref f, .int (nI n)])), (g, .inl (cJ, 4, .inr (.inl G))), (t, .inl (cJ, 2560, .inr (.inl T))), (f, .inl (cI, 5120, .inl F)), (o, .inl (cJ, 1, .inr (.inl O)))] sz) := by
  refine va_MetW (cc := cL_men) (maxL := 5) (ret := (some .int)) (hh := [(0, 9, 12, 25)]) (by decide) rfl ?_
  intro p e s m args below meth c s₁ B hml hv
  obtain ⟨rfl, hsz, hP, hK, hD0, hX⟩ := hv
  have hx := B.exec
  have hb := B.bytes
  have hr := B.returns
  have hts := atoms_spec (ws := wsL_men) B.pre
  have hown : s.vm.findClass RL = some m.cls := findClass_of_methodNamed B.named
  have hlocks := B.notSynchronized
  have hl := lv_entry ([.ref x, .int i, .int q, .ref o]) (n := 5) (Nat.le_of_ble_eq_true rfl)
  rw [lg_entry_eq]
  generalize (lg_sl ([.ref x, .int i, .int q, .ref o]) ++ List.replicate (5 - (lg_sl ([.ref x, .int i, .int q, .ref o])).length) Slot.unset).toArray = ls at hl ⊢
  replace hl : lv_has ls 5 [(0, .ref x), (1, .int i), (2, .int q), (3, .ref o)] := hl
  have hTab := vx_table (x := yL_men) B (hts _ List.mem_cons_self)
  subst hsz
  have hD := hD0.self (sz := s.heap.size)
  generalize hAe : va_A [(x, .inr (0, [.ref g, .ref t, .ref f, .int (nI n)])), (g, .inl (cJ, 4, .inr (.inl G))), (t, .inl (cJ, 2560, .inr (.inl T))), (f, .inl (cI, 5120, .inl F)), (o, .inl (cJ, 1, .inr (.inl O)))] s.heap.size = A at hD hX ⊢
  have hA : ∀ q : Nat, s.heap.size ≤ q → A q := fun q h => by rw [← hAe]; exact Or.inr h
  have hS : va_S A s.heap s.heap [] := va_S.rf
  refine lv_aload_n hx hb dL_men_0 rfl (lv_at hl 3 rfl) ?_
  refine lv_iconst (v := nI 0) hx hb dL_men_1 (by decide) ?_
  refine lv_aload_n hx hb dL_men_2 rfl (lv_at hl 0 rfl) ?_
  refine lv_iload_n hx hb dL_men_3 rfl (lv_at hl 1 rfl) ?_
  refine lv_iload_n hx hb dL_men_4 rfl (lv_at hl 2 rfl) ?_
  refine th_callVl (rest := [.int (nI 0), .ref o]) (ws := [(x, .inr (0, [.ref g, .ref t, .ref f, .int (nI n)])), (g, .inl (cJ, 4, .inr (.inl G))), (t, .inl (cJ, 2560, .inr (.inl T))), (f, .inl (cI, 5120, .inl F))]) (ws' := [(x, .inr (0, [.ref g, .ref t, .ref f, .int (nI n)])), (g, .inl (cJ, 4, .inr (.inl G))), (t, .inl (cJ, 2560, .inr (.inl T))), (f, .inl (cI, 5120, .inl F))]) (wrst := [(o, .inl (cJ, 1, .inr (.inl O)))]) ⟨hx, hb, hml, hown, hts⟩ (k_X0_men l dC dI cI cJ x g t f G T F n i q s.heap.size hn hno) (cwV 2 hts gL_men_X0_men rfl rfl rfl (by decide +kernel) ⟨Nat.le_of_ble_eq_true rfl, Nat.le_of_ble_eq_true rfl⟩) hK hP hD hS hA hX [0, 1, 2, 3] [4] rfl rfl (by decide) (by decide) (by decide) rfl (q0 := 0) rfl rfl hl.1 rfl (Nat.le_of_ble_eq_true rfl) dL_men_5 ⟨Nat.le_of_ble_eq_true rfl, Nat.le_of_ble_eq_true rfl⟩ (fun E ce q9 H locs hex hP hD hS hce hcv hcl => ?_) (fun r9 H locs hr9 hP hD hS => ?_)
  · obtain ⟨rfl, hok⟩ := hex
    refine xc_catch (own := RL) (E := "java/lang/IndexOutOfBoundsException") (h := 12) hown (by rw [hTab]; exact Or.inr ⟨by decide, by decide, "java/lang/IndexOutOfBoundsException", hts (.classLink RL 25 "java/lang/IndexOutOfBoundsException") (by decide +kernel), Or.inl ⟨va_Nw.use rfl hX.2.2.2.2.1, rfl⟩⟩) hce hcv hcl ?_
    replace hP : va_P (dC, dI) vwCl [(o, .inl (cJ, 1, .inr (.inl O))), (x, .inr (0, [.ref g, .ref t, .ref f, .int (nI n)])), (g, .inl (cJ, 4, .inr (.inl G))), (t, .inl (cJ, 2560, .inr (.inl T))), (f, .inl (cI, 5120, .inl F))] H := hP
    replace hD : va_D A [(o, .inl (cJ, 1, .inr (.inl O))), (x, .inr (0, [.ref g, .ref t, .ref f, .int (nI n)])), (g, .inl (cJ, 4, .inr (.inl G))), (t, .inl (cJ, 2560, .inr (.inl T))), (f, .inl (cI, 5120, .inl F))] := hD
    refine lv_astore (lv' := [(4, .ref q9), (0, .ref x), (1, .int i), (2, .int q), (3, .ref o)]) hx hb dL_men_12 hl (by decide) rfl (fun ls hl => ?_)
    refine lv_iconst (v := nI 1) hx hb dL_men_14 (by decide) ?_
    refine W.widen (k := 1) (n := 6) (by omega) (by omega) ?_
    replace hP := hP.sub (ws' := [(x, .inr (0, [.ref g, .ref t, .ref f, .int (nI n)])), (g, .inl (cJ, 4, .inr (.inl G))), (t, .inl (cJ, 2560, .inr (.inl T))), (f, .inl (cI, 5120, .inl F)), (o, .inl (cJ, 1, .inr (.inl O)))]) [1, 2, 3, 4, 0] rfl
    replace hD := hD.sub (ws' := [(x, .inr (0, [.ref g, .ref t, .ref f, .int (nI n)])), (g, .inl (cJ, 4, .inr (.inl G))), (t, .inl (cJ, 2560, .inr (.inl T))), (f, .inl (cI, 5120, .inl F)), (o, .inl (cJ, 1, .inr (.inl O)))]) [1, 2, 3, 4, 0] (by decide) rfl
    exact wr_ret hx hb hr hlocks (by rw [hok]) (by rw [hok]; rfl) hP hK hD hS dL_men_15
  · obtain ⟨hok, hr9⟩ := hr9
    replace hP : va_P (dC, dI) vwCl [(o, .inl (cJ, 1, .inr (.inl O))), (x, .inr (0, [.ref g, .ref t, .ref f, .int (nI n)])), (g, .inl (cJ, 4, .inr (.inl G))), (t, .inl (cJ, 2560, .inr (.inl T))), (f, .inl (cI, 5120, .inl F))] H := hP
    replace hD : va_D A [(o, .inl (cJ, 1, .inr (.inl O))), (x, .inr (0, [.ref g, .ref t, .ref f, .int (nI n)])), (g, .inl (cJ, 4, .inr (.inl G))), (t, .inl (cJ, 2560, .inr (.inl T))), (f, .inl (cI, 5120, .inl F))] := hD
    refine lv_isl hr9 ?_
    refine ix_last hx hb hK hP hD hS 0 0 rfl rfl (show 0 < 1 by omega) (by decide) dL_men_8 (fun H locs hP hD hS => ?_)
    replace hP : va_P (dC, dI) vwCl [(o, .inl (cJ, 1, .inr (.inl (vp_updL O 0 (T (i.toNatClampNeg * 4 + q.toNatClampNeg)))))), (x, .inr (0, [.ref g, .ref t, .ref f, .int (nI n)])), (g, .inl (cJ, 4, .inr (.inl G))), (t, .inl (cJ, 2560, .inr (.inl T))), (f, .inl (cI, 5120, .inl F))] H := hP
    replace hD : va_D A [(o, .inl (cJ, 1, .inr (.inl (vp_updL O 0 (T (i.toNatClampNeg * 4 + q.toNatClampNeg)))))), (x, .inr (0, [.ref g, .ref t, .ref f, .int (nI n)])), (g, .inl (cJ, 4, .inr (.inl G))), (t, .inl (cJ, 2560, .inr (.inl T))), (f, .inl (cI, 5120, .inl F))] := hD
    refine lv_goto (tgt := 16) hx hb dL_men_9 (by decide) ?_
    refine lv_iconst (v := nI 0) hx hb dL_men_16 (by decide) ?_
    refine W.widen (k := 1) (n := 6) (by omega) (by omega) ?_
    replace hP := hP.sub (ws' := [(x, .inr (0, [.ref g, .ref t, .ref f, .int (nI n)])), (g, .inl (cJ, 4, .inr (.inl G))), (t, .inl (cJ, 2560, .inr (.inl T))), (f, .inl (cI, 5120, .inl F)), (o, .inl (cJ, 1, .inr (.inl (vp_updL O 0 (T (i.toNatClampNeg * 4 + q.toNatClampNeg))))))]) [1, 2, 3, 4, 0] rfl
    replace hD := hD.sub (ws' := [(x, .inr (0, [.ref g, .ref t, .ref f, .int (nI n)])), (g, .inl (cJ, 4, .inr (.inl G))), (t, .inl (cJ, 2560, .inr (.inl T))), (f, .inl (cI, 5120, .inl F)), (o, .inl (cJ, 1, .inr (.inl (vp_updL O 0 (T (i.toNatClampNeg * 4 + q.toNatClampNeg))))))]) [1, 2, 3, 4, 0] (by decide) rfl
    exact wr_ret hx hb hr hlocks (by rw [hok]) (by rw [hok]; rfl) hP hK hD hS dL_men_17
set_option maxHeartbeats 4000000 in
set_option maxRecDepth 100000 in
theorem k_L_times (l : Launch) (dC : Nat → ClassId) (dI : Nat → Nat → Nat) (cI cJ : ClassId) (x g t f : Nat) (G T : Nat → Int64) (F : Nat → Int32) (n : Nat) (o : Nat) (O : Nat → Int64) (q : Int32) (sz : Nat) (hn : n ≤ 640) {a1 a2 : Nat} (hno : l.stackTraces = false) : Met l yL_times wsL_times ({ frames := 7, cells := 1, slots := 6, locals := 121 } : Room) (th (dC, dI) [(x, .inr (0, [.ref g, .ref t, .ref f, .int (nI n)])), (g, .inl (cJ, 4, .inr (.inl G))), (t, .inl (cJ, 2560, .inr (.inl T))), (f, .inl (cI, 5120, .inl F)), (o, .inl (cJ, 1, .inr (.inl O)))] (tK cI cJ) sz 77 77 "the state is none that there is" "the state is none that there is" a1 a2 "java/lang/IllegalArgumentException" "java/lang/IllegalArgumentException" [.ref x, .int q, .ref o]) (wrQ (dC, dI) [(x, .inr (0, [.ref g, .ref t, .ref f, .int (nI n)])), (g, .inl (cJ, 4, .inr (.inl G))), (t, .inl (cJ, 2560, .inr (.inl T))), (f, .inl (cI, 5120, .inl F)), (o, .inl (cJ, 1, .inr (.inl (sel (ga_okT q) (vp_updL O 0 ((ga_cup F n (ga_last G T F q n)).toInt64)) O))))] (tK cI cJ) (va_A [(x, .inr (0, [.ref g, .ref t, .ref f, .int (nI n)])), (g, .inl (cJ, 4, .inr (.inl G))), (t, .inl (cJ, 2560, .inr (.inl T))), (f, .inl (cI, 5120, .inl F)), (o, .inl (cJ, 1, .inr (.inl O)))] sz) (fun r => r = nI (ga_okT q))) 1 6 (va_A [(x, .inr (0, [.ref g, .ref t, .ref f, .int (nI n)])), (g, .inl (cJ, 4, .inr (.inl G))), (t, .inl (cJ, 2560, .inr (.inl T))), (f, .inl (cI, 5120, .inl F)), (o, .inl (cJ, 1, .inr (.inl O)))] sz) := by
  refine va_MetW (cc := cL_times) (maxL := 4) (ret := (some .int)) (hh := [(0, 9, 12, 13)]) (by decide) rfl ?_
  intro p e s m args below meth c s₁ B hml hv
  obtain ⟨rfl, hsz, hP, hK, hD0, hX⟩ := hv
  have hx := B.exec
  have hb := B.bytes
  have hr := B.returns
  have hts := atoms_spec (ws := wsL_times) B.pre
  have hown : s.vm.findClass RL = some m.cls := findClass_of_methodNamed B.named
  have hlocks := B.notSynchronized
  have hl := lv_entry ([.ref x, .int q, .ref o]) (n := 4) (Nat.le_of_ble_eq_true rfl)
  rw [lg_entry_eq]
  generalize (lg_sl ([.ref x, .int q, .ref o]) ++ List.replicate (4 - (lg_sl ([.ref x, .int q, .ref o])).length) Slot.unset).toArray = ls at hl ⊢
  replace hl : lv_has ls 4 [(0, .ref x), (1, .int q), (2, .ref o)] := hl
  have hTab := vx_table (x := yL_times) B (hts _ List.mem_cons_self)
  subst hsz
  have hD := hD0.self (sz := s.heap.size)
  generalize hAe : va_A [(x, .inr (0, [.ref g, .ref t, .ref f, .int (nI n)])), (g, .inl (cJ, 4, .inr (.inl G))), (t, .inl (cJ, 2560, .inr (.inl T))), (f, .inl (cI, 5120, .inl F)), (o, .inl (cJ, 1, .inr (.inl O)))] s.heap.size = A at hD hX ⊢
  have hA : ∀ q : Nat, s.heap.size ≤ q → A q := fun q h => by rw [← hAe]; exact Or.inr h
  have hS : va_S A s.heap s.heap [] := va_S.rf
  refine lv_aload_n hx hb dL_times_0 rfl (lv_at hl 2 rfl) ?_
  refine lv_iconst (v := nI 0) hx hb dL_times_1 (by decide) ?_
  refine lv_aload_n hx hb dL_times_2 rfl (lv_at hl 0 rfl) ?_
  refine lv_iload_n hx hb dL_times_3 rfl (lv_at hl 1 rfl) ?_
  refine th_callV (rest := [.int (nI 0), .ref o]) (ws := [(x, .inr (0, [.ref g, .ref t, .ref f, .int (nI n)])), (g, .inl (cJ, 4, .inr (.inl G))), (t, .inl (cJ, 2560, .inr (.inl T))), (f, .inl (cI, 5120, .inl F))]) (ws' := [(x, .inr (0, [.ref g, .ref t, .ref f, .int (nI n)])), (g, .inl (cJ, 4, .inr (.inl G))), (t, .inl (cJ, 2560, .inr (.inl T))), (f, .inl (cI, 5120, .inl F))]) (wrst := [(o, .inl (cJ, 1, .inr (.inl O)))]) ⟨hx, hb, hml, hown, hts⟩ (k_X0_times l dC dI cI cJ x g t f G T F n q s.heap.size hn hno) (cwV 1 hts gL_times_X0_times rfl rfl rfl (by decide +kernel) ⟨Nat.le_of_ble_eq_true rfl, Nat.le_of_ble_eq_true rfl⟩) hK hP hD hS hA hX [0, 1, 2, 3] [4] rfl rfl (by decide) (by decide) (by decide) rfl (q0 := 0) rfl rfl hl.1 rfl (Nat.le_of_ble_eq_true rfl) dL_times_4 ⟨Nat.le_of_ble_eq_true rfl, Nat.le_of_ble_eq_true rfl⟩ (fun E ce q9 H locs hex hP hD hS hce hcv hcl => ?_) (fun r9 H locs hr9 hP hD hS => ?_)
  · obtain ⟨rfl, hok⟩ := hex
    refine xc_catch (own := RL) (E := "java/lang/IllegalArgumentException") (h := 12) hown (by rw [hTab]; exact Or.inr ⟨by decide, by decide, "java/lang/IllegalArgumentException", hts (.classLink RL 13 "java/lang/IllegalArgumentException") (by decide +kernel), Or.inl ⟨va_Nw.use rfl hX.2.2.2.2.1, rfl⟩⟩) hce hcv hcl ?_
    replace hP : va_P (dC, dI) vwCl [(o, .inl (cJ, 1, .inr (.inl O))), (x, .inr (0, [.ref g, .ref t, .ref f, .int (nI n)])), (g, .inl (cJ, 4, .inr (.inl G))), (t, .inl (cJ, 2560, .inr (.inl T))), (f, .inl (cI, 5120, .inl F))] H := hP
    replace hD : va_D A [(o, .inl (cJ, 1, .inr (.inl O))), (x, .inr (0, [.ref g, .ref t, .ref f, .int (nI n)])), (g, .inl (cJ, 4, .inr (.inl G))), (t, .inl (cJ, 2560, .inr (.inl T))), (f, .inl (cI, 5120, .inl F))] := hD
    refine lv_astore_n (lv' := [(3, .ref q9), (0, .ref x), (1, .int q), (2, .ref o)]) hx hb dL_times_12 rfl hl (by decide) rfl (fun ls hl => ?_)
    refine lv_iconst (v := nI 1) hx hb dL_times_13 (by decide) ?_
    refine W.widen (k := 1) (n := 6) (by omega) (by omega) ?_
    replace hP := hP.sub (ws' := [(x, .inr (0, [.ref g, .ref t, .ref f, .int (nI n)])), (g, .inl (cJ, 4, .inr (.inl G))), (t, .inl (cJ, 2560, .inr (.inl T))), (f, .inl (cI, 5120, .inl F)), (o, .inl (cJ, 1, .inr (.inl O)))]) [1, 2, 3, 4, 0] rfl
    replace hD := hD.sub (ws' := [(x, .inr (0, [.ref g, .ref t, .ref f, .int (nI n)])), (g, .inl (cJ, 4, .inr (.inl G))), (t, .inl (cJ, 2560, .inr (.inl T))), (f, .inl (cI, 5120, .inl F)), (o, .inl (cJ, 1, .inr (.inl O)))]) [1, 2, 3, 4, 0] (by decide) rfl
    exact wr_ret hx hb hr hlocks (by rw [hok]) (by rw [hok]; rfl) hP hK hD hS dL_times_14
  · obtain ⟨hok, hr9⟩ := hr9
    replace hP : va_P (dC, dI) vwCl [(o, .inl (cJ, 1, .inr (.inl O))), (x, .inr (0, [.ref g, .ref t, .ref f, .int (nI n)])), (g, .inl (cJ, 4, .inr (.inl G))), (t, .inl (cJ, 2560, .inr (.inl T))), (f, .inl (cI, 5120, .inl F))] H := hP
    replace hD : va_D A [(o, .inl (cJ, 1, .inr (.inl O))), (x, .inr (0, [.ref g, .ref t, .ref f, .int (nI n)])), (g, .inl (cJ, 4, .inr (.inl G))), (t, .inl (cJ, 2560, .inr (.inl T))), (f, .inl (cI, 5120, .inl F))] := hD
    refine lv_is hr9 ?_
    refine lv_i2l (v := (ga_cup F n (ga_last G T F q n)).toInt64) hx hb dL_times_7 rfl ?_
    refine ix_last hx hb hK hP hD hS 0 0 rfl rfl (show 0 < 1 by omega) (by decide) dL_times_8 (fun H locs hP hD hS => ?_)
    replace hP : va_P (dC, dI) vwCl [(o, .inl (cJ, 1, .inr (.inl (vp_updL O 0 ((ga_cup F n (ga_last G T F q n)).toInt64))))), (x, .inr (0, [.ref g, .ref t, .ref f, .int (nI n)])), (g, .inl (cJ, 4, .inr (.inl G))), (t, .inl (cJ, 2560, .inr (.inl T))), (f, .inl (cI, 5120, .inl F))] H := hP
    replace hD : va_D A [(o, .inl (cJ, 1, .inr (.inl (vp_updL O 0 ((ga_cup F n (ga_last G T F q n)).toInt64))))), (x, .inr (0, [.ref g, .ref t, .ref f, .int (nI n)])), (g, .inl (cJ, 4, .inr (.inl G))), (t, .inl (cJ, 2560, .inr (.inl T))), (f, .inl (cI, 5120, .inl F))] := hD
    refine lv_goto (tgt := 15) hx hb dL_times_9 (by decide) ?_
    refine lv_iconst (v := nI 0) hx hb dL_times_15 (by decide) ?_
    refine W.widen (k := 1) (n := 6) (by omega) (by omega) ?_
    replace hP := hP.sub (ws' := [(x, .inr (0, [.ref g, .ref t, .ref f, .int (nI n)])), (g, .inl (cJ, 4, .inr (.inl G))), (t, .inl (cJ, 2560, .inr (.inl T))), (f, .inl (cI, 5120, .inl F)), (o, .inl (cJ, 1, .inr (.inl (vp_updL O 0 ((ga_cup F n (ga_last G T F q n)).toInt64)))))]) [1, 2, 3, 4, 0] rfl
    replace hD := hD.sub (ws' := [(x, .inr (0, [.ref g, .ref t, .ref f, .int (nI n)])), (g, .inl (cJ, 4, .inr (.inl G))), (t, .inl (cJ, 2560, .inr (.inl T))), (f, .inl (cI, 5120, .inl F)), (o, .inl (cJ, 1, .inr (.inl (vp_updL O 0 ((ga_cup F n (ga_last G T F q n)).toInt64)))))]) [1, 2, 3, 4, 0] (by decide) rfl
    exact wr_ret hx hb hr hlocks (by rw [hok]) (by rw [hok]; rfl) hP hK hD hS dL_times_16
