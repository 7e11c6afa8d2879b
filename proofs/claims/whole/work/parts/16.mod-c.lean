set_option maxHeartbeats 4000000 in
set_option maxRecDepth 100000 in
theorem k_X1_of (l : Launch) (dC : Nat → ClassId) (dI : Nat → Nat → Nat) (cI : ClassId) (y a b c9 d v : Nat) (th : Int32) (N : Nat → Int32) (n : Nat) (M S C V : Nat → Int32) (i w : Int32) (sz : Nat) (hn : n ≤ 640) : Met l yX1_of wsX1_of ({ frames := 2, cells := 0, slots := 0, locals := 49 } : Room) (wr (dC, dI) (wM cI y a b c9 d v th N n M S C V) (tM cI) sz [.ref y, .int i, .int w]) (wrQ (dC, dI) (wM cI y a b c9 d v (nI (mo_okO n i w)) N n M S C V) (tM cI) (va_A (wM cI y a b c9 d v th N n M S C V) sz) (fun r => r = sel (mo_okO n i w) (mo_of S M C V i.toNatClampNeg w) (nI 0))) 0 0 (va_A (wM cI y a b c9 d v th N n M S C V) sz) := by
  refine Met.ofW (cc := cX1_of) (maxL := 7) (ret := (some .int)) (by decide) rfl ?_
  intro p e s m args below meth c s₁ B hml hv
  obtain ⟨rfl, hsz, hP, hK, hD0⟩ := hv
  have hx := B.exec
  have hb := B.bytes
  have hr := B.returns
  have hts := atoms_spec (ws := wsX1_of) B.pre
  have hown : s.vm.findClass RX1 = some m.cls := findClass_of_methodNamed B.named
  have hlocks := B.notSynchronized
  have hinX1 : ∀ w ∈ u_ws RX1 TX1 7, w ∈ wsX1_of := by decide +kernel
  have hf17 := hts (.fieldLink RX1 17 "GameArbiterModel" "states" "[I") (by decide +kernel)
  have hf20 := hts (.fieldLink RX1 20 "GameArbiterModel" "clocks" "[I") (by decide +kernel)
  have hf23 := hts (.fieldLink RX1 23 "GameArbiterModel" "verdicts" "[I") (by decide +kernel)
  have hf26 := hts (.fieldLink RX1 26 "GameArbiterModel" "thrown" "I") (by decide +kernel)
  have hl := lv_entry ([.ref y, .int i, .int w]) (n := 7) (Nat.le_of_ble_eq_true rfl)
  rw [lg_entry_eq]
  generalize (lg_sl ([.ref y, .int i, .int w]) ++ List.replicate (7 - (lg_sl ([.ref y, .int i, .int w])).length) Slot.unset).toArray = ls at hl ⊢
  replace hl : lv_has ls 7 [(0, .ref y), (1, .int i), (2, .int w)] := hl
  subst hsz
  have hD := hD0.self (sz := s.heap.size)
  generalize hAe : va_A (wM cI y a b c9 d v th N n M S C V) s.heap.size = A at hD ⊢
  have hA : ∀ q : Nat, s.heap.size ≤ q → A q := fun q h => by rw [← hAe]; exact Or.inr h
  have hS : va_S A s.heap s.heap [] := va_S.rf
  replace hP : va_P (dC, dI) vwCl [(y, .inr (1, [.int th, .ref a, .int (nI n), .ref b, .ref c9, .ref d, .ref v])), (a, .inl (cI, 64, .inl N)), (b, .inl (cI, 40960, .inl M)), (c9, .inl (cI, 640, .inl S)), (d, .inl (cI, 640, .inl C)), (v, .inl (cI, 640, .inl V))] s.heap := hP
  replace hD : va_D A [(y, .inr (1, [.int th, .ref a, .int (nI n), .ref b, .ref c9, .ref d, .ref v])), (a, .inl (cI, 64, .inl N)), (b, .inl (cI, 40960, .inl M)), (c9, .inl (cI, 640, .inl S)), (d, .inl (cI, 640, .inl C)), (v, .inl (cI, 640, .inl V))] := hD
  refine lv_aload_n hx hb dX1_of_0 rfl (lv_at hl 0 rfl) ?_
  refine lv_aload_n hx hb dX1_of_1 rfl (lv_at hl 0 rfl) ?_
  refine lv_iload_n hx hb dX1_of_2 rfl (lv_at hl 1 rfl) ?_
  refine rd_callV (rest := [.ref y]) ⟨hx, hb, hml, hown, hts⟩ (k_X1_isIn l dC dI cI y a b c9 d v th N n M S C V i) (cwV 1 hts gX1_of_X1_isIn rfl rfl rfl (by decide +kernel) ⟨Nat.le_of_ble_eq_true rfl, Nat.le_of_ble_eq_true rfl⟩) hK hP rfl (q0 := 0) rfl rfl hl.1 rfl (Nat.le_of_ble_eq_true rfl) dX1_of_3 ⟨Nat.zero_le _, Nat.zero_le _⟩ ?_
  refine lv_if_eq (tgt := 23) hx hb dX1_of_6 (by decide) (fun c_1 => ?_) (fun c_1 => ?_)
  · refine lv_iconst (v := nI 1) hx hb dX1_of_23 (by decide) ?_
    refine va_put (D := (dC, dI)) (ci := 1) (v := .int (nI 1)) (ty := .int) (C := RX1) (T := TX1) (N := 7) hx hb hts hinX1 tyX1 tyX1_ok nmX1 hown hK hP hD hS 0 rfl rfl 0 (by decide) hf26 (fun _ h9 => h9) rfl (by decide +kernel) rfl rfl (Nat.le_of_ble_eq_true rfl) dX1_of_24 (fun H locs hP hD hS => ?_)
    replace hP : va_P (dC, dI) vwCl [(y, .inr (1, [.int (nI 1), .ref a, .int (nI n), .ref b, .ref c9, .ref d, .ref v])), (a, .inl (cI, 64, .inl N)), (b, .inl (cI, 40960, .inl M)), (c9, .inl (cI, 640, .inl S)), (d, .inl (cI, 640, .inl C)), (v, .inl (cI, 640, .inl V))] H := hP
    replace hD : va_D A [(y, .inr (1, [.int (nI 1), .ref a, .int (nI n), .ref b, .ref c9, .ref d, .ref v])), (a, .inl (cI, 64, .inl N)), (b, .inl (cI, 40960, .inl M)), (c9, .inl (cI, 640, .inl S)), (d, .inl (cI, 640, .inl C)), (v, .inl (cI, 640, .inl V))] := hD
    have hok : mo_okO n i w = 1 := by rw [mo_okO, if_pos c_1]
    refine lv_aload_n hx hb dX1_of_27 rfl (lv_at hl 0 rfl) ?_
    refine va_get (D := (dC, dI)) (ci := 1) (v := .int (nI 1)) (C := RX1) (T := TX1) (N := 7) hx hb hts hinX1 hown hK hP 0 rfl rfl 0 (by decide) hf26 (fun _ h9 => h9) rfl dX1_of_28 ?_
    refine lv_if_le (tgt := 36) hx hb dX1_of_31 (by decide) (fun c_2 => ?_) (fun c_2 => ?_)
    · exact absurd c_2 (by decide)
    · refine lv_iconst (v := nI 0) hx hb dX1_of_34 (by decide) ?_
      exact wr_ret hx hb hr hlocks (by rw [hok]; rfl) (by rw [hok]) hP hK hD hS dX1_of_35
  · obtain ⟨j, hj, rfl⟩ := ga_isPos_nat hn c_1
    refine lv_iload_n hx hb dX1_of_9 rfl (lv_at hl 2 rfl) ?_
    refine lv_if_lt (tgt := 23) hx hb dX1_of_10 (by decide) (fun c_3 => ?_) (fun c_3 => ?_)
    · refine lv_iconst (v := nI 1) hx hb dX1_of_23 (by decide) ?_
      refine va_put (D := (dC, dI)) (ci := 1) (v := .int (nI 1)) (ty := .int) (C := RX1) (T := TX1) (N := 7) hx hb hts hinX1 tyX1 tyX1_ok nmX1 hown hK hP hD hS 0 rfl rfl 0 (by decide) hf26 (fun _ h9 => h9) rfl (by decide +kernel) rfl rfl (Nat.le_of_ble_eq_true rfl) dX1_of_24 (fun H locs hP hD hS => ?_)
      replace hP : va_P (dC, dI) vwCl [(y, .inr (1, [.int (nI 1), .ref a, .int (nI n), .ref b, .ref c9, .ref d, .ref v])), (a, .inl (cI, 64, .inl N)), (b, .inl (cI, 40960, .inl M)), (c9, .inl (cI, 640, .inl S)), (d, .inl (cI, 640, .inl C)), (v, .inl (cI, 640, .inl V))] H := hP
      replace hD : va_D A [(y, .inr (1, [.int (nI 1), .ref a, .int (nI n), .ref b, .ref c9, .ref d, .ref v])), (a, .inl (cI, 64, .inl N)), (b, .inl (cI, 40960, .inl M)), (c9, .inl (cI, 640, .inl S)), (d, .inl (cI, 640, .inl C)), (v, .inl (cI, 640, .inl V))] := hD
      have hok : mo_okO n (nI j) w = 1 := by rw [mo_okO, if_neg c_1, if_pos c_3]
      refine lv_aload_n hx hb dX1_of_27 rfl (lv_at hl 0 rfl) ?_
      refine va_get (D := (dC, dI)) (ci := 1) (v := .int (nI 1)) (C := RX1) (T := TX1) (N := 7) hx hb hts hinX1 hown hK hP 0 rfl rfl 0 (by decide) hf26 (fun _ h9 => h9) rfl dX1_of_28 ?_
      refine lv_if_le (tgt := 36) hx hb dX1_of_31 (by decide) (fun c_4 => ?_) (fun c_4 => ?_)
      · exact absurd c_4 (by decide)
      · refine lv_iconst (v := nI 0) hx hb dX1_of_34 (by decide) ?_
        exact wr_ret hx hb hr hlocks (by rw [hok]; rfl) (by rw [hok]) hP hK hD hS dX1_of_35
    · refine lv_iload_n hx hb dX1_of_13 rfl (lv_at hl 2 rfl) ?_
      refine lv_bipush (v := nI 7) hx hb dX1_of_14 (by decide) ?_
      refine lv_icmp_gt (tgt := 23) hx hb dX1_of_16 (by decide) (fun c_5 => ?_) (fun c_5 => ?_)
      · refine lv_iconst (v := nI 1) hx hb dX1_of_23 (by decide) ?_
        refine va_put (D := (dC, dI)) (ci := 1) (v := .int (nI 1)) (ty := .int) (C := RX1) (T := TX1) (N := 7) hx hb hts hinX1 tyX1 tyX1_ok nmX1 hown hK hP hD hS 0 rfl rfl 0 (by decide) hf26 (fun _ h9 => h9) rfl (by decide +kernel) rfl rfl (Nat.le_of_ble_eq_true rfl) dX1_of_24 (fun H locs hP hD hS => ?_)
        replace hP : va_P (dC, dI) vwCl [(y, .inr (1, [.int (nI 1), .ref a, .int (nI n), .ref b, .ref c9, .ref d, .ref v])), (a, .inl (cI, 64, .inl N)), (b, .inl (cI, 40960, .inl M)), (c9, .inl (cI, 640, .inl S)), (d, .inl (cI, 640, .inl C)), (v, .inl (cI, 640, .inl V))] H := hP
        replace hD : va_D A [(y, .inr (1, [.int (nI 1), .ref a, .int (nI n), .ref b, .ref c9, .ref d, .ref v])), (a, .inl (cI, 64, .inl N)), (b, .inl (cI, 40960, .inl M)), (c9, .inl (cI, 640, .inl S)), (d, .inl (cI, 640, .inl C)), (v, .inl (cI, 640, .inl V))] := hD
        have hok : mo_okO n (nI j) w = 1 := by rw [mo_okO, if_neg c_1, if_neg c_3, if_pos c_5]
        refine lv_aload_n hx hb dX1_of_27 rfl (lv_at hl 0 rfl) ?_
        refine va_get (D := (dC, dI)) (ci := 1) (v := .int (nI 1)) (C := RX1) (T := TX1) (N := 7) hx hb hts hinX1 hown hK hP 0 rfl rfl 0 (by decide) hf26 (fun _ h9 => h9) rfl dX1_of_28 ?_
        refine lv_if_le (tgt := 36) hx hb dX1_of_31 (by decide) (fun c_6 => ?_) (fun c_6 => ?_)
        · exact absurd c_6 (by decide)
        · refine lv_iconst (v := nI 0) hx hb dX1_of_34 (by decide) ?_
          exact wr_ret hx hb hr hlocks (by rw [hok]; rfl) (by rw [hok]) hP hK hD hS dX1_of_35
      · refine lv_iconst (v := nI 0) hx hb dX1_of_19 (by decide) ?_
        refine lv_goto (tgt := 24) hx hb dX1_of_20 (by decide) ?_
        refine va_put (D := (dC, dI)) (ci := 1) (v := .int (nI 0)) (ty := .int) (C := RX1) (T := TX1) (N := 7) hx hb hts hinX1 tyX1 tyX1_ok nmX1 hown hK hP hD hS 0 rfl rfl 0 (by decide) hf26 (fun _ h9 => h9) rfl (by decide +kernel) rfl rfl (Nat.le_of_ble_eq_true rfl) dX1_of_24 (fun H locs hP hD hS => ?_)
        replace hP : va_P (dC, dI) vwCl [(y, .inr (1, [.int (nI 0), .ref a, .int (nI n), .ref b, .ref c9, .ref d, .ref v])), (a, .inl (cI, 64, .inl N)), (b, .inl (cI, 40960, .inl M)), (c9, .inl (cI, 640, .inl S)), (d, .inl (cI, 640, .inl C)), (v, .inl (cI, 640, .inl V))] H := hP
        replace hD : va_D A [(y, .inr (1, [.int (nI 0), .ref a, .int (nI n), .ref b, .ref c9, .ref d, .ref v])), (a, .inl (cI, 64, .inl N)), (b, .inl (cI, 40960, .inl M)), (c9, .inl (cI, 640, .inl S)), (d, .inl (cI, 640, .inl C)), (v, .inl (cI, 640, .inl V))] := hD
        have hok : mo_okO n (nI j) w = 0 := by rw [mo_okO, if_neg c_1, if_neg c_3, if_neg c_5]
        refine lv_aload_n hx hb dX1_of_27 rfl (lv_at hl 0 rfl) ?_
        refine va_get (D := (dC, dI)) (ci := 1) (v := .int (nI 0)) (C := RX1) (T := TX1) (N := 7) hx hb hts hinX1 hown hK hP 0 rfl rfl 0 (by decide) hf26 (fun _ h9 => h9) rfl dX1_of_28 ?_
        refine lv_if_le (tgt := 36) hx hb dX1_of_31 (by decide) (fun c_7 => ?_) (fun c_7 => ?_)
        · refine lv_iload_n hx hb dX1_of_36 rfl (lv_at hl 1 rfl) ?_
          refine lv_istore_n (lv' := [(3, .int (nI j)), (0, .ref y), (1, .int (nI j)), (2, .int w)]) hx hb dX1_of_37 rfl hl (by decide) rfl (fun ls hl => ?_)
          refine lv_iconst (v := (-1)) hx hb dX1_of_38 (by decide) ?_
          refine lv_istore (lv' := [(4, .int (-1)), (3, .int (nI j)), (0, .ref y), (1, .int (nI j)), (2, .int w)]) hx hb dX1_of_39 hl (by decide) rfl (fun ls hl => ?_)
          refine lv_iconst (v := nI 0) hx hb dX1_of_41 (by decide) ?_
          refine lv_istore (lv' := [(5, .int (nI 0)), (4, .int (-1)), (3, .int (nI j)), (0, .ref y), (1, .int (nI j)), (2, .int w)]) hx hb dX1_of_42 hl (by decide) rfl (fun ls hl => ?_)
          obtain ⟨i, hi0⟩ : ∃ i : Nat, i = 0 := ⟨0, rfl⟩
          replace hl := lv_sub hl [3, 4, 5, 2, 1, 0] rfl
          replace hl : lv_has ls 7 [(0, .ref y), (1, .int (nI j)), (2, .int w), (3, .int (nI (mo_fi S M j i))), (4, .int (mo_be S M j i)), (5, .int (nI i))] := by rw [hi0]; exact hl
          have hib : i ≤ j := by omega
          clear hi0
          obtain ⟨zi, hzi⟩ : ∃ z : Nat, j < i + z := ⟨j + 1, by omega⟩
          induction zi generalizing i ls with
          | zero => exact absurd hzi (by omega)
          | succ zi ihi =>
            refine lv_iload hx hb dX1_of_44 (lv_at hl 5 rfl) ?_
            refine lv_iload_n hx hb dX1_of_46 rfl (lv_at hl 1 rfl) ?_
            refine lv_icmp_ge (tgt := 97) hx hb dX1_of_47 (by decide) (fun c_8 => ?_) (fun c_8 => ?_)
            · have c_8 : j ≤ i := (nI_leI (show j < 2 ^ 31 by omega) (show i < 2 ^ 31 by omega)).mp c_8
              have hij : i = j := by omega
              rw [hij] at hl
              refine lv_iload_n hx hb dX1_of_97 rfl (lv_at hl 2 rfl) ?_
              by_cases w_0 : w = nI 0
              · refine lv_is w_0 ?_
                refine lv_tableIn (off := 42) (tgt := 140) hx hb dX1_of_98 (by decide) (by decide) rfl (by decide) ?_
                refine lv_aload_n hx hb dX1_of_140 rfl (lv_at hl 0 rfl) ?_
                refine lv_iload_n hx hb dX1_of_141 rfl (lv_at hl 1 rfl) ?_
                have hcn := mo_cnt_le S M j (j + 1)
                refine rd_callV (rest := []) ⟨hx, hb, hml, hown, hts⟩ (k_X1_countOf l dC dI cI y a b c9 d v (nI 0) N n M S C V j (by omega)) (cwV 1 hts gX1_of_X1_countOf rfl rfl rfl (by decide +kernel) ⟨Nat.le_of_ble_eq_true rfl, Nat.le_of_ble_eq_true rfl⟩) hK hP rfl (q0 := 0) rfl rfl hl.1 rfl (Nat.le_of_ble_eq_true rfl) dX1_of_142 ⟨Nat.zero_le _, Nat.zero_le _⟩ ?_
                exact wr_ret hx hb hr hlocks (by rw [hok, nI_clamp (by omega)]; show _ = mo_of S M C V j w; rw [mo_of, if_pos w_0]) (by rw [hok]) hP hK hD hS dX1_of_145
              by_cases w_1 : w = nI 1
              · refine lv_is w_1 ?_
                refine lv_tableIn (off := 48) (tgt := 146) hx hb dX1_of_98 (by decide) (by decide) rfl (by decide) ?_
                refine lv_aload_n hx hb dX1_of_146 rfl (lv_at hl 0 rfl) ?_
                refine va_get (D := (dC, dI)) (ci := 1) (v := .ref d) (C := RX1) (T := TX1) (N := 7) hx hb hts hinX1 hown hK hP 0 rfl rfl 5 (by decide) hf20 (fun _ h9 => h9) rfl dX1_of_147 ?_
                refine lv_iload_n hx hb dX1_of_150 rfl (lv_at hl 1 rfl) ?_
                refine ix_iald hx hb hK hP 4 0 rfl rfl (show j < 640 by omega) (by decide) dX1_of_151 ?_
                exact wr_ret hx hb hr hlocks (by rw [hok, nI_clamp (by omega)]; show _ = mo_of S M C V j w; rw [mo_of, if_neg w_0, if_pos w_1]) (by rw [hok]) hP hK hD hS dX1_of_152
              by_cases w_2 : w = nI 2
              · refine lv_is w_2 ?_
                refine lv_tableIn (off := 55) (tgt := 153) hx hb dX1_of_98 (by decide) (by decide) rfl (by decide) ?_
                refine lv_aload_n hx hb dX1_of_153 rfl (lv_at hl 0 rfl) ?_
                refine va_get (D := (dC, dI)) (ci := 1) (v := .ref v) (C := RX1) (T := TX1) (N := 7) hx hb hts hinX1 hown hK hP 0 rfl rfl 6 (by decide) hf23 (fun _ h9 => h9) rfl dX1_of_154 ?_
                refine lv_iload_n hx hb dX1_of_157 rfl (lv_at hl 1 rfl) ?_
                refine ix_iald hx hb hK hP 5 0 rfl rfl (show j < 640 by omega) (by decide) dX1_of_158 ?_
                exact wr_ret hx hb hr hlocks (by rw [hok, nI_clamp (by omega)]; show _ = mo_of S M C V j w; rw [mo_of, if_neg w_0, if_neg w_1, if_pos w_2]) (by rw [hok]) hP hK hD hS dX1_of_159
              by_cases w_3 : w = nI 3
              · refine lv_is w_3 ?_
                refine lv_tableIn (off := 62) (tgt := 160) hx hb dX1_of_98 (by decide) (by decide) rfl (by decide) ?_
                refine lv_iload_n hx hb dX1_of_160 rfl (lv_at hl 3 rfl) ?_
                exact wr_ret hx hb hr hlocks (by rw [hok, nI_clamp (by omega)]; show _ = mo_of S M C V j w; rw [mo_of, if_neg w_0, if_neg w_1, if_neg w_2, if_pos w_3]) (by rw [hok]) hP hK hD hS dX1_of_161
              by_cases w_4 : w = nI 4
              · refine lv_is w_4 ?_
                refine lv_tableIn (off := 64) (tgt := 162) hx hb dX1_of_98 (by decide) (by decide) rfl (by decide) ?_
                refine lv_iload hx hb dX1_of_162 (lv_at hl 4 rfl) ?_
                exact wr_ret hx hb hr hlocks (by rw [hok, nI_clamp (by omega)]; show _ = mo_of S M C V j w; rw [mo_of, if_neg w_0, if_neg w_1, if_neg w_2, if_neg w_3, if_pos w_4]) (by rw [hok]) hP hK hD hS dX1_of_164
              by_cases w_5 : w = nI 5
              · refine lv_is w_5 ?_
                refine lv_tableIn (off := 67) (tgt := 165) hx hb dX1_of_98 (by decide) (by decide) rfl (by decide) ?_
                refine lv_aload_n hx hb dX1_of_165 rfl (lv_at hl 0 rfl) ?_
                refine va_get (D := (dC, dI)) (ci := 1) (v := .ref c9) (C := RX1) (T := TX1) (N := 7) hx hb hts hinX1 hown hK hP 0 rfl rfl 4 (by decide) hf17 (fun _ h9 => h9) rfl dX1_of_166 ?_
                refine lv_iload_n hx hb dX1_of_169 rfl (lv_at hl 1 rfl) ?_
                refine ix_iald hx hb hK hP 3 0 rfl rfl (show j < 640 by omega) (by decide) dX1_of_170 ?_
                exact wr_ret hx hb hr hlocks (by rw [hok, nI_clamp (by omega)]; show _ = mo_of S M C V j w; rw [mo_of, if_neg w_0, if_neg w_1, if_neg w_2, if_neg w_3, if_neg w_4, if_pos w_5]) (by rw [hok]) hP hK hD hS dX1_of_171
              by_cases w_6 : w = nI 6
              · refine lv_is w_6 ?_
                refine lv_tableIn (off := 74) (tgt := 172) hx hb dX1_of_98 (by decide) (by decide) rfl (by decide) ?_
                refine lv_aload_n hx hb dX1_of_172 rfl (lv_at hl 0 rfl) ?_
                refine lv_iload_n hx hb dX1_of_173 rfl (lv_at hl 1 rfl) ?_
                refine rd_callV (rest := []) ⟨hx, hb, hml, hown, hts⟩ (k_X1_isDead l dC dI cI y a b c9 d v (nI 0) N n M S C V j (by omega)) (cwV 1 hts gX1_of_X1_isDead rfl rfl rfl (by decide +kernel) ⟨Nat.le_of_ble_eq_true rfl, Nat.le_of_ble_eq_true rfl⟩) hK hP rfl (q0 := 0) rfl rfl hl.1 rfl (Nat.le_of_ble_eq_true rfl) dX1_of_174 ⟨Nat.zero_le _, Nat.zero_le _⟩ ?_
                refine lv_if_eq (tgt := 184) hx hb dX1_of_177 (by decide) (fun c_9 => ?_) (fun c_9 => ?_)
                · refine lv_iconst (v := nI 0) hx hb dX1_of_184 (by decide) ?_
                  exact wr_ret hx hb hr hlocks (by rw [hok, nI_clamp (by omega)]; show _ = mo_of S M C V j w; rw [mo_of, if_neg w_0, if_neg w_1, if_neg w_2, if_neg w_3, if_neg w_4, if_neg w_5, if_pos w_6, if_pos c_9]) (by rw [hok]) hP hK hD hS dX1_of_185
                · refine lv_iconst (v := nI 1) hx hb dX1_of_180 (by decide) ?_
                  refine lv_goto (tgt := 185) hx hb dX1_of_181 (by decide) ?_
                  exact wr_ret hx hb hr hlocks (by rw [hok, nI_clamp (by omega)]; show _ = mo_of S M C V j w; rw [mo_of, if_neg w_0, if_neg w_1, if_neg w_2, if_neg w_3, if_neg w_4, if_neg w_5, if_pos w_6, if_neg c_9]) (by rw [hok]) hP hK hD hS dX1_of_185
              have hOut : w.toInt < 0 ∨ 6 < w.toInt := by
                have q0 := lv_neT w_0 (show (nI 0).toInt = 0 from rfl)
                have q1 := lv_neT w_1 (show (nI 1).toInt = 1 from rfl)
                have q2 := lv_neT w_2 (show (nI 2).toInt = 2 from rfl)
                have q3 := lv_neT w_3 (show (nI 3).toInt = 3 from rfl)
                have q4 := lv_neT w_4 (show (nI 4).toInt = 4 from rfl)
                have q5 := lv_neT w_5 (show (nI 5).toInt = 5 from rfl)
                have q6 := lv_neT w_6 (show (nI 6).toInt = 6 from rfl)
                omega
              refine lv_tableOut (tgt := 186) hx hb dX1_of_98 hOut (by decide) ?_
              refine lv_bipush (v := nI 64) hx hb dX1_of_186 (by decide) ?_
              refine lv_aload_n hx hb dX1_of_188 rfl (lv_at hl 0 rfl) ?_
              refine lv_iload_n hx hb dX1_of_189 rfl (lv_at hl 1 rfl) ?_
              refine lv_iconst (v := nI 0) hx hb dX1_of_190 (by decide) ?_
              have hcnnI0 := mo_hm_le M j (nI 0) 64
              refine rd_callV (rest := [.int (nI 64)]) ⟨hx, hb, hml, hown, hts⟩ (k_X1_howMany l dC dI cI y a b c9 d v (nI 0) N n M S C V j (nI 0) (by omega)) (cwV 2 hts gX1_of_X1_howMany rfl rfl rfl (by decide +kernel) ⟨Nat.le_of_ble_eq_true rfl, Nat.le_of_ble_eq_true rfl⟩) hK hP rfl (q0 := 0) rfl rfl hl.1 rfl (Nat.le_of_ble_eq_true rfl) dX1_of_191 ⟨Nat.zero_le _, Nat.zero_le _⟩ ?_
              refine lv_isub hx hb dX1_of_194 ?_
              refine lv_is (pk_sub (by omega)) ?_
              exact wr_ret hx hb hr hlocks (by rw [hok, nI_clamp (by omega)]; show _ = mo_of S M C V j w; rw [mo_of, if_neg w_0, if_neg w_1, if_neg w_2, if_neg w_3, if_neg w_4, if_neg w_5, if_neg w_6]) (by rw [hok]) hP hK hD hS dX1_of_195
            · have c_8 : ¬ (j ≤ i) := fun h => c_8 ((nI_leI (show j < 2 ^ 31 by omega) (show i < 2 ^ 31 by omega)).mpr h)
              have hfl := mo_fi_le S M j i
              refine lv_aload_n hx hb dX1_of_50 rfl (lv_at hl 0 rfl) ?_
              refine lv_iload_n hx hb dX1_of_51 rfl (lv_at hl 1 rfl) ?_
              refine lv_iload hx hb dX1_of_52 (lv_at hl 5 rfl) ?_
              refine rd_callV (rest := []) ⟨hx, hb, hml, hown, hts⟩ (k_X1_isSame l dC dI cI y a b c9 d v (nI 0) N n M S C V j i (by omega) (by omega)) (cwV 2 hts gX1_of_X1_isSame rfl rfl rfl (by decide +kernel) ⟨Nat.le_of_ble_eq_true rfl, Nat.le_of_ble_eq_true rfl⟩) hK hP rfl (q0 := 0) rfl rfl hl.1 rfl (Nat.le_of_ble_eq_true rfl) dX1_of_54 ⟨Nat.zero_le _, Nat.zero_le _⟩ ?_
              refine lv_istore (lv' := [(6, .int (mo_sm S M j i 64)), (0, .ref y), (1, .int (nI j)), (2, .int w), (3, .int (nI (mo_fi S M j i))), (4, .int (mo_be S M j i)), (5, .int (nI i))]) hx hb dX1_of_57 hl (by decide) rfl (fun ls hl => ?_)
              refine lv_iload hx hb dX1_of_59 (lv_at hl 0 rfl) ?_
              refine lv_if_eq (tgt := 75) hx hb dX1_of_61 (by decide) (fun c_10 => ?_) (fun c_10 => ?_)
              · refine lv_iload_n hx hb dX1_of_75 rfl (lv_at hl 4 rfl) ?_
                refine lv_istore_n (lv' := [(3, .int (nI (mo_fi S M j i))), (6, .int (mo_sm S M j i 64)), (0, .ref y), (1, .int (nI j)), (2, .int w), (4, .int (mo_be S M j i)), (5, .int (nI i))]) hx hb dX1_of_76 rfl hl (by decide) rfl (fun ls hl => ?_)
                refine lv_iload hx hb dX1_of_77 (lv_at hl 1 rfl) ?_
                refine lv_if_eq (tgt := 87) hx hb dX1_of_79 (by decide) (fun c_11 => ?_) (fun c_11 => ?_)
                · refine lv_iload hx hb dX1_of_87 (lv_at hl 5 rfl) ?_
                  refine lv_istore (lv' := [(4, .int (mo_be S M j i)), (3, .int (nI (mo_fi S M j i))), (6, .int (mo_sm S M j i 64)), (0, .ref y), (1, .int (nI j)), (2, .int w), (5, .int (nI i))]) hx hb dX1_of_89 hl (by decide) rfl (fun ls hl => ?_)
                  refine lv_iinc (v := nI (i + 1)) (lv' := [(5, .int (nI (i + 1))), (4, .int (mo_be S M j i)), (3, .int (nI (mo_fi S M j i))), (6, .int (mo_sm S M j i 64)), (0, .ref y), (1, .int (nI j)), (2, .int w)]) hx hb dX1_of_91 hl (k := 6) rfl (nI_1 _) (by decide) rfl (fun ls hl => ?_)
                  refine lv_goto (tgt := 44) hx hb dX1_of_94 (by decide) ?_
                  have e1 : mo_fi S M j i = mo_fi S M j (i + 1) := by rw [mo_fi, if_pos c_10]
                  have e2 : mo_be S M j i = mo_be S M j (i + 1) := by rw [mo_be, if_pos c_10]
                  replace hl : lv_has ls 7 [(5, .int (nI (i + 1))), (4, .int (mo_be S M j (i + 1))), (3, .int (nI (mo_fi S M j (i + 1)))), (6, .int (mo_sm S M j i 64)), (0, .ref y), (1, .int (nI j)), (2, .int w)] := by rw [← e1, ← e2]; exact hl
                  exact ihi _ _ (lv_sub hl [4, 5, 6, 2, 1, 0] rfl) (by omega) (by omega)
                · exact absurd c_10 c_11
              · refine lv_iload hx hb dX1_of_64 (lv_at hl 6 rfl) ?_
                refine lv_iload_n hx hb dX1_of_66 rfl (lv_at hl 4 rfl) ?_
                refine lv_icmp_ge (tgt := 75) hx hb dX1_of_67 (by decide) (fun c_12 => ?_) (fun c_12 => ?_)
                · have c_12 : (mo_fi S M j i) ≤ i := (nI_leI (show mo_fi S M j i < 2 ^ 31 by omega) (show i < 2 ^ 31 by omega)).mp c_12
                  refine lv_iload_n hx hb dX1_of_75 rfl (lv_at hl 4 rfl) ?_
                  refine lv_istore_n (lv' := [(3, .int (nI (mo_fi S M j i))), (6, .int (mo_sm S M j i 64)), (0, .ref y), (1, .int (nI j)), (2, .int w), (4, .int (mo_be S M j i)), (5, .int (nI i))]) hx hb dX1_of_76 rfl hl (by decide) rfl (fun ls hl => ?_)
                  refine lv_iload hx hb dX1_of_77 (lv_at hl 1 rfl) ?_
                  refine lv_if_eq (tgt := 87) hx hb dX1_of_79 (by decide) (fun c_13 => ?_) (fun c_13 => ?_)
                  · exact absurd c_13 c_10
                  · refine lv_iload hx hb dX1_of_82 (lv_at hl 6 rfl) ?_
                    refine lv_goto (tgt := 89) hx hb dX1_of_84 (by decide) ?_
                    refine lv_istore (lv' := [(4, .int (nI i)), (3, .int (nI (mo_fi S M j i))), (6, .int (mo_sm S M j i 64)), (0, .ref y), (1, .int (nI j)), (2, .int w), (5, .int (nI i))]) hx hb dX1_of_89 hl (by decide) rfl (fun ls hl => ?_)
                    refine lv_iinc (v := nI (i + 1)) (lv' := [(5, .int (nI (i + 1))), (4, .int (nI i)), (3, .int (nI (mo_fi S M j i))), (6, .int (mo_sm S M j i 64)), (0, .ref y), (1, .int (nI j)), (2, .int w)]) hx hb dX1_of_91 hl (k := 6) rfl (nI_1 _) (by decide) rfl (fun ls hl => ?_)
                    refine lv_goto (tgt := 44) hx hb dX1_of_94 (by decide) ?_
                    have e1 : mo_fi S M j i = mo_fi S M j (i + 1) := by rw [mo_fi, if_neg c_10, if_pos c_12]
                    have e2 : nI i = mo_be S M j (i + 1) := by rw [mo_be, if_neg c_10]
                    replace hl : lv_has ls 7 [(5, .int (nI (i + 1))), (4, .int (mo_be S M j (i + 1))), (3, .int (nI (mo_fi S M j (i + 1)))), (6, .int (mo_sm S M j i 64)), (0, .ref y), (1, .int (nI j)), (2, .int w)] := by rw [← e1, ← e2]; exact hl
                    exact ihi _ _ (lv_sub hl [4, 5, 6, 2, 1, 0] rfl) (by omega) (by omega)
                · have c_12 : ¬ ((mo_fi S M j i) ≤ i) := fun h => c_12 ((nI_leI (show mo_fi S M j i < 2 ^ 31 by omega) (show i < 2 ^ 31 by omega)).mpr h)
                  refine lv_iload hx hb dX1_of_70 (lv_at hl 6 rfl) ?_
                  refine lv_goto (tgt := 76) hx hb dX1_of_72 (by decide) ?_
                  refine lv_istore_n (lv' := [(3, .int (nI i)), (6, .int (mo_sm S M j i 64)), (0, .ref y), (1, .int (nI j)), (2, .int w), (4, .int (mo_be S M j i)), (5, .int (nI i))]) hx hb dX1_of_76 rfl hl (by decide) rfl (fun ls hl => ?_)
                  refine lv_iload hx hb dX1_of_77 (lv_at hl 1 rfl) ?_
                  refine lv_if_eq (tgt := 87) hx hb dX1_of_79 (by decide) (fun c_14 => ?_) (fun c_14 => ?_)
                  · exact absurd c_14 c_10
                  · refine lv_iload hx hb dX1_of_82 (lv_at hl 6 rfl) ?_
                    refine lv_goto (tgt := 89) hx hb dX1_of_84 (by decide) ?_
                    refine lv_istore (lv' := [(4, .int (nI i)), (3, .int (nI i)), (6, .int (mo_sm S M j i 64)), (0, .ref y), (1, .int (nI j)), (2, .int w), (5, .int (nI i))]) hx hb dX1_of_89 hl (by decide) rfl (fun ls hl => ?_)
                    refine lv_iinc (v := nI (i + 1)) (lv' := [(5, .int (nI (i + 1))), (4, .int (nI i)), (3, .int (nI i)), (6, .int (mo_sm S M j i 64)), (0, .ref y), (1, .int (nI j)), (2, .int w)]) hx hb dX1_of_91 hl (k := 6) rfl (nI_1 _) (by decide) rfl (fun ls hl => ?_)
                    refine lv_goto (tgt := 44) hx hb dX1_of_94 (by decide) ?_
                    have e1 : i = mo_fi S M j (i + 1) := by rw [mo_fi, if_neg c_10, if_neg c_12]
                    have e2 : nI i = mo_be S M j (i + 1) := by rw [mo_be, if_neg c_10]
                    replace hl : lv_has ls 7 [(5, .int (nI (i + 1))), (4, .int (mo_be S M j (i + 1))), (3, .int (nI (mo_fi S M j (i + 1)))), (6, .int (mo_sm S M j i 64)), (0, .ref y), (1, .int (nI j)), (2, .int w)] := by rw [← e1, ← e2]; exact hl
                    exact ihi _ _ (lv_sub hl [4, 5, 6, 2, 1, 0] rfl) (by omega) (by omega)
        · exact absurd (by decide) c_7
set_option maxHeartbeats 4000000 in
set_option maxRecDepth 100000 in
theorem k_X1_men (l : Launch) (dC : Nat → ClassId) (dI : Nat → Nat → Nat) (cI : ClassId) (y a b c9 d v : Nat) (th : Int32) (N : Nat → Int32) (n : Nat) (M S C V : Nat → Int32) (i q : Int32) (sz : Nat) (hn : n ≤ 640) : Met l yX1_men wsX1_men ({ frames := 1, cells := 0, slots := 0, locals := 21 } : Room) (wr (dC, dI) (wM cI y a b c9 d v th N n M S C V) (tM cI) sz [.ref y, .int i, .int q]) (wrL (dC, dI) (wM cI y a b c9 d v (nI (mo_okM n i q)) N n M S C V) (tM cI) (va_A (wM cI y a b c9 d v th N n M S C V) sz) (fun r => r = sel (mo_okM n i q) (mo_mn M i.toNatClampNeg q.toNatClampNeg 16) 0)) 0 0 (va_A (wM cI y a b c9 d v th N n M S C V) sz) := by
  refine Met.ofW (cc := cX1_men) (maxL := 6) (ret := (some .long)) (by decide) rfl ?_
  intro p e s m args below meth c s₁ B hml hv
  obtain ⟨rfl, hsz, hP, hK, hD0⟩ := hv
  have hx := B.exec
  have hb := B.bytes
  have hr := B.returns
  have hts := atoms_spec (ws := wsX1_men) B.pre
  have hown : s.vm.findClass RX1 = some m.cls := findClass_of_methodNamed B.named
  have hlocks := B.notSynchronized
  have hinX1 : ∀ w ∈ u_ws RX1 TX1 7, w ∈ wsX1_men := by decide +kernel
  have hf14 := hts (.fieldLink RX1 14 "GameArbiterModel" "men" "[I") (by decide +kernel)
  have hf26 := hts (.fieldLink RX1 26 "GameArbiterModel" "thrown" "I") (by decide +kernel)
  have hl := lv_entry ([.ref y, .int i, .int q]) (n := 6) (Nat.le_of_ble_eq_true rfl)
  rw [lg_entry_eq]
  generalize (lg_sl ([.ref y, .int i, .int q]) ++ List.replicate (6 - (lg_sl ([.ref y, .int i, .int q])).length) Slot.unset).toArray = ls at hl ⊢
  replace hl : lv_has ls 6 [(0, .ref y), (1, .int i), (2, .int q)] := hl
  subst hsz
  have hD := hD0.self (sz := s.heap.size)
  generalize hAe : va_A (wM cI y a b c9 d v th N n M S C V) s.heap.size = A at hD ⊢
  have hA : ∀ q : Nat, s.heap.size ≤ q → A q := fun q h => by rw [← hAe]; exact Or.inr h
  have hS : va_S A s.heap s.heap [] := va_S.rf
  replace hP : va_P (dC, dI) vwCl [(y, .inr (1, [.int th, .ref a, .int (nI n), .ref b, .ref c9, .ref d, .ref v])), (a, .inl (cI, 64, .inl N)), (b, .inl (cI, 40960, .inl M)), (c9, .inl (cI, 640, .inl S)), (d, .inl (cI, 640, .inl C)), (v, .inl (cI, 640, .inl V))] s.heap := hP
  replace hD : va_D A [(y, .inr (1, [.int th, .ref a, .int (nI n), .ref b, .ref c9, .ref d, .ref v])), (a, .inl (cI, 64, .inl N)), (b, .inl (cI, 40960, .inl M)), (c9, .inl (cI, 640, .inl S)), (d, .inl (cI, 640, .inl C)), (v, .inl (cI, 640, .inl V))] := hD
  refine lv_aload_n hx hb dX1_men_0 rfl (lv_at hl 0 rfl) ?_
  refine lv_aload_n hx hb dX1_men_1 rfl (lv_at hl 0 rfl) ?_
  refine lv_iload_n hx hb dX1_men_2 rfl (lv_at hl 1 rfl) ?_
  refine rd_callV (rest := [.ref y]) ⟨hx, hb, hml, hown, hts⟩ (k_X1_isIn l dC dI cI y a b c9 d v th N n M S C V i) (cwV 1 hts gX1_men_X1_isIn rfl rfl rfl (by decide +kernel) ⟨Nat.le_of_ble_eq_true rfl, Nat.le_of_ble_eq_true rfl⟩) hK hP rfl (q0 := 0) rfl rfl hl.1 rfl (Nat.le_of_ble_eq_true rfl) dX1_men_3 ⟨Nat.zero_le _, Nat.zero_le _⟩ ?_
  refine lv_if_eq (tgt := 22) hx hb dX1_men_6 (by decide) (fun c_1 => ?_) (fun c_1 => ?_)
  · refine lv_iconst (v := nI 1) hx hb dX1_men_22 (by decide) ?_
    refine va_put (D := (dC, dI)) (ci := 1) (v := .int (nI 1)) (ty := .int) (C := RX1) (T := TX1) (N := 7) hx hb hts hinX1 tyX1 tyX1_ok nmX1 hown hK hP hD hS 0 rfl rfl 0 (by decide) hf26 (fun _ h9 => h9) rfl (by decide +kernel) rfl rfl (Nat.le_of_ble_eq_true rfl) dX1_men_23 (fun H locs hP hD hS => ?_)
    replace hP : va_P (dC, dI) vwCl [(y, .inr (1, [.int (nI 1), .ref a, .int (nI n), .ref b, .ref c9, .ref d, .ref v])), (a, .inl (cI, 64, .inl N)), (b, .inl (cI, 40960, .inl M)), (c9, .inl (cI, 640, .inl S)), (d, .inl (cI, 640, .inl C)), (v, .inl (cI, 640, .inl V))] H := hP
    replace hD : va_D A [(y, .inr (1, [.int (nI 1), .ref a, .int (nI n), .ref b, .ref c9, .ref d, .ref v])), (a, .inl (cI, 64, .inl N)), (b, .inl (cI, 40960, .inl M)), (c9, .inl (cI, 640, .inl S)), (d, .inl (cI, 640, .inl C)), (v, .inl (cI, 640, .inl V))] := hD
    have hok : mo_okM n i q = 1 := by rw [mo_okM, if_pos c_1]
    refine lv_aload_n hx hb dX1_men_26 rfl (lv_at hl 0 rfl) ?_
    refine va_get (D := (dC, dI)) (ci := 1) (v := .int (nI 1)) (C := RX1) (T := TX1) (N := 7) hx hb hts hinX1 hown hK hP 0 rfl rfl 0 (by decide) hf26 (fun _ h9 => h9) rfl dX1_men_27 ?_
    refine lv_if_le (tgt := 35) hx hb dX1_men_30 (by decide) (fun c_2 => ?_) (fun c_2 => ?_)
    · exact absurd c_2 (by decide)
    · refine lv_lconst (v := 0) hx hb dX1_men_33 (by decide) ?_
      exact wr_retl hx hb hr hlocks (by rw [hok]; rfl) (by rw [hok]) hP hK hD hS dX1_men_34
  · obtain ⟨j, hj, rfl⟩ := ga_isPos_nat hn c_1
    refine lv_iload_n hx hb dX1_men_9 rfl (lv_at hl 2 rfl) ?_
    refine lv_if_lt (tgt := 22) hx hb dX1_men_10 (by decide) (fun c_3 => ?_) (fun c_3 => ?_)
    · refine lv_iconst (v := nI 1) hx hb dX1_men_22 (by decide) ?_
      refine va_put (D := (dC, dI)) (ci := 1) (v := .int (nI 1)) (ty := .int) (C := RX1) (T := TX1) (N := 7) hx hb hts hinX1 tyX1 tyX1_ok nmX1 hown hK hP hD hS 0 rfl rfl 0 (by decide) hf26 (fun _ h9 => h9) rfl (by decide +kernel) rfl rfl (Nat.le_of_ble_eq_true rfl) dX1_men_23 (fun H locs hP hD hS => ?_)
      replace hP : va_P (dC, dI) vwCl [(y, .inr (1, [.int (nI 1), .ref a, .int (nI n), .ref b, .ref c9, .ref d, .ref v])), (a, .inl (cI, 64, .inl N)), (b, .inl (cI, 40960, .inl M)), (c9, .inl (cI, 640, .inl S)), (d, .inl (cI, 640, .inl C)), (v, .inl (cI, 640, .inl V))] H := hP
      replace hD : va_D A [(y, .inr (1, [.int (nI 1), .ref a, .int (nI n), .ref b, .ref c9, .ref d, .ref v])), (a, .inl (cI, 64, .inl N)), (b, .inl (cI, 40960, .inl M)), (c9, .inl (cI, 640, .inl S)), (d, .inl (cI, 640, .inl C)), (v, .inl (cI, 640, .inl V))] := hD
      have hok : mo_okM n (nI j) q = 1 := by rw [mo_okM, if_neg c_1, if_pos c_3]
      refine lv_aload_n hx hb dX1_men_26 rfl (lv_at hl 0 rfl) ?_
      refine va_get (D := (dC, dI)) (ci := 1) (v := .int (nI 1)) (C := RX1) (T := TX1) (N := 7) hx hb hts hinX1 hown hK hP 0 rfl rfl 0 (by decide) hf26 (fun _ h9 => h9) rfl dX1_men_27 ?_
      refine lv_if_le (tgt := 35) hx hb dX1_men_30 (by decide) (fun c_4 => ?_) (fun c_4 => ?_)
      · exact absurd c_4 (by decide)
      · refine lv_lconst (v := 0) hx hb dX1_men_33 (by decide) ?_
        exact wr_retl hx hb hr hlocks (by rw [hok]; rfl) (by rw [hok]) hP hK hD hS dX1_men_34
    · refine lv_iload_n hx hb dX1_men_13 rfl (lv_at hl 2 rfl) ?_
      refine lv_iconst (v := nI 3) hx hb dX1_men_14 (by decide) ?_
      refine lv_icmp_gt (tgt := 22) hx hb dX1_men_15 (by decide) (fun c_5 => ?_) (fun c_5 => ?_)
      · refine lv_iconst (v := nI 1) hx hb dX1_men_22 (by decide) ?_
        refine va_put (D := (dC, dI)) (ci := 1) (v := .int (nI 1)) (ty := .int) (C := RX1) (T := TX1) (N := 7) hx hb hts hinX1 tyX1 tyX1_ok nmX1 hown hK hP hD hS 0 rfl rfl 0 (by decide) hf26 (fun _ h9 => h9) rfl (by decide +kernel) rfl rfl (Nat.le_of_ble_eq_true rfl) dX1_men_23 (fun H locs hP hD hS => ?_)
        replace hP : va_P (dC, dI) vwCl [(y, .inr (1, [.int (nI 1), .ref a, .int (nI n), .ref b, .ref c9, .ref d, .ref v])), (a, .inl (cI, 64, .inl N)), (b, .inl (cI, 40960, .inl M)), (c9, .inl (cI, 640, .inl S)), (d, .inl (cI, 640, .inl C)), (v, .inl (cI, 640, .inl V))] H := hP
        replace hD : va_D A [(y, .inr (1, [.int (nI 1), .ref a, .int (nI n), .ref b, .ref c9, .ref d, .ref v])), (a, .inl (cI, 64, .inl N)), (b, .inl (cI, 40960, .inl M)), (c9, .inl (cI, 640, .inl S)), (d, .inl (cI, 640, .inl C)), (v, .inl (cI, 640, .inl V))] := hD
        have hok : mo_okM n (nI j) q = 1 := by rw [mo_okM, if_neg c_1, if_neg c_3, if_pos c_5]
        refine lv_aload_n hx hb dX1_men_26 rfl (lv_at hl 0 rfl) ?_
        refine va_get (D := (dC, dI)) (ci := 1) (v := .int (nI 1)) (C := RX1) (T := TX1) (N := 7) hx hb hts hinX1 hown hK hP 0 rfl rfl 0 (by decide) hf26 (fun _ h9 => h9) rfl dX1_men_27 ?_
        refine lv_if_le (tgt := 35) hx hb dX1_men_30 (by decide) (fun c_6 => ?_) (fun c_6 => ?_)
        · exact absurd c_6 (by decide)
        · refine lv_lconst (v := 0) hx hb dX1_men_33 (by decide) ?_
          exact wr_retl hx hb hr hlocks (by rw [hok]; rfl) (by rw [hok]) hP hK hD hS dX1_men_34
      · obtain ⟨jb, hjb, rfl⟩ := nI_of c_3
        have hj3 : jb ≤ 3 := by
          rcases Nat.lt_or_ge 3 jb with q | q
          · exact absurd (nI_lt q hjb) c_5
          · exact q
        refine lv_iconst (v := nI 0) hx hb dX1_men_18 (by decide) ?_
        refine lv_goto (tgt := 23) hx hb dX1_men_19 (by decide) ?_
        refine va_put (D := (dC, dI)) (ci := 1) (v := .int (nI 0)) (ty := .int) (C := RX1) (T := TX1) (N := 7) hx hb hts hinX1 tyX1 tyX1_ok nmX1 hown hK hP hD hS 0 rfl rfl 0 (by decide) hf26 (fun _ h9 => h9) rfl (by decide +kernel) rfl rfl (Nat.le_of_ble_eq_true rfl) dX1_men_23 (fun H locs hP hD hS => ?_)
        replace hP : va_P (dC, dI) vwCl [(y, .inr (1, [.int (nI 0), .ref a, .int (nI n), .ref b, .ref c9, .ref d, .ref v])), (a, .inl (cI, 64, .inl N)), (b, .inl (cI, 40960, .inl M)), (c9, .inl (cI, 640, .inl S)), (d, .inl (cI, 640, .inl C)), (v, .inl (cI, 640, .inl V))] H := hP
        replace hD : va_D A [(y, .inr (1, [.int (nI 0), .ref a, .int (nI n), .ref b, .ref c9, .ref d, .ref v])), (a, .inl (cI, 64, .inl N)), (b, .inl (cI, 40960, .inl M)), (c9, .inl (cI, 640, .inl S)), (d, .inl (cI, 640, .inl C)), (v, .inl (cI, 640, .inl V))] := hD
        have hok : mo_okM n (nI j) (nI jb) = 0 := by rw [mo_okM, if_neg c_1, if_neg c_3, if_neg c_5]
        refine lv_aload_n hx hb dX1_men_26 rfl (lv_at hl 0 rfl) ?_
        refine va_get (D := (dC, dI)) (ci := 1) (v := .int (nI 0)) (C := RX1) (T := TX1) (N := 7) hx hb hts hinX1 hown hK hP 0 rfl rfl 0 (by decide) hf26 (fun _ h9 => h9) rfl dX1_men_27 ?_
        refine lv_if_le (tgt := 35) hx hb dX1_men_30 (by decide) (fun c_7 => ?_) (fun c_7 => ?_)
        · refine lv_lconst (v := 0) hx hb dX1_men_35 (by decide) ?_
          refine lv_lstore_n (lv' := [(3, .long 0), (0, .ref y), (1, .int (nI j)), (2, .int (nI jb))]) hx hb dX1_men_36 rfl hl (by decide) rfl (fun ls hl => ?_)
          refine lv_iconst (v := nI 0) hx hb dX1_men_37 (by decide) ?_
          refine lv_istore (lv' := [(5, .int (nI 0)), (3, .long 0), (0, .ref y), (1, .int (nI j)), (2, .int (nI jb))]) hx hb dX1_men_38 hl (by decide) rfl (fun ls hl => ?_)
          obtain ⟨i, hi0⟩ : ∃ i : Nat, i = 0 := ⟨0, rfl⟩
          replace hl := lv_sub hl [2, 3, 4, 1, 0] rfl
          replace hl : lv_has ls 6 [(0, .ref y), (1, .int (nI j)), (2, .int (nI jb)), (3, .long (mo_mn M j jb i)), (5, .int (nI i))] := by rw [hi0]; exact hl
          have hib : i ≤ 16 := by omega
          clear hi0
          obtain ⟨zi, hzi⟩ : ∃ z : Nat, 16 < i + z := ⟨16 + 1, by omega⟩
          induction zi generalizing i ls with
          | zero => exact absurd hzi (by omega)
          | succ zi ihi =>
            refine lv_iload hx hb dX1_men_40 (lv_at hl 4 rfl) ?_
            refine lv_bipush (v := nI 16) hx hb dX1_men_42 (by decide) ?_
            refine lv_icmp_ge (tgt := 76) hx hb dX1_men_44 (by decide) (fun c_8 => ?_) (fun c_8 => ?_)
            · have c_8 : 16 ≤ i := (nI_leI (show 16 < 2 ^ 31 by omega) (show i < 2 ^ 31 by omega)).mp c_8
              refine lv_lload_n hx hb dX1_men_76 rfl (lv_at hl 3 rfl) ?_
              exact wr_retl hx hb hr hlocks (by rw [hok, nI_clamp (by omega), nI_clamp (by omega), show i = 16 by omega]; rfl) (by rw [hok]) hP hK hD hS dX1_men_77
            · have c_8 : ¬ (16 ≤ i) := fun h => c_8 ((nI_leI (show 16 < 2 ^ 31 by omega) (show i < 2 ^ 31 by omega)).mpr h)
              refine lv_lload_n hx hb dX1_men_47 rfl (lv_at hl 3 rfl) ?_
              refine lv_iconst (v := nI 4) hx hb dX1_men_48 (by decide) ?_
              refine lv_lshl (v := (mo_mn M j jb i) <<< ((nI 4).toInt64 &&& 63)) hx hb dX1_men_49 rfl ?_
              refine lv_aload_n hx hb dX1_men_50 rfl (lv_at hl 0 rfl) ?_
              refine va_get (D := (dC, dI)) (ci := 1) (v := .ref b) (C := RX1) (T := TX1) (N := 7) hx hb hts hinX1 hown hK hP 0 rfl rfl 3 (by decide) hf14 (fun _ h9 => h9) rfl dX1_men_51 ?_
              refine lv_bipush (v := nI 64) hx hb dX1_men_54 (by decide) ?_
              refine lv_iload_n hx hb dX1_men_56 rfl (lv_at hl 1 rfl) ?_
              refine lv_imul hx hb dX1_men_57 ?_
              refine lv_is (pk_mul _ _) ?_
              refine lv_bipush (v := nI 16) hx hb dX1_men_58 (by decide) ?_
              refine lv_iload_n hx hb dX1_men_60 rfl (lv_at hl 2 rfl) ?_
              refine lv_imul hx hb dX1_men_61 ?_
              refine lv_is (pk_mul _ _) ?_
              refine lv_iadd hx hb dX1_men_62 ?_
              refine lv_is (nI_add _ _) ?_
              refine lv_iload hx hb dX1_men_63 (lv_at hl 4 rfl) ?_
              refine lv_iadd hx hb dX1_men_65 ?_
              refine lv_is (nI_add _ _) ?_
              refine ix_iald hx hb hK hP 2 0 rfl rfl (show ((64 * j) + (16 * jb)) + i < 40960 by omega) (by decide) dX1_men_66 ?_
              refine lv_i2l (v := (M (((64 * j) + (16 * jb)) + i)).toInt64) hx hb dX1_men_67 rfl ?_
              refine lv_lor hx hb dX1_men_68 ?_
              refine lv_isl (y := mo_mn M j jb (i + 1)) rfl ?_
              refine lv_lstore_n (lv' := [(3, .long (mo_mn M j jb (i + 1))), (0, .ref y), (1, .int (nI j)), (2, .int (nI jb)), (5, .int (nI i))]) hx hb dX1_men_69 rfl hl (by decide) rfl (fun ls hl => ?_)
              refine lv_iinc (v := nI (i + 1)) (lv' := [(5, .int (nI (i + 1))), (3, .long (mo_mn M j jb (i + 1))), (0, .ref y), (1, .int (nI j)), (2, .int (nI jb))]) hx hb dX1_men_70 hl (k := 4) rfl (nI_1 _) (by decide) rfl (fun ls hl => ?_)
              refine lv_goto (tgt := 40) hx hb dX1_men_73 (by decide) ?_
              exact ihi _ _ (lv_sub hl [2, 3, 4, 1, 0] rfl) (by omega) (by omega)
        · exact absurd (by decide) c_7
set_option maxHeartbeats 4000000 in
set_option maxRecDepth 100000 in
theorem k_X1_times (l : Launch) (dC : Nat → ClassId) (dI : Nat → Nat → Nat) (cI : ClassId) (y a b c9 d v : Nat) (th : Int32) (N : Nat → Int32) (n : Nat) (M S C V : Nat → Int32) (q : Int32) (sz : Nat) (hn : n ≤ 640) : Met l yX1_times wsX1_times ({ frames := 1, cells := 0, slots := 0, locals := 24 } : Room) (wr (dC, dI) (wM cI y a b c9 d v th N n M S C V) (tM cI) sz [.ref y, .int q]) (wrQ (dC, dI) (wM cI y a b c9 d v (nI (mo_okT q)) N n M S C V) (tM cI) (va_A (wM cI y a b c9 d v th N n M S C V) sz) (fun r => r = sel (mo_okT q) (nI (mo_tm S M N q n)) (nI 0))) 0 0 (va_A (wM cI y a b c9 d v th N n M S C V) sz) := by
  refine Met.ofW (cc := cX1_times) (maxL := 4) (ret := (some .int)) (by decide) rfl ?_
  intro p e s m args below meth c s₁ B hml hv
  obtain ⟨rfl, hsz, hP, hK, hD0⟩ := hv
  have hx := B.exec
  have hb := B.bytes
  have hr := B.returns
  have hts := atoms_spec (ws := wsX1_times) B.pre
  have hown : s.vm.findClass RX1 = some m.cls := findClass_of_methodNamed B.named
  have hlocks := B.notSynchronized
  have hinX1 : ∀ w ∈ u_ws RX1 TX1 7, w ∈ wsX1_times := by decide +kernel
  have hf26 := hts (.fieldLink RX1 26 "GameArbiterModel" "thrown" "I") (by decide +kernel)
  have hf53 := hts (.fieldLink RX1 53 "GameArbiterModel" "many" "I") (by decide +kernel)
  have hl := lv_entry ([.ref y, .int q]) (n := 4) (Nat.le_of_ble_eq_true rfl)
  rw [lg_entry_eq]
  generalize (lg_sl ([.ref y, .int q]) ++ List.replicate (4 - (lg_sl ([.ref y, .int q])).length) Slot.unset).toArray = ls at hl ⊢
  replace hl : lv_has ls 4 [(0, .ref y), (1, .int q)] := hl
  subst hsz
  have hD := hD0.self (sz := s.heap.size)
  generalize hAe : va_A (wM cI y a b c9 d v th N n M S C V) s.heap.size = A at hD ⊢
  have hA : ∀ q : Nat, s.heap.size ≤ q → A q := fun q h => by rw [← hAe]; exact Or.inr h
  have hS : va_S A s.heap s.heap [] := va_S.rf
  replace hP : va_P (dC, dI) vwCl [(y, .inr (1, [.int th, .ref a, .int (nI n), .ref b, .ref c9, .ref d, .ref v])), (a, .inl (cI, 64, .inl N)), (b, .inl (cI, 40960, .inl M)), (c9, .inl (cI, 640, .inl S)), (d, .inl (cI, 640, .inl C)), (v, .inl (cI, 640, .inl V))] s.heap := hP
  replace hD : va_D A [(y, .inr (1, [.int th, .ref a, .int (nI n), .ref b, .ref c9, .ref d, .ref v])), (a, .inl (cI, 64, .inl N)), (b, .inl (cI, 40960, .inl M)), (c9, .inl (cI, 640, .inl S)), (d, .inl (cI, 640, .inl C)), (v, .inl (cI, 640, .inl V))] := hD
  refine lv_aload_n hx hb dX1_times_0 rfl (lv_at hl 0 rfl) ?_
  refine lv_iload_n hx hb dX1_times_1 rfl (lv_at hl 1 rfl) ?_
  refine pu_callS (rest := [.ref y]) ⟨hx, hb, hml, hown, hts⟩ (k_X1_isState l q) (va_cwS 1 hts gX1_times_X1_isState rfl rfl rfl (by decide +kernel) ⟨Nat.le_of_ble_eq_true rfl, Nat.le_of_ble_eq_true rfl⟩) rfl hl.1 rfl (Nat.le_of_ble_eq_true rfl) dX1_times_2 ⟨Nat.zero_le _, Nat.zero_le _⟩ ?_
  refine lv_if_eq (tgt := 12) hx hb dX1_times_5 (by decide) (fun c_1 => ?_) (fun c_1 => ?_)
  · refine lv_iconst (v := nI 1) hx hb dX1_times_12 (by decide) ?_
    refine va_put (D := (dC, dI)) (ci := 1) (v := .int (nI 1)) (ty := .int) (C := RX1) (T := TX1) (N := 7) hx hb hts hinX1 tyX1 tyX1_ok nmX1 hown hK hP hD hS 0 rfl rfl 0 (by decide) hf26 (fun _ h9 => h9) rfl (by decide +kernel) rfl rfl (Nat.le_of_ble_eq_true rfl) dX1_times_13 (fun H locs hP hD hS => ?_)
    replace hP : va_P (dC, dI) vwCl [(y, .inr (1, [.int (nI 1), .ref a, .int (nI n), .ref b, .ref c9, .ref d, .ref v])), (a, .inl (cI, 64, .inl N)), (b, .inl (cI, 40960, .inl M)), (c9, .inl (cI, 640, .inl S)), (d, .inl (cI, 640, .inl C)), (v, .inl (cI, 640, .inl V))] H := hP
    replace hD : va_D A [(y, .inr (1, [.int (nI 1), .ref a, .int (nI n), .ref b, .ref c9, .ref d, .ref v])), (a, .inl (cI, 64, .inl N)), (b, .inl (cI, 40960, .inl M)), (c9, .inl (cI, 640, .inl S)), (d, .inl (cI, 640, .inl C)), (v, .inl (cI, 640, .inl V))] := hD
    have hok : mo_okT q = 1 := by rw [mo_okT, if_pos c_1]
    refine lv_iconst (v := nI 0) hx hb dX1_times_16 (by decide) ?_
    refine lv_istore_n (lv' := [(2, .int (nI 0)), (0, .ref y), (1, .int q)]) hx hb dX1_times_17 rfl hl (by decide) rfl (fun ls hl => ?_)
    refine lv_iconst (v := nI 0) hx hb dX1_times_18 (by decide) ?_
    refine lv_istore_n (lv' := [(3, .int (nI 0)), (2, .int (nI 0)), (0, .ref y), (1, .int q)]) hx hb dX1_times_19 rfl hl (by decide) rfl (fun ls hl => ?_)
    refine lv_iload_n hx hb dX1_times_20 rfl (lv_at hl 0 rfl) ?_
    refine lv_aload_n hx hb dX1_times_21 rfl (lv_at hl 2 rfl) ?_
    refine va_get (D := (dC, dI)) (ci := 1) (v := .int (nI n)) (C := RX1) (T := TX1) (N := 7) hx hb hts hinX1 hown hK hP 0 rfl rfl 2 (by decide) hf53 (fun _ h9 => h9) rfl dX1_times_22 ?_
    refine lv_icmp_ge (tgt := 58) hx hb dX1_times_25 (by decide) (fun c_2 => ?_) (fun c_2 => ?_)
    · have c_2 : n ≤ 0 := (nI_leI (show n < 2 ^ 31 by omega) (show 0 < 2 ^ 31 by omega)).mp c_2
      refine lv_iload_n hx hb dX1_times_58 rfl (lv_at hl 1 rfl) ?_
      exact wr_ret hx hb hr hlocks (by rw [hok]; rfl) (by rw [hok]) hP hK hD hS dX1_times_59
    · have c_2 : ¬ (n ≤ 0) := fun h => c_2 ((nI_leI (show n < 2 ^ 31 by omega) (show 0 < 2 ^ 31 by omega)).mpr h)
      refine lv_aload_n hx hb dX1_times_28 rfl (lv_at hl 2 rfl) ?_
      refine va_get (D := (dC, dI)) (ci := 1) (v := .int (nI 1)) (C := RX1) (T := TX1) (N := 7) hx hb hts hinX1 hown hK hP 0 rfl rfl 0 (by decide) hf26 (fun _ h9 => h9) rfl dX1_times_29 ?_
      refine lv_if_ne (tgt := 58) hx hb dX1_times_32 (by decide) (fun c_3 => ?_) (fun c_3 => ?_)
      · refine lv_iload_n hx hb dX1_times_58 rfl (lv_at hl 1 rfl) ?_
        exact wr_ret hx hb hr hlocks (by rw [hok]; rfl) (by rw [hok]) hP hK hD hS dX1_times_59
      · exact absurd c_3 (by decide)
  · refine lv_iconst (v := nI 0) hx hb dX1_times_8 (by decide) ?_
    refine lv_goto (tgt := 13) hx hb dX1_times_9 (by decide) ?_
    refine va_put (D := (dC, dI)) (ci := 1) (v := .int (nI 0)) (ty := .int) (C := RX1) (T := TX1) (N := 7) hx hb hts hinX1 tyX1 tyX1_ok nmX1 hown hK hP hD hS 0 rfl rfl 0 (by decide) hf26 (fun _ h9 => h9) rfl (by decide +kernel) rfl rfl (Nat.le_of_ble_eq_true rfl) dX1_times_13 (fun H locs hP hD hS => ?_)
    replace hP : va_P (dC, dI) vwCl [(y, .inr (1, [.int (nI 0), .ref a, .int (nI n), .ref b, .ref c9, .ref d, .ref v])), (a, .inl (cI, 64, .inl N)), (b, .inl (cI, 40960, .inl M)), (c9, .inl (cI, 640, .inl S)), (d, .inl (cI, 640, .inl C)), (v, .inl (cI, 640, .inl V))] H := hP
    replace hD : va_D A [(y, .inr (1, [.int (nI 0), .ref a, .int (nI n), .ref b, .ref c9, .ref d, .ref v])), (a, .inl (cI, 64, .inl N)), (b, .inl (cI, 40960, .inl M)), (c9, .inl (cI, 640, .inl S)), (d, .inl (cI, 640, .inl C)), (v, .inl (cI, 640, .inl V))] := hD
    have hok : mo_okT q = 0 := by rw [mo_okT, if_neg c_1]
    refine lv_iconst (v := nI 0) hx hb dX1_times_16 (by decide) ?_
    refine lv_istore_n (lv' := [(2, .int (nI 0)), (0, .ref y), (1, .int q)]) hx hb dX1_times_17 rfl hl (by decide) rfl (fun ls hl => ?_)
    refine lv_iconst (v := nI 0) hx hb dX1_times_18 (by decide) ?_
    refine lv_istore_n (lv' := [(3, .int (nI 0)), (2, .int (nI 0)), (0, .ref y), (1, .int q)]) hx hb dX1_times_19 rfl hl (by decide) rfl (fun ls hl => ?_)
    obtain ⟨i, hi0⟩ : ∃ i : Nat, i = 0 := ⟨0, rfl⟩
    replace hl := lv_sub hl [2, 3, 1, 0] rfl
    replace hl : lv_has ls 4 [(0, .ref y), (1, .int q), (2, .int (nI (mo_tm S M N q i))), (3, .int (nI i))] := by rw [hi0]; exact hl
    have hib : i ≤ n := by omega
    clear hi0
    obtain ⟨zi, hzi⟩ : ∃ z : Nat, n < i + z := ⟨n + 1, by omega⟩
    induction zi generalizing i ls with
    | zero => exact absurd hzi (by omega)
    | succ zi ihi =>
      refine lv_iload_n hx hb dX1_times_20 rfl (lv_at hl 3 rfl) ?_
      refine lv_aload_n hx hb dX1_times_21 rfl (lv_at hl 0 rfl) ?_
      refine va_get (D := (dC, dI)) (ci := 1) (v := .int (nI n)) (C := RX1) (T := TX1) (N := 7) hx hb hts hinX1 hown hK hP 0 rfl rfl 2 (by decide) hf53 (fun _ h9 => h9) rfl dX1_times_22 ?_
      refine lv_icmp_ge (tgt := 58) hx hb dX1_times_25 (by decide) (fun c_4 => ?_) (fun c_4 => ?_)
      · have c_4 : n ≤ i := (nI_leI (show n < 2 ^ 31 by omega) (show i < 2 ^ 31 by omega)).mp c_4
        refine lv_iload_n hx hb dX1_times_58 rfl (lv_at hl 2 rfl) ?_
        exact wr_ret hx hb hr hlocks (by rw [hok, show i = n by omega]; rfl) (by rw [hok]) hP hK hD hS dX1_times_59
      · have c_4 : ¬ (n ≤ i) := fun h => c_4 ((nI_leI (show n < 2 ^ 31 by omega) (show i < 2 ^ 31 by omega)).mpr h)
        refine lv_aload_n hx hb dX1_times_28 rfl (lv_at hl 0 rfl) ?_
        refine va_get (D := (dC, dI)) (ci := 1) (v := .int (nI 0)) (C := RX1) (T := TX1) (N := 7) hx hb hts hinX1 hown hK hP 0 rfl rfl 0 (by decide) hf26 (fun _ h9 => h9) rfl dX1_times_29 ?_
        refine lv_if_ne (tgt := 58) hx hb dX1_times_32 (by decide) (fun c_5 => ?_) (fun c_5 => ?_)
        · exact absurd (by decide) c_5
        · refine lv_iload_n hx hb dX1_times_35 rfl (lv_at hl 2 rfl) ?_
          refine lv_aload_n hx hb dX1_times_36 rfl (lv_at hl 0 rfl) ?_
          refine lv_iload_n hx hb dX1_times_37 rfl (lv_at hl 3 rfl) ?_
          refine lv_iload_n hx hb dX1_times_38 rfl (lv_at hl 1 rfl) ?_
          refine rd_callV (rest := [.int (nI (mo_tm S M N q i))]) ⟨hx, hb, hml, hown, hts⟩ (k_X1_isNext l dC dI cI y a b c9 d v (nI 0) N n M S C V i q (by omega)) (cwV 2 hts gX1_times_X1_isNext rfl rfl rfl (by decide +kernel) ⟨Nat.le_of_ble_eq_true rfl, Nat.le_of_ble_eq_true rfl⟩) hK hP rfl (q0 := 0) rfl rfl hl.1 rfl (Nat.le_of_ble_eq_true rfl) dX1_times_39 ⟨Nat.zero_le _, Nat.zero_le _⟩ ?_
          refine lv_if_eq (tgt := 49) hx hb dX1_times_42 (by decide) (fun c_6 => ?_) (fun c_6 => ?_)
          · refine lv_iconst (v := nI 0) hx hb dX1_times_49 (by decide) ?_
            refine lv_iadd hx hb dX1_times_50 ?_
            refine lv_is (nI_add _ _) ?_
            refine lv_istore_n (lv' := [(2, .int (nI ((mo_tm S M N q i) + 0))), (0, .ref y), (1, .int q), (3, .int (nI i))]) hx hb dX1_times_51 rfl hl (by decide) rfl (fun ls hl => ?_)
            refine lv_iinc (v := nI (i + 1)) (lv' := [(3, .int (nI (i + 1))), (2, .int (nI ((mo_tm S M N q i) + 0))), (0, .ref y), (1, .int q)]) hx hb dX1_times_52 hl (k := 3) rfl (nI_1 _) (by decide) rfl (fun ls hl => ?_)
            refine lv_goto (tgt := 20) hx hb dX1_times_55 (by decide) ?_
            have e1 : (mo_tm S M N q i) + 0 = mo_tm S M N q (i + 1) := by rw [mo_tm, if_pos c_6]
            rw [e1] at hl
            exact ihi _ _ (lv_sub hl [2, 3, 1, 0] rfl) (by omega) (by omega)
          · refine lv_iconst (v := nI 1) hx hb dX1_times_45 (by decide) ?_
            refine lv_goto (tgt := 50) hx hb dX1_times_46 (by decide) ?_
            refine lv_iadd hx hb dX1_times_50 ?_
            refine lv_is (nI_add _ _) ?_
            refine lv_istore_n (lv' := [(2, .int (nI ((mo_tm S M N q i) + 1))), (0, .ref y), (1, .int q), (3, .int (nI i))]) hx hb dX1_times_51 rfl hl (by decide) rfl (fun ls hl => ?_)
            refine lv_iinc (v := nI (i + 1)) (lv' := [(3, .int (nI (i + 1))), (2, .int (nI ((mo_tm S M N q i) + 1))), (0, .ref y), (1, .int q)]) hx hb dX1_times_52 hl (k := 3) rfl (nI_1 _) (by decide) rfl (fun ls hl => ?_)
            refine lv_goto (tgt := 20) hx hb dX1_times_55 (by decide) ?_
            have e1 : (mo_tm S M N q i) + 1 = mo_tm S M N q (i + 1) := by rw [mo_tm, if_neg c_6]
            rw [e1] at hl
            exact ihi _ _ (lv_sub hl [2, 3, 1, 0] rfl) (by omega) (by omega)
set_option maxHeartbeats 4000000 in
set_option maxRecDepth 100000 in
theorem k_X1_look (l : Launch) (dC : Nat → ClassId) (dI : Nat → Nat → Nat) (cI : ClassId) (y a b c9 d v : Nat) (th : Int32) (N : Nat → Int32) (n : Nat) (M S C V : Nat → Int32) (q : Int32) (sz : Nat) (hn : n ≤ 640) : Met l yX1_look wsX1_look ({ frames := 2, cells := 0, slots := 0, locals := 47 } : Room) (wr (dC, dI) (wM cI y a b c9 d v th N n M S C V) (tM cI) sz [.ref y, .int q]) (wrQ (dC, dI) (wM cI y a b c9 d v (nI 0) N n M S C V) (tM cI) (va_A (wM cI y a b c9 d v th N n M S C V) sz) (fun r => r = mo_look S M C n q)) 0 0 (va_A (wM cI y a b c9 d v th N n M S C V) sz) := by
  refine Met.ofW (cc := cX1_look) (maxL := 7) (ret := (some .int)) (by decide) rfl ?_
  intro p e s m args below meth c s₁ B hml hv
  obtain ⟨rfl, hsz, hP, hK, hD0⟩ := hv
  have hx := B.exec
  have hb := B.bytes
  have hr := B.returns
  have hts := atoms_spec (ws := wsX1_look) B.pre
  have hown : s.vm.findClass RX1 = some m.cls := findClass_of_methodNamed B.named
  have hlocks := B.notSynchronized
  have hinX1 : ∀ w ∈ u_ws RX1 TX1 7, w ∈ wsX1_look := by decide +kernel
  have hf20 := hts (.fieldLink RX1 20 "GameArbiterModel" "clocks" "[I") (by decide +kernel)
  have hf26 := hts (.fieldLink RX1 26 "GameArbiterModel" "thrown" "I") (by decide +kernel)
  have hf53 := hts (.fieldLink RX1 53 "GameArbiterModel" "many" "I") (by decide +kernel)
  have hl := lv_entry ([.ref y, .int q]) (n := 7) (Nat.le_of_ble_eq_true rfl)
  rw [lg_entry_eq]
  generalize (lg_sl ([.ref y, .int q]) ++ List.replicate (7 - (lg_sl ([.ref y, .int q])).length) Slot.unset).toArray = ls at hl ⊢
  replace hl : lv_has ls 7 [(0, .ref y), (1, .int q)] := hl
  subst hsz
  have hD := hD0.self (sz := s.heap.size)
  generalize hAe : va_A (wM cI y a b c9 d v th N n M S C V) s.heap.size = A at hD ⊢
  have hA : ∀ q : Nat, s.heap.size ≤ q → A q := fun q h => by rw [← hAe]; exact Or.inr h
  have hS : va_S A s.heap s.heap [] := va_S.rf
  replace hP : va_P (dC, dI) vwCl [(y, .inr (1, [.int th, .ref a, .int (nI n), .ref b, .ref c9, .ref d, .ref v])), (a, .inl (cI, 64, .inl N)), (b, .inl (cI, 40960, .inl M)), (c9, .inl (cI, 640, .inl S)), (d, .inl (cI, 640, .inl C)), (v, .inl (cI, 640, .inl V))] s.heap := hP
  replace hD : va_D A [(y, .inr (1, [.int th, .ref a, .int (nI n), .ref b, .ref c9, .ref d, .ref v])), (a, .inl (cI, 64, .inl N)), (b, .inl (cI, 40960, .inl M)), (c9, .inl (cI, 640, .inl S)), (d, .inl (cI, 640, .inl C)), (v, .inl (cI, 640, .inl V))] := hD
  refine lv_aload_n hx hb dX1_look_0 rfl (lv_at hl 0 rfl) ?_
  refine lv_iconst (v := nI 0) hx hb dX1_look_1 (by decide) ?_
  refine va_put (D := (dC, dI)) (ci := 1) (v := .int (nI 0)) (ty := .int) (C := RX1) (T := TX1) (N := 7) hx hb hts hinX1 tyX1 tyX1_ok nmX1 hown hK hP hD hS 0 rfl rfl 0 (by decide) hf26 (fun _ h9 => h9) rfl (by decide +kernel) rfl rfl (Nat.le_of_ble_eq_true rfl) dX1_look_2 (fun H locs hP hD hS => ?_)
  replace hP : va_P (dC, dI) vwCl [(y, .inr (1, [.int (nI 0), .ref a, .int (nI n), .ref b, .ref c9, .ref d, .ref v])), (a, .inl (cI, 64, .inl N)), (b, .inl (cI, 40960, .inl M)), (c9, .inl (cI, 640, .inl S)), (d, .inl (cI, 640, .inl C)), (v, .inl (cI, 640, .inl V))] H := hP
  replace hD : va_D A [(y, .inr (1, [.int (nI 0), .ref a, .int (nI n), .ref b, .ref c9, .ref d, .ref v])), (a, .inl (cI, 64, .inl N)), (b, .inl (cI, 40960, .inl M)), (c9, .inl (cI, 640, .inl S)), (d, .inl (cI, 640, .inl C)), (v, .inl (cI, 640, .inl V))] := hD
  refine lv_iconst (v := nI 0) hx hb dX1_look_5 (by decide) ?_
  refine lv_istore_n (lv' := [(2, .int (nI 0)), (0, .ref y), (1, .int q)]) hx hb dX1_look_6 rfl hl (by decide) rfl (fun ls hl => ?_)
  refine lv_iconst (v := nI 0) hx hb dX1_look_7 (by decide) ?_
  refine lv_istore_n (lv' := [(3, .int (nI 0)), (2, .int (nI 0)), (0, .ref y), (1, .int q)]) hx hb dX1_look_8 rfl hl (by decide) rfl (fun ls hl => ?_)
  refine lv_iconst (v := nI 0) hx hb dX1_look_9 (by decide) ?_
  refine lv_istore (lv' := [(4, .int (nI 0)), (3, .int (nI 0)), (2, .int (nI 0)), (0, .ref y), (1, .int q)]) hx hb dX1_look_10 hl (by decide) rfl (fun ls hl => ?_)
  refine lv_iconst (v := nI 0) hx hb dX1_look_12 (by decide) ?_
  refine lv_istore (lv' := [(5, .int (nI 0)), (4, .int (nI 0)), (3, .int (nI 0)), (2, .int (nI 0)), (0, .ref y), (1, .int q)]) hx hb dX1_look_13 hl (by decide) rfl (fun ls hl => ?_)
  obtain ⟨i, hi0⟩ : ∃ i : Nat, i = 0 := ⟨0, rfl⟩
  replace hl := lv_sub hl [4, 5, 3, 2, 1, 0] rfl
  replace hl : lv_has ls 7 [(0, .ref y), (1, .int q), (2, .int (nI (mo_df S M i))), (3, .int (nI (mo_gc S M i))), (4, .int (mo_gl C i)), (5, .int (nI i))] := by rw [hi0]; exact hl
  have hib : i ≤ n := by omega
  clear hi0
  obtain ⟨zi, hzi⟩ : ∃ z : Nat, n < i + z := ⟨n + 1, by omega⟩
  induction zi generalizing i ls with
  | zero => exact absurd hzi (by omega)
  | succ zi ihi =>
    refine lv_iload hx hb dX1_look_15 (lv_at hl 5 rfl) ?_
    refine lv_aload_n hx hb dX1_look_17 rfl (lv_at hl 0 rfl) ?_
    refine va_get (D := (dC, dI)) (ci := 1) (v := .int (nI n)) (C := RX1) (T := TX1) (N := 7) hx hb hts hinX1 hown hK hP 0 rfl rfl 2 (by decide) hf53 (fun _ h9 => h9) rfl dX1_look_18 ?_
    refine lv_icmp_ge (tgt := 100) hx hb dX1_look_21 (by decide) (fun c_1 => ?_) (fun c_1 => ?_)
    · have c_1 : n ≤ i := (nI_leI (show n < 2 ^ 31 by omega) (show i < 2 ^ 31 by omega)).mp c_1
      refine lv_iload_n hx hb dX1_look_100 rfl (lv_at hl 1 rfl) ?_
      refine lv_if_ne (tgt := 111) hx hb dX1_look_101 (by decide) (fun c_2 => ?_) (fun c_2 => ?_)
      · refine lv_iload_n hx hb dX1_look_111 rfl (lv_at hl 1 rfl) ?_
        refine lv_iconst (v := nI 1) hx hb dX1_look_112 (by decide) ?_
        refine lv_icmp_ne (tgt := 120) hx hb dX1_look_113 (by decide) (fun c_3 => ?_) (fun c_3 => ?_)
        · refine lv_iload_n hx hb dX1_look_120 rfl (lv_at hl 1 rfl) ?_
          refine lv_iconst (v := nI 2) hx hb dX1_look_121 (by decide) ?_
          refine lv_icmp_ne (tgt := 129) hx hb dX1_look_122 (by decide) (fun c_4 => ?_) (fun c_4 => ?_)
          · refine lv_iload_n hx hb dX1_look_129 rfl (lv_at hl 1 rfl) ?_
            refine lv_iconst (v := nI 3) hx hb dX1_look_130 (by decide) ?_
            refine lv_icmp_ne (tgt := 139) hx hb dX1_look_131 (by decide) (fun c_5 => ?_) (fun c_5 => ?_)
            · refine lv_iconst (v := (-1)) hx hb dX1_look_139 (by decide) ?_
              exact wr_ret hx hb hr hlocks (by rw [mo_look, if_neg c_2, if_neg c_3, if_neg c_4, if_neg c_5]) (rfl) hP hK hD hS dX1_look_140
            · refine lv_iload hx hb dX1_look_134 (lv_at hl 4 rfl) ?_
              refine lv_goto (tgt := 140) hx hb dX1_look_136 (by decide) ?_
              exact wr_ret hx hb hr hlocks (by rw [mo_look, if_neg c_2, if_neg c_3, if_neg c_4, if_pos c_5]; rw [show i = n by omega]) (rfl) hP hK hD hS dX1_look_140
          · refine lv_iload_n hx hb dX1_look_125 rfl (lv_at hl 3 rfl) ?_
            refine lv_goto (tgt := 140) hx hb dX1_look_126 (by decide) ?_
            exact wr_ret hx hb hr hlocks (by rw [mo_look, if_neg c_2, if_neg c_3, if_pos c_4]; rw [show i = n by omega]) (rfl) hP hK hD hS dX1_look_140
        · refine lv_iload_n hx hb dX1_look_116 rfl (lv_at hl 2 rfl) ?_
          refine lv_goto (tgt := 140) hx hb dX1_look_117 (by decide) ?_
          exact wr_ret hx hb hr hlocks (by rw [mo_look, if_neg c_2, if_pos c_3]; rw [show i = n by omega]) (rfl) hP hK hD hS dX1_look_140
      · refine lv_aload_n hx hb dX1_look_104 rfl (lv_at hl 0 rfl) ?_
        refine va_get (D := (dC, dI)) (ci := 1) (v := .int (nI n)) (C := RX1) (T := TX1) (N := 7) hx hb hts hinX1 hown hK hP 0 rfl rfl 2 (by decide) hf53 (fun _ h9 => h9) rfl dX1_look_105 ?_
        refine lv_goto (tgt := 140) hx hb dX1_look_108 (by decide) ?_
        exact wr_ret hx hb hr hlocks (by rw [mo_look, if_pos c_2]) (rfl) hP hK hD hS dX1_look_140
    · have c_1 : ¬ (n ≤ i) := fun h => c_1 ((nI_leI (show n < 2 ^ 31 by omega) (show i < 2 ^ 31 by omega)).mpr h)
      refine lv_iload_n hx hb dX1_look_24 rfl (lv_at hl 1 rfl) ?_
      refine lv_if_le (tgt := 100) hx hb dX1_look_25 (by decide) (fun c_6 => ?_) (fun c_6 => ?_)
      · refine lv_iload_n hx hb dX1_look_100 rfl (lv_at hl 1 rfl) ?_
        refine lv_if_ne (tgt := 111) hx hb dX1_look_101 (by decide) (fun c_7 => ?_) (fun c_7 => ?_)
        · refine lv_iload_n hx hb dX1_look_111 rfl (lv_at hl 1 rfl) ?_
          refine lv_iconst (v := nI 1) hx hb dX1_look_112 (by decide) ?_
          refine lv_icmp_ne (tgt := 120) hx hb dX1_look_113 (by decide) (fun c_8 => ?_) (fun c_8 => ?_)
          · refine lv_iload_n hx hb dX1_look_120 rfl (lv_at hl 1 rfl) ?_
            refine lv_iconst (v := nI 2) hx hb dX1_look_121 (by decide) ?_
            refine lv_icmp_ne (tgt := 129) hx hb dX1_look_122 (by decide) (fun c_9 => ?_) (fun c_9 => ?_)
            · refine lv_iload_n hx hb dX1_look_129 rfl (lv_at hl 1 rfl) ?_
              refine lv_iconst (v := nI 3) hx hb dX1_look_130 (by decide) ?_
              refine lv_icmp_ne (tgt := 139) hx hb dX1_look_131 (by decide) (fun c_10 => ?_) (fun c_10 => ?_)
              · refine lv_iconst (v := (-1)) hx hb dX1_look_139 (by decide) ?_
                exact wr_ret hx hb hr hlocks (by rw [mo_look, if_neg c_7, if_neg c_8, if_neg c_9, if_neg c_10]) (rfl) hP hK hD hS dX1_look_140
              · refine lv_iload hx hb dX1_look_134 (lv_at hl 4 rfl) ?_
                refine lv_goto (tgt := 140) hx hb dX1_look_136 (by decide) ?_
                exact wr_ret hx hb hr hlocks (by rw [c_10] at c_6; exact absurd c_6 (by decide)) (rfl) hP hK hD hS dX1_look_140
            · refine lv_iload_n hx hb dX1_look_125 rfl (lv_at hl 3 rfl) ?_
              refine lv_goto (tgt := 140) hx hb dX1_look_126 (by decide) ?_
              exact wr_ret hx hb hr hlocks (by rw [c_9] at c_6; exact absurd c_6 (by decide)) (rfl) hP hK hD hS dX1_look_140
          · refine lv_iload_n hx hb dX1_look_116 rfl (lv_at hl 2 rfl) ?_
            refine lv_goto (tgt := 140) hx hb dX1_look_117 (by decide) ?_
            exact wr_ret hx hb hr hlocks (by rw [c_8] at c_6; exact absurd c_6 (by decide)) (rfl) hP hK hD hS dX1_look_140
        · refine lv_aload_n hx hb dX1_look_104 rfl (lv_at hl 0 rfl) ?_
          refine va_get (D := (dC, dI)) (ci := 1) (v := .int (nI n)) (C := RX1) (T := TX1) (N := 7) hx hb hts hinX1 hown hK hP 0 rfl rfl 2 (by decide) hf53 (fun _ h9 => h9) rfl dX1_look_105 ?_
          refine lv_goto (tgt := 140) hx hb dX1_look_108 (by decide) ?_
          exact wr_ret hx hb hr hlocks (by rw [mo_look, if_pos c_7]) (rfl) hP hK hD hS dX1_look_140
      · refine lv_iload_n hx hb dX1_look_28 rfl (lv_at hl 1 rfl) ?_
        refine lv_iconst (v := nI 4) hx hb dX1_look_29 (by decide) ?_
        refine lv_icmp_ge (tgt := 100) hx hb dX1_look_30 (by decide) (fun c_11 => ?_) (fun c_11 => ?_)
        · refine lv_iload_n hx hb dX1_look_100 rfl (lv_at hl 1 rfl) ?_
          refine lv_if_ne (tgt := 111) hx hb dX1_look_101 (by decide) (fun c_12 => ?_) (fun c_12 => ?_)
          · refine lv_iload_n hx hb dX1_look_111 rfl (lv_at hl 1 rfl) ?_
            refine lv_iconst (v := nI 1) hx hb dX1_look_112 (by decide) ?_
            refine lv_icmp_ne (tgt := 120) hx hb dX1_look_113 (by decide) (fun c_13 => ?_) (fun c_13 => ?_)
            · refine lv_iload_n hx hb dX1_look_120 rfl (lv_at hl 1 rfl) ?_
              refine lv_iconst (v := nI 2) hx hb dX1_look_121 (by decide) ?_
              refine lv_icmp_ne (tgt := 129) hx hb dX1_look_122 (by decide) (fun c_14 => ?_) (fun c_14 => ?_)
              · refine lv_iload_n hx hb dX1_look_129 rfl (lv_at hl 1 rfl) ?_
                refine lv_iconst (v := nI 3) hx hb dX1_look_130 (by decide) ?_
                refine lv_icmp_ne (tgt := 139) hx hb dX1_look_131 (by decide) (fun c_15 => ?_) (fun c_15 => ?_)
                · refine lv_iconst (v := (-1)) hx hb dX1_look_139 (by decide) ?_
                  exact wr_ret hx hb hr hlocks (by rw [mo_look, if_neg c_12, if_neg c_13, if_neg c_14, if_neg c_15]) (rfl) hP hK hD hS dX1_look_140
                · refine lv_iload hx hb dX1_look_134 (lv_at hl 4 rfl) ?_
                  refine lv_goto (tgt := 140) hx hb dX1_look_136 (by decide) ?_
                  exact wr_ret hx hb hr hlocks (by rw [c_15] at c_11; exact absurd c_11 (by decide)) (rfl) hP hK hD hS dX1_look_140
              · refine lv_iload_n hx hb dX1_look_125 rfl (lv_at hl 3 rfl) ?_
                refine lv_goto (tgt := 140) hx hb dX1_look_126 (by decide) ?_
                exact wr_ret hx hb hr hlocks (by rw [c_14] at c_11; exact absurd c_11 (by decide)) (rfl) hP hK hD hS dX1_look_140
            · refine lv_iload_n hx hb dX1_look_116 rfl (lv_at hl 2 rfl) ?_
              refine lv_goto (tgt := 140) hx hb dX1_look_117 (by decide) ?_
              exact wr_ret hx hb hr hlocks (by rw [c_13] at c_11; exact absurd c_11 (by decide)) (rfl) hP hK hD hS dX1_look_140
          · refine lv_aload_n hx hb dX1_look_104 rfl (lv_at hl 0 rfl) ?_
            refine va_get (D := (dC, dI)) (ci := 1) (v := .int (nI n)) (C := RX1) (T := TX1) (N := 7) hx hb hts hinX1 hown hK hP 0 rfl rfl 2 (by decide) hf53 (fun _ h9 => h9) rfl dX1_look_105 ?_
            refine lv_goto (tgt := 140) hx hb dX1_look_108 (by decide) ?_
            exact wr_ret hx hb hr hlocks (by rw [mo_look, if_pos c_12]) (rfl) hP hK hD hS dX1_look_140
        · have hgc := mo_gc_le S M i
          have hdf := mo_df_le S M i
          refine lv_aload_n hx hb dX1_look_33 rfl (lv_at hl 0 rfl) ?_
          refine lv_iload hx hb dX1_look_34 (lv_at hl 5 rfl) ?_
          have hcn := mo_cnt_le S M i (i + 1)
          refine rd_callV (rest := []) ⟨hx, hb, hml, hown, hts⟩ (k_X1_countOf l dC dI cI y a b c9 d v (nI 0) N n M S C V i (by omega)) (cwV 1 hts gX1_look_X1_countOf rfl rfl rfl (by decide +kernel) ⟨Nat.le_of_ble_eq_true rfl, Nat.le_of_ble_eq_true rfl⟩) hK hP rfl (q0 := 0) rfl rfl hl.1 rfl (Nat.le_of_ble_eq_true rfl) dX1_look_36 ⟨Nat.zero_le _, Nat.zero_le _⟩ ?_
          refine lv_istore (lv' := [(6, .int (nI (mo_cnt S M i (i + 1)))), (0, .ref y), (1, .int q), (2, .int (nI (mo_df S M i))), (3, .int (nI (mo_gc S M i))), (4, .int (mo_gl C i)), (5, .int (nI i))]) hx hb dX1_look_39 hl (by decide) rfl (fun ls hl => ?_)
          refine lv_iload_n hx hb dX1_look_41 rfl (lv_at hl 3 rfl) ?_
          refine lv_iload hx hb dX1_look_42 (lv_at hl 0 rfl) ?_
          refine lv_iconst (v := nI 1) hx hb dX1_look_44 (by decide) ?_
          refine lv_icmp_ne (tgt := 52) hx hb dX1_look_45 (by decide) (fun c_16 => ?_) (fun c_16 => ?_)
          · have c_16 : ¬ ((mo_cnt S M i (i + 1)) = 1) := fun h => c_16 ((nI_eq (show mo_cnt S M i (i + 1) < 2 ^ 31 by omega) (show 1 < 2 ^ 31 by omega)).mpr h)
            refine lv_iconst (v := nI 0) hx hb dX1_look_52 (by decide) ?_
            refine lv_iadd hx hb dX1_look_53 ?_
            refine lv_is (nI_add _ _) ?_
            refine lv_istore_n (lv' := [(2, .int (nI ((mo_df S M i) + 0))), (6, .int (nI (mo_cnt S M i (i + 1)))), (0, .ref y), (1, .int q), (3, .int (nI (mo_gc S M i))), (4, .int (mo_gl C i)), (5, .int (nI i))]) hx hb dX1_look_54 rfl hl (by decide) rfl (fun ls hl => ?_)
            refine lv_iload hx hb dX1_look_55 (lv_at hl 1 rfl) ?_
            refine lv_iload_n hx hb dX1_look_57 rfl (lv_at hl 4 rfl) ?_
            refine lv_icmp_le (tgt := 66) hx hb dX1_look_58 (by decide) (fun c_17 => ?_) (fun c_17 => ?_)
            · have c_17 : (mo_cnt S M i (i + 1)) ≤ (mo_gc S M i) := (nI_leI (show mo_cnt S M i (i + 1) < 2 ^ 31 by omega) (show mo_gc S M i < 2 ^ 31 by omega)).mp c_17
              refine lv_iload_n hx hb dX1_look_66 rfl (lv_at hl 4 rfl) ?_
              refine lv_istore_n (lv' := [(3, .int (nI (mo_gc S M i))), (2, .int (nI ((mo_df S M i) + 0))), (6, .int (nI (mo_cnt S M i (i + 1)))), (0, .ref y), (1, .int q), (4, .int (mo_gl C i)), (5, .int (nI i))]) hx hb dX1_look_67 rfl hl (by decide) rfl (fun ls hl => ?_)
              refine lv_aload_n hx hb dX1_look_68 rfl (lv_at hl 3 rfl) ?_
              refine va_get (D := (dC, dI)) (ci := 1) (v := .ref d) (C := RX1) (T := TX1) (N := 7) hx hb hts hinX1 hown hK hP 0 rfl rfl 5 (by decide) hf20 (fun _ h9 => h9) rfl dX1_look_69 ?_
              refine lv_iload hx hb dX1_look_72 (lv_at hl 6 rfl) ?_
              refine ix_iald hx hb hK hP 4 0 rfl rfl (show i < 640 by omega) (by decide) dX1_look_74 ?_
              refine lv_iload hx hb dX1_look_75 (lv_at hl 5 rfl) ?_
              refine lv_icmp_le (tgt := 90) hx hb dX1_look_77 (by decide) (fun c_18 => ?_) (fun c_18 => ?_)
              · refine lv_iload hx hb dX1_look_90 (lv_at hl 5 rfl) ?_
                refine lv_istore (lv' := [(4, .int (mo_gl C i)), (3, .int (nI (mo_gc S M i))), (2, .int (nI ((mo_df S M i) + 0))), (6, .int (nI (mo_cnt S M i (i + 1)))), (0, .ref y), (1, .int q), (5, .int (nI i))]) hx hb dX1_look_92 hl (by decide) rfl (fun ls hl => ?_)
                refine lv_iinc (v := nI (i + 1)) (lv' := [(5, .int (nI (i + 1))), (4, .int (mo_gl C i)), (3, .int (nI (mo_gc S M i))), (2, .int (nI ((mo_df S M i) + 0))), (6, .int (nI (mo_cnt S M i (i + 1)))), (0, .ref y), (1, .int q)]) hx hb dX1_look_94 hl (k := 6) rfl (nI_1 _) (by decide) rfl (fun ls hl => ?_)
                refine lv_goto (tgt := 15) hx hb dX1_look_97 (by decide) ?_
                have e1 : (mo_df S M i) + 0 = mo_df S M (i + 1) := by rw [mo_df, if_neg c_16]
                have e2 : mo_gc S M i = mo_gc S M (i + 1) := by rw [mo_gc, if_pos c_17]
                have e3 : mo_gl C i = mo_gl C (i + 1) := by rw [mo_gl, if_pos c_18]
                rw [e1, e2, e3] at hl
                exact ihi _ _ (lv_sub hl [5, 6, 3, 2, 1, 0] rfl) (by omega) (by omega)
              · refine lv_aload_n hx hb dX1_look_80 rfl (lv_at hl 3 rfl) ?_
                refine va_get (D := (dC, dI)) (ci := 1) (v := .ref d) (C := RX1) (T := TX1) (N := 7) hx hb hts hinX1 hown hK hP 0 rfl rfl 5 (by decide) hf20 (fun _ h9 => h9) rfl dX1_look_81 ?_
                refine lv_iload hx hb dX1_look_84 (lv_at hl 6 rfl) ?_
                refine ix_iald hx hb hK hP 4 0 rfl rfl (show i < 640 by omega) (by decide) dX1_look_86 ?_
                refine lv_goto (tgt := 92) hx hb dX1_look_87 (by decide) ?_
                refine lv_istore (lv' := [(4, .int (C i)), (3, .int (nI (mo_gc S M i))), (2, .int (nI ((mo_df S M i) + 0))), (6, .int (nI (mo_cnt S M i (i + 1)))), (0, .ref y), (1, .int q), (5, .int (nI i))]) hx hb dX1_look_92 hl (by decide) rfl (fun ls hl => ?_)
                refine lv_iinc (v := nI (i + 1)) (lv' := [(5, .int (nI (i + 1))), (4, .int (C i)), (3, .int (nI (mo_gc S M i))), (2, .int (nI ((mo_df S M i) + 0))), (6, .int (nI (mo_cnt S M i (i + 1)))), (0, .ref y), (1, .int q)]) hx hb dX1_look_94 hl (k := 6) rfl (nI_1 _) (by decide) rfl (fun ls hl => ?_)
                refine lv_goto (tgt := 15) hx hb dX1_look_97 (by decide) ?_
                have e1 : (mo_df S M i) + 0 = mo_df S M (i + 1) := by rw [mo_df, if_neg c_16]
                have e2 : mo_gc S M i = mo_gc S M (i + 1) := by rw [mo_gc, if_pos c_17]
                have e3 : C i = mo_gl C (i + 1) := by rw [mo_gl, if_neg c_18]
                rw [e1, e2, e3] at hl
                exact ihi _ _ (lv_sub hl [5, 6, 3, 2, 1, 0] rfl) (by omega) (by omega)
            · have c_17 : ¬ ((mo_cnt S M i (i + 1)) ≤ (mo_gc S M i)) := fun h => c_17 ((nI_leI (show mo_cnt S M i (i + 1) < 2 ^ 31 by omega) (show mo_gc S M i < 2 ^ 31 by omega)).mpr h)
              refine lv_iload hx hb dX1_look_61 (lv_at hl 1 rfl) ?_
              refine lv_goto (tgt := 67) hx hb dX1_look_63 (by decide) ?_
              refine lv_istore_n (lv' := [(3, .int (nI (mo_cnt S M i (i + 1)))), (2, .int (nI ((mo_df S M i) + 0))), (6, .int (nI (mo_cnt S M i (i + 1)))), (0, .ref y), (1, .int q), (4, .int (mo_gl C i)), (5, .int (nI i))]) hx hb dX1_look_67 rfl hl (by decide) rfl (fun ls hl => ?_)
              refine lv_aload_n hx hb dX1_look_68 rfl (lv_at hl 3 rfl) ?_
              refine va_get (D := (dC, dI)) (ci := 1) (v := .ref d) (C := RX1) (T := TX1) (N := 7) hx hb hts hinX1 hown hK hP 0 rfl rfl 5 (by decide) hf20 (fun _ h9 => h9) rfl dX1_look_69 ?_
              refine lv_iload hx hb dX1_look_72 (lv_at hl 6 rfl) ?_
              refine ix_iald hx hb hK hP 4 0 rfl rfl (show i < 640 by omega) (by decide) dX1_look_74 ?_
              refine lv_iload hx hb dX1_look_75 (lv_at hl 5 rfl) ?_
              refine lv_icmp_le (tgt := 90) hx hb dX1_look_77 (by decide) (fun c_19 => ?_) (fun c_19 => ?_)
              · refine lv_iload hx hb dX1_look_90 (lv_at hl 5 rfl) ?_
                refine lv_istore (lv' := [(4, .int (mo_gl C i)), (3, .int (nI (mo_cnt S M i (i + 1)))), (2, .int (nI ((mo_df S M i) + 0))), (6, .int (nI (mo_cnt S M i (i + 1)))), (0, .ref y), (1, .int q), (5, .int (nI i))]) hx hb dX1_look_92 hl (by decide) rfl (fun ls hl => ?_)
                refine lv_iinc (v := nI (i + 1)) (lv' := [(5, .int (nI (i + 1))), (4, .int (mo_gl C i)), (3, .int (nI (mo_cnt S M i (i + 1)))), (2, .int (nI ((mo_df S M i) + 0))), (6, .int (nI (mo_cnt S M i (i + 1)))), (0, .ref y), (1, .int q)]) hx hb dX1_look_94 hl (k := 6) rfl (nI_1 _) (by decide) rfl (fun ls hl => ?_)
                refine lv_goto (tgt := 15) hx hb dX1_look_97 (by decide) ?_
                have e1 : (mo_df S M i) + 0 = mo_df S M (i + 1) := by rw [mo_df, if_neg c_16]
                have e2 : mo_cnt S M i (i + 1) = mo_gc S M (i + 1) := by rw [mo_gc, if_neg c_17]
                have e3 : mo_gl C i = mo_gl C (i + 1) := by rw [mo_gl, if_pos c_19]
                rw [e1, e2, e3] at hl
                exact ihi _ _ (lv_sub hl [5, 6, 3, 2, 1, 0] rfl) (by omega) (by omega)
              · refine lv_aload_n hx hb dX1_look_80 rfl (lv_at hl 3 rfl) ?_
                refine va_get (D := (dC, dI)) (ci := 1) (v := .ref d) (C := RX1) (T := TX1) (N := 7) hx hb hts hinX1 hown hK hP 0 rfl rfl 5 (by decide) hf20 (fun _ h9 => h9) rfl dX1_look_81 ?_
                refine lv_iload hx hb dX1_look_84 (lv_at hl 6 rfl) ?_
                refine ix_iald hx hb hK hP 4 0 rfl rfl (show i < 640 by omega) (by decide) dX1_look_86 ?_
                refine lv_goto (tgt := 92) hx hb dX1_look_87 (by decide) ?_
                refine lv_istore (lv' := [(4, .int (C i)), (3, .int (nI (mo_cnt S M i (i + 1)))), (2, .int (nI ((mo_df S M i) + 0))), (6, .int (nI (mo_cnt S M i (i + 1)))), (0, .ref y), (1, .int q), (5, .int (nI i))]) hx hb dX1_look_92 hl (by decide) rfl (fun ls hl => ?_)
                refine lv_iinc (v := nI (i + 1)) (lv' := [(5, .int (nI (i + 1))), (4, .int (C i)), (3, .int (nI (mo_cnt S M i (i + 1)))), (2, .int (nI ((mo_df S M i) + 0))), (6, .int (nI (mo_cnt S M i (i + 1)))), (0, .ref y), (1, .int q)]) hx hb dX1_look_94 hl (k := 6) rfl (nI_1 _) (by decide) rfl (fun ls hl => ?_)
                refine lv_goto (tgt := 15) hx hb dX1_look_97 (by decide) ?_
                have e1 : (mo_df S M i) + 0 = mo_df S M (i + 1) := by rw [mo_df, if_neg c_16]
                have e2 : mo_cnt S M i (i + 1) = mo_gc S M (i + 1) := by rw [mo_gc, if_neg c_17]
                have e3 : C i = mo_gl C (i + 1) := by rw [mo_gl, if_neg c_19]
                rw [e1, e2, e3] at hl
                exact ihi _ _ (lv_sub hl [5, 6, 3, 2, 1, 0] rfl) (by omega) (by omega)
          · have c_16 : (mo_cnt S M i (i + 1)) = 1 := (nI_eq (show mo_cnt S M i (i + 1) < 2 ^ 31 by omega) (show 1 < 2 ^ 31 by omega)).mp c_16
            refine lv_iconst (v := nI 1) hx hb dX1_look_48 (by decide) ?_
            refine lv_goto (tgt := 53) hx hb dX1_look_49 (by decide) ?_
            refine lv_iadd hx hb dX1_look_53 ?_
            refine lv_is (nI_add _ _) ?_
            refine lv_istore_n (lv' := [(2, .int (nI ((mo_df S M i) + 1))), (6, .int (nI (mo_cnt S M i (i + 1)))), (0, .ref y), (1, .int q), (3, .int (nI (mo_gc S M i))), (4, .int (mo_gl C i)), (5, .int (nI i))]) hx hb dX1_look_54 rfl hl (by decide) rfl (fun ls hl => ?_)
            refine lv_iload hx hb dX1_look_55 (lv_at hl 1 rfl) ?_
            refine lv_iload_n hx hb dX1_look_57 rfl (lv_at hl 4 rfl) ?_
            refine lv_icmp_le (tgt := 66) hx hb dX1_look_58 (by decide) (fun c_20 => ?_) (fun c_20 => ?_)
            · have c_20 : (mo_cnt S M i (i + 1)) ≤ (mo_gc S M i) := (nI_leI (show mo_cnt S M i (i + 1) < 2 ^ 31 by omega) (show mo_gc S M i < 2 ^ 31 by omega)).mp c_20
              refine lv_iload_n hx hb dX1_look_66 rfl (lv_at hl 4 rfl) ?_
              refine lv_istore_n (lv' := [(3, .int (nI (mo_gc S M i))), (2, .int (nI ((mo_df S M i) + 1))), (6, .int (nI (mo_cnt S M i (i + 1)))), (0, .ref y), (1, .int q), (4, .int (mo_gl C i)), (5, .int (nI i))]) hx hb dX1_look_67 rfl hl (by decide) rfl (fun ls hl => ?_)
              refine lv_aload_n hx hb dX1_look_68 rfl (lv_at hl 3 rfl) ?_
              refine va_get (D := (dC, dI)) (ci := 1) (v := .ref d) (C := RX1) (T := TX1) (N := 7) hx hb hts hinX1 hown hK hP 0 rfl rfl 5 (by decide) hf20 (fun _ h9 => h9) rfl dX1_look_69 ?_
              refine lv_iload hx hb dX1_look_72 (lv_at hl 6 rfl) ?_
              refine ix_iald hx hb hK hP 4 0 rfl rfl (show i < 640 by omega) (by decide) dX1_look_74 ?_
              refine lv_iload hx hb dX1_look_75 (lv_at hl 5 rfl) ?_
              refine lv_icmp_le (tgt := 90) hx hb dX1_look_77 (by decide) (fun c_21 => ?_) (fun c_21 => ?_)
              · refine lv_iload hx hb dX1_look_90 (lv_at hl 5 rfl) ?_
                refine lv_istore (lv' := [(4, .int (mo_gl C i)), (3, .int (nI (mo_gc S M i))), (2, .int (nI ((mo_df S M i) + 1))), (6, .int (nI (mo_cnt S M i (i + 1)))), (0, .ref y), (1, .int q), (5, .int (nI i))]) hx hb dX1_look_92 hl (by decide) rfl (fun ls hl => ?_)
                refine lv_iinc (v := nI (i + 1)) (lv' := [(5, .int (nI (i + 1))), (4, .int (mo_gl C i)), (3, .int (nI (mo_gc S M i))), (2, .int (nI ((mo_df S M i) + 1))), (6, .int (nI (mo_cnt S M i (i + 1)))), (0, .ref y), (1, .int q)]) hx hb dX1_look_94 hl (k := 6) rfl (nI_1 _) (by decide) rfl (fun ls hl => ?_)
                refine lv_goto (tgt := 15) hx hb dX1_look_97 (by decide) ?_
                have e1 : (mo_df S M i) + 1 = mo_df S M (i + 1) := by rw [mo_df, if_pos c_16]
                have e2 : mo_gc S M i = mo_gc S M (i + 1) := by rw [mo_gc, if_pos c_20]
                have e3 : mo_gl C i = mo_gl C (i + 1) := by rw [mo_gl, if_pos c_21]
                rw [e1, e2, e3] at hl
                exact ihi _ _ (lv_sub hl [5, 6, 3, 2, 1, 0] rfl) (by omega) (by omega)
              · refine lv_aload_n hx hb dX1_look_80 rfl (lv_at hl 3 rfl) ?_
                refine va_get (D := (dC, dI)) (ci := 1) (v := .ref d) (C := RX1) (T := TX1) (N := 7) hx hb hts hinX1 hown hK hP 0 rfl rfl 5 (by decide) hf20 (fun _ h9 => h9) rfl dX1_look_81 ?_
                refine lv_iload hx hb dX1_look_84 (lv_at hl 6 rfl) ?_
                refine ix_iald hx hb hK hP 4 0 rfl rfl (show i < 640 by omega) (by decide) dX1_look_86 ?_
                refine lv_goto (tgt := 92) hx hb dX1_look_87 (by decide) ?_
                refine lv_istore (lv' := [(4, .int (C i)), (3, .int (nI (mo_gc S M i))), (2, .int (nI ((mo_df S M i) + 1))), (6, .int (nI (mo_cnt S M i (i + 1)))), (0, .ref y), (1, .int q), (5, .int (nI i))]) hx hb dX1_look_92 hl (by decide) rfl (fun ls hl => ?_)
                refine lv_iinc (v := nI (i + 1)) (lv' := [(5, .int (nI (i + 1))), (4, .int (C i)), (3, .int (nI (mo_gc S M i))), (2, .int (nI ((mo_df S M i) + 1))), (6, .int (nI (mo_cnt S M i (i + 1)))), (0, .ref y), (1, .int q)]) hx hb dX1_look_94 hl (k := 6) rfl (nI_1 _) (by decide) rfl (fun ls hl => ?_)
                refine lv_goto (tgt := 15) hx hb dX1_look_97 (by decide) ?_
                have e1 : (mo_df S M i) + 1 = mo_df S M (i + 1) := by rw [mo_df, if_pos c_16]
                have e2 : mo_gc S M i = mo_gc S M (i + 1) := by rw [mo_gc, if_pos c_20]
                have e3 : C i = mo_gl C (i + 1) := by rw [mo_gl, if_neg c_21]
                rw [e1, e2, e3] at hl
                exact ihi _ _ (lv_sub hl [5, 6, 3, 2, 1, 0] rfl) (by omega) (by omega)
            · have c_20 : ¬ ((mo_cnt S M i (i + 1)) ≤ (mo_gc S M i)) := fun h => c_20 ((nI_leI (show mo_cnt S M i (i + 1) < 2 ^ 31 by omega) (show mo_gc S M i < 2 ^ 31 by omega)).mpr h)
              refine lv_iload hx hb dX1_look_61 (lv_at hl 1 rfl) ?_
              refine lv_goto (tgt := 67) hx hb dX1_look_63 (by decide) ?_
              refine lv_istore_n (lv' := [(3, .int (nI (mo_cnt S M i (i + 1)))), (2, .int (nI ((mo_df S M i) + 1))), (6, .int (nI (mo_cnt S M i (i + 1)))), (0, .ref y), (1, .int q), (4, .int (mo_gl C i)), (5, .int (nI i))]) hx hb dX1_look_67 rfl hl (by decide) rfl (fun ls hl => ?_)
              refine lv_aload_n hx hb dX1_look_68 rfl (lv_at hl 3 rfl) ?_
              refine va_get (D := (dC, dI)) (ci := 1) (v := .ref d) (C := RX1) (T := TX1) (N := 7) hx hb hts hinX1 hown hK hP 0 rfl rfl 5 (by decide) hf20 (fun _ h9 => h9) rfl dX1_look_69 ?_
              refine lv_iload hx hb dX1_look_72 (lv_at hl 6 rfl) ?_
              refine ix_iald hx hb hK hP 4 0 rfl rfl (show i < 640 by omega) (by decide) dX1_look_74 ?_
              refine lv_iload hx hb dX1_look_75 (lv_at hl 5 rfl) ?_
              refine lv_icmp_le (tgt := 90) hx hb dX1_look_77 (by decide) (fun c_22 => ?_) (fun c_22 => ?_)
              · refine lv_iload hx hb dX1_look_90 (lv_at hl 5 rfl) ?_
                refine lv_istore (lv' := [(4, .int (mo_gl C i)), (3, .int (nI (mo_cnt S M i (i + 1)))), (2, .int (nI ((mo_df S M i) + 1))), (6, .int (nI (mo_cnt S M i (i + 1)))), (0, .ref y), (1, .int q), (5, .int (nI i))]) hx hb dX1_look_92 hl (by decide) rfl (fun ls hl => ?_)
                refine lv_iinc (v := nI (i + 1)) (lv' := [(5, .int (nI (i + 1))), (4, .int (mo_gl C i)), (3, .int (nI (mo_cnt S M i (i + 1)))), (2, .int (nI ((mo_df S M i) + 1))), (6, .int (nI (mo_cnt S M i (i + 1)))), (0, .ref y), (1, .int q)]) hx hb dX1_look_94 hl (k := 6) rfl (nI_1 _) (by decide) rfl (fun ls hl => ?_)
                refine lv_goto (tgt := 15) hx hb dX1_look_97 (by decide) ?_
                have e1 : (mo_df S M i) + 1 = mo_df S M (i + 1) := by rw [mo_df, if_pos c_16]
                have e2 : mo_cnt S M i (i + 1) = mo_gc S M (i + 1) := by rw [mo_gc, if_neg c_20]
                have e3 : mo_gl C i = mo_gl C (i + 1) := by rw [mo_gl, if_pos c_22]
                rw [e1, e2, e3] at hl
                exact ihi _ _ (lv_sub hl [5, 6, 3, 2, 1, 0] rfl) (by omega) (by omega)
              · refine lv_aload_n hx hb dX1_look_80 rfl (lv_at hl 3 rfl) ?_
                refine va_get (D := (dC, dI)) (ci := 1) (v := .ref d) (C := RX1) (T := TX1) (N := 7) hx hb hts hinX1 hown hK hP 0 rfl rfl 5 (by decide) hf20 (fun _ h9 => h9) rfl dX1_look_81 ?_
                refine lv_iload hx hb dX1_look_84 (lv_at hl 6 rfl) ?_
                refine ix_iald hx hb hK hP 4 0 rfl rfl (show i < 640 by omega) (by decide) dX1_look_86 ?_
                refine lv_goto (tgt := 92) hx hb dX1_look_87 (by decide) ?_
                refine lv_istore (lv' := [(4, .int (C i)), (3, .int (nI (mo_cnt S M i (i + 1)))), (2, .int (nI ((mo_df S M i) + 1))), (6, .int (nI (mo_cnt S M i (i + 1)))), (0, .ref y), (1, .int q), (5, .int (nI i))]) hx hb dX1_look_92 hl (by decide) rfl (fun ls hl => ?_)
                refine lv_iinc (v := nI (i + 1)) (lv' := [(5, .int (nI (i + 1))), (4, .int (C i)), (3, .int (nI (mo_cnt S M i (i + 1)))), (2, .int (nI ((mo_df S M i) + 1))), (6, .int (nI (mo_cnt S M i (i + 1)))), (0, .ref y), (1, .int q)]) hx hb dX1_look_94 hl (k := 6) rfl (nI_1 _) (by decide) rfl (fun ls hl => ?_)
                refine lv_goto (tgt := 15) hx hb dX1_look_97 (by decide) ?_
                have e1 : (mo_df S M i) + 1 = mo_df S M (i + 1) := by rw [mo_df, if_pos c_16]
                have e2 : mo_cnt S M i (i + 1) = mo_gc S M (i + 1) := by rw [mo_gc, if_neg c_20]
                have e3 : C i = mo_gl C (i + 1) := by rw [mo_gl, if_neg c_22]
                rw [e1, e2, e3] at hl
                exact ihi _ _ (lv_sub hl [5, 6, 3, 2, 1, 0] rfl) (by omega) (by omega)
