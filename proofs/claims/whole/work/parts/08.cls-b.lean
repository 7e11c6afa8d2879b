set_option maxHeartbeats 4000000 in
set_option maxRecDepth 100000 in
theorem k_X0_judge (l : Launch) (mv ck dd ct cl : Int32)  : Met l yX0_judge wsX0_judge ({ frames := 0, cells := 0, slots := 0, locals := 0 } : Room) (pu [.int mv, .int ck, .int dd, .int ct, .int cl]) (QcRead (ga_judge mv ck dd ct cl)) 0 0 nofree := by
  refine Met.ofW (cc := cX0_judge) (maxL := 5) (ret := (some .int)) (by decide) rfl ?_
  intro p e s m args below meth c s₁ B hml hv
  obtain ⟨rfl, -⟩ := hv
  have hx := B.exec
  have hb := B.bytes
  have hr := B.returns
  have hts := atoms_spec (ws := wsX0_judge) B.pre
  have hown : s.vm.findClass RX0 = some m.cls := findClass_of_methodNamed B.named
  have hlocks := B.notSynchronized
  have hl := lv_entry ([.int mv, .int ck, .int dd, .int ct, .int cl]) (n := 5) (Nat.le_of_ble_eq_true rfl)
  rw [lg_entry_eq]
  generalize (lg_sl ([.int mv, .int ck, .int dd, .int ct, .int cl]) ++ List.replicate (5 - (lg_sl ([.int mv, .int ck, .int dd, .int ct, .int cl])).length) Slot.unset).toArray = ls at hl ⊢
  replace hl : lv_has ls 5 [(0, .int mv), (1, .int ck), (2, .int dd), (3, .int ct), (4, .int cl)] := hl
  refine lv_iload_n hx hb dX0_judge_0 rfl (lv_at hl 0 rfl) ?_
  refine lv_if_ne (tgt := 14) hx hb dX0_judge_1 (by decide) (fun c_1 => ?_) (fun c_1 => ?_)
  · refine lv_iload_n hx hb dX0_judge_14 rfl (lv_at hl 2 rfl) ?_
    refine lv_if_eq (tgt := 20) hx hb dX0_judge_15 (by decide) (fun c_2 => ?_) (fun c_2 => ?_)
    · refine lv_iload_n hx hb dX0_judge_20 rfl (lv_at hl 3 rfl) ?_
      refine lv_iconst (v := nI 5) hx hb dX0_judge_21 (by decide) ?_
      refine lv_icmp_lt (tgt := 27) hx hb dX0_judge_22 (by decide) (fun c_3 => ?_) (fun c_3 => ?_)
      · refine lv_iload hx hb dX0_judge_27 (lv_at hl 4 rfl) ?_
        refine lv_sipush (v := nI 150) hx hb dX0_judge_29 (by decide) ?_
        refine lv_icmp_lt (tgt := 37) hx hb dX0_judge_32 (by decide) (fun c_4 => ?_) (fun c_4 => ?_)
        · refine lv_iload_n hx hb dX0_judge_37 rfl (lv_at hl 3 rfl) ?_
          refine lv_iconst (v := nI 3) hx hb dX0_judge_38 (by decide) ?_
          refine lv_icmp_lt (tgt := 57) hx hb dX0_judge_39 (by decide) (fun c_5 => ?_) (fun c_5 => ?_)
          · refine lv_iload hx hb dX0_judge_57 (lv_at hl 4 rfl) ?_
            refine lv_bipush (v := nI 100) hx hb dX0_judge_59 (by decide) ?_
            refine lv_icmp_lt (tgt := 69) hx hb dX0_judge_61 (by decide) (fun c_6 => ?_) (fun c_6 => ?_)
            · refine lv_iconst (v := nI 0) hx hb dX0_judge_69 (by decide) ?_
              exact rd_ret hx hb hr hlocks (by rw [ga_judge, if_neg c_1, if_pos c_2, if_pos c_3, if_pos c_4, if_pos c_5, if_pos c_6]) dX0_judge_70
            · refine lv_bipush (v := nI 7) hx hb dX0_judge_64 (by decide) ?_
              refine lv_goto (tgt := 70) hx hb dX0_judge_66 (by decide) ?_
              exact rd_ret hx hb hr hlocks (by rw [ga_judge, if_neg c_1, if_pos c_2, if_pos c_3, if_pos c_4, if_pos c_5, if_neg c_6]) dX0_judge_70
          · refine lv_iload hx hb dX0_judge_42 (lv_at hl 4 rfl) ?_
            refine lv_bipush (v := nI 100) hx hb dX0_judge_44 (by decide) ?_
            refine lv_icmp_lt (tgt := 54) hx hb dX0_judge_46 (by decide) (fun c_7 => ?_) (fun c_7 => ?_)
            · refine lv_bipush (v := nI 6) hx hb dX0_judge_54 (by decide) ?_
              exact rd_ret hx hb hr hlocks (by rw [ga_judge, if_neg c_1, if_pos c_2, if_pos c_3, if_pos c_4, if_neg c_5, if_pos c_7]) dX0_judge_56
            · refine lv_bipush (v := nI 8) hx hb dX0_judge_49 (by decide) ?_
              refine lv_goto (tgt := 56) hx hb dX0_judge_51 (by decide) ?_
              exact rd_ret hx hb hr hlocks (by rw [ga_judge, if_neg c_1, if_pos c_2, if_pos c_3, if_pos c_4, if_neg c_5, if_neg c_7]) dX0_judge_56
        · refine lv_iconst (v := nI 5) hx hb dX0_judge_35 (by decide) ?_
          exact rd_ret hx hb hr hlocks (by rw [ga_judge, if_neg c_1, if_pos c_2, if_pos c_3, if_neg c_4]) dX0_judge_36
      · refine lv_iconst (v := nI 4) hx hb dX0_judge_25 (by decide) ?_
        exact rd_ret hx hb hr hlocks (by rw [ga_judge, if_neg c_1, if_pos c_2, if_neg c_3]) dX0_judge_26
    · refine lv_iconst (v := nI 3) hx hb dX0_judge_18 (by decide) ?_
      exact rd_ret hx hb hr hlocks (by rw [ga_judge, if_neg c_1, if_neg c_2]) dX0_judge_19
  · refine lv_iload_n hx hb dX0_judge_4 rfl (lv_at hl 1 rfl) ?_
    refine lv_if_eq (tgt := 12) hx hb dX0_judge_5 (by decide) (fun c_8 => ?_) (fun c_8 => ?_)
    · refine lv_iconst (v := nI 2) hx hb dX0_judge_12 (by decide) ?_
      exact rd_ret hx hb hr hlocks (by rw [ga_judge, if_pos c_1, if_pos c_8]) dX0_judge_13
    · refine lv_iconst (v := nI 1) hx hb dX0_judge_8 (by decide) ?_
      refine lv_goto (tgt := 13) hx hb dX0_judge_9 (by decide) ?_
      exact rd_ret hx hb hr hlocks (by rw [ga_judge, if_pos c_1, if_neg c_8]) dX0_judge_13
set_option maxHeartbeats 4000000 in
set_option maxRecDepth 100000 in
theorem k_X0_manGiven (l : Launch) (dC : Nat → ClassId) (dI : Nat → Nat → Nat) (cI cJ : ClassId) (x g t f : Nat) (G T : Nat → Int64) (F : Nat → Int32) (n : Nat) (k : Nat) (hk : k < 64) : Met l yX0_manGiven wsX0_manGiven ({ frames := 1, cells := 0, slots := 0, locals := 23 } : Room) (rd (dC, dI) (wX cI cJ x g t f G T F n) (tK cI cJ) [.ref x, .int (nI k)]) (QcRead (nI (sqm G k))) 0 0 nofree := by
  refine Met.ofW (cc := cX0_manGiven) (maxL := 2) (ret := (some .int)) (by decide) rfl ?_
  intro p e s m args below meth c s₁ B hml hv
  obtain ⟨rfl, hP, hK⟩ := hv
  have hx := B.exec
  have hb := B.bytes
  have hr := B.returns
  have hts := atoms_spec (ws := wsX0_manGiven) B.pre
  have hown : s.vm.findClass RX0 = some m.cls := findClass_of_methodNamed B.named
  have hlocks := B.notSynchronized
  have hinX0 : ∀ w ∈ u_ws RX0 TX0 4, w ∈ wsX0_manGiven := by decide +kernel
  have hf9 := hts (.fieldLink RX0 9 "GameArbiter" "given" "[J") (by decide +kernel)
  have hl := lv_entry ([.ref x, .int (nI k)]) (n := 2) (Nat.le_of_ble_eq_true rfl)
  rw [lg_entry_eq]
  generalize (lg_sl ([.ref x, .int (nI k)]) ++ List.replicate (2 - (lg_sl ([.ref x, .int (nI k)])).length) Slot.unset).toArray = ls at hl ⊢
  replace hl : lv_has ls 2 [(0, .ref x), (1, .int (nI k))] := hl
  refine lv_aload_n hx hb dX0_manGiven_0 rfl (lv_at hl 0 rfl) ?_
  refine va_get (D := (dC, dI)) (ci := 0) (v := .ref g) (C := RX0) (T := TX0) (N := 4) hx hb hts hinX0 hown hK hP 0 rfl rfl 0 (by decide) hf9 (fun _ h9 => h9) rfl dX0_manGiven_1 ?_
  refine lv_iload_n hx hb dX0_manGiven_4 rfl (lv_at hl 1 rfl) ?_
  refine lv_iconst (v := nI 4) hx hb dX0_manGiven_5 (by decide) ?_
  refine lv_ishr hx hb dX0_manGiven_6 ?_
  refine lv_is (show (nI k) >>> ((nI 4) &&& 31) = nI (k / 16) from pk_shrN (by omega) (nI 4 &&& 31) 4 (by decide)) ?_
  refine ix_lald hx hb hK hP 1 0 rfl rfl (show k / 16 < 4 by omega) (by decide) dX0_manGiven_7 ?_
  refine lv_iload_n hx hb dX0_manGiven_8 rfl (lv_at hl 1 rfl) ?_
  refine lv_bipush (v := nI 15) hx hb dX0_manGiven_9 (by decide) ?_
  refine lv_iand hx hb dX0_manGiven_11 ?_
  refine lv_is (show (nI k) &&& (nI 15) = nI (k % 16) from pk_andN (by omega) 4 (by decide)) ?_
  refine pu_callS (rest := []) ⟨hx, hb, hml, hown, hts⟩ (k_X0_manOfPart l (G (k / 16)) (k % 16) (by omega)) (va_cwS 2 hts gX0_manGiven_X0_manOfPart rfl rfl rfl (by decide +kernel) ⟨Nat.le_of_ble_eq_true rfl, Nat.le_of_ble_eq_true rfl⟩) rfl hl.1 rfl (Nat.le_of_ble_eq_true rfl) dX0_manGiven_12 ⟨Nat.zero_le _, Nat.zero_le _⟩ ?_
  exact rd_ret hx hb hr hlocks (rfl) dX0_manGiven_15
set_option maxHeartbeats 4000000 in
set_option maxRecDepth 100000 in
theorem k_X0_countGiven (l : Launch) (dC : Nat → ClassId) (dI : Nat → Nat → Nat) (cI cJ : ClassId) (x g t f : Nat) (G T : Nat → Int64) (F : Nat → Int32) (n : Nat) (man : Int32)  : Met l yX0_countGiven wsX0_countGiven ({ frames := 2, cells := 0, slots := 0, locals := 44 } : Room) (rd (dC, dI) (wX cI cJ x g t f G T F n) (tK cI cJ) [.ref x, .int man]) (QcRead (nI (ga_cnt G man 64))) 0 0 nofree := by
  refine Met.ofW (cc := cX0_countGiven) (maxL := 4) (ret := (some .int)) (by decide) rfl ?_
  intro p e s m args below meth c s₁ B hml hv
  obtain ⟨rfl, hP, hK⟩ := hv
  have hx := B.exec
  have hb := B.bytes
  have hr := B.returns
  have hts := atoms_spec (ws := wsX0_countGiven) B.pre
  have hown : s.vm.findClass RX0 = some m.cls := findClass_of_methodNamed B.named
  have hlocks := B.notSynchronized
  have hinX0 : ∀ w ∈ u_ws RX0 TX0 4, w ∈ wsX0_countGiven := by decide +kernel
  have hl := lv_entry ([.ref x, .int man]) (n := 4) (Nat.le_of_ble_eq_true rfl)
  rw [lg_entry_eq]
  generalize (lg_sl ([.ref x, .int man]) ++ List.replicate (4 - (lg_sl ([.ref x, .int man])).length) Slot.unset).toArray = ls at hl ⊢
  replace hl : lv_has ls 4 [(0, .ref x), (1, .int man)] := hl
  refine lv_iconst (v := nI 0) hx hb dX0_countGiven_0 (by decide) ?_
  refine lv_istore_n (lv' := [(2, .int (nI 0)), (0, .ref x), (1, .int man)]) hx hb dX0_countGiven_1 rfl hl (by decide) rfl (fun ls hl => ?_)
  refine lv_iconst (v := nI 0) hx hb dX0_countGiven_2 (by decide) ?_
  refine lv_istore_n (lv' := [(3, .int (nI 0)), (2, .int (nI 0)), (0, .ref x), (1, .int man)]) hx hb dX0_countGiven_3 rfl hl (by decide) rfl (fun ls hl => ?_)
  obtain ⟨i, hi0⟩ : ∃ i : Nat, i = 0 := ⟨0, rfl⟩
  replace hl := lv_sub hl [2, 3, 1, 0] rfl
  replace hl : lv_has ls 4 [(0, .ref x), (1, .int man), (2, .int (nI (ga_cnt G man i))), (3, .int (nI i))] := by rw [hi0]; exact hl
  have hib : i ≤ 64 := by omega
  clear hi0
  obtain ⟨zi, hzi⟩ : ∃ z : Nat, 64 < i + z := ⟨64 + 1, by omega⟩
  induction zi generalizing i ls with
  | zero => exact absurd hzi (by omega)
  | succ zi ihi =>
    refine lv_iload_n hx hb dX0_countGiven_4 rfl (lv_at hl 3 rfl) ?_
    refine lv_bipush (v := nI 64) hx hb dX0_countGiven_5 (by decide) ?_
    refine lv_icmp_ge (tgt := 28) hx hb dX0_countGiven_7 (by decide) (fun c_1 => ?_) (fun c_1 => ?_)
    · have c_1 : 64 ≤ i := (nI_leI (show 64 < 2 ^ 31 by omega) (show i < 2 ^ 31 by omega)).mp c_1
      refine lv_iload_n hx hb dX0_countGiven_28 rfl (lv_at hl 2 rfl) ?_
      exact rd_ret hx hb hr hlocks (by rw [show i = 64 by omega]) dX0_countGiven_29
    · have c_1 : ¬ (64 ≤ i) := fun h => c_1 ((nI_leI (show 64 < 2 ^ 31 by omega) (show i < 2 ^ 31 by omega)).mpr h)
      refine lv_aload_n hx hb dX0_countGiven_10 rfl (lv_at hl 0 rfl) ?_
      refine lv_iload_n hx hb dX0_countGiven_11 rfl (lv_at hl 3 rfl) ?_
      refine rd_callV (rest := []) ⟨hx, hb, hml, hown, hts⟩ (k_X0_manGiven l dC dI cI cJ x g t f G T F n i (by omega)) (cwV 1 hts gX0_countGiven_X0_manGiven rfl rfl rfl (by decide +kernel) ⟨Nat.le_of_ble_eq_true rfl, Nat.le_of_ble_eq_true rfl⟩) hK hP rfl (q0 := 0) rfl rfl hl.1 rfl (Nat.le_of_ble_eq_true rfl) dX0_countGiven_12 ⟨Nat.zero_le _, Nat.zero_le _⟩ ?_
      refine lv_iload_n hx hb dX0_countGiven_15 rfl (lv_at hl 1 rfl) ?_
      refine lv_icmp_ne (tgt := 22) hx hb dX0_countGiven_16 (by decide) (fun c_2 => ?_) (fun c_2 => ?_)
      · refine lv_iinc (v := nI (i + 1)) (lv' := [(3, .int (nI (i + 1))), (0, .ref x), (1, .int man), (2, .int (nI (ga_cnt G man i)))]) hx hb dX0_countGiven_22 hl (k := 3) rfl (nI_1 _) (by decide) rfl (fun ls hl => ?_)
        refine lv_goto (tgt := 4) hx hb dX0_countGiven_25 (by decide) ?_
        have e1 : ga_cnt G man i = ga_cnt G man (i + 1) := by simp only [ga_cnt, c_2, ↓reduceIte, Nat.add_zero]
        rw [e1] at hl
        exact ihi _ _ (lv_sub hl [1, 2, 3, 0] rfl) (by omega) (by omega)
      · refine lv_iinc (v := nI ((ga_cnt G man i) + 1)) (lv' := [(2, .int (nI ((ga_cnt G man i) + 1))), (0, .ref x), (1, .int man), (3, .int (nI i))]) hx hb dX0_countGiven_19 hl (k := 2) rfl (nI_1 _) (by decide) rfl (fun ls hl => ?_)
        refine lv_iinc (v := nI (i + 1)) (lv' := [(3, .int (nI (i + 1))), (2, .int (nI ((ga_cnt G man i) + 1))), (0, .ref x), (1, .int man)]) hx hb dX0_countGiven_22 hl (k := 3) rfl (nI_1 _) (by decide) rfl (fun ls hl => ?_)
        refine lv_goto (tgt := 4) hx hb dX0_countGiven_25 (by decide) ?_
        have e1 : (ga_cnt G man i) + 1 = ga_cnt G man (i + 1) := by simp only [ga_cnt, c_2, ↓reduceIte, Nat.add_zero]
        rw [e1] at hl
        exact ihi _ _ (lv_sub hl [2, 3, 1, 0] rfl) (by omega) (by omega)
set_option maxHeartbeats 4000000 in
set_option maxRecDepth 100000 in
theorem k_X0_firstSquareGiven (l : Launch) (dC : Nat → ClassId) (dI : Nat → Nat → Nat) (cI cJ : ClassId) (x g t f : Nat) (G T : Nat → Int64) (F : Nat → Int32) (n : Nat) (man : Int32)  : Met l yX0_firstSquareGiven wsX0_firstSquareGiven ({ frames := 2, cells := 0, slots := 0, locals := 44 } : Room) (rd (dC, dI) (wX cI cJ x g t f G T F n) (tK cI cJ) [.ref x, .int man]) (QcRead (ga_first G man 64)) 0 0 nofree := by
  refine Met.ofW (cc := cX0_firstSquareGiven) (maxL := 3) (ret := (some .int)) (by decide) rfl ?_
  intro p e s m args below meth c s₁ B hml hv
  obtain ⟨rfl, hP, hK⟩ := hv
  have hx := B.exec
  have hb := B.bytes
  have hr := B.returns
  have hts := atoms_spec (ws := wsX0_firstSquareGiven) B.pre
  have hown : s.vm.findClass RX0 = some m.cls := findClass_of_methodNamed B.named
  have hlocks := B.notSynchronized
  have hinX0 : ∀ w ∈ u_ws RX0 TX0 4, w ∈ wsX0_firstSquareGiven := by decide +kernel
  have hl := lv_entry ([.ref x, .int man]) (n := 3) (Nat.le_of_ble_eq_true rfl)
  rw [lg_entry_eq]
  generalize (lg_sl ([.ref x, .int man]) ++ List.replicate (3 - (lg_sl ([.ref x, .int man])).length) Slot.unset).toArray = ls at hl ⊢
  replace hl : lv_has ls 3 [(0, .ref x), (1, .int man)] := hl
  refine lv_iconst (v := nI 0) hx hb dX0_firstSquareGiven_0 (by decide) ?_
  refine lv_istore_n (lv' := [(2, .int (nI 0)), (0, .ref x), (1, .int man)]) hx hb dX0_firstSquareGiven_1 rfl hl (by decide) rfl (fun ls hl => ?_)
  obtain ⟨i, hi0⟩ : ∃ i : Nat, i = 0 := ⟨0, rfl⟩
  replace hl := lv_sub hl [1, 2, 0] rfl
  replace hl : lv_has ls 3 [(0, .ref x), (1, .int man), (2, .int (nI i))] := by rw [hi0]; exact hl
  have hib : i ≤ 64 := by omega
  have hI : ga_first G man 64 = ga_first G man (64 - i) := by subst hi0; rfl
  clear hi0
  obtain ⟨zi, hzi⟩ : ∃ z : Nat, 64 < i + z := ⟨64 + 1, by omega⟩
  induction zi generalizing i ls with
  | zero => exact absurd hzi (by omega)
  | succ zi ihi =>
    refine lv_iload_n hx hb dX0_firstSquareGiven_2 rfl (lv_at hl 2 rfl) ?_
    refine lv_bipush (v := nI 64) hx hb dX0_firstSquareGiven_3 (by decide) ?_
    refine lv_icmp_ge (tgt := 25) hx hb dX0_firstSquareGiven_5 (by decide) (fun c_1 => ?_) (fun c_1 => ?_)
    · have c_1 : 64 ≤ i := (nI_leI (show 64 < 2 ^ 31 by omega) (show i < 2 ^ 31 by omega)).mp c_1
      refine lv_iconst (v := (-1)) hx hb dX0_firstSquareGiven_25 (by decide) ?_
      exact rd_ret hx hb hr hlocks (by rw [hI, show 64 - i = 0 by omega]; rfl) dX0_firstSquareGiven_26
    · have c_1 : ¬ (64 ≤ i) := fun h => c_1 ((nI_leI (show 64 < 2 ^ 31 by omega) (show i < 2 ^ 31 by omega)).mpr h)
      refine lv_aload_n hx hb dX0_firstSquareGiven_8 rfl (lv_at hl 0 rfl) ?_
      refine lv_iload_n hx hb dX0_firstSquareGiven_9 rfl (lv_at hl 2 rfl) ?_
      refine rd_callV (rest := []) ⟨hx, hb, hml, hown, hts⟩ (k_X0_manGiven l dC dI cI cJ x g t f G T F n i (by omega)) (cwV 1 hts gX0_firstSquareGiven_X0_manGiven rfl rfl rfl (by decide +kernel) ⟨Nat.le_of_ble_eq_true rfl, Nat.le_of_ble_eq_true rfl⟩) hK hP rfl (q0 := 0) rfl rfl hl.1 rfl (Nat.le_of_ble_eq_true rfl) dX0_firstSquareGiven_10 ⟨Nat.zero_le _, Nat.zero_le _⟩ ?_
      refine lv_iload_n hx hb dX0_firstSquareGiven_13 rfl (lv_at hl 1 rfl) ?_
      refine lv_icmp_ne (tgt := 19) hx hb dX0_firstSquareGiven_14 (by decide) (fun c_2 => ?_) (fun c_2 => ?_)
      · refine lv_iinc (v := nI (i + 1)) (lv' := [(2, .int (nI (i + 1))), (0, .ref x), (1, .int man)]) hx hb dX0_firstSquareGiven_19 hl (k := 2) rfl (nI_1 _) (by decide) rfl (fun ls hl => ?_)
        refine lv_goto (tgt := 2) hx hb dX0_firstSquareGiven_22 (by decide) ?_
        have hJ : ga_first G man 64 = ga_first G man (64 - (i + 1)) := by
          rw [hI, show 64 - i = (64 - (i + 1)) + 1 by omega, ga_first, show 63 - (64 - (i + 1)) = i by omega, if_neg c_2]
        exact ihi _ _ (lv_sub hl [1, 2, 0] rfl) (by omega) hJ (by omega)
      · refine lv_iload_n hx hb dX0_firstSquareGiven_17 rfl (lv_at hl 2 rfl) ?_
        exact rd_ret hx hb hr hlocks (by rw [hI, show 64 - i = (64 - (i + 1)) + 1 by omega, ga_first, show 63 - (64 - (i + 1)) = i by omega, if_pos c_2]) dX0_firstSquareGiven_18
set_option maxHeartbeats 4000000 in
set_option maxRecDepth 100000 in
theorem k_X0_colourOf (l : Launch) (q : Int32)  : Met l yX0_colourOf wsX0_colourOf ({ frames := 0, cells := 0, slots := 0, locals := 0 } : Room) (pu [.int q]) (QcRead (ga_col q)) 0 0 nofree := by
  refine Met.ofW (cc := cX0_colourOf) (maxL := 3) (ret := (some .int)) (by decide) rfl ?_
  intro p e s m args below meth c s₁ B hml hv
  obtain ⟨rfl, -⟩ := hv
  have hx := B.exec
  have hb := B.bytes
  have hr := B.returns
  have hts := atoms_spec (ws := wsX0_colourOf) B.pre
  have hown : s.vm.findClass RX0 = some m.cls := findClass_of_methodNamed B.named
  have hlocks := B.notSynchronized
  have hl := lv_entry ([.int q]) (n := 3) (Nat.le_of_ble_eq_true rfl)
  rw [lg_entry_eq]
  generalize (lg_sl ([.int q]) ++ List.replicate (3 - (lg_sl ([.int q])).length) Slot.unset).toArray = ls at hl ⊢
  replace hl : lv_has ls 3 [(0, .int q)] := hl
  refine lv_iload_n hx hb dX0_colourOf_0 rfl (lv_at hl 0 rfl) ?_
  refine lv_bipush (v := nI 7) hx hb dX0_colourOf_1 (by decide) ?_
  refine lv_iand hx hb dX0_colourOf_3 ?_
  refine lv_istore_n (lv' := [(1, .int (q &&& (nI 7))), (0, .int q)]) hx hb dX0_colourOf_4 rfl hl (by decide) rfl (fun ls hl => ?_)
  refine lv_iload_n hx hb dX0_colourOf_5 rfl (lv_at hl 1 rfl) ?_
  refine lv_iconst (v := nI 3) hx hb dX0_colourOf_6 (by decide) ?_
  refine lv_ishr hx hb dX0_colourOf_7 ?_
  refine lv_istore_n (lv' := [(2, .int (q >>> ((nI 3) &&& 31))), (1, .int (q &&& (nI 7))), (0, .int q)]) hx hb dX0_colourOf_8 rfl hl (by decide) rfl (fun ls hl => ?_)
  refine lv_iload_n hx hb dX0_colourOf_9 rfl (lv_at hl 1 rfl) ?_
  refine lv_iload_n hx hb dX0_colourOf_10 rfl (lv_at hl 0 rfl) ?_
  refine lv_iadd hx hb dX0_colourOf_11 ?_
  refine lv_iconst (v := nI 1) hx hb dX0_colourOf_12 (by decide) ?_
  refine lv_iand hx hb dX0_colourOf_13 ?_
  exact rd_ret hx hb hr hlocks (rfl) dX0_colourOf_14
set_option maxHeartbeats 4000000 in
set_option maxRecDepth 100000 in
theorem k_X0_isGivenDead (l : Launch) (dC : Nat → ClassId) (dI : Nat → Nat → Nat) (cI cJ : ClassId) (x g t f : Nat) (G T : Nat → Int64) (F : Nat → Int32) (n : Nat) (men : Int32)  : Met l yX0_isGivenDead wsX0_isGivenDead ({ frames := 3, cells := 0, slots := 0, locals := 67 } : Room) (rd (dC, dI) (wX cI cJ x g t f G T F n) (tK cI cJ) [.ref x, .int men]) (QcRead (ga_dead G men)) 0 0 nofree := by
  refine Met.ofW (cc := cX0_isGivenDead) (maxL := 4) (ret := (some .boolean)) (by decide) rfl ?_
  intro p e s m args below meth c s₁ B hml hv
  obtain ⟨rfl, hP, hK⟩ := hv
  have hx := B.exec
  have hb := B.bytes
  have hr := B.returns
  have hts := atoms_spec (ws := wsX0_isGivenDead) B.pre
  have hown : s.vm.findClass RX0 = some m.cls := findClass_of_methodNamed B.named
  have hlocks := B.notSynchronized
  have hinX0 : ∀ w ∈ u_ws RX0 TX0 4, w ∈ wsX0_isGivenDead := by decide +kernel
  have hl := lv_entry ([.ref x, .int men]) (n := 4) (Nat.le_of_ble_eq_true rfl)
  rw [lg_entry_eq]
  generalize (lg_sl ([.ref x, .int men]) ++ List.replicate (4 - (lg_sl ([.ref x, .int men])).length) Slot.unset).toArray = ls at hl ⊢
  replace hl : lv_has ls 4 [(0, .ref x), (1, .int men)] := hl
  refine lv_aload_n hx hb dX0_isGivenDead_0 rfl (lv_at hl 0 rfl) ?_
  refine lv_bipush (v := nI 6) hx hb dX0_isGivenDead_1 (by decide) ?_
  have hcnnI6 := ga_cnt_le G (nI 6) 64
  refine rd_callV (rest := []) ⟨hx, hb, hml, hown, hts⟩ (k_X0_countGiven l dC dI cI cJ x g t f G T F n (nI 6)) (cwV 1 hts gX0_isGivenDead_X0_countGiven rfl rfl rfl (by decide +kernel) ⟨Nat.le_of_ble_eq_true rfl, Nat.le_of_ble_eq_true rfl⟩) hK hP rfl (q0 := 0) rfl rfl hl.1 rfl (Nat.le_of_ble_eq_true rfl) dX0_isGivenDead_3 ⟨Nat.zero_le _, Nat.zero_le _⟩ ?_
  refine lv_iconst (v := nI 1) hx hb dX0_isGivenDead_6 (by decide) ?_
  refine lv_icmp_ne (tgt := 20) hx hb dX0_isGivenDead_7 (by decide) (fun c_1 => ?_) (fun c_1 => ?_)
  · have c_1 : ¬ ((ga_cnt G (nI 6) 64) = 1) := fun h => c_1 ((nI_eq (show ga_cnt G (nI 6) 64 < 2 ^ 31 by omega) (show 1 < 2 ^ 31 by omega)).mpr h)
    refine lv_iconst (v := nI 0) hx hb dX0_isGivenDead_20 (by decide) ?_
    exact rd_retz hx hb hr hlocks rfl (by rw [ga_dead, if_neg c_1]) dX0_isGivenDead_21
  · have c_1 : (ga_cnt G (nI 6) 64) = 1 := (nI_eq (show ga_cnt G (nI 6) 64 < 2 ^ 31 by omega) (show 1 < 2 ^ 31 by omega)).mp c_1
    refine lv_aload_n hx hb dX0_isGivenDead_10 rfl (lv_at hl 0 rfl) ?_
    refine lv_bipush (v := nI 12) hx hb dX0_isGivenDead_11 (by decide) ?_
    have hcnnI12 := ga_cnt_le G (nI 12) 64
    refine rd_callV (rest := []) ⟨hx, hb, hml, hown, hts⟩ (k_X0_countGiven l dC dI cI cJ x g t f G T F n (nI 12)) (cwV 1 hts gX0_isGivenDead_X0_countGiven rfl rfl rfl (by decide +kernel) ⟨Nat.le_of_ble_eq_true rfl, Nat.le_of_ble_eq_true rfl⟩) hK hP rfl (q0 := 0) rfl rfl hl.1 rfl (Nat.le_of_ble_eq_true rfl) dX0_isGivenDead_13 ⟨Nat.zero_le _, Nat.zero_le _⟩ ?_
    refine lv_iconst (v := nI 1) hx hb dX0_isGivenDead_16 (by decide) ?_
    refine lv_icmp_eq (tgt := 22) hx hb dX0_isGivenDead_17 (by decide) (fun c_2 => ?_) (fun c_2 => ?_)
    · have c_2 : (ga_cnt G (nI 12) 64) = 1 := (nI_eq (show ga_cnt G (nI 12) 64 < 2 ^ 31 by omega) (show 1 < 2 ^ 31 by omega)).mp c_2
      refine lv_iload_n hx hb dX0_isGivenDead_22 rfl (lv_at hl 1 rfl) ?_
      refine lv_iconst (v := nI 2) hx hb dX0_isGivenDead_23 (by decide) ?_
      refine lv_icmp_ne (tgt := 29) hx hb dX0_isGivenDead_24 (by decide) (fun c_3 => ?_) (fun c_3 => ?_)
      · refine lv_aload_n hx hb dX0_isGivenDead_29 rfl (lv_at hl 0 rfl) ?_
        refine lv_iconst (v := nI 3) hx hb dX0_isGivenDead_30 (by decide) ?_
        have hcnnI3 := ga_cnt_le G (nI 3) 64
        refine rd_callV (rest := []) ⟨hx, hb, hml, hown, hts⟩ (k_X0_countGiven l dC dI cI cJ x g t f G T F n (nI 3)) (cwV 1 hts gX0_isGivenDead_X0_countGiven rfl rfl rfl (by decide +kernel) ⟨Nat.le_of_ble_eq_true rfl, Nat.le_of_ble_eq_true rfl⟩) hK hP rfl (q0 := 0) rfl rfl hl.1 rfl (Nat.le_of_ble_eq_true rfl) dX0_isGivenDead_31 ⟨Nat.zero_le _, Nat.zero_le _⟩ ?_
        refine lv_istore_n (lv' := [(2, .int (nI (ga_cnt G (nI 3) 64))), (0, .ref x), (1, .int men)]) hx hb dX0_isGivenDead_34 rfl hl (by decide) rfl (fun ls hl => ?_)
        refine lv_aload_n hx hb dX0_isGivenDead_35 rfl (lv_at hl 1 rfl) ?_
        refine lv_bipush (v := nI 9) hx hb dX0_isGivenDead_36 (by decide) ?_
        have hcnnI9 := ga_cnt_le G (nI 9) 64
        refine rd_callV (rest := []) ⟨hx, hb, hml, hown, hts⟩ (k_X0_countGiven l dC dI cI cJ x g t f G T F n (nI 9)) (cwV 1 hts gX0_isGivenDead_X0_countGiven rfl rfl rfl (by decide +kernel) ⟨Nat.le_of_ble_eq_true rfl, Nat.le_of_ble_eq_true rfl⟩) hK hP rfl (q0 := 0) rfl rfl hl.1 rfl (Nat.le_of_ble_eq_true rfl) dX0_isGivenDead_38 ⟨Nat.zero_le _, Nat.zero_le _⟩ ?_
        refine lv_istore_n (lv' := [(3, .int (nI (ga_cnt G (nI 9) 64))), (2, .int (nI (ga_cnt G (nI 3) 64))), (0, .ref x), (1, .int men)]) hx hb dX0_isGivenDead_41 rfl hl (by decide) rfl (fun ls hl => ?_)
        refine lv_iload_n hx hb dX0_isGivenDead_42 rfl (lv_at hl 3 rfl) ?_
        refine lv_iconst (v := nI 3) hx hb dX0_isGivenDead_43 (by decide) ?_
        refine lv_icmp_ne (tgt := 73) hx hb dX0_isGivenDead_44 (by decide) (fun c_4 => ?_) (fun c_4 => ?_)
        · refine lv_iload_n hx hb dX0_isGivenDead_73 rfl (lv_at hl 3 rfl) ?_
          refine lv_iconst (v := nI 4) hx hb dX0_isGivenDead_74 (by decide) ?_
          refine lv_icmp_ne (tgt := 112) hx hb dX0_isGivenDead_75 (by decide) (fun c_5 => ?_) (fun c_5 => ?_)
          · refine lv_iconst (v := nI 0) hx hb dX0_isGivenDead_112 (by decide) ?_
            exact rd_retz hx hb hr hlocks rfl (by rw [ga_dead, if_pos c_1, if_pos c_2, if_neg c_3, if_neg c_4, if_neg c_5]) dX0_isGivenDead_113
          · refine lv_iload_n hx hb dX0_isGivenDead_78 rfl (lv_at hl 1 rfl) ?_
            refine lv_iconst (v := nI 1) hx hb dX0_isGivenDead_79 (by decide) ?_
            refine lv_icmp_ne (tgt := 112) hx hb dX0_isGivenDead_80 (by decide) (fun c_6 => ?_) (fun c_6 => ?_)
            · have c_6 : ¬ ((ga_cnt G (nI 3) 64) = 1) := fun h => c_6 ((nI_eq (show ga_cnt G (nI 3) 64 < 2 ^ 31 by omega) (show 1 < 2 ^ 31 by omega)).mpr h)
              refine lv_iconst (v := nI 0) hx hb dX0_isGivenDead_112 (by decide) ?_
              exact rd_retz hx hb hr hlocks rfl (by rw [ga_dead, if_pos c_1, if_pos c_2, if_neg c_3, if_neg c_4, if_pos c_5, if_neg c_6]) dX0_isGivenDead_113
            · have c_6 : (ga_cnt G (nI 3) 64) = 1 := (nI_eq (show ga_cnt G (nI 3) 64 < 2 ^ 31 by omega) (show 1 < 2 ^ 31 by omega)).mp c_6
              refine lv_iload_n hx hb dX0_isGivenDead_83 rfl (lv_at hl 0 rfl) ?_
              refine lv_iconst (v := nI 1) hx hb dX0_isGivenDead_84 (by decide) ?_
              refine lv_icmp_ne (tgt := 112) hx hb dX0_isGivenDead_85 (by decide) (fun c_7 => ?_) (fun c_7 => ?_)
              · have c_7 : ¬ ((ga_cnt G (nI 9) 64) = 1) := fun h => c_7 ((nI_eq (show ga_cnt G (nI 9) 64 < 2 ^ 31 by omega) (show 1 < 2 ^ 31 by omega)).mpr h)
                refine lv_iconst (v := nI 0) hx hb dX0_isGivenDead_112 (by decide) ?_
                exact rd_retz hx hb hr hlocks rfl (by rw [ga_dead, if_pos c_1, if_pos c_2, if_neg c_3, if_neg c_4, if_pos c_5, if_pos c_6, if_neg c_7]) dX0_isGivenDead_113
              · have c_7 : (ga_cnt G (nI 9) 64) = 1 := (nI_eq (show ga_cnt G (nI 9) 64 < 2 ^ 31 by omega) (show 1 < 2 ^ 31 by omega)).mp c_7
                refine lv_aload_n hx hb dX0_isGivenDead_88 rfl (lv_at hl 2 rfl) ?_
                refine lv_iconst (v := nI 3) hx hb dX0_isGivenDead_89 (by decide) ?_
                refine rd_callV (rest := []) ⟨hx, hb, hml, hown, hts⟩ (k_X0_firstSquareGiven l dC dI cI cJ x g t f G T F n (nI 3)) (cwV 1 hts gX0_isGivenDead_X0_firstSquareGiven rfl rfl rfl (by decide +kernel) ⟨Nat.le_of_ble_eq_true rfl, Nat.le_of_ble_eq_true rfl⟩) hK hP rfl (q0 := 0) rfl rfl hl.1 rfl (Nat.le_of_ble_eq_true rfl) dX0_isGivenDead_90 ⟨Nat.zero_le _, Nat.zero_le _⟩ ?_
                refine pu_callS (rest := []) ⟨hx, hb, hml, hown, hts⟩ (k_X0_colourOf l (ga_first G (nI 3) 64)) (va_cwS 1 hts gX0_isGivenDead_X0_colourOf rfl rfl rfl (by decide +kernel) ⟨Nat.le_of_ble_eq_true rfl, Nat.le_of_ble_eq_true rfl⟩) rfl hl.1 rfl (Nat.le_of_ble_eq_true rfl) dX0_isGivenDead_93 ⟨Nat.zero_le _, Nat.zero_le _⟩ ?_
                refine lv_aload_n hx hb dX0_isGivenDead_96 rfl (lv_at hl 2 rfl) ?_
                refine lv_bipush (v := nI 9) hx hb dX0_isGivenDead_97 (by decide) ?_
                refine rd_callV (rest := [.int (ga_col (ga_first G (nI 3) 64))]) ⟨hx, hb, hml, hown, hts⟩ (k_X0_firstSquareGiven l dC dI cI cJ x g t f G T F n (nI 9)) (cwV 1 hts gX0_isGivenDead_X0_firstSquareGiven rfl rfl rfl (by decide +kernel) ⟨Nat.le_of_ble_eq_true rfl, Nat.le_of_ble_eq_true rfl⟩) hK hP rfl (q0 := 0) rfl rfl hl.1 rfl (Nat.le_of_ble_eq_true rfl) dX0_isGivenDead_99 ⟨Nat.zero_le _, Nat.zero_le _⟩ ?_
                refine pu_callS (rest := [.int (ga_col (ga_first G (nI 3) 64))]) ⟨hx, hb, hml, hown, hts⟩ (k_X0_colourOf l (ga_first G (nI 9) 64)) (va_cwS 1 hts gX0_isGivenDead_X0_colourOf rfl rfl rfl (by decide +kernel) ⟨Nat.le_of_ble_eq_true rfl, Nat.le_of_ble_eq_true rfl⟩) rfl hl.1 rfl (Nat.le_of_ble_eq_true rfl) dX0_isGivenDead_102 ⟨Nat.zero_le _, Nat.zero_le _⟩ ?_
                refine lv_icmp_ne (tgt := 112) hx hb dX0_isGivenDead_105 (by decide) (fun c_8 => ?_) (fun c_8 => ?_)
                · refine lv_iconst (v := nI 0) hx hb dX0_isGivenDead_112 (by decide) ?_
                  exact rd_retz hx hb hr hlocks rfl (by rw [ga_dead, if_pos c_1, if_pos c_2, if_neg c_3, if_neg c_4, if_pos c_5, if_pos c_6, if_pos c_7, if_neg c_8]) dX0_isGivenDead_113
                · refine lv_iconst (v := nI 1) hx hb dX0_isGivenDead_108 (by decide) ?_
                  refine lv_goto (tgt := 113) hx hb dX0_isGivenDead_109 (by decide) ?_
                  exact rd_retz hx hb hr hlocks rfl (by rw [ga_dead, if_pos c_1, if_pos c_2, if_neg c_3, if_neg c_4, if_pos c_5, if_pos c_6, if_pos c_7, if_pos c_8]) dX0_isGivenDead_113
        · refine lv_iload_n hx hb dX0_isGivenDead_47 rfl (lv_at hl 1 rfl) ?_
          refine lv_iload_n hx hb dX0_isGivenDead_48 rfl (lv_at hl 0 rfl) ?_
          refine lv_iadd hx hb dX0_isGivenDead_49 ?_
          refine lv_is (nI_add _ _) ?_
          refine lv_aload_n hx hb dX0_isGivenDead_50 rfl (lv_at hl 2 rfl) ?_
          refine lv_iconst (v := nI 2) hx hb dX0_isGivenDead_51 (by decide) ?_
          have hcnnI2 := ga_cnt_le G (nI 2) 64
          refine rd_callV (rest := [.int (nI ((ga_cnt G (nI 3) 64) + (ga_cnt G (nI 9) 64)))]) ⟨hx, hb, hml, hown, hts⟩ (k_X0_countGiven l dC dI cI cJ x g t f G T F n (nI 2)) (cwV 1 hts gX0_isGivenDead_X0_countGiven rfl rfl rfl (by decide +kernel) ⟨Nat.le_of_ble_eq_true rfl, Nat.le_of_ble_eq_true rfl⟩) hK hP rfl (q0 := 0) rfl rfl hl.1 rfl (Nat.le_of_ble_eq_true rfl) dX0_isGivenDead_52 ⟨Nat.zero_le _, Nat.zero_le _⟩ ?_
          refine lv_iadd hx hb dX0_isGivenDead_55 ?_
          refine lv_is (nI_add _ _) ?_
          refine lv_aload_n hx hb dX0_isGivenDead_56 rfl (lv_at hl 2 rfl) ?_
          refine lv_bipush (v := nI 8) hx hb dX0_isGivenDead_57 (by decide) ?_
          have hcnnI8 := ga_cnt_le G (nI 8) 64
          refine rd_callV (rest := [.int (nI (((ga_cnt G (nI 3) 64) + (ga_cnt G (nI 9) 64)) + (ga_cnt G (nI 2) 64)))]) ⟨hx, hb, hml, hown, hts⟩ (k_X0_countGiven l dC dI cI cJ x g t f G T F n (nI 8)) (cwV 1 hts gX0_isGivenDead_X0_countGiven rfl rfl rfl (by decide +kernel) ⟨Nat.le_of_ble_eq_true rfl, Nat.le_of_ble_eq_true rfl⟩) hK hP rfl (q0 := 0) rfl rfl hl.1 rfl (Nat.le_of_ble_eq_true rfl) dX0_isGivenDead_59 ⟨Nat.zero_le _, Nat.zero_le _⟩ ?_
          refine lv_iadd hx hb dX0_isGivenDead_62 ?_
          refine lv_is (nI_add _ _) ?_
          refine lv_iconst (v := nI 1) hx hb dX0_isGivenDead_63 (by decide) ?_
          refine lv_icmp_ne (tgt := 71) hx hb dX0_isGivenDead_64 (by decide) (fun c_9 => ?_) (fun c_9 => ?_)
          · have c_9 : ¬ (((((ga_cnt G (nI 3) 64) + (ga_cnt G (nI 9) 64)) + (ga_cnt G (nI 2) 64)) + (ga_cnt G (nI 8) 64)) = 1) := fun h => c_9 ((nI_eq (show (((ga_cnt G (nI 3) 64) + (ga_cnt G (nI 9) 64)) + (ga_cnt G (nI 2) 64)) + (ga_cnt G (nI 8) 64) < 2 ^ 31 by omega) (show 1 < 2 ^ 31 by omega)).mpr h)
            refine lv_iconst (v := nI 0) hx hb dX0_isGivenDead_71 (by decide) ?_
            exact rd_retz hx hb hr hlocks rfl (by rw [ga_dead, if_pos c_1, if_pos c_2, if_neg c_3, if_pos c_4, if_neg c_9]) dX0_isGivenDead_72
          · have c_9 : ((((ga_cnt G (nI 3) 64) + (ga_cnt G (nI 9) 64)) + (ga_cnt G (nI 2) 64)) + (ga_cnt G (nI 8) 64)) = 1 := (nI_eq (show (((ga_cnt G (nI 3) 64) + (ga_cnt G (nI 9) 64)) + (ga_cnt G (nI 2) 64)) + (ga_cnt G (nI 8) 64) < 2 ^ 31 by omega) (show 1 < 2 ^ 31 by omega)).mp c_9
            refine lv_iconst (v := nI 1) hx hb dX0_isGivenDead_67 (by decide) ?_
            refine lv_goto (tgt := 72) hx hb dX0_isGivenDead_68 (by decide) ?_
            exact rd_retz hx hb hr hlocks rfl (by rw [ga_dead, if_pos c_1, if_pos c_2, if_neg c_3, if_pos c_4, if_pos c_9]) dX0_isGivenDead_72
      · refine lv_iconst (v := nI 1) hx hb dX0_isGivenDead_27 (by decide) ?_
        exact rd_retz hx hb hr hlocks rfl (by rw [ga_dead, if_pos c_1, if_pos c_2, if_pos c_3]) dX0_isGivenDead_28
    · have c_2 : ¬ ((ga_cnt G (nI 12) 64) = 1) := fun h => c_2 ((nI_eq (show ga_cnt G (nI 12) 64 < 2 ^ 31 by omega) (show 1 < 2 ^ 31 by omega)).mpr h)
      refine lv_iconst (v := nI 0) hx hb dX0_isGivenDead_20 (by decide) ?_
      exact rd_retz hx hb hr hlocks rfl (by rw [ga_dead, if_pos c_1, if_neg c_2]) dX0_isGivenDead_21
set_option maxHeartbeats 4000000 in
set_option maxRecDepth 100000 in
theorem k_X0_differentPositions (l : Launch) (dC : Nat → ClassId) (dI : Nat → Nat → Nat) (cI cJ : ClassId) (x g t f : Nat) (G T : Nat → Int64) (F : Nat → Int32) (n : Nat) (hn : n ≤ 640) : Met l yX0_differentPositions wsX0_differentPositions ({ frames := 1, cells := 0, slots := 0, locals := 22 } : Room) (rd (dC, dI) (wX cI cJ x g t f G T F n) (tK cI cJ) [.ref x]) (QcRead (nI (ga_diff F n))) 0 0 nofree := by
  refine Met.ofW (cc := cX0_differentPositions) (maxL := 3) (ret := (some .int)) (by decide) rfl ?_
  intro p e s m args below meth c s₁ B hml hv
  obtain ⟨rfl, hP, hK⟩ := hv
  have hx := B.exec
  have hb := B.bytes
  have hr := B.returns
  have hts := atoms_spec (ws := wsX0_differentPositions) B.pre
  have hown : s.vm.findClass RX0 = some m.cls := findClass_of_methodNamed B.named
  have hlocks := B.notSynchronized
  have hinX0 : ∀ w ∈ u_ws RX0 TX0 4, w ∈ wsX0_differentPositions := by decide +kernel
  have hf20 := hts (.fieldLink RX0 20 "GameArbiter" "positions" "I") (by decide +kernel)
  have hl := lv_entry ([.ref x]) (n := 3) (Nat.le_of_ble_eq_true rfl)
  rw [lg_entry_eq]
  generalize (lg_sl ([.ref x]) ++ List.replicate (3 - (lg_sl ([.ref x])).length) Slot.unset).toArray = ls at hl ⊢
  replace hl : lv_has ls 3 [(0, .ref x)] := hl
  refine lv_iconst (v := nI 0) hx hb dX0_differentPositions_0 (by decide) ?_
  refine lv_istore_n (lv' := [(1, .int (nI 0)), (0, .ref x)]) hx hb dX0_differentPositions_1 rfl hl (by decide) rfl (fun ls hl => ?_)
  refine lv_iconst (v := nI 0) hx hb dX0_differentPositions_2 (by decide) ?_
  refine lv_istore_n (lv' := [(2, .int (nI 0)), (1, .int (nI 0)), (0, .ref x)]) hx hb dX0_differentPositions_3 rfl hl (by decide) rfl (fun ls hl => ?_)
  obtain ⟨i, hi0⟩ : ∃ i : Nat, i = 0 := ⟨0, rfl⟩
  replace hl := lv_sub hl [2, 1, 0] rfl
  replace hl : lv_has ls 3 [(0, .ref x), (1, .int (nI (ga_diff F i))), (2, .int (nI i))] := by rw [hi0]; exact hl
  have hib : i ≤ n := by omega
  clear hi0
  obtain ⟨zi, hzi⟩ : ∃ z : Nat, n < i + z := ⟨n + 1, by omega⟩
  induction zi generalizing i ls with
  | zero => exact absurd hzi (by omega)
  | succ zi ihi =>
    refine lv_iload_n hx hb dX0_differentPositions_4 rfl (lv_at hl 2 rfl) ?_
    refine lv_aload_n hx hb dX0_differentPositions_5 rfl (lv_at hl 0 rfl) ?_
    refine va_get (D := (dC, dI)) (ci := 0) (v := .int (nI n)) (C := RX0) (T := TX0) (N := 4) hx hb hts hinX0 hown hK hP 0 rfl rfl 3 (by decide) hf20 (fun _ h9 => h9) rfl dX0_differentPositions_6 ?_
    refine lv_icmp_ge (tgt := 31) hx hb dX0_differentPositions_9 (by decide) (fun c_1 => ?_) (fun c_1 => ?_)
    · have c_1 : n ≤ i := (nI_leI (show n < 2 ^ 31 by omega) (show i < 2 ^ 31 by omega)).mp c_1
      refine lv_iload_n hx hb dX0_differentPositions_31 rfl (lv_at hl 1 rfl) ?_
      exact rd_ret hx hb hr hlocks (by rw [show i = n by omega]) dX0_differentPositions_32
    · have c_1 : ¬ (n ≤ i) := fun h => c_1 ((nI_leI (show n < 2 ^ 31 by omega) (show i < 2 ^ 31 by omega)).mpr h)
      refine lv_aload_n hx hb dX0_differentPositions_12 rfl (lv_at hl 0 rfl) ?_
      refine lv_iload_n hx hb dX0_differentPositions_13 rfl (lv_at hl 2 rfl) ?_
      refine lv_iconst (v := nI 4) hx hb dX0_differentPositions_14 (by decide) ?_
      refine rd_callV (rest := []) ⟨hx, hb, hml, hown, hts⟩ (k_X0_factOf l dC dI cI cJ x g t f G T F n i 4 (by omega)) (cwV 2 hts gX0_differentPositions_X0_factOf rfl rfl rfl (by decide +kernel) ⟨Nat.le_of_ble_eq_true rfl, Nat.le_of_ble_eq_true rfl⟩) hK hP rfl (q0 := 0) rfl rfl hl.1 rfl (Nat.le_of_ble_eq_true rfl) dX0_differentPositions_15 ⟨Nat.zero_le _, Nat.zero_le _⟩ ?_
      refine lv_iconst (v := (-1)) hx hb dX0_differentPositions_18 (by decide) ?_
      refine lv_icmp_ne (tgt := 25) hx hb dX0_differentPositions_19 (by decide) (fun c_2 => ?_) (fun c_2 => ?_)
      · refine lv_iinc (v := nI (i + 1)) (lv' := [(2, .int (nI (i + 1))), (0, .ref x), (1, .int (nI (ga_diff F i)))]) hx hb dX0_differentPositions_25 hl (k := 2) rfl (nI_1 _) (by decide) rfl (fun ls hl => ?_)
        refine lv_goto (tgt := 4) hx hb dX0_differentPositions_28 (by decide) ?_
        have e1 : ga_diff F i = ga_diff F (i + 1) := by simp only [ga_diff, c_2, ↓reduceIte, Nat.add_zero]
        rw [e1] at hl
        exact ihi _ _ (lv_sub hl [1, 2, 0] rfl) (by omega) (by omega)
      · refine lv_iinc (v := nI ((ga_diff F i) + 1)) (lv' := [(1, .int (nI ((ga_diff F i) + 1))), (0, .ref x), (2, .int (nI i))]) hx hb dX0_differentPositions_22 hl (k := 1) rfl (nI_1 _) (by decide) rfl (fun ls hl => ?_)
        refine lv_iinc (v := nI (i + 1)) (lv' := [(2, .int (nI (i + 1))), (1, .int (nI ((ga_diff F i) + 1))), (0, .ref x)]) hx hb dX0_differentPositions_25 hl (k := 2) rfl (nI_1 _) (by decide) rfl (fun ls hl => ?_)
        refine lv_goto (tgt := 4) hx hb dX0_differentPositions_28 (by decide) ?_
        have e1 : (ga_diff F i) + 1 = ga_diff F (i + 1) := by simp only [ga_diff, c_2, ↓reduceIte, Nat.add_zero]
        rw [e1] at hl
        exact ihi _ _ (lv_sub hl [2, 1, 0] rfl) (by omega) (by omega)
set_option maxHeartbeats 4000000 in
set_option maxRecDepth 100000 in
theorem k_X0_greatest (l : Launch) (dC : Nat → ClassId) (dI : Nat → Nat → Nat) (cI cJ : ClassId) (x g t f : Nat) (G T : Nat → Int64) (F : Nat → Int32) (n : Nat) (b : Nat) (hn : n ≤ 640) (hb8 : b < 8) : Met l yX0_greatest wsX0_greatest ({ frames := 1, cells := 0, slots := 0, locals := 30 } : Room) (rd (dC, dI) (wX cI cJ x g t f G T F n) (tK cI cJ) [.ref x, .int (nI b)]) (QcRead (ga_great F b n)) 0 0 nofree := by
  refine Met.ofW (cc := cX0_greatest) (maxL := 4) (ret := (some .int)) (by decide) rfl ?_
  intro p e s m args below meth c s₁ B hml hv
  obtain ⟨rfl, hP, hK⟩ := hv
  have hx := B.exec
  have hb := B.bytes
  have hr := B.returns
  have hts := atoms_spec (ws := wsX0_greatest) B.pre
  have hown : s.vm.findClass RX0 = some m.cls := findClass_of_methodNamed B.named
  have hlocks := B.notSynchronized
  have hinX0 : ∀ w ∈ u_ws RX0 TX0 4, w ∈ wsX0_greatest := by decide +kernel
  have hf20 := hts (.fieldLink RX0 20 "GameArbiter" "positions" "I") (by decide +kernel)
  have hl := lv_entry ([.ref x, .int (nI b)]) (n := 4) (Nat.le_of_ble_eq_true rfl)
  rw [lg_entry_eq]
  generalize (lg_sl ([.ref x, .int (nI b)]) ++ List.replicate (4 - (lg_sl ([.ref x, .int (nI b)])).length) Slot.unset).toArray = ls at hl ⊢
  replace hl : lv_has ls 4 [(0, .ref x), (1, .int (nI b))] := hl
  refine lv_iconst (v := nI 0) hx hb dX0_greatest_0 (by decide) ?_
  refine lv_istore_n (lv' := [(2, .int (nI 0)), (0, .ref x), (1, .int (nI b))]) hx hb dX0_greatest_1 rfl hl (by decide) rfl (fun ls hl => ?_)
  refine lv_iconst (v := nI 0) hx hb dX0_greatest_2 (by decide) ?_
  refine lv_istore_n (lv' := [(3, .int (nI 0)), (2, .int (nI 0)), (0, .ref x), (1, .int (nI b))]) hx hb dX0_greatest_3 rfl hl (by decide) rfl (fun ls hl => ?_)
  obtain ⟨i, hi0⟩ : ∃ i : Nat, i = 0 := ⟨0, rfl⟩
  replace hl := lv_sub hl [2, 3, 1, 0] rfl
  replace hl : lv_has ls 4 [(0, .ref x), (1, .int (nI b)), (2, .int (ga_great F b i)), (3, .int (nI i))] := by rw [hi0]; exact hl
  have hib : i ≤ n := by omega
  clear hi0
  obtain ⟨zi, hzi⟩ : ∃ z : Nat, n < i + z := ⟨n + 1, by omega⟩
  induction zi generalizing i ls with
  | zero => exact absurd hzi (by omega)
  | succ zi ihi =>
    refine lv_iload_n hx hb dX0_greatest_4 rfl (lv_at hl 3 rfl) ?_
    refine lv_aload_n hx hb dX0_greatest_5 rfl (lv_at hl 0 rfl) ?_
    refine va_get (D := (dC, dI)) (ci := 0) (v := .int (nI n)) (C := RX0) (T := TX0) (N := 4) hx hb hts hinX0 hown hK hP 0 rfl rfl 3 (by decide) hf20 (fun _ h9 => h9) rfl dX0_greatest_6 ?_
    refine lv_icmp_ge (tgt := 29) hx hb dX0_greatest_9 (by decide) (fun c_1 => ?_) (fun c_1 => ?_)
    · have c_1 : n ≤ i := (nI_leI (show n < 2 ^ 31 by omega) (show i < 2 ^ 31 by omega)).mp c_1
      refine lv_iload_n hx hb dX0_greatest_29 rfl (lv_at hl 2 rfl) ?_
      exact rd_ret hx hb hr hlocks (by rw [show i = n by omega]) dX0_greatest_30
    · have c_1 : ¬ (n ≤ i) := fun h => c_1 ((nI_leI (show n < 2 ^ 31 by omega) (show i < 2 ^ 31 by omega)).mpr h)
      refine lv_iload_n hx hb dX0_greatest_12 rfl (lv_at hl 2 rfl) ?_
      refine lv_aload_n hx hb dX0_greatest_13 rfl (lv_at hl 0 rfl) ?_
      refine lv_iload_n hx hb dX0_greatest_14 rfl (lv_at hl 3 rfl) ?_
      refine lv_iload_n hx hb dX0_greatest_15 rfl (lv_at hl 1 rfl) ?_
      refine rd_callV (rest := [.int (ga_great F b i)]) ⟨hx, hb, hml, hown, hts⟩ (k_X0_factOf l dC dI cI cJ x g t f G T F n i b (by omega)) (cwV 2 hts gX0_greatest_X0_factOf rfl rfl rfl (by decide +kernel) ⟨Nat.le_of_ble_eq_true rfl, Nat.le_of_ble_eq_true rfl⟩) hK hP rfl (q0 := 0) rfl rfl hl.1 rfl (Nat.le_of_ble_eq_true rfl) dX0_greatest_16 ⟨Nat.zero_le _, Nat.zero_le _⟩ ?_
      refine va_mmax hx hb (hml.trans hl.1.symm) hown (hts (.methodLink RX0 125 Lib.Math.max.name) (by decide +kernel)) (hts (.static Lib.Math.max.name) (by decide +kernel)) (hts (.initialized "java/lang/Math") (by decide +kernel)) (hts (.code Lib.Math.max.name Lib.Math.max.code 2 (some .int)) (by decide +kernel)) (Nat.le_of_ble_eq_true rfl) (Nat.le_of_ble_eq_true rfl) (Nat.zero_le _) (Nat.zero_le _) dX0_greatest_19 ?_
      refine lv_is (y := ga_great F b (i + 1)) rfl ?_
      refine lv_istore_n (lv' := [(2, .int (ga_great F b (i + 1))), (0, .ref x), (1, .int (nI b)), (3, .int (nI i))]) hx hb dX0_greatest_22 rfl hl (by decide) rfl (fun ls hl => ?_)
      refine lv_iinc (v := nI (i + 1)) (lv' := [(3, .int (nI (i + 1))), (2, .int (ga_great F b (i + 1))), (0, .ref x), (1, .int (nI b))]) hx hb dX0_greatest_23 hl (k := 3) rfl (nI_1 _) (by decide) rfl (fun ls hl => ?_)
      refine lv_goto (tgt := 4) hx hb dX0_greatest_26 (by decide) ?_
      exact ihi _ _ (lv_sub hl [2, 3, 1, 0] rfl) (by omega) (by omega)
