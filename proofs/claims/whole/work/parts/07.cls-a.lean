set_option maxHeartbeats 4000000 in
set_option maxRecDepth 100000 in
theorem k_X0_isPart (l : Launch) (a : Int32)  : Met l yX0_isPart wsX0_isPart ({ frames := 0, cells := 0, slots := 0, locals := 0 } : Room) (pu [.int a]) (QcRead (ga_isPart a)) 0 0 nofree := by
  refine Met.ofW (cc := cX0_isPart) (maxL := 1) (ret := (some .boolean)) (by decide) rfl ?_
  intro p e s m args below meth c s₁ B hml hv
  obtain ⟨rfl, -⟩ := hv
  have hx := B.exec
  have hb := B.bytes
  have hr := B.returns
  have hts := atoms_spec (ws := wsX0_isPart) B.pre
  have hown : s.vm.findClass RX0 = some m.cls := findClass_of_methodNamed B.named
  have hlocks := B.notSynchronized
  have hl := lv_entry ([.int a]) (n := 1) (Nat.le_of_ble_eq_true rfl)
  rw [lg_entry_eq]
  generalize (lg_sl ([.int a]) ++ List.replicate (1 - (lg_sl ([.int a])).length) Slot.unset).toArray = ls at hl ⊢
  replace hl : lv_has ls 1 [(0, .int a)] := hl
  refine lv_iload_n hx hb dX0_isPart_0 rfl (lv_at hl 0 rfl) ?_
  refine lv_if_lt (tgt := 13) hx hb dX0_isPart_1 (by decide) (fun c_1 => ?_) (fun c_1 => ?_)
  · refine lv_iconst (v := nI 0) hx hb dX0_isPart_13 (by decide) ?_
    exact rd_retz hx hb hr hlocks rfl (by rw [ga_isPart, if_pos c_1]) dX0_isPart_14
  · refine lv_iload_n hx hb dX0_isPart_4 rfl (lv_at hl 0 rfl) ?_
    refine lv_iconst (v := nI 4) hx hb dX0_isPart_5 (by decide) ?_
    refine lv_icmp_ge (tgt := 13) hx hb dX0_isPart_6 (by decide) (fun c_2 => ?_) (fun c_2 => ?_)
    · refine lv_iconst (v := nI 0) hx hb dX0_isPart_13 (by decide) ?_
      exact rd_retz hx hb hr hlocks rfl (by rw [ga_isPart, if_neg c_1, if_pos c_2]) dX0_isPart_14
    · refine lv_iconst (v := nI 1) hx hb dX0_isPart_9 (by decide) ?_
      refine lv_goto (tgt := 14) hx hb dX0_isPart_10 (by decide) ?_
      exact rd_retz hx hb hr hlocks rfl (by rw [ga_isPart, if_neg c_1, if_neg c_2]) dX0_isPart_14
set_option maxHeartbeats 4000000 in
set_option maxRecDepth 100000 in
theorem k_X0_isMoves (l : Launch) (a : Int32)  : Met l yX0_isMoves wsX0_isMoves ({ frames := 0, cells := 0, slots := 0, locals := 0 } : Room) (pu [.int a]) (QcRead (ga_isMoves a)) 0 0 nofree := by
  refine Met.ofW (cc := cX0_isMoves) (maxL := 1) (ret := (some .boolean)) (by decide) rfl ?_
  intro p e s m args below meth c s₁ B hml hv
  obtain ⟨rfl, -⟩ := hv
  have hx := B.exec
  have hb := B.bytes
  have hr := B.returns
  have hts := atoms_spec (ws := wsX0_isMoves) B.pre
  have hown : s.vm.findClass RX0 = some m.cls := findClass_of_methodNamed B.named
  have hlocks := B.notSynchronized
  have hl := lv_entry ([.int a]) (n := 1) (Nat.le_of_ble_eq_true rfl)
  rw [lg_entry_eq]
  generalize (lg_sl ([.int a]) ++ List.replicate (1 - (lg_sl ([.int a])).length) Slot.unset).toArray = ls at hl ⊢
  replace hl : lv_has ls 1 [(0, .int a)] := hl
  refine lv_iload_n hx hb dX0_isMoves_0 rfl (lv_at hl 0 rfl) ?_
  refine lv_if_lt (tgt := 15) hx hb dX0_isMoves_1 (by decide) (fun c_1 => ?_) (fun c_1 => ?_)
  · refine lv_iconst (v := nI 0) hx hb dX0_isMoves_15 (by decide) ?_
    exact rd_retz hx hb hr hlocks rfl (by rw [ga_isMoves, if_pos c_1]) dX0_isMoves_16
  · refine lv_iload_n hx hb dX0_isMoves_4 rfl (lv_at hl 0 rfl) ?_
    refine lv_sipush (v := nI 300) hx hb dX0_isMoves_5 (by decide) ?_
    refine lv_icmp_gt (tgt := 15) hx hb dX0_isMoves_8 (by decide) (fun c_2 => ?_) (fun c_2 => ?_)
    · refine lv_iconst (v := nI 0) hx hb dX0_isMoves_15 (by decide) ?_
      exact rd_retz hx hb hr hlocks rfl (by rw [ga_isMoves, if_neg c_1, if_pos c_2]) dX0_isMoves_16
    · refine lv_iconst (v := nI 1) hx hb dX0_isMoves_11 (by decide) ?_
      refine lv_goto (tgt := 16) hx hb dX0_isMoves_12 (by decide) ?_
      exact rd_retz hx hb hr hlocks rfl (by rw [ga_isMoves, if_neg c_1, if_neg c_2]) dX0_isMoves_16
set_option maxHeartbeats 4000000 in
set_option maxRecDepth 100000 in
theorem k_X0_isClock (l : Launch) (a : Int32)  : Met l yX0_isClock wsX0_isClock ({ frames := 0, cells := 0, slots := 0, locals := 0 } : Room) (pu [.int a]) (QcRead (ga_isClock a)) 0 0 nofree := by
  refine Met.ofW (cc := cX0_isClock) (maxL := 1) (ret := (some .boolean)) (by decide) rfl ?_
  intro p e s m args below meth c s₁ B hml hv
  obtain ⟨rfl, -⟩ := hv
  have hx := B.exec
  have hb := B.bytes
  have hr := B.returns
  have hts := atoms_spec (ws := wsX0_isClock) B.pre
  have hown : s.vm.findClass RX0 = some m.cls := findClass_of_methodNamed B.named
  have hlocks := B.notSynchronized
  have hl := lv_entry ([.int a]) (n := 1) (Nat.le_of_ble_eq_true rfl)
  rw [lg_entry_eq]
  generalize (lg_sl ([.int a]) ++ List.replicate (1 - (lg_sl ([.int a])).length) Slot.unset).toArray = ls at hl ⊢
  replace hl : lv_has ls 1 [(0, .int a)] := hl
  refine lv_iload_n hx hb dX0_isClock_0 rfl (lv_at hl 0 rfl) ?_
  refine lv_if_lt (tgt := 15) hx hb dX0_isClock_1 (by decide) (fun c_1 => ?_) (fun c_1 => ?_)
  · refine lv_iconst (v := nI 0) hx hb dX0_isClock_15 (by decide) ?_
    exact rd_retz hx hb hr hlocks rfl (by rw [ga_isClock, if_pos c_1]) dX0_isClock_16
  · refine lv_iload_n hx hb dX0_isClock_4 rfl (lv_at hl 0 rfl) ?_
    refine lv_sipush (v := nI 1000) hx hb dX0_isClock_5 (by decide) ?_
    refine lv_icmp_gt (tgt := 15) hx hb dX0_isClock_8 (by decide) (fun c_2 => ?_) (fun c_2 => ?_)
    · refine lv_iconst (v := nI 0) hx hb dX0_isClock_15 (by decide) ?_
      exact rd_retz hx hb hr hlocks rfl (by rw [ga_isClock, if_neg c_1, if_pos c_2]) dX0_isClock_16
    · refine lv_iconst (v := nI 1) hx hb dX0_isClock_11 (by decide) ?_
      refine lv_goto (tgt := 16) hx hb dX0_isClock_12 (by decide) ?_
      exact rd_retz hx hb hr hlocks rfl (by rw [ga_isClock, if_neg c_1, if_neg c_2]) dX0_isClock_16
set_option maxHeartbeats 4000000 in
set_option maxRecDepth 100000 in
theorem k_X0_isState (l : Launch) (a : Int32)  : Met l yX0_isState wsX0_isState ({ frames := 0, cells := 0, slots := 0, locals := 0 } : Room) (pu [.int a]) (QcRead (ga_isState a)) 0 0 nofree := by
  refine Met.ofW (cc := cX0_isState) (maxL := 2) (ret := (some .boolean)) (by decide) rfl ?_
  intro p e s m args below meth c s₁ B hml hv
  obtain ⟨rfl, -⟩ := hv
  have hx := B.exec
  have hb := B.bytes
  have hr := B.returns
  have hts := atoms_spec (ws := wsX0_isState) B.pre
  have hown : s.vm.findClass RX0 = some m.cls := findClass_of_methodNamed B.named
  have hlocks := B.notSynchronized
  have hl := lv_entry ([.int a]) (n := 2) (Nat.le_of_ble_eq_true rfl)
  rw [lg_entry_eq]
  generalize (lg_sl ([.int a]) ++ List.replicate (2 - (lg_sl ([.int a])).length) Slot.unset).toArray = ls at hl ⊢
  replace hl : lv_has ls 2 [(0, .int a)] := hl
  refine lv_iload_n hx hb dX0_isState_0 rfl (lv_at hl 0 rfl) ?_
  refine lv_if_lt (tgt := 11) hx hb dX0_isState_1 (by decide) (fun c_1 => ?_) (fun c_1 => ?_)
  · refine lv_iconst (v := nI 0) hx hb dX0_isState_11 (by decide) ?_
    exact rd_retz hx hb hr hlocks rfl (by rw [ga_isState, if_pos c_1]) dX0_isState_12
  · refine lv_iload_n hx hb dX0_isState_4 rfl (lv_at hl 0 rfl) ?_
    refine lv_sipush (v := nI 512) hx hb dX0_isState_5 (by decide) ?_
    refine lv_icmp_lt (tgt := 13) hx hb dX0_isState_8 (by decide) (fun c_2 => ?_) (fun c_2 => ?_)
    · refine lv_iload_n hx hb dX0_isState_13 rfl (lv_at hl 0 rfl) ?_
      refine lv_iconst (v := nI 5) hx hb dX0_isState_14 (by decide) ?_
      refine lv_ishr hx hb dX0_isState_15 ?_
      refine lv_istore_n (lv' := [(1, .int (a >>> ((nI 5) &&& 31))), (0, .int a)]) hx hb dX0_isState_16 rfl hl (by decide) rfl (fun ls hl => ?_)
      refine lv_iload_n hx hb dX0_isState_17 rfl (lv_at hl 0 rfl) ?_
      refine lv_bipush (v := nI 7) hx hb dX0_isState_18 (by decide) ?_
      refine lv_icmp_le (tgt := 29) hx hb dX0_isState_20 (by decide) (fun c_3 => ?_) (fun c_3 => ?_)
      · refine lv_iconst (v := nI 1) hx hb dX0_isState_29 (by decide) ?_
        refine lv_goto (tgt := 34) hx hb dX0_isState_30 (by decide) ?_
        exact rd_retz hx hb hr hlocks rfl (by rw [ga_isState, if_neg c_1, if_pos c_2, if_pos c_3]) dX0_isState_34
      · refine lv_iload_n hx hb dX0_isState_23 rfl (lv_at hl 0 rfl) ?_
        refine lv_bipush (v := nI 15) hx hb dX0_isState_24 (by decide) ?_
        refine lv_icmp_ne (tgt := 33) hx hb dX0_isState_26 (by decide) (fun c_4 => ?_) (fun c_4 => ?_)
        · refine lv_iconst (v := nI 0) hx hb dX0_isState_33 (by decide) ?_
          exact rd_retz hx hb hr hlocks rfl (by rw [ga_isState, if_neg c_1, if_pos c_2, if_neg c_3, if_neg c_4]) dX0_isState_34
        · refine lv_iconst (v := nI 1) hx hb dX0_isState_29 (by decide) ?_
          refine lv_goto (tgt := 34) hx hb dX0_isState_30 (by decide) ?_
          exact rd_retz hx hb hr hlocks rfl (by rw [ga_isState, if_neg c_1, if_pos c_2, if_neg c_3, if_pos c_4]) dX0_isState_34
    · refine lv_iconst (v := nI 0) hx hb dX0_isState_11 (by decide) ?_
      exact rd_retz hx hb hr hlocks rfl (by rw [ga_isState, if_neg c_1, if_neg c_2]) dX0_isState_12
set_option maxHeartbeats 4000000 in
set_option maxRecDepth 100000 in
theorem k_X0_manOfPart (l : Launch) (g : Int64) (k : Nat) (hk : k < 16) : Met l yX0_manOfPart wsX0_manOfPart ({ frames := 0, cells := 0, slots := 0, locals := 0 } : Room) (pu [.long g, .int (nI k)]) (QcRead (nI (nib g k))) 0 0 nofree := by
  refine Met.ofW (cc := cX0_manOfPart) (maxL := 4) (ret := (some .int)) (by decide) rfl ?_
  intro p e s m args below meth c s₁ B hml hv
  obtain ⟨rfl, -⟩ := hv
  have hx := B.exec
  have hb := B.bytes
  have hr := B.returns
  have hts := atoms_spec (ws := wsX0_manOfPart) B.pre
  have hown : s.vm.findClass RX0 = some m.cls := findClass_of_methodNamed B.named
  have hlocks := B.notSynchronized
  have hl := lv_entry ([.long g, .int (nI k)]) (n := 4) (Nat.le_of_ble_eq_true rfl)
  rw [lg_entry_eq]
  generalize (lg_sl ([.long g, .int (nI k)]) ++ List.replicate (4 - (lg_sl ([.long g, .int (nI k)])).length) Slot.unset).toArray = ls at hl ⊢
  replace hl : lv_has ls 4 [(0, .long g), (2, .int (nI k))] := hl
  refine lv_iconst (v := nI 4) hx hb dX0_manOfPart_0 (by decide) ?_
  refine lv_bipush (v := nI 15) hx hb dX0_manOfPart_1 (by decide) ?_
  refine lv_iload_n hx hb dX0_manOfPart_3 rfl (lv_at hl 1 rfl) ?_
  refine lv_isub hx hb dX0_manOfPart_4 ?_
  refine lv_is (pk_sub (by omega)) ?_
  refine lv_imul hx hb dX0_manOfPart_5 ?_
  refine lv_is (pk_mul _ _) ?_
  refine lv_istore_n (lv' := [(3, .int (nI (4 * (15 - k)))), (0, .long g), (2, .int (nI k))]) hx hb dX0_manOfPart_6 rfl hl (by decide) rfl (fun ls hl => ?_)
  refine lv_lload_n hx hb dX0_manOfPart_7 rfl (lv_at hl 1 rfl) ?_
  refine lv_iload_n hx hb dX0_manOfPart_8 rfl (lv_at hl 0 rfl) ?_
  refine lv_lushr (v := (g.toUInt64 >>> ((nI (4 * (15 - k))).toInt64.toUInt64 &&& Int64.toUInt64 63)).toInt64) hx hb dX0_manOfPart_9 rfl ?_
  refine lv_l2i (v := ((g.toUInt64 >>> ((nI (4 * (15 - k))).toInt64.toUInt64 &&& Int64.toUInt64 63)).toInt64).toInt32) hx hb dX0_manOfPart_10 rfl ?_
  refine lv_bipush (v := nI 15) hx hb dX0_manOfPart_11 (by decide) ?_
  refine lv_iand hx hb dX0_manOfPart_13 ?_
  refine lv_is (show (((g.toUInt64 >>> ((nI (4 * (15 - k))).toInt64.toUInt64 &&& Int64.toUInt64 63)).toInt64).toInt32) &&& (nI 15) = nI (nib g k) from nib_u g hk) ?_
  exact rd_ret hx hb hr hlocks (rfl) dX0_manOfPart_14
set_option maxHeartbeats 4000000 in
set_option maxRecDepth 100000 in
theorem k_X0_areMen (l : Launch) (g : Int64)  : Met l yX0_areMen wsX0_areMen ({ frames := 1, cells := 0, slots := 0, locals := 23 } : Room) (pu [.long g]) (QcRead (ga_areMen g)) 0 0 nofree := by
  refine Met.ofW (cc := cX0_areMen) (maxL := 3) (ret := (some .boolean)) (by decide) rfl ?_
  intro p e s m args below meth c s₁ B hml hv
  obtain ⟨rfl, -⟩ := hv
  have hx := B.exec
  have hb := B.bytes
  have hr := B.returns
  have hts := atoms_spec (ws := wsX0_areMen) B.pre
  have hown : s.vm.findClass RX0 = some m.cls := findClass_of_methodNamed B.named
  have hlocks := B.notSynchronized
  have hl := lv_entry ([.long g]) (n := 3) (Nat.le_of_ble_eq_true rfl)
  rw [lg_entry_eq]
  generalize (lg_sl ([.long g]) ++ List.replicate (3 - (lg_sl ([.long g])).length) Slot.unset).toArray = ls at hl ⊢
  replace hl : lv_has ls 3 [(0, .long g)] := hl
  refine lv_iconst (v := nI 0) hx hb dX0_areMen_0 (by decide) ?_
  refine lv_istore_n (lv' := [(2, .int (nI 0)), (0, .long g)]) hx hb dX0_areMen_1 rfl hl (by decide) rfl (fun ls hl => ?_)
  obtain ⟨i, hi0⟩ : ∃ i : Nat, i = 0 := ⟨0, rfl⟩
  replace hl := lv_sub hl [1, 0] rfl
  replace hl : lv_has ls 3 [(0, .long g), (2, .int (nI i))] := by rw [hi0]; exact hl
  have hib : i ≤ 16 := by omega
  have hI : ∀ k, k < i → nib g k ≤ 12 := by subst hi0; exact fun k hk => absurd hk (by omega)
  clear hi0
  obtain ⟨zi, hzi⟩ : ∃ z : Nat, 16 < i + z := ⟨16 + 1, by omega⟩
  induction zi generalizing i ls with
  | zero => exact absurd hzi (by omega)
  | succ zi ihi =>
    refine lv_iload_n hx hb dX0_areMen_2 rfl (lv_at hl 1 rfl) ?_
    refine lv_bipush (v := nI 16) hx hb dX0_areMen_3 (by decide) ?_
    refine lv_icmp_ge (tgt := 26) hx hb dX0_areMen_5 (by decide) (fun c_1 => ?_) (fun c_1 => ?_)
    · have c_1 : 16 ≤ i := (nI_leI (show 16 < 2 ^ 31 by omega) (show i < 2 ^ 31 by omega)).mp c_1
      refine lv_iconst (v := nI 1) hx hb dX0_areMen_26 (by decide) ?_
      exact rd_retz hx hb hr hlocks rfl (by rw [ga_areMen, if_pos (fun k hk => hI k (by omega))]) dX0_areMen_27
    · have c_1 : ¬ (16 ≤ i) := fun h => c_1 ((nI_leI (show 16 < 2 ^ 31 by omega) (show i < 2 ^ 31 by omega)).mpr h)
      refine lv_lload_n hx hb dX0_areMen_8 rfl (lv_at hl 0 rfl) ?_
      refine lv_iload_n hx hb dX0_areMen_9 rfl (lv_at hl 1 rfl) ?_
      refine pu_callS (rest := []) ⟨hx, hb, hml, hown, hts⟩ (k_X0_manOfPart l g i (by omega)) (va_cwS 2 hts gX0_areMen_X0_manOfPart rfl rfl rfl (by decide +kernel) ⟨Nat.le_of_ble_eq_true rfl, Nat.le_of_ble_eq_true rfl⟩) rfl hl.1 rfl (Nat.le_of_ble_eq_true rfl) dX0_areMen_10 ⟨Nat.zero_le _, Nat.zero_le _⟩ ?_
      have hnb := nib_lt g i
      refine lv_bipush (v := nI 12) hx hb dX0_areMen_13 (by decide) ?_
      refine lv_icmp_le (tgt := 20) hx hb dX0_areMen_15 (by decide) (fun c_2 => ?_) (fun c_2 => ?_)
      · have c_2 : (nib g i) ≤ 12 := (nI_leI (show nib g i < 2 ^ 31 by omega) (show 12 < 2 ^ 31 by omega)).mp c_2
        refine lv_iinc (v := nI (i + 1)) (lv' := [(2, .int (nI (i + 1))), (0, .long g)]) hx hb dX0_areMen_20 hl (k := 1) rfl (nI_1 _) (by decide) rfl (fun ls hl => ?_)
        refine lv_goto (tgt := 2) hx hb dX0_areMen_23 (by decide) ?_
        have hJ : ∀ k, k < i + 1 → nib g k ≤ 12 := fun k hk => by
          by_cases h : k = i
          · rw [h]; exact c_2
          · exact hI k (by omega)
        exact ihi _ _ (lv_sub hl [1, 0] rfl) (by omega) hJ (by omega)
      · have c_2 : ¬ ((nib g i) ≤ 12) := fun h => c_2 ((nI_leI (show nib g i < 2 ^ 31 by omega) (show 12 < 2 ^ 31 by omega)).mpr h)
        refine lv_iconst (v := nI 0) hx hb dX0_areMen_18 (by decide) ?_
        exact rd_retz hx hb hr hlocks rfl (by rw [ga_areMen, if_neg (fun h => c_2 (h i (by omega)))]) dX0_areMen_19
set_option maxHeartbeats 4000000 in
set_option maxRecDepth 100000 in
theorem k_X0_factOf (l : Launch) (dC : Nat → ClassId) (dI : Nat → Nat → Nat) (cI cJ : ClassId) (x g t f : Nat) (G T : Nat → Int64) (F : Nat → Int32) (n : Nat) (i b : Nat) (hi : i * 8 + b < 5120) : Met l yX0_factOf wsX0_factOf ({ frames := 0, cells := 0, slots := 0, locals := 0 } : Room) (rd (dC, dI) (wX cI cJ x g t f G T F n) (tK cI cJ) [.ref x, .int (nI i), .int (nI b)]) (QcRead (F (i * 8 + b))) 0 0 nofree := by
  refine Met.ofW (cc := cX0_factOf) (maxL := 3) (ret := (some .int)) (by decide) rfl ?_
  intro p e s m args below meth c s₁ B hml hv
  obtain ⟨rfl, hP, hK⟩ := hv
  have hx := B.exec
  have hb := B.bytes
  have hr := B.returns
  have hts := atoms_spec (ws := wsX0_factOf) B.pre
  have hown : s.vm.findClass RX0 = some m.cls := findClass_of_methodNamed B.named
  have hlocks := B.notSynchronized
  have hinX0 : ∀ w ∈ u_ws RX0 TX0 4, w ∈ wsX0_factOf := by decide +kernel
  have hf16 := hts (.fieldLink RX0 16 "GameArbiter" "facts" "[I") (by decide +kernel)
  have hl := lv_entry ([.ref x, .int (nI i), .int (nI b)]) (n := 3) (Nat.le_of_ble_eq_true rfl)
  rw [lg_entry_eq]
  generalize (lg_sl ([.ref x, .int (nI i), .int (nI b)]) ++ List.replicate (3 - (lg_sl ([.ref x, .int (nI i), .int (nI b)])).length) Slot.unset).toArray = ls at hl ⊢
  replace hl : lv_has ls 3 [(0, .ref x), (1, .int (nI i)), (2, .int (nI b))] := hl
  refine lv_aload_n hx hb dX0_factOf_0 rfl (lv_at hl 0 rfl) ?_
  refine va_get (D := (dC, dI)) (ci := 0) (v := .ref f) (C := RX0) (T := TX0) (N := 4) hx hb hts hinX0 hown hK hP 0 rfl rfl 2 (by decide) hf16 (fun _ h9 => h9) rfl dX0_factOf_1 ?_
  refine lv_iload_n hx hb dX0_factOf_4 rfl (lv_at hl 1 rfl) ?_
  refine lv_bipush (v := nI 8) hx hb dX0_factOf_5 (by decide) ?_
  refine lv_imul hx hb dX0_factOf_7 ?_
  refine lv_is (pk_mul _ _) ?_
  refine lv_iload_n hx hb dX0_factOf_8 rfl (lv_at hl 2 rfl) ?_
  refine lv_iadd hx hb dX0_factOf_9 ?_
  refine lv_is (nI_add _ _) ?_
  refine ix_iald hx hb hK hP 3 1 rfl rfl (show (i * 8) + b < 5120 by omega) (by decide) dX0_factOf_10 ?_
  exact rd_ret hx hb hr hlocks (rfl) dX0_factOf_11
set_option maxHeartbeats 4000000 in
set_option maxRecDepth 100000 in
theorem k_X0_isPosition (l : Launch) (dC : Nat → ClassId) (dI : Nat → Nat → Nat) (cI cJ : ClassId) (x g t f : Nat) (G T : Nat → Int64) (F : Nat → Int32) (n : Nat) (i : Int32)  : Met l yX0_isPosition wsX0_isPosition ({ frames := 0, cells := 0, slots := 0, locals := 0 } : Room) (rd (dC, dI) (wX cI cJ x g t f G T F n) (tK cI cJ) [.ref x, .int i]) (QcRead (ga_isPos n i)) 0 0 nofree := by
  refine Met.ofW (cc := cX0_isPosition) (maxL := 2) (ret := (some .boolean)) (by decide) rfl ?_
  intro p e s m args below meth c s₁ B hml hv
  obtain ⟨rfl, hP, hK⟩ := hv
  have hx := B.exec
  have hb := B.bytes
  have hr := B.returns
  have hts := atoms_spec (ws := wsX0_isPosition) B.pre
  have hown : s.vm.findClass RX0 = some m.cls := findClass_of_methodNamed B.named
  have hlocks := B.notSynchronized
  have hinX0 : ∀ w ∈ u_ws RX0 TX0 4, w ∈ wsX0_isPosition := by decide +kernel
  have hf20 := hts (.fieldLink RX0 20 "GameArbiter" "positions" "I") (by decide +kernel)
  have hl := lv_entry ([.ref x, .int i]) (n := 2) (Nat.le_of_ble_eq_true rfl)
  rw [lg_entry_eq]
  generalize (lg_sl ([.ref x, .int i]) ++ List.replicate (2 - (lg_sl ([.ref x, .int i])).length) Slot.unset).toArray = ls at hl ⊢
  replace hl : lv_has ls 2 [(0, .ref x), (1, .int i)] := hl
  refine lv_iload_n hx hb dX0_isPosition_0 rfl (lv_at hl 1 rfl) ?_
  refine lv_if_lt (tgt := 16) hx hb dX0_isPosition_1 (by decide) (fun c_1 => ?_) (fun c_1 => ?_)
  · refine lv_iconst (v := nI 0) hx hb dX0_isPosition_16 (by decide) ?_
    exact rd_retz hx hb hr hlocks rfl (by rw [ga_isPos, if_pos c_1]) dX0_isPosition_17
  · refine lv_iload_n hx hb dX0_isPosition_4 rfl (lv_at hl 1 rfl) ?_
    refine lv_aload_n hx hb dX0_isPosition_5 rfl (lv_at hl 0 rfl) ?_
    refine va_get (D := (dC, dI)) (ci := 0) (v := .int (nI n)) (C := RX0) (T := TX0) (N := 4) hx hb hts hinX0 hown hK hP 0 rfl rfl 3 (by decide) hf20 (fun _ h9 => h9) rfl dX0_isPosition_6 ?_
    refine lv_icmp_ge (tgt := 16) hx hb dX0_isPosition_9 (by decide) (fun c_2 => ?_) (fun c_2 => ?_)
    · refine lv_iconst (v := nI 0) hx hb dX0_isPosition_16 (by decide) ?_
      exact rd_retz hx hb hr hlocks rfl (by rw [ga_isPos, if_neg c_1, if_pos c_2]) dX0_isPosition_17
    · refine lv_iconst (v := nI 1) hx hb dX0_isPosition_12 (by decide) ?_
      refine lv_goto (tgt := 17) hx hb dX0_isPosition_13 (by decide) ?_
      exact rd_retz hx hb hr hlocks rfl (by rw [ga_isPos, if_neg c_1, if_neg c_2]) dX0_isPosition_17
set_option maxHeartbeats 4000000 in
set_option maxRecDepth 100000 in
theorem k_X0_takesAnother (l : Launch) (dC : Nat → ClassId) (dI : Nat → Nat → Nat) (cI cJ : ClassId) (x g t f : Nat) (G T : Nat → Int64) (F : Nat → Int32) (n : Nat) (hn : n ≤ 640) : Met l yX0_takesAnother wsX0_takesAnother ({ frames := 1, cells := 0, slots := 0, locals := 22 } : Room) (rd (dC, dI) (wX cI cJ x g t f G T F n) (tK cI cJ) [.ref x]) (QcRead (ga_takes F n)) 0 0 nofree := by
  refine Met.ofW (cc := cX0_takesAnother) (maxL := 2) (ret := (some .boolean)) (by decide) rfl ?_
  intro p e s m args below meth c s₁ B hml hv
  obtain ⟨rfl, hP, hK⟩ := hv
  have hx := B.exec
  have hb := B.bytes
  have hr := B.returns
  have hts := atoms_spec (ws := wsX0_takesAnother) B.pre
  have hown : s.vm.findClass RX0 = some m.cls := findClass_of_methodNamed B.named
  have hlocks := B.notSynchronized
  have hinX0 : ∀ w ∈ u_ws RX0 TX0 4, w ∈ wsX0_takesAnother := by decide +kernel
  have hf20 := hts (.fieldLink RX0 20 "GameArbiter" "positions" "I") (by decide +kernel)
  have hl := lv_entry ([.ref x]) (n := 2) (Nat.le_of_ble_eq_true rfl)
  rw [lg_entry_eq]
  generalize (lg_sl ([.ref x]) ++ List.replicate (2 - (lg_sl ([.ref x])).length) Slot.unset).toArray = ls at hl ⊢
  replace hl : lv_has ls 2 [(0, .ref x)] := hl
  refine lv_aload_n hx hb dX0_takesAnother_0 rfl (lv_at hl 0 rfl) ?_
  refine va_get (D := (dC, dI)) (ci := 0) (v := .int (nI n)) (C := RX0) (T := TX0) (N := 4) hx hb hts hinX0 hown hK hP 0 rfl rfl 3 (by decide) hf20 (fun _ h9 => h9) rfl dX0_takesAnother_1 ?_
  refine lv_if_eq (tgt := 17) hx hb dX0_takesAnother_4 (by decide) (fun c_1 => ?_) (fun c_1 => ?_)
  · have c_1 : n = 0 := (nz_eq (show n < 2 ^ 31 by omega)).mp c_1
    refine lv_iconst (v := nI 0) hx hb dX0_takesAnother_17 (by decide) ?_
    exact rd_retz hx hb hr hlocks rfl (by rw [ga_takes, if_pos c_1]) dX0_takesAnother_18
  · have c_1 : ¬ (n = 0) := fun h => c_1 ((nz_eq (show n < 2 ^ 31 by omega)).mpr h)
    refine lv_aload_n hx hb dX0_takesAnother_7 rfl (lv_at hl 0 rfl) ?_
    refine va_get (D := (dC, dI)) (ci := 0) (v := .int (nI n)) (C := RX0) (T := TX0) (N := 4) hx hb hts hinX0 hown hK hP 0 rfl rfl 3 (by decide) hf20 (fun _ h9 => h9) rfl dX0_takesAnother_8 ?_
    refine lv_sipush (v := nI 640) hx hb dX0_takesAnother_11 (by decide) ?_
    refine lv_icmp_lt (tgt := 19) hx hb dX0_takesAnother_14 (by decide) (fun c_2 => ?_) (fun c_2 => ?_)
    · have c_2 : n < 640 := (nI_ltI (show n < 2 ^ 31 by omega) (show 640 < 2 ^ 31 by omega)).mp c_2
      refine lv_aload_n hx hb dX0_takesAnother_19 rfl (lv_at hl 0 rfl) ?_
      refine lv_aload_n hx hb dX0_takesAnother_20 rfl (lv_at hl 0 rfl) ?_
      refine va_get (D := (dC, dI)) (ci := 0) (v := .int (nI n)) (C := RX0) (T := TX0) (N := 4) hx hb hts hinX0 hown hK hP 0 rfl rfl 3 (by decide) hf20 (fun _ h9 => h9) rfl dX0_takesAnother_21 ?_
      refine lv_iconst (v := nI 1) hx hb dX0_takesAnother_24 (by decide) ?_
      refine lv_isub hx hb dX0_takesAnother_25 ?_
      refine lv_is (pk_sub (by omega)) ?_
      refine lv_iconst (v := nI 2) hx hb dX0_takesAnother_26 (by decide) ?_
      refine rd_callV (rest := []) ⟨hx, hb, hml, hown, hts⟩ (k_X0_factOf l dC dI cI cJ x g t f G T F n (n - 1) 2 (by omega)) (cwV 2 hts gX0_takesAnother_X0_factOf rfl rfl rfl (by decide +kernel) ⟨Nat.le_of_ble_eq_true rfl, Nat.le_of_ble_eq_true rfl⟩) hK hP rfl (q0 := 0) rfl rfl hl.1 rfl (Nat.le_of_ble_eq_true rfl) dX0_takesAnother_27 ⟨Nat.zero_le _, Nat.zero_le _⟩ ?_
      refine lv_istore_n (lv' := [(1, .int (F ((n - 1) * 8 + 2))), (0, .ref x)]) hx hb dX0_takesAnother_30 rfl hl (by decide) rfl (fun ls hl => ?_)
      refine lv_iload_n hx hb dX0_takesAnother_31 rfl (lv_at hl 0 rfl) ?_
      refine lv_iconst (v := nI 1) hx hb dX0_takesAnother_32 (by decide) ?_
      refine lv_icmp_lt (tgt := 41) hx hb dX0_takesAnother_33 (by decide) (fun c_3 => ?_) (fun c_3 => ?_)
      · refine lv_iconst (v := nI 1) hx hb dX0_takesAnother_41 (by decide) ?_
        refine lv_goto (tgt := 46) hx hb dX0_takesAnother_42 (by decide) ?_
        exact rd_retz hx hb hr hlocks rfl (by rw [ga_takes, if_neg c_1, if_pos c_2, if_pos c_3]) dX0_takesAnother_46
      · refine lv_iload_n hx hb dX0_takesAnother_36 rfl (lv_at hl 0 rfl) ?_
        refine lv_iconst (v := nI 5) hx hb dX0_takesAnother_37 (by decide) ?_
        refine lv_icmp_le (tgt := 45) hx hb dX0_takesAnother_38 (by decide) (fun c_4 => ?_) (fun c_4 => ?_)
        · refine lv_iconst (v := nI 0) hx hb dX0_takesAnother_45 (by decide) ?_
          exact rd_retz hx hb hr hlocks rfl (by rw [ga_takes, if_neg c_1, if_pos c_2, if_neg c_3, if_pos c_4]) dX0_takesAnother_46
        · refine lv_iconst (v := nI 1) hx hb dX0_takesAnother_41 (by decide) ?_
          refine lv_goto (tgt := 46) hx hb dX0_takesAnother_42 (by decide) ?_
          exact rd_retz hx hb hr hlocks rfl (by rw [ga_takes, if_neg c_1, if_pos c_2, if_neg c_3, if_neg c_4]) dX0_takesAnother_46
    · have c_2 : ¬ (n < 640) := fun h => c_2 ((nI_ltI (show n < 2 ^ 31 by omega) (show 640 < 2 ^ 31 by omega)).mpr h)
      refine lv_iconst (v := nI 0) hx hb dX0_takesAnother_17 (by decide) ?_
      exact rd_retz hx hb hr hlocks rfl (by rw [ga_takes, if_neg c_1, if_neg c_2]) dX0_takesAnother_18
set_option maxHeartbeats 4000000 in
set_option maxRecDepth 100000 in
theorem k_X0_hasGivenSquares (l : Launch) (dC : Nat → ClassId) (dI : Nat → Nat → Nat) (cI cJ : ClassId) (x g t f : Nat) (G T : Nat → Int64) (F : Nat → Int32) (n : Nat) (a : Nat) (ha : a < 640) : Met l yX0_hasGivenSquares wsX0_hasGivenSquares ({ frames := 0, cells := 0, slots := 0, locals := 0 } : Room) (rd (dC, dI) (wX cI cJ x g t f G T F n) (tK cI cJ) [.ref x, .int (nI a)]) (QcRead (ga_has G T a)) 0 0 nofree := by
  refine Met.ofW (cc := cX0_hasGivenSquares) (maxL := 3) (ret := (some .boolean)) (by decide) rfl ?_
  intro p e s m args below meth c s₁ B hml hv
  obtain ⟨rfl, hP, hK⟩ := hv
  have hx := B.exec
  have hb := B.bytes
  have hr := B.returns
  have hts := atoms_spec (ws := wsX0_hasGivenSquares) B.pre
  have hown : s.vm.findClass RX0 = some m.cls := findClass_of_methodNamed B.named
  have hlocks := B.notSynchronized
  have hinX0 : ∀ w ∈ u_ws RX0 TX0 4, w ∈ wsX0_hasGivenSquares := by decide +kernel
  have hf9 := hts (.fieldLink RX0 9 "GameArbiter" "given" "[J") (by decide +kernel)
  have hf13 := hts (.fieldLink RX0 13 "GameArbiter" "told" "[J") (by decide +kernel)
  have hl := lv_entry ([.ref x, .int (nI a)]) (n := 3) (Nat.le_of_ble_eq_true rfl)
  rw [lg_entry_eq]
  generalize (lg_sl ([.ref x, .int (nI a)]) ++ List.replicate (3 - (lg_sl ([.ref x, .int (nI a)])).length) Slot.unset).toArray = ls at hl ⊢
  replace hl : lv_has ls 3 [(0, .ref x), (1, .int (nI a))] := hl
  refine lv_iconst (v := nI 0) hx hb dX0_hasGivenSquares_0 (by decide) ?_
  refine lv_istore_n (lv' := [(2, .int (nI 0)), (0, .ref x), (1, .int (nI a))]) hx hb dX0_hasGivenSquares_1 rfl hl (by decide) rfl (fun ls hl => ?_)
  obtain ⟨i, hi0⟩ : ∃ i : Nat, i = 0 := ⟨0, rfl⟩
  replace hl := lv_sub hl [1, 2, 0] rfl
  replace hl : lv_has ls 3 [(0, .ref x), (1, .int (nI a)), (2, .int (nI i))] := by rw [hi0]; exact hl
  have hib : i ≤ 4 := by omega
  have hI : ∀ p, p < i → T (a * 4 + p) = G p := by subst hi0; exact fun k hk => absurd hk (by omega)
  clear hi0
  obtain ⟨zi, hzi⟩ : ∃ z : Nat, 4 < i + z := ⟨4 + 1, by omega⟩
  induction zi generalizing i ls with
  | zero => exact absurd hzi (by omega)
  | succ zi ihi =>
    refine lv_iload_n hx hb dX0_hasGivenSquares_2 rfl (lv_at hl 2 rfl) ?_
    refine lv_iconst (v := nI 4) hx hb dX0_hasGivenSquares_3 (by decide) ?_
    refine lv_icmp_ge (tgt := 35) hx hb dX0_hasGivenSquares_4 (by decide) (fun c_1 => ?_) (fun c_1 => ?_)
    · have c_1 : 4 ≤ i := (nI_leI (show 4 < 2 ^ 31 by omega) (show i < 2 ^ 31 by omega)).mp c_1
      refine lv_iconst (v := nI 1) hx hb dX0_hasGivenSquares_35 (by decide) ?_
      exact rd_retz hx hb hr hlocks rfl (by rw [ga_has, if_pos (fun k hk => hI k (by omega))]) dX0_hasGivenSquares_36
    · have c_1 : ¬ (4 ≤ i) := fun h => c_1 ((nI_leI (show 4 < 2 ^ 31 by omega) (show i < 2 ^ 31 by omega)).mpr h)
      refine lv_aload_n hx hb dX0_hasGivenSquares_7 rfl (lv_at hl 0 rfl) ?_
      refine va_get (D := (dC, dI)) (ci := 0) (v := .ref t) (C := RX0) (T := TX0) (N := 4) hx hb hts hinX0 hown hK hP 0 rfl rfl 1 (by decide) hf13 (fun _ h9 => h9) rfl dX0_hasGivenSquares_8 ?_
      refine lv_iload_n hx hb dX0_hasGivenSquares_11 rfl (lv_at hl 1 rfl) ?_
      refine lv_iconst (v := nI 4) hx hb dX0_hasGivenSquares_12 (by decide) ?_
      refine lv_imul hx hb dX0_hasGivenSquares_13 ?_
      refine lv_is (pk_mul _ _) ?_
      refine lv_iload_n hx hb dX0_hasGivenSquares_14 rfl (lv_at hl 2 rfl) ?_
      refine lv_iadd hx hb dX0_hasGivenSquares_15 ?_
      refine lv_is (nI_add _ _) ?_
      refine ix_lald hx hb hK hP 2 0 rfl rfl (show (a * 4) + i < 2560 by omega) (by decide) dX0_hasGivenSquares_16 ?_
      refine lv_aload_n hx hb dX0_hasGivenSquares_17 rfl (lv_at hl 0 rfl) ?_
      refine va_get (D := (dC, dI)) (ci := 0) (v := .ref g) (C := RX0) (T := TX0) (N := 4) hx hb hts hinX0 hown hK hP 0 rfl rfl 0 (by decide) hf9 (fun _ h9 => h9) rfl dX0_hasGivenSquares_18 ?_
      refine lv_iload_n hx hb dX0_hasGivenSquares_21 rfl (lv_at hl 2 rfl) ?_
      refine ix_lald hx hb hK hP 1 0 rfl rfl (show i < 4 by omega) (by decide) dX0_hasGivenSquares_22 ?_
      refine W.lcmp hx hb dX0_hasGivenSquares_23 ?_
      refine lv_if_eq (tgt := 29) hx hb dX0_hasGivenSquares_24 (by decide) (fun c_2 => ?_) (fun c_2 => ?_)
      · refine lv_iinc (v := nI (i + 1)) (lv' := [(2, .int (nI (i + 1))), (0, .ref x), (1, .int (nI a))]) hx hb dX0_hasGivenSquares_29 hl (k := 2) rfl (nI_1 _) (by decide) rfl (fun ls hl => ?_)
        refine lv_goto (tgt := 2) hx hb dX0_hasGivenSquares_32 (by decide) ?_
        have hJ : ∀ p, p < i + 1 → T (a * 4 + p) = G p := fun p hp => by
          by_cases h : p = i
          · rw [h]; exact (lg_cmp_eq _ _).mp c_2
          · exact hI p (by omega)
        exact ihi _ _ (lv_sub hl [1, 2, 0] rfl) (by omega) hJ (by omega)
      · refine lv_iconst (v := nI 0) hx hb dX0_hasGivenSquares_27 (by decide) ?_
        exact rd_retz hx hb hr hlocks rfl (by rw [ga_has, if_neg (fun h => c_2 ((lg_cmp_eq _ _).mpr (h i (by omega))))]) dX0_hasGivenSquares_28
set_option maxHeartbeats 4000000 in
set_option maxRecDepth 100000 in
theorem k_X0_lastSame (l : Launch) (dC : Nat → ClassId) (dI : Nat → Nat → Nat) (cI cJ : ClassId) (x g t f : Nat) (G T : Nat → Int64) (F : Nat → Int32) (n : Nat) (q : Int32) (hn : n ≤ 640) : Met l yX0_lastSame wsX0_lastSame ({ frames := 1, cells := 0, slots := 0, locals := 22 } : Room) (rd (dC, dI) (wX cI cJ x g t f G T F n) (tK cI cJ) [.ref x, .int q]) (QcRead (ga_last G T F q n)) 0 0 nofree := by
  refine Met.ofW (cc := cX0_lastSame) (maxL := 3) (ret := (some .int)) (by decide) rfl ?_
  intro p e s m args below meth c s₁ B hml hv
  obtain ⟨rfl, hP, hK⟩ := hv
  have hx := B.exec
  have hb := B.bytes
  have hr := B.returns
  have hts := atoms_spec (ws := wsX0_lastSame) B.pre
  have hown : s.vm.findClass RX0 = some m.cls := findClass_of_methodNamed B.named
  have hlocks := B.notSynchronized
  have hinX0 : ∀ w ∈ u_ws RX0 TX0 4, w ∈ wsX0_lastSame := by decide +kernel
  have hf20 := hts (.fieldLink RX0 20 "GameArbiter" "positions" "I") (by decide +kernel)
  have hl := lv_entry ([.ref x, .int q]) (n := 3) (Nat.le_of_ble_eq_true rfl)
  rw [lg_entry_eq]
  generalize (lg_sl ([.ref x, .int q]) ++ List.replicate (3 - (lg_sl ([.ref x, .int q])).length) Slot.unset).toArray = ls at hl ⊢
  replace hl : lv_has ls 3 [(0, .ref x), (1, .int q)] := hl
  refine lv_aload_n hx hb dX0_lastSame_0 rfl (lv_at hl 0 rfl) ?_
  refine va_get (D := (dC, dI)) (ci := 0) (v := .int (nI n)) (C := RX0) (T := TX0) (N := 4) hx hb hts hinX0 hown hK hP 0 rfl rfl 3 (by decide) hf20 (fun _ h9 => h9) rfl dX0_lastSame_1 ?_
  refine lv_iconst (v := nI 1) hx hb dX0_lastSame_4 (by decide) ?_
  refine lv_isub hx hb dX0_lastSame_5 ?_
  refine lv_istore_n (lv' := [(2, .int ((nI n) - (nI 1))), (0, .ref x), (1, .int q)]) hx hb dX0_lastSame_6 rfl hl (by decide) rfl (fun ls hl => ?_)
  obtain ⟨k, hk0⟩ : ∃ k : Nat, k = n := ⟨n, rfl⟩
  replace hl : lv_has ls 3 [(2, .int (nI k - nI 1)), (0, .ref x), (1, .int q)] := by rw [hk0]; exact hl
  have hI : ga_last G T F q n = ga_last G T F q k := by rw [hk0]
  have hkn : k ≤ 640 := by omega
  clear hk0
  induction k generalizing ls with
  | zero =>
    refine lv_iload_n hx hb dX0_lastSame_7 rfl (lv_at hl 0 rfl) ?_
    refine lv_if_lt (tgt := 37) hx hb dX0_lastSame_8 (by decide) (fun c_1 => ?_) (fun c_1 => ?_)
    · refine lv_iconst (v := (-1)) hx hb dX0_lastSame_37 (by decide) ?_
      exact rd_ret hx hb hr hlocks (by rw [hI]; rfl) dX0_lastSame_38
    · exact absurd (by decide) c_1
  | succ k ih =>
    replace hl : lv_has ls 3 [(2, .int (nI k)), (0, .ref x), (1, .int q)] := by rw [show nI (k + 1) - nI 1 = nI k from nI_pred k] at hl; exact hl
    refine lv_iload_n hx hb dX0_lastSame_7 rfl (lv_at hl 0 rfl) ?_
    refine lv_if_lt (tgt := 37) hx hb dX0_lastSame_8 (by decide) (fun c_2 => ?_) (fun c_2 => ?_)
    · exact absurd c_2 (nI_pos (show k < 2 ^ 31 by omega))
    · refine lv_aload_n hx hb dX0_lastSame_11 rfl (lv_at hl 1 rfl) ?_
      refine lv_iload_n hx hb dX0_lastSame_12 rfl (lv_at hl 0 rfl) ?_
      refine lv_iconst (v := nI 5) hx hb dX0_lastSame_13 (by decide) ?_
      refine rd_callV (rest := []) ⟨hx, hb, hml, hown, hts⟩ (k_X0_factOf l dC dI cI cJ x g t f G T F n k 5 (by omega)) (cwV 2 hts gX0_lastSame_X0_factOf rfl rfl rfl (by decide +kernel) ⟨Nat.le_of_ble_eq_true rfl, Nat.le_of_ble_eq_true rfl⟩) hK hP rfl (q0 := 0) rfl rfl hl.1 rfl (Nat.le_of_ble_eq_true rfl) dX0_lastSame_14 ⟨Nat.zero_le _, Nat.zero_le _⟩ ?_
      refine lv_iload_n hx hb dX0_lastSame_17 rfl (lv_at hl 2 rfl) ?_
      refine lv_icmp_ne (tgt := 31) hx hb dX0_lastSame_18 (by decide) (fun c_3 => ?_) (fun c_3 => ?_)
      · refine lv_iinc (v := nI k - nI 1) (lv' := [(2, .int (nI k - nI 1)), (0, .ref x), (1, .int q)]) hx hb dX0_lastSame_31 hl (k := 0) rfl (by rw [Int32.sub_eq_add_neg]; rfl) (by decide) rfl (fun ls hl => ?_)
        have hJ : ga_last G T F q n = ga_last G T F q k := by rw [hI]; simp only [ga_last, c_2, c_3, ↓reduceIte]
        have hl := lv_sub hl [0, 1, 2] rfl
        have hl : lv_has ls 3 [(2, .int (nI k - nI 1)), (0, .ref x), (1, .int q)] := hl
        refine lv_goto (tgt := 7) hx hb dX0_lastSame_34 (by decide) ?_
        exact ih _ hl hJ (by omega)
      · refine lv_aload_n hx hb dX0_lastSame_21 rfl (lv_at hl 1 rfl) ?_
        refine lv_iload_n hx hb dX0_lastSame_22 rfl (lv_at hl 0 rfl) ?_
        refine rd_callV (rest := []) ⟨hx, hb, hml, hown, hts⟩ (k_X0_hasGivenSquares l dC dI cI cJ x g t f G T F n k (by omega)) (cwV 1 hts gX0_lastSame_X0_hasGivenSquares rfl rfl rfl (by decide +kernel) ⟨Nat.le_of_ble_eq_true rfl, Nat.le_of_ble_eq_true rfl⟩) hK hP rfl (q0 := 0) rfl rfl hl.1 rfl (Nat.le_of_ble_eq_true rfl) dX0_lastSame_23 ⟨Nat.zero_le _, Nat.zero_le _⟩ ?_
        refine lv_if_eq (tgt := 31) hx hb dX0_lastSame_26 (by decide) (fun c_4 => ?_) (fun c_4 => ?_)
        · refine lv_iinc (v := nI k - nI 1) (lv' := [(2, .int (nI k - nI 1)), (0, .ref x), (1, .int q)]) hx hb dX0_lastSame_31 hl (k := 0) rfl (by rw [Int32.sub_eq_add_neg]; rfl) (by decide) rfl (fun ls hl => ?_)
          have hJ : ga_last G T F q n = ga_last G T F q k := by rw [hI]; simp only [ga_last, c_2, c_3, c_4, ↓reduceIte]
          have hl := lv_sub hl [0, 1, 2] rfl
          have hl : lv_has ls 3 [(2, .int (nI k - nI 1)), (0, .ref x), (1, .int q)] := hl
          refine lv_goto (tgt := 7) hx hb dX0_lastSame_34 (by decide) ?_
          exact ih _ hl hJ (by omega)
        · refine lv_iload_n hx hb dX0_lastSame_29 rfl (lv_at hl 0 rfl) ?_
          exact rd_ret hx hb hr hlocks (by rw [hI]; simp only [ga_last, c_2, c_3, c_4, ↓reduceIte]) dX0_lastSame_30
set_option maxHeartbeats 4000000 in
set_option maxRecDepth 100000 in
theorem k_X0_countUpTo (l : Launch) (dC : Nat → ClassId) (dI : Nat → Nat → Nat) (cI cJ : ClassId) (x g t f : Nat) (G T : Nat → Int64) (F : Nat → Int32) (n : Nat) (i : Int32) (hn : n ≤ 640) : Met l yX0_countUpTo wsX0_countUpTo ({ frames := 1, cells := 0, slots := 0, locals := 22 } : Room) (rd (dC, dI) (wX cI cJ x g t f G T F n) (tK cI cJ) [.ref x, .int i]) (QcRead (ga_cup F n i)) 0 0 nofree := by
  refine Met.ofW (cc := cX0_countUpTo) (maxL := 2) (ret := (some .int)) (by decide) rfl ?_
  intro p e s m args below meth c s₁ B hml hv
  obtain ⟨rfl, hP, hK⟩ := hv
  have hx := B.exec
  have hb := B.bytes
  have hr := B.returns
  have hts := atoms_spec (ws := wsX0_countUpTo) B.pre
  have hown : s.vm.findClass RX0 = some m.cls := findClass_of_methodNamed B.named
  have hlocks := B.notSynchronized
  have hinX0 : ∀ w ∈ u_ws RX0 TX0 4, w ∈ wsX0_countUpTo := by decide +kernel
  have hl := lv_entry ([.ref x, .int i]) (n := 2) (Nat.le_of_ble_eq_true rfl)
  rw [lg_entry_eq]
  generalize (lg_sl ([.ref x, .int i]) ++ List.replicate (2 - (lg_sl ([.ref x, .int i])).length) Slot.unset).toArray = ls at hl ⊢
  replace hl : lv_has ls 2 [(0, .ref x), (1, .int i)] := hl
  refine lv_aload_n hx hb dX0_countUpTo_0 rfl (lv_at hl 0 rfl) ?_
  refine lv_iload_n hx hb dX0_countUpTo_1 rfl (lv_at hl 1 rfl) ?_
  refine rd_callV (rest := []) ⟨hx, hb, hml, hown, hts⟩ (k_X0_isPosition l dC dI cI cJ x g t f G T F n i) (cwV 1 hts gX0_countUpTo_X0_isPosition rfl rfl rfl (by decide +kernel) ⟨Nat.le_of_ble_eq_true rfl, Nat.le_of_ble_eq_true rfl⟩) hK hP rfl (q0 := 0) rfl rfl hl.1 rfl (Nat.le_of_ble_eq_true rfl) dX0_countUpTo_2 ⟨Nat.zero_le _, Nat.zero_le _⟩ ?_
  refine lv_if_eq (tgt := 17) hx hb dX0_countUpTo_5 (by decide) (fun c_1 => ?_) (fun c_1 => ?_)
  · refine lv_iconst (v := nI 0) hx hb dX0_countUpTo_17 (by decide) ?_
    exact rd_ret hx hb hr hlocks (by rw [ga_cup, if_pos c_1]) dX0_countUpTo_18
  · obtain ⟨a, ha, rfl⟩ := ga_isPos_nat hn c_1
    refine lv_aload_n hx hb dX0_countUpTo_8 rfl (lv_at hl 0 rfl) ?_
    refine lv_iload_n hx hb dX0_countUpTo_9 rfl (lv_at hl 1 rfl) ?_
    refine lv_iconst (v := nI 0) hx hb dX0_countUpTo_10 (by decide) ?_
    refine rd_callV (rest := []) ⟨hx, hb, hml, hown, hts⟩ (k_X0_factOf l dC dI cI cJ x g t f G T F n a 0 (by omega)) (cwV 2 hts gX0_countUpTo_X0_factOf rfl rfl rfl (by decide +kernel) ⟨Nat.le_of_ble_eq_true rfl, Nat.le_of_ble_eq_true rfl⟩) hK hP rfl (q0 := 0) rfl rfl hl.1 rfl (Nat.le_of_ble_eq_true rfl) dX0_countUpTo_11 ⟨Nat.zero_le _, Nat.zero_le _⟩ ?_
    refine lv_goto (tgt := 18) hx hb dX0_countUpTo_14 (by decide) ?_
    exact rd_ret hx hb hr hlocks (by rw [ga_cup, if_neg c_1, nI_clamp (by omega)]) dX0_countUpTo_18
