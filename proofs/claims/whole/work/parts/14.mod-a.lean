set_option maxHeartbeats 4000000 in
set_option maxRecDepth 100000 in
theorem k_X1_thrown (l : Launch) (dC : Nat → ClassId) (dI : Nat → Nat → Nat) (cI : ClassId) (y a b c9 d v : Nat) (th : Int32) (N : Nat → Int32) (n : Nat) (M S C V : Nat → Int32)  : Met l yX1_thrown wsX1_thrown ({ frames := 0, cells := 0, slots := 0, locals := 0 } : Room) (rd (dC, dI) (wM cI y a b c9 d v th N n M S C V) (tM cI) [.ref y]) (QcRead th) 0 0 nofree := by
  refine Met.ofW (cc := cX1_thrown) (maxL := 1) (ret := (some .int)) (by decide) rfl ?_
  intro p e s m args below meth c s₁ B hml hv
  obtain ⟨rfl, hP, hK⟩ := hv
  have hx := B.exec
  have hb := B.bytes
  have hr := B.returns
  have hts := atoms_spec (ws := wsX1_thrown) B.pre
  have hown : s.vm.findClass RX1 = some m.cls := findClass_of_methodNamed B.named
  have hlocks := B.notSynchronized
  have hinX1 : ∀ w ∈ u_ws RX1 TX1 7, w ∈ wsX1_thrown := by decide +kernel
  have hf26 := hts (.fieldLink RX1 26 "GameArbiterModel" "thrown" "I") (by decide +kernel)
  have hl := lv_entry ([.ref y]) (n := 1) (Nat.le_of_ble_eq_true rfl)
  rw [lg_entry_eq]
  generalize (lg_sl ([.ref y]) ++ List.replicate (1 - (lg_sl ([.ref y])).length) Slot.unset).toArray = ls at hl ⊢
  replace hl : lv_has ls 1 [(0, .ref y)] := hl
  refine lv_aload_n hx hb dX1_thrown_0 rfl (lv_at hl 0 rfl) ?_
  refine va_get (D := (dC, dI)) (ci := 1) (v := .int th) (C := RX1) (T := TX1) (N := 7) hx hb hts hinX1 hown hK hP 0 rfl rfl 0 (by decide) hf26 (fun _ h9 => h9) rfl dX1_thrown_1 ?_
  exact rd_ret hx hb hr hlocks (rfl) dX1_thrown_4
set_option maxHeartbeats 4000000 in
set_option maxRecDepth 100000 in
theorem k_X1_isState (l : Launch) (a : Int32)  : Met l yX1_isState wsX1_isState ({ frames := 0, cells := 0, slots := 0, locals := 0 } : Room) (pu [.int a]) (QcRead (mo_isState a)) 0 0 nofree := by
  refine Met.ofW (cc := cX1_isState) (maxL := 2) (ret := (some .boolean)) (by decide) rfl ?_
  intro p e s m args below meth c s₁ B hml hv
  obtain ⟨rfl, -⟩ := hv
  have hx := B.exec
  have hb := B.bytes
  have hr := B.returns
  have hts := atoms_spec (ws := wsX1_isState) B.pre
  have hown : s.vm.findClass RX1 = some m.cls := findClass_of_methodNamed B.named
  have hlocks := B.notSynchronized
  have hl := lv_entry ([.int a]) (n := 2) (Nat.le_of_ble_eq_true rfl)
  rw [lg_entry_eq]
  generalize (lg_sl ([.int a]) ++ List.replicate (2 - (lg_sl ([.int a])).length) Slot.unset).toArray = ls at hl ⊢
  replace hl : lv_has ls 2 [(0, .int a)] := hl
  refine lv_iload_n hx hb dX1_isState_0 rfl (lv_at hl 0 rfl) ?_
  refine lv_iconst (v := nI 5) hx hb dX1_isState_1 (by decide) ?_
  refine lv_ishr hx hb dX1_isState_2 ?_
  refine lv_istore_n (lv' := [(1, .int (a >>> ((nI 5) &&& 31))), (0, .int a)]) hx hb dX1_isState_3 rfl hl (by decide) rfl (fun ls hl => ?_)
  refine lv_iload_n hx hb dX1_isState_4 rfl (lv_at hl 0 rfl) ?_
  refine lv_if_lt (tgt := 24) hx hb dX1_isState_5 (by decide) (fun c_1 => ?_) (fun c_1 => ?_)
  · refine lv_iconst (v := nI 0) hx hb dX1_isState_24 (by decide) ?_
    exact rd_retz hx hb hr hlocks rfl (by rw [mo_isState, if_pos c_1]) dX1_isState_25
  · refine lv_iload_n hx hb dX1_isState_8 rfl (lv_at hl 0 rfl) ?_
    refine lv_bipush (v := nI 8) hx hb dX1_isState_9 (by decide) ?_
    refine lv_icmp_lt (tgt := 20) hx hb dX1_isState_11 (by decide) (fun c_2 => ?_) (fun c_2 => ?_)
    · refine lv_iconst (v := nI 1) hx hb dX1_isState_20 (by decide) ?_
      refine lv_goto (tgt := 25) hx hb dX1_isState_21 (by decide) ?_
      exact rd_retz hx hb hr hlocks rfl (by rw [mo_isState, if_neg c_1, if_pos c_2]) dX1_isState_25
    · refine lv_iload_n hx hb dX1_isState_14 rfl (lv_at hl 0 rfl) ?_
      refine lv_bipush (v := nI 15) hx hb dX1_isState_15 (by decide) ?_
      refine lv_icmp_ne (tgt := 24) hx hb dX1_isState_17 (by decide) (fun c_3 => ?_) (fun c_3 => ?_)
      · refine lv_iconst (v := nI 0) hx hb dX1_isState_24 (by decide) ?_
        exact rd_retz hx hb hr hlocks rfl (by rw [mo_isState, if_neg c_1, if_neg c_2, if_neg c_3]) dX1_isState_25
      · refine lv_iconst (v := nI 1) hx hb dX1_isState_20 (by decide) ?_
        refine lv_goto (tgt := 25) hx hb dX1_isState_21 (by decide) ?_
        exact rd_retz hx hb hr hlocks rfl (by rw [mo_isState, if_neg c_1, if_neg c_2, if_pos c_3]) dX1_isState_25
set_option maxHeartbeats 4000000 in
set_option maxRecDepth 100000 in
theorem k_X1_isIn (l : Launch) (dC : Nat → ClassId) (dI : Nat → Nat → Nat) (cI : ClassId) (y a b c9 d v : Nat) (th : Int32) (N : Nat → Int32) (n : Nat) (M S C V : Nat → Int32) (i : Int32)  : Met l yX1_isIn wsX1_isIn ({ frames := 0, cells := 0, slots := 0, locals := 0 } : Room) (rd (dC, dI) (wM cI y a b c9 d v th N n M S C V) (tM cI) [.ref y, .int i]) (QcRead (ga_isPos n i)) 0 0 nofree := by
  refine Met.ofW (cc := cX1_isIn) (maxL := 2) (ret := (some .boolean)) (by decide) rfl ?_
  intro p e s m args below meth c s₁ B hml hv
  obtain ⟨rfl, hP, hK⟩ := hv
  have hx := B.exec
  have hb := B.bytes
  have hr := B.returns
  have hts := atoms_spec (ws := wsX1_isIn) B.pre
  have hown : s.vm.findClass RX1 = some m.cls := findClass_of_methodNamed B.named
  have hlocks := B.notSynchronized
  have hinX1 : ∀ w ∈ u_ws RX1 TX1 7, w ∈ wsX1_isIn := by decide +kernel
  have hf53 := hts (.fieldLink RX1 53 "GameArbiterModel" "many" "I") (by decide +kernel)
  have hl := lv_entry ([.ref y, .int i]) (n := 2) (Nat.le_of_ble_eq_true rfl)
  rw [lg_entry_eq]
  generalize (lg_sl ([.ref y, .int i]) ++ List.replicate (2 - (lg_sl ([.ref y, .int i])).length) Slot.unset).toArray = ls at hl ⊢
  replace hl : lv_has ls 2 [(0, .ref y), (1, .int i)] := hl
  refine lv_iload_n hx hb dX1_isIn_0 rfl (lv_at hl 1 rfl) ?_
  refine lv_if_lt (tgt := 16) hx hb dX1_isIn_1 (by decide) (fun c_1 => ?_) (fun c_1 => ?_)
  · refine lv_iconst (v := nI 0) hx hb dX1_isIn_16 (by decide) ?_
    exact rd_retz hx hb hr hlocks rfl (by rw [ga_isPos, if_pos c_1]) dX1_isIn_17
  · refine lv_iload_n hx hb dX1_isIn_4 rfl (lv_at hl 1 rfl) ?_
    refine lv_aload_n hx hb dX1_isIn_5 rfl (lv_at hl 0 rfl) ?_
    refine va_get (D := (dC, dI)) (ci := 1) (v := .int (nI n)) (C := RX1) (T := TX1) (N := 7) hx hb hts hinX1 hown hK hP 0 rfl rfl 2 (by decide) hf53 (fun _ h9 => h9) rfl dX1_isIn_6 ?_
    refine lv_icmp_ge (tgt := 16) hx hb dX1_isIn_9 (by decide) (fun c_2 => ?_) (fun c_2 => ?_)
    · refine lv_iconst (v := nI 0) hx hb dX1_isIn_16 (by decide) ?_
      exact rd_retz hx hb hr hlocks rfl (by rw [ga_isPos, if_neg c_1, if_pos c_2]) dX1_isIn_17
    · refine lv_iconst (v := nI 1) hx hb dX1_isIn_12 (by decide) ?_
      refine lv_goto (tgt := 17) hx hb dX1_isIn_13 (by decide) ?_
      exact rd_retz hx hb hr hlocks rfl (by rw [ga_isPos, if_neg c_1, if_neg c_2]) dX1_isIn_17
set_option maxHeartbeats 4000000 in
set_option maxRecDepth 100000 in
theorem k_X1_isSame (l : Launch) (dC : Nat → ClassId) (dI : Nat → Nat → Nat) (cI : ClassId) (y a b c9 d v : Nat) (th : Int32) (N : Nat → Int32) (n : Nat) (M S C V : Nat → Int32) (j k : Nat) (hj : j < 640) (hk : k < 640) : Met l yX1_isSame wsX1_isSame ({ frames := 0, cells := 0, slots := 0, locals := 0 } : Room) (rd (dC, dI) (wM cI y a b c9 d v th N n M S C V) (tM cI) [.ref y, .int (nI j), .int (nI k)]) (QcRead (mo_sm S M j k 64)) 0 0 nofree := by
  refine Met.ofW (cc := cX1_isSame) (maxL := 5) (ret := (some .boolean)) (by decide) rfl ?_
  intro p e s m args below meth c s₁ B hml hv
  obtain ⟨rfl, hP, hK⟩ := hv
  have hx := B.exec
  have hb := B.bytes
  have hr := B.returns
  have hts := atoms_spec (ws := wsX1_isSame) B.pre
  have hown : s.vm.findClass RX1 = some m.cls := findClass_of_methodNamed B.named
  have hlocks := B.notSynchronized
  have hinX1 : ∀ w ∈ u_ws RX1 TX1 7, w ∈ wsX1_isSame := by decide +kernel
  have hf14 := hts (.fieldLink RX1 14 "GameArbiterModel" "men" "[I") (by decide +kernel)
  have hf17 := hts (.fieldLink RX1 17 "GameArbiterModel" "states" "[I") (by decide +kernel)
  have hl := lv_entry ([.ref y, .int (nI j), .int (nI k)]) (n := 5) (Nat.le_of_ble_eq_true rfl)
  rw [lg_entry_eq]
  generalize (lg_sl ([.ref y, .int (nI j), .int (nI k)]) ++ List.replicate (5 - (lg_sl ([.ref y, .int (nI j), .int (nI k)])).length) Slot.unset).toArray = ls at hl ⊢
  replace hl : lv_has ls 5 [(0, .ref y), (1, .int (nI j)), (2, .int (nI k))] := hl
  refine lv_aload_n hx hb dX1_isSame_0 rfl (lv_at hl 0 rfl) ?_
  refine va_get (D := (dC, dI)) (ci := 1) (v := .ref c9) (C := RX1) (T := TX1) (N := 7) hx hb hts hinX1 hown hK hP 0 rfl rfl 4 (by decide) hf17 (fun _ h9 => h9) rfl dX1_isSame_1 ?_
  refine lv_iload_n hx hb dX1_isSame_4 rfl (lv_at hl 1 rfl) ?_
  refine ix_iald hx hb hK hP 3 0 rfl rfl (show j < 640 by omega) (by decide) dX1_isSame_5 ?_
  refine lv_aload_n hx hb dX1_isSame_6 rfl (lv_at hl 0 rfl) ?_
  refine va_get (D := (dC, dI)) (ci := 1) (v := .ref c9) (C := RX1) (T := TX1) (N := 7) hx hb hts hinX1 hown hK hP 0 rfl rfl 4 (by decide) hf17 (fun _ h9 => h9) rfl dX1_isSame_7 ?_
  refine lv_iload_n hx hb dX1_isSame_10 rfl (lv_at hl 2 rfl) ?_
  refine ix_iald hx hb hK hP 3 0 rfl rfl (show k < 640 by omega) (by decide) dX1_isSame_11 ?_
  have J20 : ∀ v0 : Int32, v0 = mo_sm S M j k 0 → W p l e (headSpec wsX1_isSame ({ frames := 0, cells := 0, slots := 0, locals := 0 } : Room)).room s m ([.ref y, .int (nI j), .int (nI k)] : List Value).toArray below meth c s.heap [] 0 0 (MQ below (QcRead (mo_sm S M j k 64)) ([.ref y, .int (nI j), .int (nI k)] : List Value).toArray s 0 0 nofree) (F0 m 20 ls [.int v0]) := by
    intro v0 ev0
    subst ev0
    refine lv_istore_n (lv' := [(3, .int (mo_sm S M j k 0)), (0, .ref y), (1, .int (nI j)), (2, .int (nI k))]) hx hb dX1_isSame_20 rfl hl (by decide) rfl (fun ls hl => ?_)
    refine lv_iconst (v := nI 0) hx hb dX1_isSame_21 (by decide) ?_
    refine lv_istore (lv' := [(4, .int (nI 0)), (3, .int (mo_sm S M j k 0)), (0, .ref y), (1, .int (nI j)), (2, .int (nI k))]) hx hb dX1_isSame_22 hl (by decide) rfl (fun ls hl => ?_)
    obtain ⟨i, hi0⟩ : ∃ i : Nat, i = 0 := ⟨0, rfl⟩
    replace hl := lv_sub hl [2, 3, 4, 1, 0] rfl
    replace hl : lv_has ls 5 [(0, .ref y), (1, .int (nI j)), (2, .int (nI k)), (3, .int (mo_sm S M j k i)), (4, .int (nI i))] := by rw [hi0]; exact hl
    have hib : i ≤ 64 := by omega
    clear hi0
    obtain ⟨zi, hzi⟩ : ∃ z : Nat, 64 < i + z := ⟨64 + 1, by omega⟩
    induction zi generalizing i ls with
    | zero => exact absurd hzi (by omega)
    | succ zi ihi =>
      refine lv_iload hx hb dX1_isSame_24 (lv_at hl 4 rfl) ?_
      refine lv_bipush (v := nI 64) hx hb dX1_isSame_26 (by decide) ?_
      refine lv_icmp_ge (tgt := 74) hx hb dX1_isSame_28 (by decide) (fun c_1 => ?_) (fun c_1 => ?_)
      · have c_1 : 64 ≤ i := (nI_leI (show 64 < 2 ^ 31 by omega) (show i < 2 ^ 31 by omega)).mp c_1
        refine lv_iload_n hx hb dX1_isSame_74 rfl (lv_at hl 3 rfl) ?_
        exact rd_retz hx hb hr hlocks (mo_sm_nar _ _ _ _ _) (by rw [show i = 64 by omega]) dX1_isSame_75
      · have c_1 : ¬ (64 ≤ i) := fun h => c_1 ((nI_leI (show 64 < 2 ^ 31 by omega) (show i < 2 ^ 31 by omega)).mpr h)
        refine lv_iload_n hx hb dX1_isSame_31 rfl (lv_at hl 3 rfl) ?_
        refine lv_if_eq (tgt := 66) hx hb dX1_isSame_32 (by decide) (fun c_2 => ?_) (fun c_2 => ?_)
        · refine lv_iconst (v := nI 0) hx hb dX1_isSame_66 (by decide) ?_
          refine lv_is (show nI 0 = mo_sm S M j k (i + 1) from by rw [mo_sm, if_pos c_2]) ?_
          refine lv_istore_n (lv' := [(3, .int (mo_sm S M j k (i + 1))), (0, .ref y), (1, .int (nI j)), (2, .int (nI k)), (4, .int (nI i))]) hx hb dX1_isSame_67 rfl hl (by decide) rfl (fun ls hl => ?_)
          refine lv_iinc (v := nI (i + 1)) (lv' := [(4, .int (nI (i + 1))), (3, .int (mo_sm S M j k (i + 1))), (0, .ref y), (1, .int (nI j)), (2, .int (nI k))]) hx hb dX1_isSame_68 hl (k := 4) rfl (nI_1 _) (by decide) rfl (fun ls hl => ?_)
          refine lv_goto (tgt := 24) hx hb dX1_isSame_71 (by decide) ?_
          exact ihi _ _ (lv_sub hl [2, 3, 4, 1, 0] rfl) (by omega) (by omega)
        · refine lv_aload_n hx hb dX1_isSame_35 rfl (lv_at hl 0 rfl) ?_
          refine va_get (D := (dC, dI)) (ci := 1) (v := .ref b) (C := RX1) (T := TX1) (N := 7) hx hb hts hinX1 hown hK hP 0 rfl rfl 3 (by decide) hf14 (fun _ h9 => h9) rfl dX1_isSame_36 ?_
          refine lv_bipush (v := nI 64) hx hb dX1_isSame_39 (by decide) ?_
          refine lv_iload_n hx hb dX1_isSame_41 rfl (lv_at hl 1 rfl) ?_
          refine lv_imul hx hb dX1_isSame_42 ?_
          refine lv_is (pk_mul _ _) ?_
          refine lv_iload hx hb dX1_isSame_43 (lv_at hl 4 rfl) ?_
          refine lv_iadd hx hb dX1_isSame_45 ?_
          refine lv_is (nI_add _ _) ?_
          refine ix_iald hx hb hK hP 2 0 rfl rfl (show (64 * j) + i < 40960 by omega) (by decide) dX1_isSame_46 ?_
          refine lv_aload_n hx hb dX1_isSame_47 rfl (lv_at hl 0 rfl) ?_
          refine va_get (D := (dC, dI)) (ci := 1) (v := .ref b) (C := RX1) (T := TX1) (N := 7) hx hb hts hinX1 hown hK hP 0 rfl rfl 3 (by decide) hf14 (fun _ h9 => h9) rfl dX1_isSame_48 ?_
          refine lv_bipush (v := nI 64) hx hb dX1_isSame_51 (by decide) ?_
          refine lv_iload_n hx hb dX1_isSame_53 rfl (lv_at hl 2 rfl) ?_
          refine lv_imul hx hb dX1_isSame_54 ?_
          refine lv_is (pk_mul _ _) ?_
          refine lv_iload hx hb dX1_isSame_55 (lv_at hl 4 rfl) ?_
          refine lv_iadd hx hb dX1_isSame_57 ?_
          refine lv_is (nI_add _ _) ?_
          refine ix_iald hx hb hK hP 2 0 rfl rfl (show (64 * k) + i < 40960 by omega) (by decide) dX1_isSame_58 ?_
          refine lv_icmp_ne (tgt := 66) hx hb dX1_isSame_59 (by decide) (fun c_3 => ?_) (fun c_3 => ?_)
          · refine lv_iconst (v := nI 0) hx hb dX1_isSame_66 (by decide) ?_
            refine lv_is (show nI 0 = mo_sm S M j k (i + 1) from by rw [mo_sm, if_neg c_2, if_neg c_3]) ?_
            refine lv_istore_n (lv' := [(3, .int (mo_sm S M j k (i + 1))), (0, .ref y), (1, .int (nI j)), (2, .int (nI k)), (4, .int (nI i))]) hx hb dX1_isSame_67 rfl hl (by decide) rfl (fun ls hl => ?_)
            refine lv_iinc (v := nI (i + 1)) (lv' := [(4, .int (nI (i + 1))), (3, .int (mo_sm S M j k (i + 1))), (0, .ref y), (1, .int (nI j)), (2, .int (nI k))]) hx hb dX1_isSame_68 hl (k := 4) rfl (nI_1 _) (by decide) rfl (fun ls hl => ?_)
            refine lv_goto (tgt := 24) hx hb dX1_isSame_71 (by decide) ?_
            exact ihi _ _ (lv_sub hl [2, 3, 4, 1, 0] rfl) (by omega) (by omega)
          · refine lv_iconst (v := nI 1) hx hb dX1_isSame_62 (by decide) ?_
            refine lv_goto (tgt := 67) hx hb dX1_isSame_63 (by decide) ?_
            refine lv_is (show nI 1 = mo_sm S M j k (i + 1) from by rw [mo_sm, if_neg c_2, if_pos c_3]) ?_
            refine lv_istore_n (lv' := [(3, .int (mo_sm S M j k (i + 1))), (0, .ref y), (1, .int (nI j)), (2, .int (nI k)), (4, .int (nI i))]) hx hb dX1_isSame_67 rfl hl (by decide) rfl (fun ls hl => ?_)
            refine lv_iinc (v := nI (i + 1)) (lv' := [(4, .int (nI (i + 1))), (3, .int (mo_sm S M j k (i + 1))), (0, .ref y), (1, .int (nI j)), (2, .int (nI k))]) hx hb dX1_isSame_68 hl (k := 4) rfl (nI_1 _) (by decide) rfl (fun ls hl => ?_)
            refine lv_goto (tgt := 24) hx hb dX1_isSame_71 (by decide) ?_
            exact ihi _ _ (lv_sub hl [2, 3, 4, 1, 0] rfl) (by omega) (by omega)
  refine lv_icmp_ne (tgt := 19) hx hb dX1_isSame_12 (by decide) (fun c_4 => ?_) (fun c_4 => ?_)
  · refine lv_iconst (v := nI 0) hx hb dX1_isSame_19 (by decide) ?_
    exact J20 _ (by rw [mo_sm, if_neg c_4])
  · refine lv_iconst (v := nI 1) hx hb dX1_isSame_15 (by decide) ?_
    refine lv_goto (tgt := 20) hx hb dX1_isSame_16 (by decide) ?_
    exact J20 _ (by rw [mo_sm, if_pos c_4])
set_option maxHeartbeats 4000000 in
set_option maxRecDepth 100000 in
theorem k_X1_isNext (l : Launch) (dC : Nat → ClassId) (dI : Nat → Nat → Nat) (cI : ClassId) (y a b c9 d v : Nat) (th : Int32) (N : Nat → Int32) (n : Nat) (M S C V : Nat → Int32) (j : Nat) (q : Int32) (hj : j < 640) : Met l yX1_isNext wsX1_isNext ({ frames := 0, cells := 0, slots := 0, locals := 0 } : Room) (rd (dC, dI) (wM cI y a b c9 d v th N n M S C V) (tM cI) [.ref y, .int (nI j), .int q]) (QcRead (mo_nx S M N j q 64)) 0 0 nofree := by
  refine Met.ofW (cc := cX1_isNext) (maxL := 5) (ret := (some .boolean)) (by decide) rfl ?_
  intro p e s m args below meth c s₁ B hml hv
  obtain ⟨rfl, hP, hK⟩ := hv
  have hx := B.exec
  have hb := B.bytes
  have hr := B.returns
  have hts := atoms_spec (ws := wsX1_isNext) B.pre
  have hown : s.vm.findClass RX1 = some m.cls := findClass_of_methodNamed B.named
  have hlocks := B.notSynchronized
  have hinX1 : ∀ w ∈ u_ws RX1 TX1 7, w ∈ wsX1_isNext := by decide +kernel
  have hf7 := hts (.fieldLink RX1 7 "GameArbiterModel" "next" "[I") (by decide +kernel)
  have hf14 := hts (.fieldLink RX1 14 "GameArbiterModel" "men" "[I") (by decide +kernel)
  have hf17 := hts (.fieldLink RX1 17 "GameArbiterModel" "states" "[I") (by decide +kernel)
  have hl := lv_entry ([.ref y, .int (nI j), .int q]) (n := 5) (Nat.le_of_ble_eq_true rfl)
  rw [lg_entry_eq]
  generalize (lg_sl ([.ref y, .int (nI j), .int q]) ++ List.replicate (5 - (lg_sl ([.ref y, .int (nI j), .int q])).length) Slot.unset).toArray = ls at hl ⊢
  replace hl : lv_has ls 5 [(0, .ref y), (1, .int (nI j)), (2, .int q)] := hl
  refine lv_aload_n hx hb dX1_isNext_0 rfl (lv_at hl 0 rfl) ?_
  refine va_get (D := (dC, dI)) (ci := 1) (v := .ref c9) (C := RX1) (T := TX1) (N := 7) hx hb hts hinX1 hown hK hP 0 rfl rfl 4 (by decide) hf17 (fun _ h9 => h9) rfl dX1_isNext_1 ?_
  refine lv_iload_n hx hb dX1_isNext_4 rfl (lv_at hl 1 rfl) ?_
  refine ix_iald hx hb hK hP 3 0 rfl rfl (show j < 640 by omega) (by decide) dX1_isNext_5 ?_
  refine lv_iload_n hx hb dX1_isNext_6 rfl (lv_at hl 2 rfl) ?_
  have J15 : ∀ v0 : Int32, v0 = mo_nx S M N j q 0 → W p l e (headSpec wsX1_isNext ({ frames := 0, cells := 0, slots := 0, locals := 0 } : Room)).room s m ([.ref y, .int (nI j), .int q] : List Value).toArray below meth c s.heap [] 0 0 (MQ below (QcRead (mo_nx S M N j q 64)) ([.ref y, .int (nI j), .int q] : List Value).toArray s 0 0 nofree) (F0 m 15 ls [.int v0]) := by
    intro v0 ev0
    subst ev0
    refine lv_istore_n (lv' := [(3, .int (mo_nx S M N j q 0)), (0, .ref y), (1, .int (nI j)), (2, .int q)]) hx hb dX1_isNext_15 rfl hl (by decide) rfl (fun ls hl => ?_)
    refine lv_iconst (v := nI 0) hx hb dX1_isNext_16 (by decide) ?_
    refine lv_istore (lv' := [(4, .int (nI 0)), (3, .int (mo_nx S M N j q 0)), (0, .ref y), (1, .int (nI j)), (2, .int q)]) hx hb dX1_isNext_17 hl (by decide) rfl (fun ls hl => ?_)
    obtain ⟨i, hi0⟩ : ∃ i : Nat, i = 0 := ⟨0, rfl⟩
    replace hl := lv_sub hl [2, 3, 4, 1, 0] rfl
    replace hl : lv_has ls 5 [(0, .ref y), (1, .int (nI j)), (2, .int q), (3, .int (mo_nx S M N j q i)), (4, .int (nI i))] := by rw [hi0]; exact hl
    have hib : i ≤ 64 := by omega
    clear hi0
    obtain ⟨zi, hzi⟩ : ∃ z : Nat, 64 < i + z := ⟨64 + 1, by omega⟩
    induction zi generalizing i ls with
    | zero => exact absurd hzi (by omega)
    | succ zi ihi =>
      refine lv_iload hx hb dX1_isNext_19 (lv_at hl 4 rfl) ?_
      refine lv_bipush (v := nI 64) hx hb dX1_isNext_21 (by decide) ?_
      refine lv_icmp_ge (tgt := 64) hx hb dX1_isNext_23 (by decide) (fun c_1 => ?_) (fun c_1 => ?_)
      · have c_1 : 64 ≤ i := (nI_leI (show 64 < 2 ^ 31 by omega) (show i < 2 ^ 31 by omega)).mp c_1
        refine lv_iload_n hx hb dX1_isNext_64 rfl (lv_at hl 3 rfl) ?_
        exact rd_retz hx hb hr hlocks (mo_nx_nar _ _ _ _ _ _) (by rw [show i = 64 by omega]) dX1_isNext_65
      · have c_1 : ¬ (64 ≤ i) := fun h => c_1 ((nI_leI (show 64 < 2 ^ 31 by omega) (show i < 2 ^ 31 by omega)).mpr h)
        refine lv_iload_n hx hb dX1_isNext_26 rfl (lv_at hl 3 rfl) ?_
        refine lv_if_eq (tgt := 56) hx hb dX1_isNext_27 (by decide) (fun c_2 => ?_) (fun c_2 => ?_)
        · refine lv_iconst (v := nI 0) hx hb dX1_isNext_56 (by decide) ?_
          refine lv_is (show nI 0 = mo_nx S M N j q (i + 1) from by rw [mo_nx, if_pos c_2]) ?_
          refine lv_istore_n (lv' := [(3, .int (mo_nx S M N j q (i + 1))), (0, .ref y), (1, .int (nI j)), (2, .int q), (4, .int (nI i))]) hx hb dX1_isNext_57 rfl hl (by decide) rfl (fun ls hl => ?_)
          refine lv_iinc (v := nI (i + 1)) (lv' := [(4, .int (nI (i + 1))), (3, .int (mo_nx S M N j q (i + 1))), (0, .ref y), (1, .int (nI j)), (2, .int q)]) hx hb dX1_isNext_58 hl (k := 4) rfl (nI_1 _) (by decide) rfl (fun ls hl => ?_)
          refine lv_goto (tgt := 19) hx hb dX1_isNext_61 (by decide) ?_
          exact ihi _ _ (lv_sub hl [2, 3, 4, 1, 0] rfl) (by omega) (by omega)
        · refine lv_aload_n hx hb dX1_isNext_30 rfl (lv_at hl 0 rfl) ?_
          refine va_get (D := (dC, dI)) (ci := 1) (v := .ref b) (C := RX1) (T := TX1) (N := 7) hx hb hts hinX1 hown hK hP 0 rfl rfl 3 (by decide) hf14 (fun _ h9 => h9) rfl dX1_isNext_31 ?_
          refine lv_bipush (v := nI 64) hx hb dX1_isNext_34 (by decide) ?_
          refine lv_iload_n hx hb dX1_isNext_36 rfl (lv_at hl 1 rfl) ?_
          refine lv_imul hx hb dX1_isNext_37 ?_
          refine lv_is (pk_mul _ _) ?_
          refine lv_iload hx hb dX1_isNext_38 (lv_at hl 4 rfl) ?_
          refine lv_iadd hx hb dX1_isNext_40 ?_
          refine lv_is (nI_add _ _) ?_
          refine ix_iald hx hb hK hP 2 0 rfl rfl (show (64 * j) + i < 40960 by omega) (by decide) dX1_isNext_41 ?_
          refine lv_aload_n hx hb dX1_isNext_42 rfl (lv_at hl 0 rfl) ?_
          refine va_get (D := (dC, dI)) (ci := 1) (v := .ref a) (C := RX1) (T := TX1) (N := 7) hx hb hts hinX1 hown hK hP 0 rfl rfl 1 (by decide) hf7 (fun _ h9 => h9) rfl dX1_isNext_43 ?_
          refine lv_iload hx hb dX1_isNext_46 (lv_at hl 4 rfl) ?_
          refine ix_iald hx hb hK hP 1 0 rfl rfl (show i < 64 by omega) (by decide) dX1_isNext_48 ?_
          refine lv_icmp_ne (tgt := 56) hx hb dX1_isNext_49 (by decide) (fun c_3 => ?_) (fun c_3 => ?_)
          · refine lv_iconst (v := nI 0) hx hb dX1_isNext_56 (by decide) ?_
            refine lv_is (show nI 0 = mo_nx S M N j q (i + 1) from by rw [mo_nx, if_neg c_2, if_neg c_3]) ?_
            refine lv_istore_n (lv' := [(3, .int (mo_nx S M N j q (i + 1))), (0, .ref y), (1, .int (nI j)), (2, .int q), (4, .int (nI i))]) hx hb dX1_isNext_57 rfl hl (by decide) rfl (fun ls hl => ?_)
            refine lv_iinc (v := nI (i + 1)) (lv' := [(4, .int (nI (i + 1))), (3, .int (mo_nx S M N j q (i + 1))), (0, .ref y), (1, .int (nI j)), (2, .int q)]) hx hb dX1_isNext_58 hl (k := 4) rfl (nI_1 _) (by decide) rfl (fun ls hl => ?_)
            refine lv_goto (tgt := 19) hx hb dX1_isNext_61 (by decide) ?_
            exact ihi _ _ (lv_sub hl [2, 3, 4, 1, 0] rfl) (by omega) (by omega)
          · refine lv_iconst (v := nI 1) hx hb dX1_isNext_52 (by decide) ?_
            refine lv_goto (tgt := 57) hx hb dX1_isNext_53 (by decide) ?_
            refine lv_is (show nI 1 = mo_nx S M N j q (i + 1) from by rw [mo_nx, if_neg c_2, if_pos c_3]) ?_
            refine lv_istore_n (lv' := [(3, .int (mo_nx S M N j q (i + 1))), (0, .ref y), (1, .int (nI j)), (2, .int q), (4, .int (nI i))]) hx hb dX1_isNext_57 rfl hl (by decide) rfl (fun ls hl => ?_)
            refine lv_iinc (v := nI (i + 1)) (lv' := [(4, .int (nI (i + 1))), (3, .int (mo_nx S M N j q (i + 1))), (0, .ref y), (1, .int (nI j)), (2, .int q)]) hx hb dX1_isNext_58 hl (k := 4) rfl (nI_1 _) (by decide) rfl (fun ls hl => ?_)
            refine lv_goto (tgt := 19) hx hb dX1_isNext_61 (by decide) ?_
            exact ihi _ _ (lv_sub hl [2, 3, 4, 1, 0] rfl) (by omega) (by omega)
  refine lv_icmp_ne (tgt := 14) hx hb dX1_isNext_7 (by decide) (fun c_4 => ?_) (fun c_4 => ?_)
  · refine lv_iconst (v := nI 0) hx hb dX1_isNext_14 (by decide) ?_
    exact J15 _ (by rw [mo_nx, if_neg c_4])
  · refine lv_iconst (v := nI 1) hx hb dX1_isNext_10 (by decide) ?_
    refine lv_goto (tgt := 15) hx hb dX1_isNext_11 (by decide) ?_
    exact J15 _ (by rw [mo_nx, if_pos c_4])
set_option maxHeartbeats 4000000 in
set_option maxRecDepth 100000 in
theorem k_X1_countOf (l : Launch) (dC : Nat → ClassId) (dI : Nat → Nat → Nat) (cI : ClassId) (y a b c9 d v : Nat) (th : Int32) (N : Nat → Int32) (n : Nat) (M S C V : Nat → Int32) (j : Nat) (hj : j < 640) : Met l yX1_countOf wsX1_countOf ({ frames := 1, cells := 0, slots := 0, locals := 24 } : Room) (rd (dC, dI) (wM cI y a b c9 d v th N n M S C V) (tM cI) [.ref y, .int (nI j)]) (QcRead (nI (mo_cnt S M j (j + 1)))) 0 0 nofree := by
  refine Met.ofW (cc := cX1_countOf) (maxL := 4) (ret := (some .int)) (by decide) rfl ?_
  intro p e s m args below meth c s₁ B hml hv
  obtain ⟨rfl, hP, hK⟩ := hv
  have hx := B.exec
  have hb := B.bytes
  have hr := B.returns
  have hts := atoms_spec (ws := wsX1_countOf) B.pre
  have hown : s.vm.findClass RX1 = some m.cls := findClass_of_methodNamed B.named
  have hlocks := B.notSynchronized
  have hinX1 : ∀ w ∈ u_ws RX1 TX1 7, w ∈ wsX1_countOf := by decide +kernel
  have hl := lv_entry ([.ref y, .int (nI j)]) (n := 4) (Nat.le_of_ble_eq_true rfl)
  rw [lg_entry_eq]
  generalize (lg_sl ([.ref y, .int (nI j)]) ++ List.replicate (4 - (lg_sl ([.ref y, .int (nI j)])).length) Slot.unset).toArray = ls at hl ⊢
  replace hl : lv_has ls 4 [(0, .ref y), (1, .int (nI j))] := hl
  refine lv_iconst (v := nI 0) hx hb dX1_countOf_0 (by decide) ?_
  refine lv_istore_n (lv' := [(2, .int (nI 0)), (0, .ref y), (1, .int (nI j))]) hx hb dX1_countOf_1 rfl hl (by decide) rfl (fun ls hl => ?_)
  refine lv_iconst (v := nI 0) hx hb dX1_countOf_2 (by decide) ?_
  refine lv_istore_n (lv' := [(3, .int (nI 0)), (2, .int (nI 0)), (0, .ref y), (1, .int (nI j))]) hx hb dX1_countOf_3 rfl hl (by decide) rfl (fun ls hl => ?_)
  obtain ⟨i, hi0⟩ : ∃ i : Nat, i = 0 := ⟨0, rfl⟩
  replace hl := lv_sub hl [2, 3, 1, 0] rfl
  replace hl : lv_has ls 4 [(0, .ref y), (1, .int (nI j)), (2, .int (nI (mo_cnt S M j i))), (3, .int (nI i))] := by rw [hi0]; exact hl
  have hib : i ≤ j + 1 := by omega
  clear hi0
  obtain ⟨zi, hzi⟩ : ∃ z : Nat, j + 1 < i + z := ⟨j + 1 + 1, by omega⟩
  induction zi generalizing i ls with
  | zero => exact absurd hzi (by omega)
  | succ zi ihi =>
    refine lv_iload_n hx hb dX1_countOf_4 rfl (lv_at hl 3 rfl) ?_
    refine lv_iload_n hx hb dX1_countOf_5 rfl (lv_at hl 1 rfl) ?_
    refine lv_icmp_gt (tgt := 32) hx hb dX1_countOf_6 (by decide) (fun c_1 => ?_) (fun c_1 => ?_)
    · have c_1 : j < i := (nI_ltI (show j < 2 ^ 31 by omega) (show i < 2 ^ 31 by omega)).mp c_1
      refine lv_iload_n hx hb dX1_countOf_32 rfl (lv_at hl 2 rfl) ?_
      exact rd_ret hx hb hr hlocks (by rw [show i = j + 1 by omega]) dX1_countOf_33
    · have c_1 : ¬ (j < i) := fun h => c_1 ((nI_ltI (show j < 2 ^ 31 by omega) (show i < 2 ^ 31 by omega)).mpr h)
      refine lv_iload_n hx hb dX1_countOf_9 rfl (lv_at hl 2 rfl) ?_
      refine lv_aload_n hx hb dX1_countOf_10 rfl (lv_at hl 0 rfl) ?_
      refine lv_iload_n hx hb dX1_countOf_11 rfl (lv_at hl 1 rfl) ?_
      refine lv_iload_n hx hb dX1_countOf_12 rfl (lv_at hl 3 rfl) ?_
      refine rd_callV (rest := [.int (nI (mo_cnt S M j i))]) ⟨hx, hb, hml, hown, hts⟩ (k_X1_isSame l dC dI cI y a b c9 d v th N n M S C V j i (by omega) (by omega)) (cwV 2 hts gX1_countOf_X1_isSame rfl rfl rfl (by decide +kernel) ⟨Nat.le_of_ble_eq_true rfl, Nat.le_of_ble_eq_true rfl⟩) hK hP rfl (q0 := 0) rfl rfl hl.1 rfl (Nat.le_of_ble_eq_true rfl) dX1_countOf_13 ⟨Nat.zero_le _, Nat.zero_le _⟩ ?_
      refine lv_if_eq (tgt := 23) hx hb dX1_countOf_16 (by decide) (fun c_2 => ?_) (fun c_2 => ?_)
      · refine lv_iconst (v := nI 0) hx hb dX1_countOf_23 (by decide) ?_
        refine lv_iadd hx hb dX1_countOf_24 ?_
        refine lv_is (nI_add _ _) ?_
        refine lv_istore_n (lv' := [(2, .int (nI ((mo_cnt S M j i) + 0))), (0, .ref y), (1, .int (nI j)), (3, .int (nI i))]) hx hb dX1_countOf_25 rfl hl (by decide) rfl (fun ls hl => ?_)
        refine lv_iinc (v := nI (i + 1)) (lv' := [(3, .int (nI (i + 1))), (2, .int (nI ((mo_cnt S M j i) + 0))), (0, .ref y), (1, .int (nI j))]) hx hb dX1_countOf_26 hl (k := 3) rfl (nI_1 _) (by decide) rfl (fun ls hl => ?_)
        refine lv_goto (tgt := 4) hx hb dX1_countOf_29 (by decide) ?_
        have e1 : (mo_cnt S M j i) + 0 = mo_cnt S M j (i + 1) := by rw [mo_cnt, if_pos c_2]
        rw [e1] at hl
        exact ihi _ _ (lv_sub hl [2, 3, 1, 0] rfl) (by omega) (by omega)
      · refine lv_iconst (v := nI 1) hx hb dX1_countOf_19 (by decide) ?_
        refine lv_goto (tgt := 24) hx hb dX1_countOf_20 (by decide) ?_
        refine lv_iadd hx hb dX1_countOf_24 ?_
        refine lv_is (nI_add _ _) ?_
        refine lv_istore_n (lv' := [(2, .int (nI ((mo_cnt S M j i) + 1))), (0, .ref y), (1, .int (nI j)), (3, .int (nI i))]) hx hb dX1_countOf_25 rfl hl (by decide) rfl (fun ls hl => ?_)
        refine lv_iinc (v := nI (i + 1)) (lv' := [(3, .int (nI (i + 1))), (2, .int (nI ((mo_cnt S M j i) + 1))), (0, .ref y), (1, .int (nI j))]) hx hb dX1_countOf_26 hl (k := 3) rfl (nI_1 _) (by decide) rfl (fun ls hl => ?_)
        refine lv_goto (tgt := 4) hx hb dX1_countOf_29 (by decide) ?_
        have e1 : (mo_cnt S M j i) + 1 = mo_cnt S M j (i + 1) := by rw [mo_cnt, if_neg c_2]
        rw [e1] at hl
        exact ihi _ _ (lv_sub hl [2, 3, 1, 0] rfl) (by omega) (by omega)
set_option maxHeartbeats 4000000 in
set_option maxRecDepth 100000 in
theorem k_X1_howMany (l : Launch) (dC : Nat → ClassId) (dI : Nat → Nat → Nat) (cI : ClassId) (y a b c9 d v : Nat) (th : Int32) (N : Nat → Int32) (n : Nat) (M S C V : Nat → Int32) (j : Nat) (man : Int32) (hj : j < 640) : Met l yX1_howMany wsX1_howMany ({ frames := 0, cells := 0, slots := 0, locals := 0 } : Room) (rd (dC, dI) (wM cI y a b c9 d v th N n M S C V) (tM cI) [.ref y, .int (nI j), .int man]) (QcRead (nI (mo_hm M j man 64))) 0 0 nofree := by
  refine Met.ofW (cc := cX1_howMany) (maxL := 5) (ret := (some .int)) (by decide) rfl ?_
  intro p e s m args below meth c s₁ B hml hv
  obtain ⟨rfl, hP, hK⟩ := hv
  have hx := B.exec
  have hb := B.bytes
  have hr := B.returns
  have hts := atoms_spec (ws := wsX1_howMany) B.pre
  have hown : s.vm.findClass RX1 = some m.cls := findClass_of_methodNamed B.named
  have hlocks := B.notSynchronized
  have hinX1 : ∀ w ∈ u_ws RX1 TX1 7, w ∈ wsX1_howMany := by decide +kernel
  have hf14 := hts (.fieldLink RX1 14 "GameArbiterModel" "men" "[I") (by decide +kernel)
  have hl := lv_entry ([.ref y, .int (nI j), .int man]) (n := 5) (Nat.le_of_ble_eq_true rfl)
  rw [lg_entry_eq]
  generalize (lg_sl ([.ref y, .int (nI j), .int man]) ++ List.replicate (5 - (lg_sl ([.ref y, .int (nI j), .int man])).length) Slot.unset).toArray = ls at hl ⊢
  replace hl : lv_has ls 5 [(0, .ref y), (1, .int (nI j)), (2, .int man)] := hl
  refine lv_iconst (v := nI 0) hx hb dX1_howMany_0 (by decide) ?_
  refine lv_istore_n (lv' := [(3, .int (nI 0)), (0, .ref y), (1, .int (nI j)), (2, .int man)]) hx hb dX1_howMany_1 rfl hl (by decide) rfl (fun ls hl => ?_)
  refine lv_iconst (v := nI 0) hx hb dX1_howMany_2 (by decide) ?_
  refine lv_istore (lv' := [(4, .int (nI 0)), (3, .int (nI 0)), (0, .ref y), (1, .int (nI j)), (2, .int man)]) hx hb dX1_howMany_3 hl (by decide) rfl (fun ls hl => ?_)
  obtain ⟨i, hi0⟩ : ∃ i : Nat, i = 0 := ⟨0, rfl⟩
  replace hl := lv_sub hl [2, 3, 4, 1, 0] rfl
  replace hl : lv_has ls 5 [(0, .ref y), (1, .int (nI j)), (2, .int man), (3, .int (nI (mo_hm M j man i))), (4, .int (nI i))] := by rw [hi0]; exact hl
  have hib : i ≤ 64 := by omega
  clear hi0
  obtain ⟨zi, hzi⟩ : ∃ z : Nat, 64 < i + z := ⟨64 + 1, by omega⟩
  induction zi generalizing i ls with
  | zero => exact absurd hzi (by omega)
  | succ zi ihi =>
    refine lv_iload hx hb dX1_howMany_5 (lv_at hl 4 rfl) ?_
    refine lv_bipush (v := nI 64) hx hb dX1_howMany_7 (by decide) ?_
    refine lv_icmp_ge (tgt := 42) hx hb dX1_howMany_9 (by decide) (fun c_1 => ?_) (fun c_1 => ?_)
    · have c_1 : 64 ≤ i := (nI_leI (show 64 < 2 ^ 31 by omega) (show i < 2 ^ 31 by omega)).mp c_1
      refine lv_iload_n hx hb dX1_howMany_42 rfl (lv_at hl 3 rfl) ?_
      exact rd_ret hx hb hr hlocks (by rw [show i = 64 by omega]) dX1_howMany_43
    · have c_1 : ¬ (64 ≤ i) := fun h => c_1 ((nI_leI (show 64 < 2 ^ 31 by omega) (show i < 2 ^ 31 by omega)).mpr h)
      refine lv_iload_n hx hb dX1_howMany_12 rfl (lv_at hl 3 rfl) ?_
      refine lv_aload_n hx hb dX1_howMany_13 rfl (lv_at hl 0 rfl) ?_
      refine va_get (D := (dC, dI)) (ci := 1) (v := .ref b) (C := RX1) (T := TX1) (N := 7) hx hb hts hinX1 hown hK hP 0 rfl rfl 3 (by decide) hf14 (fun _ h9 => h9) rfl dX1_howMany_14 ?_
      refine lv_bipush (v := nI 64) hx hb dX1_howMany_17 (by decide) ?_
      refine lv_iload_n hx hb dX1_howMany_19 rfl (lv_at hl 1 rfl) ?_
      refine lv_imul hx hb dX1_howMany_20 ?_
      refine lv_is (pk_mul _ _) ?_
      refine lv_iload hx hb dX1_howMany_21 (lv_at hl 4 rfl) ?_
      refine lv_iadd hx hb dX1_howMany_23 ?_
      refine lv_is (nI_add _ _) ?_
      refine ix_iald hx hb hK hP 2 0 rfl rfl (show (64 * j) + i < 40960 by omega) (by decide) dX1_howMany_24 ?_
      refine lv_iload_n hx hb dX1_howMany_25 rfl (lv_at hl 2 rfl) ?_
      refine lv_icmp_ne (tgt := 33) hx hb dX1_howMany_26 (by decide) (fun c_2 => ?_) (fun c_2 => ?_)
      · refine lv_iconst (v := nI 0) hx hb dX1_howMany_33 (by decide) ?_
        refine lv_iadd hx hb dX1_howMany_34 ?_
        refine lv_is (nI_add _ _) ?_
        refine lv_istore_n (lv' := [(3, .int (nI ((mo_hm M j man i) + 0))), (0, .ref y), (1, .int (nI j)), (2, .int man), (4, .int (nI i))]) hx hb dX1_howMany_35 rfl hl (by decide) rfl (fun ls hl => ?_)
        refine lv_iinc (v := nI (i + 1)) (lv' := [(4, .int (nI (i + 1))), (3, .int (nI ((mo_hm M j man i) + 0))), (0, .ref y), (1, .int (nI j)), (2, .int man)]) hx hb dX1_howMany_36 hl (k := 4) rfl (nI_1 _) (by decide) rfl (fun ls hl => ?_)
        refine lv_goto (tgt := 5) hx hb dX1_howMany_39 (by decide) ?_
        have e1 : (mo_hm M j man i) + 0 = mo_hm M j man (i + 1) := by rw [mo_hm, if_neg c_2]
        rw [e1] at hl
        exact ihi _ _ (lv_sub hl [2, 3, 4, 1, 0] rfl) (by omega) (by omega)
      · refine lv_iconst (v := nI 1) hx hb dX1_howMany_29 (by decide) ?_
        refine lv_goto (tgt := 34) hx hb dX1_howMany_30 (by decide) ?_
        refine lv_iadd hx hb dX1_howMany_34 ?_
        refine lv_is (nI_add _ _) ?_
        refine lv_istore_n (lv' := [(3, .int (nI ((mo_hm M j man i) + 1))), (0, .ref y), (1, .int (nI j)), (2, .int man), (4, .int (nI i))]) hx hb dX1_howMany_35 rfl hl (by decide) rfl (fun ls hl => ?_)
        refine lv_iinc (v := nI (i + 1)) (lv' := [(4, .int (nI (i + 1))), (3, .int (nI ((mo_hm M j man i) + 1))), (0, .ref y), (1, .int (nI j)), (2, .int man)]) hx hb dX1_howMany_36 hl (k := 4) rfl (nI_1 _) (by decide) rfl (fun ls hl => ?_)
        refine lv_goto (tgt := 5) hx hb dX1_howMany_39 (by decide) ?_
        have e1 : (mo_hm M j man i) + 1 = mo_hm M j man (i + 1) := by rw [mo_hm, if_pos c_2]
        rw [e1] at hl
        exact ihi _ _ (lv_sub hl [2, 3, 4, 1, 0] rfl) (by omega) (by omega)
set_option maxHeartbeats 4000000 in
set_option maxRecDepth 100000 in
theorem k_X1_colour (l : Launch) (dC : Nat → ClassId) (dI : Nat → Nat → Nat) (cI : ClassId) (y a b c9 d v : Nat) (th : Int32) (N : Nat → Int32) (n : Nat) (M S C V : Nat → Int32) (j : Nat) (man : Int32) (hj : j < 640) : Met l yX1_colour wsX1_colour ({ frames := 0, cells := 0, slots := 0, locals := 0 } : Room) (rd (dC, dI) (wM cI y a b c9 d v th N n M S C V) (tM cI) [.ref y, .int (nI j), .int man]) (QcRead (nI (mo_co M j man 64))) 0 0 nofree := by
  refine Met.ofW (cc := cX1_colour) (maxL := 5) (ret := (some .int)) (by decide) rfl ?_
  intro p e s m args below meth c s₁ B hml hv
  obtain ⟨rfl, hP, hK⟩ := hv
  have hx := B.exec
  have hb := B.bytes
  have hr := B.returns
  have hts := atoms_spec (ws := wsX1_colour) B.pre
  have hown : s.vm.findClass RX1 = some m.cls := findClass_of_methodNamed B.named
  have hlocks := B.notSynchronized
  have hinX1 : ∀ w ∈ u_ws RX1 TX1 7, w ∈ wsX1_colour := by decide +kernel
  have hf14 := hts (.fieldLink RX1 14 "GameArbiterModel" "men" "[I") (by decide +kernel)
  have hl := lv_entry ([.ref y, .int (nI j), .int man]) (n := 5) (Nat.le_of_ble_eq_true rfl)
  rw [lg_entry_eq]
  generalize (lg_sl ([.ref y, .int (nI j), .int man]) ++ List.replicate (5 - (lg_sl ([.ref y, .int (nI j), .int man])).length) Slot.unset).toArray = ls at hl ⊢
  replace hl : lv_has ls 5 [(0, .ref y), (1, .int (nI j)), (2, .int man)] := hl
  refine lv_iconst (v := nI 0) hx hb dX1_colour_0 (by decide) ?_
  refine lv_istore_n (lv' := [(3, .int (nI 0)), (0, .ref y), (1, .int (nI j)), (2, .int man)]) hx hb dX1_colour_1 rfl hl (by decide) rfl (fun ls hl => ?_)
  refine lv_iconst (v := nI 0) hx hb dX1_colour_2 (by decide) ?_
  refine lv_istore (lv' := [(4, .int (nI 0)), (3, .int (nI 0)), (0, .ref y), (1, .int (nI j)), (2, .int man)]) hx hb dX1_colour_3 hl (by decide) rfl (fun ls hl => ?_)
  obtain ⟨i, hi0⟩ : ∃ i : Nat, i = 0 := ⟨0, rfl⟩
  replace hl := lv_sub hl [2, 3, 4, 1, 0] rfl
  replace hl : lv_has ls 5 [(0, .ref y), (1, .int (nI j)), (2, .int man), (3, .int (nI (mo_co M j man i))), (4, .int (nI i))] := by rw [hi0]; exact hl
  have hib : i ≤ 64 := by omega
  clear hi0
  obtain ⟨zi, hzi⟩ : ∃ z : Nat, 64 < i + z := ⟨64 + 1, by omega⟩
  induction zi generalizing i ls with
  | zero => exact absurd hzi (by omega)
  | succ zi ihi =>
    refine lv_iload hx hb dX1_colour_5 (lv_at hl 4 rfl) ?_
    refine lv_bipush (v := nI 64) hx hb dX1_colour_7 (by decide) ?_
    refine lv_icmp_ge (tgt := 52) hx hb dX1_colour_9 (by decide) (fun c_1 => ?_) (fun c_1 => ?_)
    · have c_1 : 64 ≤ i := (nI_leI (show 64 < 2 ^ 31 by omega) (show i < 2 ^ 31 by omega)).mp c_1
      refine lv_iload_n hx hb dX1_colour_52 rfl (lv_at hl 3 rfl) ?_
      exact rd_ret hx hb hr hlocks (by rw [show i = 64 by omega]) dX1_colour_53
    · have c_1 : ¬ (64 ≤ i) := fun h => c_1 ((nI_leI (show 64 < 2 ^ 31 by omega) (show i < 2 ^ 31 by omega)).mpr h)
      refine lv_aload_n hx hb dX1_colour_12 rfl (lv_at hl 0 rfl) ?_
      refine va_get (D := (dC, dI)) (ci := 1) (v := .ref b) (C := RX1) (T := TX1) (N := 7) hx hb hts hinX1 hown hK hP 0 rfl rfl 3 (by decide) hf14 (fun _ h9 => h9) rfl dX1_colour_13 ?_
      refine lv_bipush (v := nI 64) hx hb dX1_colour_16 (by decide) ?_
      refine lv_iload_n hx hb dX1_colour_18 rfl (lv_at hl 1 rfl) ?_
      refine lv_imul hx hb dX1_colour_19 ?_
      refine lv_is (pk_mul _ _) ?_
      refine lv_iload hx hb dX1_colour_20 (lv_at hl 4 rfl) ?_
      refine lv_iadd hx hb dX1_colour_22 ?_
      refine lv_is (nI_add _ _) ?_
      refine ix_iald hx hb hK hP 2 0 rfl rfl (show (64 * j) + i < 40960 by omega) (by decide) dX1_colour_23 ?_
      refine lv_iload_n hx hb dX1_colour_24 rfl (lv_at hl 2 rfl) ?_
      refine lv_icmp_ne (tgt := 44) hx hb dX1_colour_25 (by decide) (fun c_2 => ?_) (fun c_2 => ?_)
      · refine lv_iload_n hx hb dX1_colour_44 rfl (lv_at hl 3 rfl) ?_
        refine lv_istore_n (lv' := [(3, .int (nI (mo_co M j man i))), (0, .ref y), (1, .int (nI j)), (2, .int man), (4, .int (nI i))]) hx hb dX1_colour_45 rfl hl (by decide) rfl (fun ls hl => ?_)
        refine lv_iinc (v := nI (i + 1)) (lv' := [(4, .int (nI (i + 1))), (3, .int (nI (mo_co M j man i))), (0, .ref y), (1, .int (nI j)), (2, .int man)]) hx hb dX1_colour_46 hl (k := 4) rfl (nI_1 _) (by decide) rfl (fun ls hl => ?_)
        refine lv_goto (tgt := 5) hx hb dX1_colour_49 (by decide) ?_
        have e1 : mo_co M j man i = mo_co M j man (i + 1) := by rw [mo_co, if_neg c_2]
        rw [e1] at hl
        exact ihi _ _ (lv_sub hl [2, 3, 4, 1, 0] rfl) (by omega) (by omega)
      · refine lv_iload hx hb dX1_colour_28 (lv_at hl 4 rfl) ?_
        refine lv_bipush (v := nI 8) hx hb dX1_colour_30 (by decide) ?_
        refine lv_irem hx hb dX1_colour_32 (by decide) ?_
        refine lv_is (pk_rem (by omega) (by omega) (by omega)) ?_
        refine lv_iload hx hb dX1_colour_33 (lv_at hl 4 rfl) ?_
        refine lv_bipush (v := nI 8) hx hb dX1_colour_35 (by decide) ?_
        refine lv_idiv hx hb dX1_colour_37 (by decide) ?_
        refine lv_is (pk_div (by omega) (by omega) (by omega)) ?_
        refine lv_iadd hx hb dX1_colour_38 ?_
        refine lv_is (nI_add _ _) ?_
        refine lv_iconst (v := nI 2) hx hb dX1_colour_39 (by decide) ?_
        refine lv_irem hx hb dX1_colour_40 (by decide) ?_
        refine lv_is (pk_rem (by omega) (by omega) (by omega)) ?_
        refine lv_goto (tgt := 45) hx hb dX1_colour_41 (by decide) ?_
        refine lv_istore_n (lv' := [(3, .int (nI (((i % 8) + (i / 8)) % 2))), (0, .ref y), (1, .int (nI j)), (2, .int man), (4, .int (nI i))]) hx hb dX1_colour_45 rfl hl (by decide) rfl (fun ls hl => ?_)
        refine lv_iinc (v := nI (i + 1)) (lv' := [(4, .int (nI (i + 1))), (3, .int (nI (((i % 8) + (i / 8)) % 2))), (0, .ref y), (1, .int (nI j)), (2, .int man)]) hx hb dX1_colour_46 hl (k := 4) rfl (nI_1 _) (by decide) rfl (fun ls hl => ?_)
        refine lv_goto (tgt := 5) hx hb dX1_colour_49 (by decide) ?_
        have e1 : ((i % 8) + (i / 8)) % 2 = mo_co M j man (i + 1) := by rw [mo_co, if_pos c_2]
        rw [e1] at hl
        exact ihi _ _ (lv_sub hl [2, 3, 4, 1, 0] rfl) (by omega) (by omega)
set_option maxHeartbeats 4000000 in
set_option maxRecDepth 100000 in
theorem k_X1_isDead (l : Launch) (dC : Nat → ClassId) (dI : Nat → Nat → Nat) (cI : ClassId) (y a b c9 d v : Nat) (th : Int32) (N : Nat → Int32) (n : Nat) (M S C V : Nat → Int32) (j : Nat) (hj : j < 640) : Met l yX1_isDead wsX1_isDead ({ frames := 1, cells := 0, slots := 0, locals := 24 } : Room) (rd (dC, dI) (wM cI y a b c9 d v th N n M S C V) (tM cI) [.ref y, .int (nI j)]) (QcRead (mo_dead M j)) 0 0 nofree := by
  refine Met.ofW (cc := cX1_isDead) (maxL := 6) (ret := (some .boolean)) (by decide) rfl ?_
  intro p e s m args below meth c s₁ B hml hv
  obtain ⟨rfl, hP, hK⟩ := hv
  have hx := B.exec
  have hb := B.bytes
  have hr := B.returns
  have hts := atoms_spec (ws := wsX1_isDead) B.pre
  have hown : s.vm.findClass RX1 = some m.cls := findClass_of_methodNamed B.named
  have hlocks := B.notSynchronized
  have hinX1 : ∀ w ∈ u_ws RX1 TX1 7, w ∈ wsX1_isDead := by decide +kernel
  have hl := lv_entry ([.ref y, .int (nI j)]) (n := 6) (Nat.le_of_ble_eq_true rfl)
  rw [lg_entry_eq]
  generalize (lg_sl ([.ref y, .int (nI j)]) ++ List.replicate (6 - (lg_sl ([.ref y, .int (nI j)])).length) Slot.unset).toArray = ls at hl ⊢
  replace hl : lv_has ls 6 [(0, .ref y), (1, .int (nI j))] := hl
  refine lv_aload_n hx hb dX1_isDead_0 rfl (lv_at hl 0 rfl) ?_
  refine lv_iload_n hx hb dX1_isDead_1 rfl (lv_at hl 1 rfl) ?_
  refine lv_bipush (v := nI 6) hx hb dX1_isDead_2 (by decide) ?_
  have hcnnI6 := mo_hm_le M j (nI 6) 64
  refine rd_callV (rest := []) ⟨hx, hb, hml, hown, hts⟩ (k_X1_howMany l dC dI cI y a b c9 d v th N n M S C V j (nI 6) (by omega)) (cwV 2 hts gX1_isDead_X1_howMany rfl rfl rfl (by decide +kernel) ⟨Nat.le_of_ble_eq_true rfl, Nat.le_of_ble_eq_true rfl⟩) hK hP rfl (q0 := 0) rfl rfl hl.1 rfl (Nat.le_of_ble_eq_true rfl) dX1_isDead_4 ⟨Nat.zero_le _, Nat.zero_le _⟩ ?_
  refine lv_iconst (v := nI 1) hx hb dX1_isDead_7 (by decide) ?_
  refine lv_icmp_ne (tgt := 22) hx hb dX1_isDead_8 (by decide) (fun c_1 => ?_) (fun c_1 => ?_)
  · have c_1 : ¬ ((mo_hm M j (nI 6) 64) = 1) := fun h => c_1 ((nI_eq (show mo_hm M j (nI 6) 64 < 2 ^ 31 by omega) (show 1 < 2 ^ 31 by omega)).mpr h)
    refine lv_iconst (v := nI 0) hx hb dX1_isDead_22 (by decide) ?_
    exact rd_retz hx hb hr hlocks rfl (by rw [mo_dead, if_neg c_1]) dX1_isDead_23
  · have c_1 : (mo_hm M j (nI 6) 64) = 1 := (nI_eq (show mo_hm M j (nI 6) 64 < 2 ^ 31 by omega) (show 1 < 2 ^ 31 by omega)).mp c_1
    refine lv_aload_n hx hb dX1_isDead_11 rfl (lv_at hl 0 rfl) ?_
    refine lv_iload_n hx hb dX1_isDead_12 rfl (lv_at hl 1 rfl) ?_
    refine lv_bipush (v := nI 12) hx hb dX1_isDead_13 (by decide) ?_
    have hcnnI12 := mo_hm_le M j (nI 12) 64
    refine rd_callV (rest := []) ⟨hx, hb, hml, hown, hts⟩ (k_X1_howMany l dC dI cI y a b c9 d v th N n M S C V j (nI 12) (by omega)) (cwV 2 hts gX1_isDead_X1_howMany rfl rfl rfl (by decide +kernel) ⟨Nat.le_of_ble_eq_true rfl, Nat.le_of_ble_eq_true rfl⟩) hK hP rfl (q0 := 0) rfl rfl hl.1 rfl (Nat.le_of_ble_eq_true rfl) dX1_isDead_15 ⟨Nat.zero_le _, Nat.zero_le _⟩ ?_
    refine lv_iconst (v := nI 1) hx hb dX1_isDead_18 (by decide) ?_
    refine lv_icmp_eq (tgt := 24) hx hb dX1_isDead_19 (by decide) (fun c_2 => ?_) (fun c_2 => ?_)
    · have c_2 : (mo_hm M j (nI 12) 64) = 1 := (nI_eq (show mo_hm M j (nI 12) 64 < 2 ^ 31 by omega) (show 1 < 2 ^ 31 by omega)).mp c_2
      refine lv_bipush (v := nI 64) hx hb dX1_isDead_24 (by decide) ?_
      refine lv_aload_n hx hb dX1_isDead_26 rfl (lv_at hl 0 rfl) ?_
      refine lv_iload_n hx hb dX1_isDead_27 rfl (lv_at hl 1 rfl) ?_
      refine lv_iconst (v := nI 0) hx hb dX1_isDead_28 (by decide) ?_
      have hcnnI0 := mo_hm_le M j (nI 0) 64
      refine rd_callV (rest := [.int (nI 64)]) ⟨hx, hb, hml, hown, hts⟩ (k_X1_howMany l dC dI cI y a b c9 d v th N n M S C V j (nI 0) (by omega)) (cwV 2 hts gX1_isDead_X1_howMany rfl rfl rfl (by decide +kernel) ⟨Nat.le_of_ble_eq_true rfl, Nat.le_of_ble_eq_true rfl⟩) hK hP rfl (q0 := 0) rfl rfl hl.1 rfl (Nat.le_of_ble_eq_true rfl) dX1_isDead_29 ⟨Nat.zero_le _, Nat.zero_le _⟩ ?_
      refine lv_isub hx hb dX1_isDead_32 ?_
      refine lv_is (pk_sub (by omega)) ?_
      refine lv_istore_n (lv' := [(2, .int (nI (64 - (mo_hm M j (nI 0) 64)))), (0, .ref y), (1, .int (nI j))]) hx hb dX1_isDead_33 rfl hl (by decide) rfl (fun ls hl => ?_)
      refine lv_aload_n hx hb dX1_isDead_34 rfl (lv_at hl 1 rfl) ?_
      refine lv_iload_n hx hb dX1_isDead_35 rfl (lv_at hl 2 rfl) ?_
      refine lv_iconst (v := nI 2) hx hb dX1_isDead_36 (by decide) ?_
      have hcnnI2 := mo_hm_le M j (nI 2) 64
      refine rd_callV (rest := []) ⟨hx, hb, hml, hown, hts⟩ (k_X1_howMany l dC dI cI y a b c9 d v th N n M S C V j (nI 2) (by omega)) (cwV 2 hts gX1_isDead_X1_howMany rfl rfl rfl (by decide +kernel) ⟨Nat.le_of_ble_eq_true rfl, Nat.le_of_ble_eq_true rfl⟩) hK hP rfl (q0 := 0) rfl rfl hl.1 rfl (Nat.le_of_ble_eq_true rfl) dX1_isDead_37 ⟨Nat.zero_le _, Nat.zero_le _⟩ ?_
      refine lv_aload_n hx hb dX1_isDead_40 rfl (lv_at hl 1 rfl) ?_
      refine lv_iload_n hx hb dX1_isDead_41 rfl (lv_at hl 2 rfl) ?_
      refine lv_bipush (v := nI 8) hx hb dX1_isDead_42 (by decide) ?_
      have hcnnI8 := mo_hm_le M j (nI 8) 64
      refine rd_callV (rest := [.int (nI (mo_hm M j (nI 2) 64))]) ⟨hx, hb, hml, hown, hts⟩ (k_X1_howMany l dC dI cI y a b c9 d v th N n M S C V j (nI 8) (by omega)) (cwV 2 hts gX1_isDead_X1_howMany rfl rfl rfl (by decide +kernel) ⟨Nat.le_of_ble_eq_true rfl, Nat.le_of_ble_eq_true rfl⟩) hK hP rfl (q0 := 0) rfl rfl hl.1 rfl (Nat.le_of_ble_eq_true rfl) dX1_isDead_44 ⟨Nat.zero_le _, Nat.zero_le _⟩ ?_
      refine lv_iadd hx hb dX1_isDead_47 ?_
      refine lv_is (nI_add _ _) ?_
      refine lv_istore_n (lv' := [(3, .int (nI ((mo_hm M j (nI 2) 64) + (mo_hm M j (nI 8) 64)))), (2, .int (nI (64 - (mo_hm M j (nI 0) 64)))), (0, .ref y), (1, .int (nI j))]) hx hb dX1_isDead_48 rfl hl (by decide) rfl (fun ls hl => ?_)
      refine lv_aload_n hx hb dX1_isDead_49 rfl (lv_at hl 2 rfl) ?_
      refine lv_iload_n hx hb dX1_isDead_50 rfl (lv_at hl 3 rfl) ?_
      refine lv_iconst (v := nI 3) hx hb dX1_isDead_51 (by decide) ?_
      have hcnnI3 := mo_hm_le M j (nI 3) 64
      refine rd_callV (rest := []) ⟨hx, hb, hml, hown, hts⟩ (k_X1_howMany l dC dI cI y a b c9 d v th N n M S C V j (nI 3) (by omega)) (cwV 2 hts gX1_isDead_X1_howMany rfl rfl rfl (by decide +kernel) ⟨Nat.le_of_ble_eq_true rfl, Nat.le_of_ble_eq_true rfl⟩) hK hP rfl (q0 := 0) rfl rfl hl.1 rfl (Nat.le_of_ble_eq_true rfl) dX1_isDead_52 ⟨Nat.zero_le _, Nat.zero_le _⟩ ?_
      refine lv_istore (lv' := [(4, .int (nI (mo_hm M j (nI 3) 64))), (3, .int (nI ((mo_hm M j (nI 2) 64) + (mo_hm M j (nI 8) 64)))), (2, .int (nI (64 - (mo_hm M j (nI 0) 64)))), (0, .ref y), (1, .int (nI j))]) hx hb dX1_isDead_55 hl (by decide) rfl (fun ls hl => ?_)
      refine lv_aload_n hx hb dX1_isDead_57 rfl (lv_at hl 3 rfl) ?_
      refine lv_iload_n hx hb dX1_isDead_58 rfl (lv_at hl 4 rfl) ?_
      refine lv_bipush (v := nI 9) hx hb dX1_isDead_59 (by decide) ?_
      have hcnnI9 := mo_hm_le M j (nI 9) 64
      refine rd_callV (rest := []) ⟨hx, hb, hml, hown, hts⟩ (k_X1_howMany l dC dI cI y a b c9 d v th N n M S C V j (nI 9) (by omega)) (cwV 2 hts gX1_isDead_X1_howMany rfl rfl rfl (by decide +kernel) ⟨Nat.le_of_ble_eq_true rfl, Nat.le_of_ble_eq_true rfl⟩) hK hP rfl (q0 := 0) rfl rfl hl.1 rfl (Nat.le_of_ble_eq_true rfl) dX1_isDead_61 ⟨Nat.zero_le _, Nat.zero_le _⟩ ?_
      refine lv_istore (lv' := [(5, .int (nI (mo_hm M j (nI 9) 64))), (4, .int (nI (mo_hm M j (nI 3) 64))), (3, .int (nI ((mo_hm M j (nI 2) 64) + (mo_hm M j (nI 8) 64)))), (2, .int (nI (64 - (mo_hm M j (nI 0) 64)))), (0, .ref y), (1, .int (nI j))]) hx hb dX1_isDead_64 hl (by decide) rfl (fun ls hl => ?_)
      refine lv_iload_n hx hb dX1_isDead_66 rfl (lv_at hl 3 rfl) ?_
      refine lv_iconst (v := nI 4) hx hb dX1_isDead_67 (by decide) ?_
      refine lv_icmp_ge (tgt := 93) hx hb dX1_isDead_68 (by decide) (fun c_3 => ?_) (fun c_3 => ?_)
      · have c_3 : 4 ≤ (64 - (mo_hm M j (nI 0) 64)) := (nI_leI (show 4 < 2 ^ 31 by omega) (show 64 - (mo_hm M j (nI 0) 64) < 2 ^ 31 by omega)).mp c_3
        refine lv_iload_n hx hb dX1_isDead_93 rfl (lv_at hl 3 rfl) ?_
        refine lv_iconst (v := nI 4) hx hb dX1_isDead_94 (by decide) ?_
        refine lv_icmp_ne (tgt := 130) hx hb dX1_isDead_95 (by decide) (fun c_4 => ?_) (fun c_4 => ?_)
        · have c_4 : ¬ ((64 - (mo_hm M j (nI 0) 64)) = 4) := fun h => c_4 ((nI_eq (show 64 - (mo_hm M j (nI 0) 64) < 2 ^ 31 by omega) (show 4 < 2 ^ 31 by omega)).mpr h)
          refine lv_iconst (v := nI 0) hx hb dX1_isDead_130 (by decide) ?_
          exact rd_retz hx hb hr hlocks rfl (by rw [mo_dead, if_pos c_1, if_pos c_2, if_pos c_3, if_neg c_4]) dX1_isDead_131
        · have c_4 : (64 - (mo_hm M j (nI 0) 64)) = 4 := (nI_eq (show 64 - (mo_hm M j (nI 0) 64) < 2 ^ 31 by omega) (show 4 < 2 ^ 31 by omega)).mp c_4
          refine lv_iload hx hb dX1_isDead_98 (lv_at hl 1 rfl) ?_
          refine lv_iconst (v := nI 1) hx hb dX1_isDead_100 (by decide) ?_
          refine lv_icmp_ne (tgt := 130) hx hb dX1_isDead_101 (by decide) (fun c_5 => ?_) (fun c_5 => ?_)
          · have c_5 : ¬ ((mo_hm M j (nI 3) 64) = 1) := fun h => c_5 ((nI_eq (show mo_hm M j (nI 3) 64 < 2 ^ 31 by omega) (show 1 < 2 ^ 31 by omega)).mpr h)
            refine lv_iconst (v := nI 0) hx hb dX1_isDead_130 (by decide) ?_
            exact rd_retz hx hb hr hlocks rfl (by rw [mo_dead, if_pos c_1, if_pos c_2, if_pos c_3, if_pos c_4, if_neg c_5]) dX1_isDead_131
          · have c_5 : (mo_hm M j (nI 3) 64) = 1 := (nI_eq (show mo_hm M j (nI 3) 64 < 2 ^ 31 by omega) (show 1 < 2 ^ 31 by omega)).mp c_5
            refine lv_iload hx hb dX1_isDead_104 (lv_at hl 0 rfl) ?_
            refine lv_iconst (v := nI 1) hx hb dX1_isDead_106 (by decide) ?_
            refine lv_icmp_ne (tgt := 130) hx hb dX1_isDead_107 (by decide) (fun c_6 => ?_) (fun c_6 => ?_)
            · have c_6 : ¬ ((mo_hm M j (nI 9) 64) = 1) := fun h => c_6 ((nI_eq (show mo_hm M j (nI 9) 64 < 2 ^ 31 by omega) (show 1 < 2 ^ 31 by omega)).mpr h)
              refine lv_iconst (v := nI 0) hx hb dX1_isDead_130 (by decide) ?_
              exact rd_retz hx hb hr hlocks rfl (by rw [mo_dead, if_pos c_1, if_pos c_2, if_pos c_3, if_pos c_4, if_pos c_5, if_neg c_6]) dX1_isDead_131
            · have c_6 : (mo_hm M j (nI 9) 64) = 1 := (nI_eq (show mo_hm M j (nI 9) 64 < 2 ^ 31 by omega) (show 1 < 2 ^ 31 by omega)).mp c_6
              refine lv_aload_n hx hb dX1_isDead_110 rfl (lv_at hl 4 rfl) ?_
              refine lv_iload_n hx hb dX1_isDead_111 rfl (lv_at hl 5 rfl) ?_
              refine lv_iconst (v := nI 3) hx hb dX1_isDead_112 (by decide) ?_
              have hconI3 := mo_co_lt M j (nI 3) 64
              refine rd_callV (rest := []) ⟨hx, hb, hml, hown, hts⟩ (k_X1_colour l dC dI cI y a b c9 d v th N n M S C V j (nI 3) (by omega)) (cwV 2 hts gX1_isDead_X1_colour rfl rfl rfl (by decide +kernel) ⟨Nat.le_of_ble_eq_true rfl, Nat.le_of_ble_eq_true rfl⟩) hK hP rfl (q0 := 0) rfl rfl hl.1 rfl (Nat.le_of_ble_eq_true rfl) dX1_isDead_113 ⟨Nat.zero_le _, Nat.zero_le _⟩ ?_
              refine lv_aload_n hx hb dX1_isDead_116 rfl (lv_at hl 4 rfl) ?_
              refine lv_iload_n hx hb dX1_isDead_117 rfl (lv_at hl 5 rfl) ?_
              refine lv_bipush (v := nI 9) hx hb dX1_isDead_118 (by decide) ?_
              have hconI9 := mo_co_lt M j (nI 9) 64
              refine rd_callV (rest := [.int (nI (mo_co M j (nI 3) 64))]) ⟨hx, hb, hml, hown, hts⟩ (k_X1_colour l dC dI cI y a b c9 d v th N n M S C V j (nI 9) (by omega)) (cwV 2 hts gX1_isDead_X1_colour rfl rfl rfl (by decide +kernel) ⟨Nat.le_of_ble_eq_true rfl, Nat.le_of_ble_eq_true rfl⟩) hK hP rfl (q0 := 0) rfl rfl hl.1 rfl (Nat.le_of_ble_eq_true rfl) dX1_isDead_120 ⟨Nat.zero_le _, Nat.zero_le _⟩ ?_
              refine lv_icmp_ne (tgt := 130) hx hb dX1_isDead_123 (by decide) (fun c_7 => ?_) (fun c_7 => ?_)
              · have c_7 : ¬ ((mo_co M j (nI 3) 64) = (mo_co M j (nI 9) 64)) := fun h => c_7 ((nI_eq (show mo_co M j (nI 3) 64 < 2 ^ 31 by omega) (show mo_co M j (nI 9) 64 < 2 ^ 31 by omega)).mpr h)
                refine lv_iconst (v := nI 0) hx hb dX1_isDead_130 (by decide) ?_
                exact rd_retz hx hb hr hlocks rfl (by rw [mo_dead, if_pos c_1, if_pos c_2, if_pos c_3, if_pos c_4, if_pos c_5, if_pos c_6, if_neg c_7]) dX1_isDead_131
              · have c_7 : (mo_co M j (nI 3) 64) = (mo_co M j (nI 9) 64) := (nI_eq (show mo_co M j (nI 3) 64 < 2 ^ 31 by omega) (show mo_co M j (nI 9) 64 < 2 ^ 31 by omega)).mp c_7
                refine lv_iconst (v := nI 1) hx hb dX1_isDead_126 (by decide) ?_
                refine lv_goto (tgt := 131) hx hb dX1_isDead_127 (by decide) ?_
                exact rd_retz hx hb hr hlocks rfl (by rw [mo_dead, if_pos c_1, if_pos c_2, if_pos c_3, if_pos c_4, if_pos c_5, if_pos c_6, if_pos c_7]) dX1_isDead_131
      · have c_3 : ¬ (4 ≤ (64 - (mo_hm M j (nI 0) 64))) := fun h => c_3 ((nI_leI (show 4 < 2 ^ 31 by omega) (show 64 - (mo_hm M j (nI 0) 64) < 2 ^ 31 by omega)).mpr h)
        refine lv_iload_n hx hb dX1_isDead_71 rfl (lv_at hl 3 rfl) ?_
        refine lv_iconst (v := nI 2) hx hb dX1_isDead_72 (by decide) ?_
        refine lv_icmp_eq (tgt := 87) hx hb dX1_isDead_73 (by decide) (fun c_8 => ?_) (fun c_8 => ?_)
        · have c_8 : (64 - (mo_hm M j (nI 0) 64)) = 2 := (nI_eq (show 64 - (mo_hm M j (nI 0) 64) < 2 ^ 31 by omega) (show 2 < 2 ^ 31 by omega)).mp c_8
          refine lv_iconst (v := nI 1) hx hb dX1_isDead_87 (by decide) ?_
          refine lv_goto (tgt := 92) hx hb dX1_isDead_88 (by decide) ?_
          exact rd_retz hx hb hr hlocks rfl (by rw [mo_dead, if_pos c_1, if_pos c_2, if_neg c_3, if_pos c_8]) dX1_isDead_92
        · have c_8 : ¬ ((64 - (mo_hm M j (nI 0) 64)) = 2) := fun h => c_8 ((nI_eq (show 64 - (mo_hm M j (nI 0) 64) < 2 ^ 31 by omega) (show 2 < 2 ^ 31 by omega)).mpr h)
          refine lv_iload_n hx hb dX1_isDead_76 rfl (lv_at hl 2 rfl) ?_
          refine lv_iload hx hb dX1_isDead_77 (lv_at hl 1 rfl) ?_
          refine lv_iadd hx hb dX1_isDead_79 ?_
          refine lv_is (nI_add _ _) ?_
          refine lv_iload hx hb dX1_isDead_80 (lv_at hl 0 rfl) ?_
          refine lv_iadd hx hb dX1_isDead_82 ?_
          refine lv_is (nI_add _ _) ?_
          refine lv_iconst (v := nI 1) hx hb dX1_isDead_83 (by decide) ?_
          refine lv_icmp_ne (tgt := 91) hx hb dX1_isDead_84 (by decide) (fun c_9 => ?_) (fun c_9 => ?_)
          · have c_9 : ¬ (((((mo_hm M j (nI 2) 64) + (mo_hm M j (nI 8) 64)) + (mo_hm M j (nI 3) 64)) + (mo_hm M j (nI 9) 64)) = 1) := fun h => c_9 ((nI_eq (show (((mo_hm M j (nI 2) 64) + (mo_hm M j (nI 8) 64)) + (mo_hm M j (nI 3) 64)) + (mo_hm M j (nI 9) 64) < 2 ^ 31 by omega) (show 1 < 2 ^ 31 by omega)).mpr h)
            refine lv_iconst (v := nI 0) hx hb dX1_isDead_91 (by decide) ?_
            exact rd_retz hx hb hr hlocks rfl (by rw [mo_dead, if_pos c_1, if_pos c_2, if_neg c_3, if_neg c_8, if_neg c_9]) dX1_isDead_92
          · have c_9 : ((((mo_hm M j (nI 2) 64) + (mo_hm M j (nI 8) 64)) + (mo_hm M j (nI 3) 64)) + (mo_hm M j (nI 9) 64)) = 1 := (nI_eq (show (((mo_hm M j (nI 2) 64) + (mo_hm M j (nI 8) 64)) + (mo_hm M j (nI 3) 64)) + (mo_hm M j (nI 9) 64) < 2 ^ 31 by omega) (show 1 < 2 ^ 31 by omega)).mp c_9
            refine lv_iconst (v := nI 1) hx hb dX1_isDead_87 (by decide) ?_
            refine lv_goto (tgt := 92) hx hb dX1_isDead_88 (by decide) ?_
            exact rd_retz hx hb hr hlocks rfl (by rw [mo_dead, if_pos c_1, if_pos c_2, if_neg c_3, if_neg c_8, if_pos c_9]) dX1_isDead_92
    · have c_2 : ¬ ((mo_hm M j (nI 12) 64) = 1) := fun h => c_2 ((nI_eq (show mo_hm M j (nI 12) 64 < 2 ^ 31 by omega) (show 1 < 2 ^ 31 by omega)).mpr h)
      refine lv_iconst (v := nI 0) hx hb dX1_isDead_22 (by decide) ?_
      exact rd_retz hx hb hr hlocks rfl (by rw [mo_dead, if_pos c_1, if_neg c_2]) dX1_isDead_23
set_option maxHeartbeats 4000000 in
set_option maxRecDepth 100000 in
theorem k_X1_verdictOf (l : Launch) (dC : Nat → ClassId) (dI : Nat → Nat → Nat) (cI : ClassId) (y a b c9 d v : Nat) (th : Int32) (N : Nat → Int32) (n : Nat) (M S C V : Nat → Int32) (j : Nat) (mv ck : Int32) (hj : j < 640) : Met l yX1_verdictOf wsX1_verdictOf ({ frames := 2, cells := 0, slots := 0, locals := 49 } : Room) (rd (dC, dI) (wM cI y a b c9 d v th N n M S C V) (tM cI) [.ref y, .int (nI j), .int mv, .int ck]) (QcRead (mo_ver S M C j mv ck)) 0 0 nofree := by
  refine Met.ofW (cc := cX1_verdictOf) (maxL := 5) (ret := (some .int)) (by decide) rfl ?_
  intro p e s m args below meth c s₁ B hml hv
  obtain ⟨rfl, hP, hK⟩ := hv
  have hx := B.exec
  have hb := B.bytes
  have hr := B.returns
  have hts := atoms_spec (ws := wsX1_verdictOf) B.pre
  have hown : s.vm.findClass RX1 = some m.cls := findClass_of_methodNamed B.named
  have hlocks := B.notSynchronized
  have hinX1 : ∀ w ∈ u_ws RX1 TX1 7, w ∈ wsX1_verdictOf := by decide +kernel
  have hf20 := hts (.fieldLink RX1 20 "GameArbiterModel" "clocks" "[I") (by decide +kernel)
  have hl := lv_entry ([.ref y, .int (nI j), .int mv, .int ck]) (n := 5) (Nat.le_of_ble_eq_true rfl)
  rw [lg_entry_eq]
  generalize (lg_sl ([.ref y, .int (nI j), .int mv, .int ck]) ++ List.replicate (5 - (lg_sl ([.ref y, .int (nI j), .int mv, .int ck])).length) Slot.unset).toArray = ls at hl ⊢
  replace hl : lv_has ls 5 [(0, .ref y), (1, .int (nI j)), (2, .int mv), (3, .int ck)] := hl
  refine lv_iload_n hx hb dX1_verdictOf_0 rfl (lv_at hl 2 rfl) ?_
  refine lv_if_ne (tgt := 14) hx hb dX1_verdictOf_1 (by decide) (fun c_1 => ?_) (fun c_1 => ?_)
  · refine lv_aload_n hx hb dX1_verdictOf_14 rfl (lv_at hl 0 rfl) ?_
    refine lv_iload_n hx hb dX1_verdictOf_15 rfl (lv_at hl 1 rfl) ?_
    have hcn := mo_cnt_le S M j (j + 1)
    refine rd_callV (rest := []) ⟨hx, hb, hml, hown, hts⟩ (k_X1_countOf l dC dI cI y a b c9 d v th N n M S C V j (by omega)) (cwV 1 hts gX1_verdictOf_X1_countOf rfl rfl rfl (by decide +kernel) ⟨Nat.le_of_ble_eq_true rfl, Nat.le_of_ble_eq_true rfl⟩) hK hP rfl (q0 := 0) rfl rfl hl.1 rfl (Nat.le_of_ble_eq_true rfl) dX1_verdictOf_16 ⟨Nat.zero_le _, Nat.zero_le _⟩ ?_
    refine lv_istore (lv' := [(4, .int (nI (mo_cnt S M j (j + 1)))), (0, .ref y), (1, .int (nI j)), (2, .int mv), (3, .int ck)]) hx hb dX1_verdictOf_19 hl (by decide) rfl (fun ls hl => ?_)
    refine lv_aload_n hx hb dX1_verdictOf_21 rfl (lv_at hl 1 rfl) ?_
    refine lv_iload_n hx hb dX1_verdictOf_22 rfl (lv_at hl 2 rfl) ?_
    refine rd_callV (rest := []) ⟨hx, hb, hml, hown, hts⟩ (k_X1_isDead l dC dI cI y a b c9 d v th N n M S C V j (by omega)) (cwV 1 hts gX1_verdictOf_X1_isDead rfl rfl rfl (by decide +kernel) ⟨Nat.le_of_ble_eq_true rfl, Nat.le_of_ble_eq_true rfl⟩) hK hP rfl (q0 := 0) rfl rfl hl.1 rfl (Nat.le_of_ble_eq_true rfl) dX1_verdictOf_23 ⟨Nat.zero_le _, Nat.zero_le _⟩ ?_
    refine lv_if_eq (tgt := 31) hx hb dX1_verdictOf_26 (by decide) (fun c_2 => ?_) (fun c_2 => ?_)
    · refine lv_iload hx hb dX1_verdictOf_31 (lv_at hl 0 rfl) ?_
      refine lv_iconst (v := nI 5) hx hb dX1_verdictOf_33 (by decide) ?_
      refine lv_icmp_lt (tgt := 39) hx hb dX1_verdictOf_34 (by decide) (fun c_3 => ?_) (fun c_3 => ?_)
      · have c_3 : (mo_cnt S M j (j + 1)) < 5 := (nI_ltI (show mo_cnt S M j (j + 1) < 2 ^ 31 by omega) (show 5 < 2 ^ 31 by omega)).mp c_3
        refine lv_aload_n hx hb dX1_verdictOf_39 rfl (lv_at hl 1 rfl) ?_
        refine va_get (D := (dC, dI)) (ci := 1) (v := .ref d) (C := RX1) (T := TX1) (N := 7) hx hb hts hinX1 hown hK hP 0 rfl rfl 5 (by decide) hf20 (fun _ h9 => h9) rfl dX1_verdictOf_40 ?_
        refine lv_iload_n hx hb dX1_verdictOf_43 rfl (lv_at hl 2 rfl) ?_
        refine ix_iald hx hb hK hP 4 0 rfl rfl (show j < 640 by omega) (by decide) dX1_verdictOf_44 ?_
        refine lv_sipush (v := nI 150) hx hb dX1_verdictOf_45 (by decide) ?_
        refine lv_icmp_lt (tgt := 53) hx hb dX1_verdictOf_48 (by decide) (fun c_4 => ?_) (fun c_4 => ?_)
        · refine lv_iload hx hb dX1_verdictOf_53 (lv_at hl 0 rfl) ?_
          refine lv_iconst (v := nI 3) hx hb dX1_verdictOf_55 (by decide) ?_
          refine lv_icmp_lt (tgt := 80) hx hb dX1_verdictOf_56 (by decide) (fun c_5 => ?_) (fun c_5 => ?_)
          · have c_5 : (mo_cnt S M j (j + 1)) < 3 := (nI_ltI (show mo_cnt S M j (j + 1) < 2 ^ 31 by omega) (show 3 < 2 ^ 31 by omega)).mp c_5
            refine lv_aload_n hx hb dX1_verdictOf_80 rfl (lv_at hl 1 rfl) ?_
            refine va_get (D := (dC, dI)) (ci := 1) (v := .ref d) (C := RX1) (T := TX1) (N := 7) hx hb hts hinX1 hown hK hP 0 rfl rfl 5 (by decide) hf20 (fun _ h9 => h9) rfl dX1_verdictOf_81 ?_
            refine lv_iload_n hx hb dX1_verdictOf_84 rfl (lv_at hl 2 rfl) ?_
            refine ix_iald hx hb hK hP 4 0 rfl rfl (show j < 640 by omega) (by decide) dX1_verdictOf_85 ?_
            refine lv_bipush (v := nI 100) hx hb dX1_verdictOf_86 (by decide) ?_
            refine lv_icmp_lt (tgt := 96) hx hb dX1_verdictOf_88 (by decide) (fun c_6 => ?_) (fun c_6 => ?_)
            · refine lv_iconst (v := nI 0) hx hb dX1_verdictOf_96 (by decide) ?_
              exact rd_ret hx hb hr hlocks (by rw [mo_ver, if_neg c_1, if_pos c_2, if_pos c_3, if_pos c_4, if_pos c_5, if_pos c_6]) dX1_verdictOf_97
            · refine lv_bipush (v := nI 7) hx hb dX1_verdictOf_91 (by decide) ?_
              refine lv_goto (tgt := 97) hx hb dX1_verdictOf_93 (by decide) ?_
              exact rd_ret hx hb hr hlocks (by rw [mo_ver, if_neg c_1, if_pos c_2, if_pos c_3, if_pos c_4, if_pos c_5, if_neg c_6]) dX1_verdictOf_97
          · have c_5 : ¬ ((mo_cnt S M j (j + 1)) < 3) := fun h => c_5 ((nI_ltI (show mo_cnt S M j (j + 1) < 2 ^ 31 by omega) (show 3 < 2 ^ 31 by omega)).mpr h)
            refine lv_aload_n hx hb dX1_verdictOf_59 rfl (lv_at hl 1 rfl) ?_
            refine va_get (D := (dC, dI)) (ci := 1) (v := .ref d) (C := RX1) (T := TX1) (N := 7) hx hb hts hinX1 hown hK hP 0 rfl rfl 5 (by decide) hf20 (fun _ h9 => h9) rfl dX1_verdictOf_60 ?_
            refine lv_iload_n hx hb dX1_verdictOf_63 rfl (lv_at hl 2 rfl) ?_
            refine ix_iald hx hb hK hP 4 0 rfl rfl (show j < 640 by omega) (by decide) dX1_verdictOf_64 ?_
            refine lv_bipush (v := nI 100) hx hb dX1_verdictOf_65 (by decide) ?_
            refine lv_icmp_lt (tgt := 75) hx hb dX1_verdictOf_67 (by decide) (fun c_7 => ?_) (fun c_7 => ?_)
            · refine lv_bipush (v := nI 6) hx hb dX1_verdictOf_75 (by decide) ?_
              refine lv_goto (tgt := 97) hx hb dX1_verdictOf_77 (by decide) ?_
              exact rd_ret hx hb hr hlocks (by rw [mo_ver, if_neg c_1, if_pos c_2, if_pos c_3, if_pos c_4, if_neg c_5, if_pos c_7]) dX1_verdictOf_97
            · refine lv_bipush (v := nI 8) hx hb dX1_verdictOf_70 (by decide) ?_
              refine lv_goto (tgt := 97) hx hb dX1_verdictOf_72 (by decide) ?_
              exact rd_ret hx hb hr hlocks (by rw [mo_ver, if_neg c_1, if_pos c_2, if_pos c_3, if_pos c_4, if_neg c_5, if_neg c_7]) dX1_verdictOf_97
        · refine lv_iconst (v := nI 5) hx hb dX1_verdictOf_51 (by decide) ?_
          exact rd_ret hx hb hr hlocks (by rw [mo_ver, if_neg c_1, if_pos c_2, if_pos c_3, if_neg c_4]) dX1_verdictOf_52
      · have c_3 : ¬ ((mo_cnt S M j (j + 1)) < 5) := fun h => c_3 ((nI_ltI (show mo_cnt S M j (j + 1) < 2 ^ 31 by omega) (show 5 < 2 ^ 31 by omega)).mpr h)
        refine lv_iconst (v := nI 4) hx hb dX1_verdictOf_37 (by decide) ?_
        exact rd_ret hx hb hr hlocks (by rw [mo_ver, if_neg c_1, if_pos c_2, if_neg c_3]) dX1_verdictOf_38
    · refine lv_iconst (v := nI 3) hx hb dX1_verdictOf_29 (by decide) ?_
      exact rd_ret hx hb hr hlocks (by rw [mo_ver, if_neg c_1, if_neg c_2]) dX1_verdictOf_30
  · refine lv_iload_n hx hb dX1_verdictOf_4 rfl (lv_at hl 3 rfl) ?_
    refine lv_if_eq (tgt := 12) hx hb dX1_verdictOf_5 (by decide) (fun c_8 => ?_) (fun c_8 => ?_)
    · refine lv_iconst (v := nI 2) hx hb dX1_verdictOf_12 (by decide) ?_
      exact rd_ret hx hb hr hlocks (by rw [mo_ver, if_pos c_1, if_pos c_8]) dX1_verdictOf_13
    · refine lv_iconst (v := nI 1) hx hb dX1_verdictOf_8 (by decide) ?_
      refine lv_goto (tgt := 13) hx hb dX1_verdictOf_9 (by decide) ?_
      exact rd_ret hx hb hr hlocks (by rw [mo_ver, if_pos c_1, if_neg c_8]) dX1_verdictOf_13
