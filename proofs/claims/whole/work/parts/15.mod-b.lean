set_option maxHeartbeats 4000000 in
set_option maxRecDepth 100000 in
theorem k_X1_squares (l : Launch) (dC : Nat → ClassId) (dI : Nat → Nat → Nat) (cI : ClassId) (y a b c9 d v : Nat) (th : Int32) (N : Nat → Int32) (n : Nat) (M S C V : Nat → Int32) (q : Int32) (g : Int64) (sz : Nat)  : Met l yX1_squares wsX1_squares ({ frames := 0, cells := 0, slots := 0, locals := 0 } : Room) (wr (dC, dI) (wM cI y a b c9 d v th N n M S C V) (tM cI) sz [.ref y, .int q, .long g]) (wrQ (dC, dI) (wM cI y a b c9 d v (nI 0) (mo_sqW N q g) n M S C V) (tM cI) (va_A (wM cI y a b c9 d v th N n M S C V) sz) (fun r => r = mo_sqR q g)) 0 0 (va_A (wM cI y a b c9 d v th N n M S C V) sz) := by
  refine Met.ofW (cc := cX1_squares) (maxL := 5) (ret := (some .boolean)) (by decide) rfl ?_
  intro p e s m args below meth c s₁ B hml hv
  obtain ⟨rfl, hsz, hP, hK, hD0⟩ := hv
  have hx := B.exec
  have hb := B.bytes
  have hr := B.returns
  have hts := atoms_spec (ws := wsX1_squares) B.pre
  have hown : s.vm.findClass RX1 = some m.cls := findClass_of_methodNamed B.named
  have hlocks := B.notSynchronized
  have hinX1 : ∀ w ∈ u_ws RX1 TX1 7, w ∈ wsX1_squares := by decide +kernel
  have hf7 := hts (.fieldLink RX1 7 "GameArbiterModel" "next" "[I") (by decide +kernel)
  have hf26 := hts (.fieldLink RX1 26 "GameArbiterModel" "thrown" "I") (by decide +kernel)
  have hl := lv_entry ([.ref y, .int q, .long g]) (n := 5) (Nat.le_of_ble_eq_true rfl)
  rw [lg_entry_eq]
  generalize (lg_sl ([.ref y, .int q, .long g]) ++ List.replicate (5 - (lg_sl ([.ref y, .int q, .long g])).length) Slot.unset).toArray = ls at hl ⊢
  replace hl : lv_has ls 5 [(0, .ref y), (1, .int q), (2, .long g)] := hl
  subst hsz
  have hD := hD0.self (sz := s.heap.size)
  generalize hAe : va_A (wM cI y a b c9 d v th N n M S C V) s.heap.size = A at hD ⊢
  have hA : ∀ q : Nat, s.heap.size ≤ q → A q := fun q h => by rw [← hAe]; exact Or.inr h
  have hS : va_S A s.heap s.heap [] := va_S.rf
  replace hP : va_P (dC, dI) vwCl [(y, .inr (1, [.int th, .ref a, .int (nI n), .ref b, .ref c9, .ref d, .ref v])), (a, .inl (cI, 64, .inl N)), (b, .inl (cI, 40960, .inl M)), (c9, .inl (cI, 640, .inl S)), (d, .inl (cI, 640, .inl C)), (v, .inl (cI, 640, .inl V))] s.heap := hP
  replace hD : va_D A [(y, .inr (1, [.int th, .ref a, .int (nI n), .ref b, .ref c9, .ref d, .ref v])), (a, .inl (cI, 64, .inl N)), (b, .inl (cI, 40960, .inl M)), (c9, .inl (cI, 640, .inl S)), (d, .inl (cI, 640, .inl C)), (v, .inl (cI, 640, .inl V))] := hD
  refine lv_aload_n hx hb dX1_squares_0 rfl (lv_at hl 0 rfl) ?_
  refine lv_iconst (v := nI 0) hx hb dX1_squares_1 (by decide) ?_
  refine va_put (D := (dC, dI)) (ci := 1) (v := .int (nI 0)) (ty := .int) (C := RX1) (T := TX1) (N := 7) hx hb hts hinX1 tyX1 tyX1_ok nmX1 hown hK hP hD hS 0 rfl rfl 0 (by decide) hf26 (fun _ h9 => h9) rfl (by decide +kernel) rfl rfl (Nat.le_of_ble_eq_true rfl) dX1_squares_2 (fun H locs hP hD hS => ?_)
  replace hP : va_P (dC, dI) vwCl [(y, .inr (1, [.int (nI 0), .ref a, .int (nI n), .ref b, .ref c9, .ref d, .ref v])), (a, .inl (cI, 64, .inl N)), (b, .inl (cI, 40960, .inl M)), (c9, .inl (cI, 640, .inl S)), (d, .inl (cI, 640, .inl C)), (v, .inl (cI, 640, .inl V))] H := hP
  replace hD : va_D A [(y, .inr (1, [.int (nI 0), .ref a, .int (nI n), .ref b, .ref c9, .ref d, .ref v])), (a, .inl (cI, 64, .inl N)), (b, .inl (cI, 40960, .inl M)), (c9, .inl (cI, 640, .inl S)), (d, .inl (cI, 640, .inl C)), (v, .inl (cI, 640, .inl V))] := hD
  refine lv_iload_n hx hb dX1_squares_5 rfl (lv_at hl 1 rfl) ?_
  refine lv_if_lt (tgt := 14) hx hb dX1_squares_6 (by decide) (fun c_1 => ?_) (fun c_1 => ?_)
  · refine lv_iconst (v := nI 0) hx hb dX1_squares_14 (by decide) ?_
    exact wr_retz hx hb hr hlocks rfl (by rw [mo_sqR, if_pos c_1]) (by rw [mo_sqW, if_pos c_1]) hP hK hD hS dX1_squares_15
  · refine lv_iload_n hx hb dX1_squares_9 rfl (lv_at hl 1 rfl) ?_
    refine lv_iconst (v := nI 3) hx hb dX1_squares_10 (by decide) ?_
    refine lv_icmp_le (tgt := 16) hx hb dX1_squares_11 (by decide) (fun c_2 => ?_) (fun c_2 => ?_)
    · obtain ⟨pa, hpa, rfl⟩ := nI_of c_1
      have hp4 : pa ≤ 3 := (nI_leI (by omega) (by omega)).mp c_2
      refine lv_iconst (v := nI 0) hx hb dX1_squares_16 (by decide) ?_
      refine lv_istore (lv' := [(4, .int (nI 0)), (0, .ref y), (1, .int (nI pa)), (2, .long g)]) hx hb dX1_squares_17 hl (by decide) rfl (fun ls hl => ?_)
      obtain ⟨i, hi0⟩ : ∃ i : Nat, i = 0 := ⟨0, rfl⟩
      replace hl := lv_sub hl [1, 2, 3, 0] rfl
      replace hl : lv_has ls 5 [(0, .ref y), (1, .int (nI pa)), (2, .long g), (4, .int (nI i))] := by rw [hi0]; exact hl
      have hib : i ≤ 16 := by omega
      have hI : ∀ j, j < i → uN g / 2 ^ (4 * j) % 16 ≤ 12 := by subst hi0; exact fun j hj => absurd hj (by omega)
      clear hi0
      obtain ⟨zi, hzi⟩ : ∃ z : Nat, 16 < i + z := ⟨16 + 1, by omega⟩
      induction zi generalizing i ls with
      | zero => exact absurd hzi (by omega)
      | succ zi ihi =>
        refine lv_iload hx hb dX1_squares_19 (lv_at hl 3 rfl) ?_
        refine lv_bipush (v := nI 16) hx hb dX1_squares_21 (by decide) ?_
        refine lv_icmp_ge (tgt := 51) hx hb dX1_squares_23 (by decide) (fun c_3 => ?_) (fun c_3 => ?_)
        · have c_3 : 16 ≤ i := (nI_leI (show 16 < 2 ^ 31 by omega) (show i < 2 ^ 31 by omega)).mp c_3
          refine lv_iconst (v := nI 0) hx hb dX1_squares_51 (by decide) ?_
          refine lv_istore (lv' := [(4, .int (nI 0)), (0, .ref y), (1, .int (nI pa)), (2, .long g)]) hx hb dX1_squares_52 hl (by decide) rfl (fun ls hl => ?_)
          obtain ⟨k, hk0⟩ : ∃ k : Nat, k = 0 := ⟨0, rfl⟩
          replace hl := lv_sub hl [1, 2, 3, 0] rfl
          replace hl : lv_has ls 5 [(0, .ref y), (1, .int (nI pa)), (2, .long g), (4, .int (nI k))] := by rw [hk0]; exact hl
          have hkb : k ≤ 16 := by omega
          clear ihi
          replace hP : va_P (dC, dI) vwCl [(y, .inr (1, [.int (nI 0), .ref a, .int (nI n), .ref b, .ref c9, .ref d, .ref v])), (a, .inl (cI, 64, .inl (mo_sqN N pa g k))), (b, .inl (cI, 40960, .inl M)), (c9, .inl (cI, 640, .inl S)), (d, .inl (cI, 640, .inl C)), (v, .inl (cI, 640, .inl V))] H := by rw [hk0, mo_sqN_0]; exact hP
          replace hD : va_D A [(y, .inr (1, [.int (nI 0), .ref a, .int (nI n), .ref b, .ref c9, .ref d, .ref v])), (a, .inl (cI, 64, .inl (mo_sqN N pa g k))), (b, .inl (cI, 40960, .inl M)), (c9, .inl (cI, 640, .inl S)), (d, .inl (cI, 640, .inl C)), (v, .inl (cI, 640, .inl V))] := by rw [hk0, mo_sqN_0]; exact hD
          replace hP : va_P (dC, dI) vwCl [(y, .inr (1, [.int (nI 0), .ref a, .int (nI n), .ref b, .ref c9, .ref d, .ref v])), (a, .inl (cI, 64, .inl (mo_sqN N pa g k))), (b, .inl (cI, 40960, .inl M)), (c9, .inl (cI, 640, .inl S)), (d, .inl (cI, 640, .inl C)), (v, .inl (cI, 640, .inl V))] H := hP
          replace hD : va_D A [(y, .inr (1, [.int (nI 0), .ref a, .int (nI n), .ref b, .ref c9, .ref d, .ref v])), (a, .inl (cI, 64, .inl (mo_sqN N pa g k))), (b, .inl (cI, 40960, .inl M)), (c9, .inl (cI, 640, .inl S)), (d, .inl (cI, 640, .inl C)), (v, .inl (cI, 640, .inl V))] := hD
          clear hk0
          obtain ⟨zk, hzk⟩ : ∃ z : Nat, 16 < k + z := ⟨16 + 1, by omega⟩
          induction zk generalizing k ls H locs with
          | zero => exact absurd hzk (by omega)
          | succ zk ihk =>
            refine lv_iload hx hb dX1_squares_54 (lv_at hl 3 rfl) ?_
            refine lv_bipush (v := nI 16) hx hb dX1_squares_56 (by decide) ?_
            refine lv_icmp_ge (tgt := 93) hx hb dX1_squares_58 (by decide) (fun c_4 => ?_) (fun c_4 => ?_)
            · have c_4 : 16 ≤ k := (nI_leI (show 16 < 2 ^ 31 by omega) (show k < 2 ^ 31 by omega)).mp c_4
              refine lv_iconst (v := nI 1) hx hb dX1_squares_93 (by decide) ?_
              exact wr_retz hx hb hr hlocks rfl (by rw [mo_sqR, if_neg c_1, if_pos c_2, if_pos (show ∀ k, k < 16 → uN g / 2 ^ (4 * k) % 16 ≤ 12 from fun j hj => hI j (by omega))]) (by rw [mo_sqW, if_neg c_1, if_pos c_2, if_pos (show ∀ k, k < 16 → uN g / 2 ^ (4 * k) % 16 ≤ 12 from fun j hj => hI j (by omega)), nI_clamp (by omega), show k = 16 by omega]) hP hK hD hS dX1_squares_94
            · have c_4 : ¬ (16 ≤ k) := fun h => c_4 ((nI_leI (show 16 < 2 ^ 31 by omega) (show k < 2 ^ 31 by omega)).mpr h)
              refine lv_aload_n hx hb dX1_squares_61 rfl (lv_at hl 0 rfl) ?_
              refine va_get (D := (dC, dI)) (ci := 1) (v := .ref a) (C := RX1) (T := TX1) (N := 7) hx hb hts hinX1 hown hK hP 0 rfl rfl 1 (by decide) hf7 (fun _ h9 => h9) rfl dX1_squares_62 ?_
              refine lv_bipush (v := nI 16) hx hb dX1_squares_65 (by decide) ?_
              refine lv_iload_n hx hb dX1_squares_67 rfl (lv_at hl 1 rfl) ?_
              refine lv_imul hx hb dX1_squares_68 ?_
              refine lv_is (pk_mul _ _) ?_
              refine lv_iload hx hb dX1_squares_69 (lv_at hl 3 rfl) ?_
              refine lv_iadd hx hb dX1_squares_71 ?_
              refine lv_is (nI_add _ _) ?_
              refine lv_lload_n hx hb dX1_squares_72 rfl (lv_at hl 2 rfl) ?_
              refine lv_bipush (v := nI 60) hx hb dX1_squares_73 (by decide) ?_
              refine lv_iconst (v := nI 4) hx hb dX1_squares_75 (by decide) ?_
              refine lv_iload hx hb dX1_squares_76 (lv_at hl 3 rfl) ?_
              refine lv_imul hx hb dX1_squares_78 ?_
              refine lv_is (pk_mul _ _) ?_
              refine lv_isub hx hb dX1_squares_79 ?_
              refine lv_is (pk_sub (by omega)) ?_
              refine lv_lshr (v := g >>> ((nI (60 - (4 * k))).toInt64 &&& 63)) hx hb dX1_squares_80 rfl ?_
              refine lv_ldc2 (v := (15)) hx hb hown (hts (.constantLong RX1 30 (15)) (by decide +kernel)) dX1_squares_81 ?_
              refine lv_land hx hb dX1_squares_84 ?_
              refine lv_isl (show (g >>> ((nI (60 - (4 * k))).toInt64 &&& 63)) &&& (15) = lN (uN g / 2 ^ (60 - 4 * k) % 16) from nib_s g (by omega)) ?_
              refine lv_l2i (v := nI (nib g k)) hx hb dX1_squares_85 (lN_i (uN g / 2 ^ (60 - 4 * k) % 16)) ?_
              refine ix_iast hx hb hK hP hD hS 1 0 rfl rfl (show (16 * pa) + k < 64 by omega) (by decide) dX1_squares_86 (fun H locs hP hD hS => ?_)
              replace hP : va_P (dC, dI) vwCl [(y, .inr (1, [.int (nI 0), .ref a, .int (nI n), .ref b, .ref c9, .ref d, .ref v])), (a, .inl (cI, 64, .inl (upd (mo_sqN N pa g k) ((16 * pa) + k) (nI (nib g k))))), (b, .inl (cI, 40960, .inl M)), (c9, .inl (cI, 640, .inl S)), (d, .inl (cI, 640, .inl C)), (v, .inl (cI, 640, .inl V))] H := hP
              replace hD : va_D A [(y, .inr (1, [.int (nI 0), .ref a, .int (nI n), .ref b, .ref c9, .ref d, .ref v])), (a, .inl (cI, 64, .inl (upd (mo_sqN N pa g k) ((16 * pa) + k) (nI (nib g k))))), (b, .inl (cI, 40960, .inl M)), (c9, .inl (cI, 640, .inl S)), (d, .inl (cI, 640, .inl C)), (v, .inl (cI, 640, .inl V))] := hD
              refine lv_iinc (v := nI (k + 1)) (lv' := [(4, .int (nI (k + 1))), (0, .ref y), (1, .int (nI pa)), (2, .long g)]) hx hb dX1_squares_87 hl (k := 3) rfl (nI_1 _) (by decide) rfl (fun ls hl => ?_)
              refine lv_goto (tgt := 54) hx hb dX1_squares_90 (by decide) ?_
              rw [mo_sqN_s] at hP hD
              replace hP : va_P (dC, dI) vwCl [(y, .inr (1, [.int (nI 0), .ref a, .int (nI n), .ref b, .ref c9, .ref d, .ref v])), (a, .inl (cI, 64, .inl (mo_sqN N pa g (k + 1)))), (b, .inl (cI, 40960, .inl M)), (c9, .inl (cI, 640, .inl S)), (d, .inl (cI, 640, .inl C)), (v, .inl (cI, 640, .inl V))] H := hP
              replace hD : va_D A [(y, .inr (1, [.int (nI 0), .ref a, .int (nI n), .ref b, .ref c9, .ref d, .ref v])), (a, .inl (cI, 64, .inl (mo_sqN N pa g (k + 1)))), (b, .inl (cI, 40960, .inl M)), (c9, .inl (cI, 640, .inl S)), (d, .inl (cI, 640, .inl C)), (v, .inl (cI, 640, .inl V))] := hD
              replace hl := lv_sub hl [1, 2, 3, 0] rfl
              apply ihk (k := k + 1) <;> first | exact hP | exact hD | exact hS | exact hl | omega
        · have c_3 : ¬ (16 ≤ i) := fun h => c_3 ((nI_leI (show 16 < 2 ^ 31 by omega) (show i < 2 ^ 31 by omega)).mpr h)
          refine lv_lload_n hx hb dX1_squares_26 rfl (lv_at hl 2 rfl) ?_
          refine lv_iconst (v := nI 4) hx hb dX1_squares_27 (by decide) ?_
          refine lv_iload hx hb dX1_squares_28 (lv_at hl 3 rfl) ?_
          refine lv_imul hx hb dX1_squares_30 ?_
          refine lv_is (pk_mul _ _) ?_
          refine lv_lshr (v := g >>> ((nI (4 * i)).toInt64 &&& 63)) hx hb dX1_squares_31 rfl ?_
          refine lv_ldc2 (v := (15)) hx hb hown (hts (.constantLong RX1 30 (15)) (by decide +kernel)) dX1_squares_32 ?_
          refine lv_land hx hb dX1_squares_35 ?_
          refine lv_isl (show (g >>> ((nI (4 * i)).toInt64 &&& 63)) &&& (15) = lN (uN g / 2 ^ (4 * i) % 16) from nib_s g (by omega)) ?_
          refine lv_ldc2 (v := (12)) hx hb hown (hts (.constantLong RX1 32 (12)) (by decide +kernel)) dX1_squares_36 ?_
          refine W.lcmp hx hb dX1_squares_39 ?_
          refine lv_if_le (tgt := 45) hx hb dX1_squares_40 (by decide) (fun c_5 => ?_) (fun c_5 => ?_)
          · have hok : uN g / 2 ^ (4 * i) % 16 ≤ 12 := (pk_lLE (b := 12) (by omega) (by omega)).mp ((lg_cmp_le _ _).mp c_5)
            refine lv_iinc (v := nI (i + 1)) (lv' := [(4, .int (nI (i + 1))), (0, .ref y), (1, .int (nI pa)), (2, .long g)]) hx hb dX1_squares_45 hl (k := 3) rfl (nI_1 _) (by decide) rfl (fun ls hl => ?_)
            refine lv_goto (tgt := 19) hx hb dX1_squares_48 (by decide) ?_
            have hJ : ∀ j, j < i + 1 → uN g / 2 ^ (4 * j) % 16 ≤ 12 := fun j hj => by
              by_cases h : j = i
              · rw [h]; exact hok
              · exact hI j (by omega)
            exact ihi _ _ (lv_sub hl [1, 2, 3, 0] rfl) (by omega) hJ (by omega)
          · have hok : ¬ uN g / 2 ^ (4 * i) % 16 ≤ 12 := fun h => c_5 ((lg_cmp_le _ _).mpr ((pk_lLE (b := 12) (by omega) (by omega)).mpr h))
            refine lv_iconst (v := nI 0) hx hb dX1_squares_43 (by decide) ?_
            exact wr_retz hx hb hr hlocks rfl (by rw [mo_sqR, if_neg c_1, if_pos c_2, if_neg (fun h => hok (h i (by omega)))]) (by rw [mo_sqW, if_neg c_1, if_pos c_2, if_neg (fun h => hok (h i (by omega)))]) hP hK hD hS dX1_squares_44
    · refine lv_iconst (v := nI 0) hx hb dX1_squares_14 (by decide) ?_
      exact wr_retz hx hb hr hlocks rfl (by rw [mo_sqR, if_neg c_1, if_neg c_2]) (by rw [mo_sqW, if_neg c_1, if_neg c_2]) hP hK hD hS dX1_squares_15
set_option maxHeartbeats 4000000 in
set_option maxRecDepth 100000 in
theorem k_X1_add (l : Launch) (dC : Nat → ClassId) (dI : Nat → Nat → Nat) (cI : ClassId) (y a b c9 d v : Nat) (th : Int32) (N : Nat → Int32) (n : Nat) (M S C V : Nat → Int32) (st mv ck cl : Int32) (sz : Nat) (hn : n < 640) : Met l yX1_add wsX1_add ({ frames := 3, cells := 0, slots := 0, locals := 73 } : Room) (wr (dC, dI) (wM cI y a b c9 d v th N n M S C V) (tM cI) sz [.ref y, .int st, .int mv, .int ck, .int cl]) (wrQ (dC, dI) (wM cI y a b c9 d v th N (n + 1) (mo_adM M N n 64) (upd S n st) (upd C n cl) (upd V n (mo_ver (upd S n st) (mo_adM M N n 64) (upd C n cl) n mv ck))) (tM cI) (va_A (wM cI y a b c9 d v th N n M S C V) sz) (fun r => r = mo_ver (upd S n st) (mo_adM M N n 64) (upd C n cl) n mv ck)) 0 0 (va_A (wM cI y a b c9 d v th N n M S C V) sz) := by
  refine Met.ofW (cc := cX1_add) (maxL := 6) (ret := (some .int)) (by decide) rfl ?_
  intro p e s m args below meth c s₁ B hml hv
  obtain ⟨rfl, hsz, hP, hK, hD0⟩ := hv
  have hx := B.exec
  have hb := B.bytes
  have hr := B.returns
  have hts := atoms_spec (ws := wsX1_add) B.pre
  have hown : s.vm.findClass RX1 = some m.cls := findClass_of_methodNamed B.named
  have hlocks := B.notSynchronized
  have hinX1 : ∀ w ∈ u_ws RX1 TX1 7, w ∈ wsX1_add := by decide +kernel
  have hf7 := hts (.fieldLink RX1 7 "GameArbiterModel" "next" "[I") (by decide +kernel)
  have hf14 := hts (.fieldLink RX1 14 "GameArbiterModel" "men" "[I") (by decide +kernel)
  have hf17 := hts (.fieldLink RX1 17 "GameArbiterModel" "states" "[I") (by decide +kernel)
  have hf20 := hts (.fieldLink RX1 20 "GameArbiterModel" "clocks" "[I") (by decide +kernel)
  have hf23 := hts (.fieldLink RX1 23 "GameArbiterModel" "verdicts" "[I") (by decide +kernel)
  have hf53 := hts (.fieldLink RX1 53 "GameArbiterModel" "many" "I") (by decide +kernel)
  have hl := lv_entry ([.ref y, .int st, .int mv, .int ck, .int cl]) (n := 6) (Nat.le_of_ble_eq_true rfl)
  rw [lg_entry_eq]
  generalize (lg_sl ([.ref y, .int st, .int mv, .int ck, .int cl]) ++ List.replicate (6 - (lg_sl ([.ref y, .int st, .int mv, .int ck, .int cl])).length) Slot.unset).toArray = ls at hl ⊢
  replace hl : lv_has ls 6 [(0, .ref y), (1, .int st), (2, .int mv), (3, .int ck), (4, .int cl)] := hl
  subst hsz
  have hD := hD0.self (sz := s.heap.size)
  generalize hAe : va_A (wM cI y a b c9 d v th N n M S C V) s.heap.size = A at hD ⊢
  have hA : ∀ q : Nat, s.heap.size ≤ q → A q := fun q h => by rw [← hAe]; exact Or.inr h
  have hS : va_S A s.heap s.heap [] := va_S.rf
  replace hP : va_P (dC, dI) vwCl [(y, .inr (1, [.int th, .ref a, .int (nI n), .ref b, .ref c9, .ref d, .ref v])), (a, .inl (cI, 64, .inl N)), (b, .inl (cI, 40960, .inl M)), (c9, .inl (cI, 640, .inl S)), (d, .inl (cI, 640, .inl C)), (v, .inl (cI, 640, .inl V))] s.heap := hP
  replace hD : va_D A [(y, .inr (1, [.int th, .ref a, .int (nI n), .ref b, .ref c9, .ref d, .ref v])), (a, .inl (cI, 64, .inl N)), (b, .inl (cI, 40960, .inl M)), (c9, .inl (cI, 640, .inl S)), (d, .inl (cI, 640, .inl C)), (v, .inl (cI, 640, .inl V))] := hD
  refine lv_iconst (v := nI 0) hx hb dX1_add_0 (by decide) ?_
  refine lv_istore (lv' := [(5, .int (nI 0)), (0, .ref y), (1, .int st), (2, .int mv), (3, .int ck), (4, .int cl)]) hx hb dX1_add_1 hl (by decide) rfl (fun ls hl => ?_)
  obtain ⟨k, hk0⟩ : ∃ k : Nat, k = 0 := ⟨0, rfl⟩
  replace hl := lv_sub hl [1, 2, 3, 4, 5, 0] rfl
  replace hl : lv_has ls 6 [(0, .ref y), (1, .int st), (2, .int mv), (3, .int ck), (4, .int cl), (5, .int (nI k))] := by rw [hk0]; exact hl
  have hkb : k ≤ 64 := by omega
  generalize hHe : s.heap = H at hP ⊢
  replace hS : va_S A s.heap H [] := by rw [← hHe]; exact va_S.rf
  clear hHe
  generalize hLe : ([] : List Loc) = locs at hS ⊢
  clear hLe
  replace hP : va_P (dC, dI) vwCl [(y, .inr (1, [.int th, .ref a, .int (nI n), .ref b, .ref c9, .ref d, .ref v])), (a, .inl (cI, 64, .inl N)), (b, .inl (cI, 40960, .inl (mo_adM M N n k))), (c9, .inl (cI, 640, .inl S)), (d, .inl (cI, 640, .inl C)), (v, .inl (cI, 640, .inl V))] H := by rw [hk0, mo_adM_0]; exact hP
  replace hD : va_D A [(y, .inr (1, [.int th, .ref a, .int (nI n), .ref b, .ref c9, .ref d, .ref v])), (a, .inl (cI, 64, .inl N)), (b, .inl (cI, 40960, .inl (mo_adM M N n k))), (c9, .inl (cI, 640, .inl S)), (d, .inl (cI, 640, .inl C)), (v, .inl (cI, 640, .inl V))] := by rw [hk0, mo_adM_0]; exact hD
  replace hP : va_P (dC, dI) vwCl [(y, .inr (1, [.int th, .ref a, .int (nI n), .ref b, .ref c9, .ref d, .ref v])), (a, .inl (cI, 64, .inl N)), (b, .inl (cI, 40960, .inl (mo_adM M N n k))), (c9, .inl (cI, 640, .inl S)), (d, .inl (cI, 640, .inl C)), (v, .inl (cI, 640, .inl V))] H := hP
  replace hD : va_D A [(y, .inr (1, [.int th, .ref a, .int (nI n), .ref b, .ref c9, .ref d, .ref v])), (a, .inl (cI, 64, .inl N)), (b, .inl (cI, 40960, .inl (mo_adM M N n k))), (c9, .inl (cI, 640, .inl S)), (d, .inl (cI, 640, .inl C)), (v, .inl (cI, 640, .inl V))] := hD
  clear hk0
  obtain ⟨zk, hzk⟩ : ∃ z : Nat, 64 < k + z := ⟨64 + 1, by omega⟩
  induction zk generalizing k ls H locs with
  | zero => exact absurd hzk (by omega)
  | succ zk ihk =>
    refine lv_iload hx hb dX1_add_3 (lv_at hl 5 rfl) ?_
    refine lv_bipush (v := nI 64) hx hb dX1_add_5 (by decide) ?_
    refine lv_icmp_ge (tgt := 38) hx hb dX1_add_7 (by decide) (fun c_1 => ?_) (fun c_1 => ?_)
    · have c_1 : 64 ≤ k := (nI_leI (show 64 < 2 ^ 31 by omega) (show k < 2 ^ 31 by omega)).mp c_1
      obtain rfl : k = 64 := by omega
      refine lv_aload_n hx hb dX1_add_38 rfl (lv_at hl 0 rfl) ?_
      refine va_get (D := (dC, dI)) (ci := 1) (v := .ref c9) (C := RX1) (T := TX1) (N := 7) hx hb hts hinX1 hown hK hP 0 rfl rfl 4 (by decide) hf17 (fun _ h9 => h9) rfl dX1_add_39 ?_
      refine lv_aload_n hx hb dX1_add_42 rfl (lv_at hl 0 rfl) ?_
      refine va_get (D := (dC, dI)) (ci := 1) (v := .int (nI n)) (C := RX1) (T := TX1) (N := 7) hx hb hts hinX1 hown hK hP 0 rfl rfl 2 (by decide) hf53 (fun _ h9 => h9) rfl dX1_add_43 ?_
      refine lv_iload_n hx hb dX1_add_46 rfl (lv_at hl 1 rfl) ?_
      refine ix_iast hx hb hK hP hD hS 3 0 rfl rfl (show n < 640 by omega) (by decide) dX1_add_47 (fun H locs hP hD hS => ?_)
      replace hP : va_P (dC, dI) vwCl [(y, .inr (1, [.int th, .ref a, .int (nI n), .ref b, .ref c9, .ref d, .ref v])), (a, .inl (cI, 64, .inl N)), (b, .inl (cI, 40960, .inl (mo_adM M N n 64))), (c9, .inl (cI, 640, .inl (upd S n st))), (d, .inl (cI, 640, .inl C)), (v, .inl (cI, 640, .inl V))] H := hP
      replace hD : va_D A [(y, .inr (1, [.int th, .ref a, .int (nI n), .ref b, .ref c9, .ref d, .ref v])), (a, .inl (cI, 64, .inl N)), (b, .inl (cI, 40960, .inl (mo_adM M N n 64))), (c9, .inl (cI, 640, .inl (upd S n st))), (d, .inl (cI, 640, .inl C)), (v, .inl (cI, 640, .inl V))] := hD
      refine lv_aload_n hx hb dX1_add_48 rfl (lv_at hl 0 rfl) ?_
      refine va_get (D := (dC, dI)) (ci := 1) (v := .ref d) (C := RX1) (T := TX1) (N := 7) hx hb hts hinX1 hown hK hP 0 rfl rfl 5 (by decide) hf20 (fun _ h9 => h9) rfl dX1_add_49 ?_
      refine lv_aload_n hx hb dX1_add_52 rfl (lv_at hl 0 rfl) ?_
      refine va_get (D := (dC, dI)) (ci := 1) (v := .int (nI n)) (C := RX1) (T := TX1) (N := 7) hx hb hts hinX1 hown hK hP 0 rfl rfl 2 (by decide) hf53 (fun _ h9 => h9) rfl dX1_add_53 ?_
      refine lv_iload hx hb dX1_add_56 (lv_at hl 4 rfl) ?_
      refine ix_iast hx hb hK hP hD hS 4 0 rfl rfl (show n < 640 by omega) (by decide) dX1_add_58 (fun H locs hP hD hS => ?_)
      replace hP : va_P (dC, dI) vwCl [(y, .inr (1, [.int th, .ref a, .int (nI n), .ref b, .ref c9, .ref d, .ref v])), (a, .inl (cI, 64, .inl N)), (b, .inl (cI, 40960, .inl (mo_adM M N n 64))), (c9, .inl (cI, 640, .inl (upd S n st))), (d, .inl (cI, 640, .inl (upd C n cl))), (v, .inl (cI, 640, .inl V))] H := hP
      replace hD : va_D A [(y, .inr (1, [.int th, .ref a, .int (nI n), .ref b, .ref c9, .ref d, .ref v])), (a, .inl (cI, 64, .inl N)), (b, .inl (cI, 40960, .inl (mo_adM M N n 64))), (c9, .inl (cI, 640, .inl (upd S n st))), (d, .inl (cI, 640, .inl (upd C n cl))), (v, .inl (cI, 640, .inl V))] := hD
      refine lv_aload_n hx hb dX1_add_59 rfl (lv_at hl 0 rfl) ?_
      refine lv_dup hx hb dX1_add_60 rfl ?_
      refine va_get (D := (dC, dI)) (ci := 1) (v := .int (nI n)) (C := RX1) (T := TX1) (N := 7) hx hb hts hinX1 hown hK hP 0 rfl rfl 2 (by decide) hf53 (fun _ h9 => h9) rfl dX1_add_61 ?_
      refine lv_iconst (v := nI 1) hx hb dX1_add_64 (by decide) ?_
      refine lv_iadd hx hb dX1_add_65 ?_
      refine lv_is (nI_add _ _) ?_
      refine va_put (D := (dC, dI)) (ci := 1) (v := .int (nI (n + 1))) (ty := .int) (C := RX1) (T := TX1) (N := 7) hx hb hts hinX1 tyX1 tyX1_ok nmX1 hown hK hP hD hS 0 rfl rfl 2 (by decide) hf53 (fun _ h9 => h9) rfl (by decide +kernel) rfl rfl (Nat.le_of_ble_eq_true rfl) dX1_add_66 (fun H locs hP hD hS => ?_)
      replace hP : va_P (dC, dI) vwCl [(y, .inr (1, [.int th, .ref a, .int (nI (n + 1)), .ref b, .ref c9, .ref d, .ref v])), (a, .inl (cI, 64, .inl N)), (b, .inl (cI, 40960, .inl (mo_adM M N n 64))), (c9, .inl (cI, 640, .inl (upd S n st))), (d, .inl (cI, 640, .inl (upd C n cl))), (v, .inl (cI, 640, .inl V))] H := hP
      replace hD : va_D A [(y, .inr (1, [.int th, .ref a, .int (nI (n + 1)), .ref b, .ref c9, .ref d, .ref v])), (a, .inl (cI, 64, .inl N)), (b, .inl (cI, 40960, .inl (mo_adM M N n 64))), (c9, .inl (cI, 640, .inl (upd S n st))), (d, .inl (cI, 640, .inl (upd C n cl))), (v, .inl (cI, 640, .inl V))] := hD
      refine lv_aload_n hx hb dX1_add_69 rfl (lv_at hl 0 rfl) ?_
      refine va_get (D := (dC, dI)) (ci := 1) (v := .ref v) (C := RX1) (T := TX1) (N := 7) hx hb hts hinX1 hown hK hP 0 rfl rfl 6 (by decide) hf23 (fun _ h9 => h9) rfl dX1_add_70 ?_
      refine lv_aload_n hx hb dX1_add_73 rfl (lv_at hl 0 rfl) ?_
      refine va_get (D := (dC, dI)) (ci := 1) (v := .int (nI (n + 1))) (C := RX1) (T := TX1) (N := 7) hx hb hts hinX1 hown hK hP 0 rfl rfl 2 (by decide) hf53 (fun _ h9 => h9) rfl dX1_add_74 ?_
      refine lv_iconst (v := nI 1) hx hb dX1_add_77 (by decide) ?_
      refine lv_isub hx hb dX1_add_78 ?_
      refine lv_is (pk_sub (by omega)) ?_
      refine lv_is (show nI ((n + 1) - 1) = nI n from rfl) ?_
      refine lv_aload_n hx hb dX1_add_79 rfl (lv_at hl 0 rfl) ?_
      refine lv_aload_n hx hb dX1_add_80 rfl (lv_at hl 0 rfl) ?_
      refine va_get (D := (dC, dI)) (ci := 1) (v := .int (nI (n + 1))) (C := RX1) (T := TX1) (N := 7) hx hb hts hinX1 hown hK hP 0 rfl rfl 2 (by decide) hf53 (fun _ h9 => h9) rfl dX1_add_81 ?_
      refine lv_iconst (v := nI 1) hx hb dX1_add_84 (by decide) ?_
      refine lv_isub hx hb dX1_add_85 ?_
      refine lv_is (pk_sub (by omega)) ?_
      refine lv_is (show nI ((n + 1) - 1) = nI n from rfl) ?_
      refine lv_iload_n hx hb dX1_add_86 rfl (lv_at hl 2 rfl) ?_
      refine lv_iload_n hx hb dX1_add_87 rfl (lv_at hl 3 rfl) ?_
      refine rd_callV (rest := [.int (nI n), .ref v]) ⟨hx, hb, hml, hown, hts⟩ (k_X1_verdictOf l dC dI cI y a b c9 d v th N (n + 1) (mo_adM M N n 64) (upd S n st) (upd C n cl) V n mv ck (by omega)) (cwV 3 hts gX1_add_X1_verdictOf rfl rfl rfl (by decide +kernel) ⟨Nat.le_of_ble_eq_true rfl, Nat.le_of_ble_eq_true rfl⟩) hK hP rfl (q0 := 0) rfl rfl hl.1 rfl (Nat.le_of_ble_eq_true rfl) dX1_add_88 ⟨Nat.zero_le _, Nat.zero_le _⟩ ?_
      refine ix_iast hx hb hK hP hD hS 5 0 rfl rfl (show n < 640 by omega) (by decide) dX1_add_91 (fun H locs hP hD hS => ?_)
      replace hP : va_P (dC, dI) vwCl [(y, .inr (1, [.int th, .ref a, .int (nI (n + 1)), .ref b, .ref c9, .ref d, .ref v])), (a, .inl (cI, 64, .inl N)), (b, .inl (cI, 40960, .inl (mo_adM M N n 64))), (c9, .inl (cI, 640, .inl (upd S n st))), (d, .inl (cI, 640, .inl (upd C n cl))), (v, .inl (cI, 640, .inl (upd V n (mo_ver (upd S n st) (mo_adM M N n 64) (upd C n cl) n mv ck))))] H := hP
      replace hD : va_D A [(y, .inr (1, [.int th, .ref a, .int (nI (n + 1)), .ref b, .ref c9, .ref d, .ref v])), (a, .inl (cI, 64, .inl N)), (b, .inl (cI, 40960, .inl (mo_adM M N n 64))), (c9, .inl (cI, 640, .inl (upd S n st))), (d, .inl (cI, 640, .inl (upd C n cl))), (v, .inl (cI, 640, .inl (upd V n (mo_ver (upd S n st) (mo_adM M N n 64) (upd C n cl) n mv ck))))] := hD
      refine lv_aload_n hx hb dX1_add_92 rfl (lv_at hl 0 rfl) ?_
      refine va_get (D := (dC, dI)) (ci := 1) (v := .ref v) (C := RX1) (T := TX1) (N := 7) hx hb hts hinX1 hown hK hP 0 rfl rfl 6 (by decide) hf23 (fun _ h9 => h9) rfl dX1_add_93 ?_
      refine lv_aload_n hx hb dX1_add_96 rfl (lv_at hl 0 rfl) ?_
      refine va_get (D := (dC, dI)) (ci := 1) (v := .int (nI (n + 1))) (C := RX1) (T := TX1) (N := 7) hx hb hts hinX1 hown hK hP 0 rfl rfl 2 (by decide) hf53 (fun _ h9 => h9) rfl dX1_add_97 ?_
      refine lv_iconst (v := nI 1) hx hb dX1_add_100 (by decide) ?_
      refine lv_isub hx hb dX1_add_101 ?_
      refine lv_is (pk_sub (by omega)) ?_
      refine lv_is (show nI ((n + 1) - 1) = nI n from rfl) ?_
      refine ix_iald hx hb hK hP 5 0 rfl rfl (show n < 640 by omega) (by decide) dX1_add_102 ?_
      refine lv_is (show (upd V n (mo_ver (upd S n st) (mo_adM M N n 64) (upd C n cl) n mv ck)) n = mo_ver (upd S n st) (mo_adM M N n 64) (upd C n cl) n mv ck from pk_us) ?_
      exact wr_ret hx hb hr hlocks (rfl) (rfl) hP hK hD hS dX1_add_103
    · have c_1 : ¬ (64 ≤ k) := fun h => c_1 ((nI_leI (show 64 < 2 ^ 31 by omega) (show k < 2 ^ 31 by omega)).mpr h)
      refine lv_aload_n hx hb dX1_add_10 rfl (lv_at hl 0 rfl) ?_
      refine va_get (D := (dC, dI)) (ci := 1) (v := .ref b) (C := RX1) (T := TX1) (N := 7) hx hb hts hinX1 hown hK hP 0 rfl rfl 3 (by decide) hf14 (fun _ h9 => h9) rfl dX1_add_11 ?_
      refine lv_bipush (v := nI 64) hx hb dX1_add_14 (by decide) ?_
      refine lv_aload_n hx hb dX1_add_16 rfl (lv_at hl 0 rfl) ?_
      refine va_get (D := (dC, dI)) (ci := 1) (v := .int (nI n)) (C := RX1) (T := TX1) (N := 7) hx hb hts hinX1 hown hK hP 0 rfl rfl 2 (by decide) hf53 (fun _ h9 => h9) rfl dX1_add_17 ?_
      refine lv_imul hx hb dX1_add_20 ?_
      refine lv_is (pk_mul _ _) ?_
      refine lv_iload hx hb dX1_add_21 (lv_at hl 5 rfl) ?_
      refine lv_iadd hx hb dX1_add_23 ?_
      refine lv_is (nI_add _ _) ?_
      refine lv_aload_n hx hb dX1_add_24 rfl (lv_at hl 0 rfl) ?_
      refine va_get (D := (dC, dI)) (ci := 1) (v := .ref a) (C := RX1) (T := TX1) (N := 7) hx hb hts hinX1 hown hK hP 0 rfl rfl 1 (by decide) hf7 (fun _ h9 => h9) rfl dX1_add_25 ?_
      refine lv_iload hx hb dX1_add_28 (lv_at hl 5 rfl) ?_
      refine ix_iald hx hb hK hP 1 0 rfl rfl (show k < 64 by omega) (by decide) dX1_add_30 ?_
      refine ix_iast hx hb hK hP hD hS 2 0 rfl rfl (show (64 * n) + k < 40960 by omega) (by decide) dX1_add_31 (fun H locs hP hD hS => ?_)
      replace hP : va_P (dC, dI) vwCl [(y, .inr (1, [.int th, .ref a, .int (nI n), .ref b, .ref c9, .ref d, .ref v])), (a, .inl (cI, 64, .inl N)), (b, .inl (cI, 40960, .inl (upd (mo_adM M N n k) ((64 * n) + k) (N k)))), (c9, .inl (cI, 640, .inl S)), (d, .inl (cI, 640, .inl C)), (v, .inl (cI, 640, .inl V))] H := hP
      replace hD : va_D A [(y, .inr (1, [.int th, .ref a, .int (nI n), .ref b, .ref c9, .ref d, .ref v])), (a, .inl (cI, 64, .inl N)), (b, .inl (cI, 40960, .inl (upd (mo_adM M N n k) ((64 * n) + k) (N k)))), (c9, .inl (cI, 640, .inl S)), (d, .inl (cI, 640, .inl C)), (v, .inl (cI, 640, .inl V))] := hD
      refine lv_iinc (v := nI (k + 1)) (lv' := [(5, .int (nI (k + 1))), (0, .ref y), (1, .int st), (2, .int mv), (3, .int ck), (4, .int cl)]) hx hb dX1_add_32 hl (k := 5) rfl (nI_1 _) (by decide) rfl (fun ls hl => ?_)
      refine lv_goto (tgt := 3) hx hb dX1_add_35 (by decide) ?_
      rw [mo_adM_s] at hP hD
      replace hP : va_P (dC, dI) vwCl [(y, .inr (1, [.int th, .ref a, .int (nI n), .ref b, .ref c9, .ref d, .ref v])), (a, .inl (cI, 64, .inl N)), (b, .inl (cI, 40960, .inl (mo_adM M N n (k + 1)))), (c9, .inl (cI, 640, .inl S)), (d, .inl (cI, 640, .inl C)), (v, .inl (cI, 640, .inl V))] H := hP
      replace hD : va_D A [(y, .inr (1, [.int th, .ref a, .int (nI n), .ref b, .ref c9, .ref d, .ref v])), (a, .inl (cI, 64, .inl N)), (b, .inl (cI, 40960, .inl (mo_adM M N n (k + 1)))), (c9, .inl (cI, 640, .inl S)), (d, .inl (cI, 640, .inl C)), (v, .inl (cI, 640, .inl V))] := hD
      replace hl := lv_sub hl [1, 2, 3, 4, 5, 0] rfl
      apply ihk (k := k + 1) <;> first | exact hP | exact hD | exact hS | exact hl | omega
set_option maxHeartbeats 4000000 in
set_option maxRecDepth 100000 in
theorem k_X1_begin (l : Launch) (dC : Nat → ClassId) (dI : Nat → Nat → Nat) (cI : ClassId) (y a b c9 d v : Nat) (th : Int32) (N : Nat → Int32) (n : Nat) (M S C V : Nat → Int32) (st mv ck cl : Int32) (sz : Nat) (hn : n ≤ 640) : Met l yX1_begin wsX1_begin ({ frames := 4, cells := 0, slots := 0, locals := 98 } : Room) (wr (dC, dI) (wM cI y a b c9 d v th N n M S C V) (tM cI) sz [.ref y, .int st, .int mv, .int ck, .int cl]) (wrQ (dC, dI) (wM cI y a b c9 d v (nI (mo_okB st mv cl)) N (sel (mo_okB st mv cl) (0 + 1) n) (sel (mo_okB st mv cl) (mo_adM M N 0 64) M) (sel (mo_okB st mv cl) (upd S 0 st) S) (sel (mo_okB st mv cl) (upd C 0 cl) C) (sel (mo_okB st mv cl) (upd V 0 (mo_ver (upd S 0 st) (mo_adM M N 0 64) (upd C 0 cl) 0 mv ck)) V)) (tM cI) (va_A (wM cI y a b c9 d v th N n M S C V) sz) (fun r => r = sel (mo_okB st mv cl) (mo_ver (upd S 0 st) (mo_adM M N 0 64) (upd C 0 cl) 0 mv ck) (nI 0))) 0 0 (va_A (wM cI y a b c9 d v th N n M S C V) sz) := by
  refine Met.ofW (cc := cX1_begin) (maxL := 5) (ret := (some .int)) (by decide) rfl ?_
  intro p e s m args below meth c s₁ B hml hv
  obtain ⟨rfl, hsz, hP, hK, hD0⟩ := hv
  have hx := B.exec
  have hb := B.bytes
  have hr := B.returns
  have hts := atoms_spec (ws := wsX1_begin) B.pre
  have hown : s.vm.findClass RX1 = some m.cls := findClass_of_methodNamed B.named
  have hlocks := B.notSynchronized
  have hinX1 : ∀ w ∈ u_ws RX1 TX1 7, w ∈ wsX1_begin := by decide +kernel
  have hf26 := hts (.fieldLink RX1 26 "GameArbiterModel" "thrown" "I") (by decide +kernel)
  have hf53 := hts (.fieldLink RX1 53 "GameArbiterModel" "many" "I") (by decide +kernel)
  have hl := lv_entry ([.ref y, .int st, .int mv, .int ck, .int cl]) (n := 5) (Nat.le_of_ble_eq_true rfl)
  rw [lg_entry_eq]
  generalize (lg_sl ([.ref y, .int st, .int mv, .int ck, .int cl]) ++ List.replicate (5 - (lg_sl ([.ref y, .int st, .int mv, .int ck, .int cl])).length) Slot.unset).toArray = ls at hl ⊢
  replace hl : lv_has ls 5 [(0, .ref y), (1, .int st), (2, .int mv), (3, .int ck), (4, .int cl)] := hl
  subst hsz
  have hD := hD0.self (sz := s.heap.size)
  generalize hAe : va_A (wM cI y a b c9 d v th N n M S C V) s.heap.size = A at hD ⊢
  have hA : ∀ q : Nat, s.heap.size ≤ q → A q := fun q h => by rw [← hAe]; exact Or.inr h
  have hS : va_S A s.heap s.heap [] := va_S.rf
  replace hP : va_P (dC, dI) vwCl [(y, .inr (1, [.int th, .ref a, .int (nI n), .ref b, .ref c9, .ref d, .ref v])), (a, .inl (cI, 64, .inl N)), (b, .inl (cI, 40960, .inl M)), (c9, .inl (cI, 640, .inl S)), (d, .inl (cI, 640, .inl C)), (v, .inl (cI, 640, .inl V))] s.heap := hP
  replace hD : va_D A [(y, .inr (1, [.int th, .ref a, .int (nI n), .ref b, .ref c9, .ref d, .ref v])), (a, .inl (cI, 64, .inl N)), (b, .inl (cI, 40960, .inl M)), (c9, .inl (cI, 640, .inl S)), (d, .inl (cI, 640, .inl C)), (v, .inl (cI, 640, .inl V))] := hD
  refine lv_aload_n hx hb dX1_begin_0 rfl (lv_at hl 0 rfl) ?_
  refine lv_iload_n hx hb dX1_begin_1 rfl (lv_at hl 1 rfl) ?_
  refine pu_callS (rest := [.ref y]) ⟨hx, hb, hml, hown, hts⟩ (k_X1_isState l st) (va_cwS 1 hts gX1_begin_X1_isState rfl rfl rfl (by decide +kernel) ⟨Nat.le_of_ble_eq_true rfl, Nat.le_of_ble_eq_true rfl⟩) rfl hl.1 rfl (Nat.le_of_ble_eq_true rfl) dX1_begin_2 ⟨Nat.zero_le _, Nat.zero_le _⟩ ?_
  refine lv_if_eq (tgt := 36) hx hb dX1_begin_5 (by decide) (fun c_1 => ?_) (fun c_1 => ?_)
  · refine lv_iconst (v := nI 1) hx hb dX1_begin_36 (by decide) ?_
    refine va_put (D := (dC, dI)) (ci := 1) (v := .int (nI 1)) (ty := .int) (C := RX1) (T := TX1) (N := 7) hx hb hts hinX1 tyX1 tyX1_ok nmX1 hown hK hP hD hS 0 rfl rfl 0 (by decide) hf26 (fun _ h9 => h9) rfl (by decide +kernel) rfl rfl (Nat.le_of_ble_eq_true rfl) dX1_begin_37 (fun H locs hP hD hS => ?_)
    replace hP : va_P (dC, dI) vwCl [(y, .inr (1, [.int (nI 1), .ref a, .int (nI n), .ref b, .ref c9, .ref d, .ref v])), (a, .inl (cI, 64, .inl N)), (b, .inl (cI, 40960, .inl M)), (c9, .inl (cI, 640, .inl S)), (d, .inl (cI, 640, .inl C)), (v, .inl (cI, 640, .inl V))] H := hP
    replace hD : va_D A [(y, .inr (1, [.int (nI 1), .ref a, .int (nI n), .ref b, .ref c9, .ref d, .ref v])), (a, .inl (cI, 64, .inl N)), (b, .inl (cI, 40960, .inl M)), (c9, .inl (cI, 640, .inl S)), (d, .inl (cI, 640, .inl C)), (v, .inl (cI, 640, .inl V))] := hD
    have hok : mo_okB st mv cl = 1 := by rw [mo_okB, if_pos c_1]
    refine lv_aload_n hx hb dX1_begin_40 rfl (lv_at hl 0 rfl) ?_
    refine va_get (D := (dC, dI)) (ci := 1) (v := .int (nI 1)) (C := RX1) (T := TX1) (N := 7) hx hb hts hinX1 hown hK hP 0 rfl rfl 0 (by decide) hf26 (fun _ h9 => h9) rfl dX1_begin_41 ?_
    refine lv_if_le (tgt := 49) hx hb dX1_begin_44 (by decide) (fun c_2 => ?_) (fun c_2 => ?_)
    · exact absurd c_2 (by decide)
    · refine lv_iconst (v := nI 0) hx hb dX1_begin_47 (by decide) ?_
      exact wr_ret hx hb hr hlocks (by rw [hok]; rfl) (by rw [hok]; rfl) hP hK hD hS dX1_begin_48
  · refine lv_iload_n hx hb dX1_begin_8 rfl (lv_at hl 2 rfl) ?_
    refine lv_if_lt (tgt := 36) hx hb dX1_begin_9 (by decide) (fun c_3 => ?_) (fun c_3 => ?_)
    · refine lv_iconst (v := nI 1) hx hb dX1_begin_36 (by decide) ?_
      refine va_put (D := (dC, dI)) (ci := 1) (v := .int (nI 1)) (ty := .int) (C := RX1) (T := TX1) (N := 7) hx hb hts hinX1 tyX1 tyX1_ok nmX1 hown hK hP hD hS 0 rfl rfl 0 (by decide) hf26 (fun _ h9 => h9) rfl (by decide +kernel) rfl rfl (Nat.le_of_ble_eq_true rfl) dX1_begin_37 (fun H locs hP hD hS => ?_)
      replace hP : va_P (dC, dI) vwCl [(y, .inr (1, [.int (nI 1), .ref a, .int (nI n), .ref b, .ref c9, .ref d, .ref v])), (a, .inl (cI, 64, .inl N)), (b, .inl (cI, 40960, .inl M)), (c9, .inl (cI, 640, .inl S)), (d, .inl (cI, 640, .inl C)), (v, .inl (cI, 640, .inl V))] H := hP
      replace hD : va_D A [(y, .inr (1, [.int (nI 1), .ref a, .int (nI n), .ref b, .ref c9, .ref d, .ref v])), (a, .inl (cI, 64, .inl N)), (b, .inl (cI, 40960, .inl M)), (c9, .inl (cI, 640, .inl S)), (d, .inl (cI, 640, .inl C)), (v, .inl (cI, 640, .inl V))] := hD
      have hok : mo_okB st mv cl = 1 := by rw [mo_okB, if_neg c_1, if_pos c_3]
      refine lv_aload_n hx hb dX1_begin_40 rfl (lv_at hl 0 rfl) ?_
      refine va_get (D := (dC, dI)) (ci := 1) (v := .int (nI 1)) (C := RX1) (T := TX1) (N := 7) hx hb hts hinX1 hown hK hP 0 rfl rfl 0 (by decide) hf26 (fun _ h9 => h9) rfl dX1_begin_41 ?_
      refine lv_if_le (tgt := 49) hx hb dX1_begin_44 (by decide) (fun c_4 => ?_) (fun c_4 => ?_)
      · exact absurd c_4 (by decide)
      · refine lv_iconst (v := nI 0) hx hb dX1_begin_47 (by decide) ?_
        exact wr_ret hx hb hr hlocks (by rw [hok]; rfl) (by rw [hok]; rfl) hP hK hD hS dX1_begin_48
    · refine lv_iload_n hx hb dX1_begin_12 rfl (lv_at hl 2 rfl) ?_
      refine lv_sipush (v := nI 300) hx hb dX1_begin_13 (by decide) ?_
      refine lv_icmp_gt (tgt := 36) hx hb dX1_begin_16 (by decide) (fun c_5 => ?_) (fun c_5 => ?_)
      · refine lv_iconst (v := nI 1) hx hb dX1_begin_36 (by decide) ?_
        refine va_put (D := (dC, dI)) (ci := 1) (v := .int (nI 1)) (ty := .int) (C := RX1) (T := TX1) (N := 7) hx hb hts hinX1 tyX1 tyX1_ok nmX1 hown hK hP hD hS 0 rfl rfl 0 (by decide) hf26 (fun _ h9 => h9) rfl (by decide +kernel) rfl rfl (Nat.le_of_ble_eq_true rfl) dX1_begin_37 (fun H locs hP hD hS => ?_)
        replace hP : va_P (dC, dI) vwCl [(y, .inr (1, [.int (nI 1), .ref a, .int (nI n), .ref b, .ref c9, .ref d, .ref v])), (a, .inl (cI, 64, .inl N)), (b, .inl (cI, 40960, .inl M)), (c9, .inl (cI, 640, .inl S)), (d, .inl (cI, 640, .inl C)), (v, .inl (cI, 640, .inl V))] H := hP
        replace hD : va_D A [(y, .inr (1, [.int (nI 1), .ref a, .int (nI n), .ref b, .ref c9, .ref d, .ref v])), (a, .inl (cI, 64, .inl N)), (b, .inl (cI, 40960, .inl M)), (c9, .inl (cI, 640, .inl S)), (d, .inl (cI, 640, .inl C)), (v, .inl (cI, 640, .inl V))] := hD
        have hok : mo_okB st mv cl = 1 := by rw [mo_okB, if_neg c_1, if_neg c_3, if_pos c_5]
        refine lv_aload_n hx hb dX1_begin_40 rfl (lv_at hl 0 rfl) ?_
        refine va_get (D := (dC, dI)) (ci := 1) (v := .int (nI 1)) (C := RX1) (T := TX1) (N := 7) hx hb hts hinX1 hown hK hP 0 rfl rfl 0 (by decide) hf26 (fun _ h9 => h9) rfl dX1_begin_41 ?_
        refine lv_if_le (tgt := 49) hx hb dX1_begin_44 (by decide) (fun c_6 => ?_) (fun c_6 => ?_)
        · exact absurd c_6 (by decide)
        · refine lv_iconst (v := nI 0) hx hb dX1_begin_47 (by decide) ?_
          exact wr_ret hx hb hr hlocks (by rw [hok]; rfl) (by rw [hok]; rfl) hP hK hD hS dX1_begin_48
      · refine lv_iload hx hb dX1_begin_19 (lv_at hl 4 rfl) ?_
        refine lv_if_lt (tgt := 36) hx hb dX1_begin_21 (by decide) (fun c_7 => ?_) (fun c_7 => ?_)
        · refine lv_iconst (v := nI 1) hx hb dX1_begin_36 (by decide) ?_
          refine va_put (D := (dC, dI)) (ci := 1) (v := .int (nI 1)) (ty := .int) (C := RX1) (T := TX1) (N := 7) hx hb hts hinX1 tyX1 tyX1_ok nmX1 hown hK hP hD hS 0 rfl rfl 0 (by decide) hf26 (fun _ h9 => h9) rfl (by decide +kernel) rfl rfl (Nat.le_of_ble_eq_true rfl) dX1_begin_37 (fun H locs hP hD hS => ?_)
          replace hP : va_P (dC, dI) vwCl [(y, .inr (1, [.int (nI 1), .ref a, .int (nI n), .ref b, .ref c9, .ref d, .ref v])), (a, .inl (cI, 64, .inl N)), (b, .inl (cI, 40960, .inl M)), (c9, .inl (cI, 640, .inl S)), (d, .inl (cI, 640, .inl C)), (v, .inl (cI, 640, .inl V))] H := hP
          replace hD : va_D A [(y, .inr (1, [.int (nI 1), .ref a, .int (nI n), .ref b, .ref c9, .ref d, .ref v])), (a, .inl (cI, 64, .inl N)), (b, .inl (cI, 40960, .inl M)), (c9, .inl (cI, 640, .inl S)), (d, .inl (cI, 640, .inl C)), (v, .inl (cI, 640, .inl V))] := hD
          have hok : mo_okB st mv cl = 1 := by rw [mo_okB, if_neg c_1, if_neg c_3, if_neg c_5, if_pos c_7]
          refine lv_aload_n hx hb dX1_begin_40 rfl (lv_at hl 0 rfl) ?_
          refine va_get (D := (dC, dI)) (ci := 1) (v := .int (nI 1)) (C := RX1) (T := TX1) (N := 7) hx hb hts hinX1 hown hK hP 0 rfl rfl 0 (by decide) hf26 (fun _ h9 => h9) rfl dX1_begin_41 ?_
          refine lv_if_le (tgt := 49) hx hb dX1_begin_44 (by decide) (fun c_8 => ?_) (fun c_8 => ?_)
          · exact absurd c_8 (by decide)
          · refine lv_iconst (v := nI 0) hx hb dX1_begin_47 (by decide) ?_
            exact wr_ret hx hb hr hlocks (by rw [hok]; rfl) (by rw [hok]; rfl) hP hK hD hS dX1_begin_48
        · refine lv_iload hx hb dX1_begin_24 (lv_at hl 4 rfl) ?_
          refine lv_sipush (v := nI 1000) hx hb dX1_begin_26 (by decide) ?_
          refine lv_icmp_gt (tgt := 36) hx hb dX1_begin_29 (by decide) (fun c_9 => ?_) (fun c_9 => ?_)
          · refine lv_iconst (v := nI 1) hx hb dX1_begin_36 (by decide) ?_
            refine va_put (D := (dC, dI)) (ci := 1) (v := .int (nI 1)) (ty := .int) (C := RX1) (T := TX1) (N := 7) hx hb hts hinX1 tyX1 tyX1_ok nmX1 hown hK hP hD hS 0 rfl rfl 0 (by decide) hf26 (fun _ h9 => h9) rfl (by decide +kernel) rfl rfl (Nat.le_of_ble_eq_true rfl) dX1_begin_37 (fun H locs hP hD hS => ?_)
            replace hP : va_P (dC, dI) vwCl [(y, .inr (1, [.int (nI 1), .ref a, .int (nI n), .ref b, .ref c9, .ref d, .ref v])), (a, .inl (cI, 64, .inl N)), (b, .inl (cI, 40960, .inl M)), (c9, .inl (cI, 640, .inl S)), (d, .inl (cI, 640, .inl C)), (v, .inl (cI, 640, .inl V))] H := hP
            replace hD : va_D A [(y, .inr (1, [.int (nI 1), .ref a, .int (nI n), .ref b, .ref c9, .ref d, .ref v])), (a, .inl (cI, 64, .inl N)), (b, .inl (cI, 40960, .inl M)), (c9, .inl (cI, 640, .inl S)), (d, .inl (cI, 640, .inl C)), (v, .inl (cI, 640, .inl V))] := hD
            have hok : mo_okB st mv cl = 1 := by rw [mo_okB, if_neg c_1, if_neg c_3, if_neg c_5, if_neg c_7, if_pos c_9]
            refine lv_aload_n hx hb dX1_begin_40 rfl (lv_at hl 0 rfl) ?_
            refine va_get (D := (dC, dI)) (ci := 1) (v := .int (nI 1)) (C := RX1) (T := TX1) (N := 7) hx hb hts hinX1 hown hK hP 0 rfl rfl 0 (by decide) hf26 (fun _ h9 => h9) rfl dX1_begin_41 ?_
            refine lv_if_le (tgt := 49) hx hb dX1_begin_44 (by decide) (fun c_10 => ?_) (fun c_10 => ?_)
            · exact absurd c_10 (by decide)
            · refine lv_iconst (v := nI 0) hx hb dX1_begin_47 (by decide) ?_
              exact wr_ret hx hb hr hlocks (by rw [hok]; rfl) (by rw [hok]; rfl) hP hK hD hS dX1_begin_48
          · refine lv_iconst (v := nI 0) hx hb dX1_begin_32 (by decide) ?_
            refine lv_goto (tgt := 37) hx hb dX1_begin_33 (by decide) ?_
            refine va_put (D := (dC, dI)) (ci := 1) (v := .int (nI 0)) (ty := .int) (C := RX1) (T := TX1) (N := 7) hx hb hts hinX1 tyX1 tyX1_ok nmX1 hown hK hP hD hS 0 rfl rfl 0 (by decide) hf26 (fun _ h9 => h9) rfl (by decide +kernel) rfl rfl (Nat.le_of_ble_eq_true rfl) dX1_begin_37 (fun H locs hP hD hS => ?_)
            replace hP : va_P (dC, dI) vwCl [(y, .inr (1, [.int (nI 0), .ref a, .int (nI n), .ref b, .ref c9, .ref d, .ref v])), (a, .inl (cI, 64, .inl N)), (b, .inl (cI, 40960, .inl M)), (c9, .inl (cI, 640, .inl S)), (d, .inl (cI, 640, .inl C)), (v, .inl (cI, 640, .inl V))] H := hP
            replace hD : va_D A [(y, .inr (1, [.int (nI 0), .ref a, .int (nI n), .ref b, .ref c9, .ref d, .ref v])), (a, .inl (cI, 64, .inl N)), (b, .inl (cI, 40960, .inl M)), (c9, .inl (cI, 640, .inl S)), (d, .inl (cI, 640, .inl C)), (v, .inl (cI, 640, .inl V))] := hD
            have hok : mo_okB st mv cl = 0 := by rw [mo_okB, if_neg c_1, if_neg c_3, if_neg c_5, if_neg c_7, if_neg c_9]
            refine lv_aload_n hx hb dX1_begin_40 rfl (lv_at hl 0 rfl) ?_
            refine va_get (D := (dC, dI)) (ci := 1) (v := .int (nI 0)) (C := RX1) (T := TX1) (N := 7) hx hb hts hinX1 hown hK hP 0 rfl rfl 0 (by decide) hf26 (fun _ h9 => h9) rfl dX1_begin_41 ?_
            refine lv_if_le (tgt := 49) hx hb dX1_begin_44 (by decide) (fun c_11 => ?_) (fun c_11 => ?_)
            · refine lv_aload_n hx hb dX1_begin_49 rfl (lv_at hl 0 rfl) ?_
              refine lv_iconst (v := nI 0) hx hb dX1_begin_50 (by decide) ?_
              refine va_put (D := (dC, dI)) (ci := 1) (v := .int (nI 0)) (ty := .int) (C := RX1) (T := TX1) (N := 7) hx hb hts hinX1 tyX1 tyX1_ok nmX1 hown hK hP hD hS 0 rfl rfl 2 (by decide) hf53 (fun _ h9 => h9) rfl (by decide +kernel) rfl rfl (Nat.le_of_ble_eq_true rfl) dX1_begin_51 (fun H locs hP hD hS => ?_)
              replace hP : va_P (dC, dI) vwCl [(y, .inr (1, [.int (nI 0), .ref a, .int (nI 0), .ref b, .ref c9, .ref d, .ref v])), (a, .inl (cI, 64, .inl N)), (b, .inl (cI, 40960, .inl M)), (c9, .inl (cI, 640, .inl S)), (d, .inl (cI, 640, .inl C)), (v, .inl (cI, 640, .inl V))] H := hP
              replace hD : va_D A [(y, .inr (1, [.int (nI 0), .ref a, .int (nI 0), .ref b, .ref c9, .ref d, .ref v])), (a, .inl (cI, 64, .inl N)), (b, .inl (cI, 40960, .inl M)), (c9, .inl (cI, 640, .inl S)), (d, .inl (cI, 640, .inl C)), (v, .inl (cI, 640, .inl V))] := hD
              refine lv_aload_n hx hb dX1_begin_54 rfl (lv_at hl 0 rfl) ?_
              refine lv_iload_n hx hb dX1_begin_55 rfl (lv_at hl 1 rfl) ?_
              refine lv_iload_n hx hb dX1_begin_56 rfl (lv_at hl 2 rfl) ?_
              refine lv_iload_n hx hb dX1_begin_57 rfl (lv_at hl 3 rfl) ?_
              refine lv_iload hx hb dX1_begin_58 (lv_at hl 4 rfl) ?_
              refine wr_callV (rest := []) (ws' := [(y, .inr (1, [.int (nI 0), .ref a, .int (nI (0 + 1)), .ref b, .ref c9, .ref d, .ref v])), (a, .inl (cI, 64, .inl N)), (b, .inl (cI, 40960, .inl (mo_adM M N 0 64))), (c9, .inl (cI, 640, .inl (upd S 0 st))), (d, .inl (cI, 640, .inl (upd C 0 cl))), (v, .inl (cI, 640, .inl (upd V 0 (mo_ver (upd S 0 st) (mo_adM M N 0 64) (upd C 0 cl) 0 mv ck))))]) (wrst := []) ⟨hx, hb, hml, hown, hts⟩ (k_X1_add l dC dI cI y a b c9 d v (nI 0) N 0 M S C V st mv ck cl H.size (by omega)) (cwV 4 hts gX1_begin_X1_add rfl rfl rfl (by decide +kernel) ⟨Nat.le_of_ble_eq_true rfl, Nat.le_of_ble_eq_true rfl⟩) hK hP hD hS hA [0, 1, 2, 3, 4, 5] [] rfl rfl (by decide) (by decide) (by decide) rfl (q0 := 0) rfl rfl hl.1 rfl (Nat.le_of_ble_eq_true rfl) dX1_begin_60 ⟨Nat.zero_le _, Nat.zero_le _⟩ (fun r_12 H locs hr_12 hP hD hS => ?_)
              have hP : va_P (dC, dI) vwCl [(y, .inr (1, [.int (nI 0), .ref a, .int (nI (0 + 1)), .ref b, .ref c9, .ref d, .ref v])), (a, .inl (cI, 64, .inl N)), (b, .inl (cI, 40960, .inl (mo_adM M N 0 64))), (c9, .inl (cI, 640, .inl (upd S 0 st))), (d, .inl (cI, 640, .inl (upd C 0 cl))), (v, .inl (cI, 640, .inl (upd V 0 (mo_ver (upd S 0 st) (mo_adM M N 0 64) (upd C 0 cl) 0 mv ck))))] H := hP
              have hD : va_D A [(y, .inr (1, [.int (nI 0), .ref a, .int (nI (0 + 1)), .ref b, .ref c9, .ref d, .ref v])), (a, .inl (cI, 64, .inl N)), (b, .inl (cI, 40960, .inl (mo_adM M N 0 64))), (c9, .inl (cI, 640, .inl (upd S 0 st))), (d, .inl (cI, 640, .inl (upd C 0 cl))), (v, .inl (cI, 640, .inl (upd V 0 (mo_ver (upd S 0 st) (mo_adM M N 0 64) (upd C 0 cl) 0 mv ck))))] := hD
              refine lv_is hr_12 ?_
              exact wr_ret hx hb hr hlocks (by rw [hok]; rfl) (by rw [hok]; rfl) hP hK hD hS dX1_begin_63
            · exact absurd (by decide) c_11
set_option maxHeartbeats 4000000 in
set_option maxRecDepth 100000 in
theorem k_X1_next (l : Launch) (dC : Nat → ClassId) (dI : Nat → Nat → Nat) (cI : ClassId) (y a b c9 d v : Nat) (th : Int32) (N : Nat → Int32) (n : Nat) (M S C V : Nat → Int32) (st mv ck ir : Int32) (sz : Nat) (hn : n ≤ 640) : Met l yX1_next wsX1_next ({ frames := 4, cells := 0, slots := 0, locals := 98 } : Room) (wr (dC, dI) (wM cI y a b c9 d v th N n M S C V) (tM cI) sz [.ref y, .int st, .int mv, .int ck, .int ir]) (wrQ (dC, dI) (wM cI y a b c9 d v (nI (mo_okN V n st mv)) N (sel (mo_okN V n st mv) (n + 1) n) (sel (mo_okN V n st mv) (mo_adM M N n 64) M) (sel (mo_okN V n st mv) (upd S n st) S) (sel (mo_okN V n st mv) (upd C n (mo_clN C n ir)) C) (sel (mo_okN V n st mv) (upd V n (mo_ver (upd S n st) (mo_adM M N n 64) (upd C n (mo_clN C n ir)) n mv ck)) V)) (tM cI) (va_A (wM cI y a b c9 d v th N n M S C V) sz) (fun r => r = sel (mo_okN V n st mv) (mo_ver (upd S n st) (mo_adM M N n 64) (upd C n (mo_clN C n ir)) n mv ck) (nI 0))) 0 0 (va_A (wM cI y a b c9 d v th N n M S C V) sz) := by
  refine Met.ofW (cc := cX1_next) (maxL := 6) (ret := (some .int)) (by decide) rfl ?_
  intro p e s m args below meth c s₁ B hml hv
  obtain ⟨rfl, hsz, hP, hK, hD0⟩ := hv
  have hx := B.exec
  have hb := B.bytes
  have hr := B.returns
  have hts := atoms_spec (ws := wsX1_next) B.pre
  have hown : s.vm.findClass RX1 = some m.cls := findClass_of_methodNamed B.named
  have hlocks := B.notSynchronized
  have hinX1 : ∀ w ∈ u_ws RX1 TX1 7, w ∈ wsX1_next := by decide +kernel
  have hf20 := hts (.fieldLink RX1 20 "GameArbiterModel" "clocks" "[I") (by decide +kernel)
  have hf23 := hts (.fieldLink RX1 23 "GameArbiterModel" "verdicts" "[I") (by decide +kernel)
  have hf26 := hts (.fieldLink RX1 26 "GameArbiterModel" "thrown" "I") (by decide +kernel)
  have hf53 := hts (.fieldLink RX1 53 "GameArbiterModel" "many" "I") (by decide +kernel)
  have hl := lv_entry ([.ref y, .int st, .int mv, .int ck, .int ir]) (n := 6) (Nat.le_of_ble_eq_true rfl)
  rw [lg_entry_eq]
  generalize (lg_sl ([.ref y, .int st, .int mv, .int ck, .int ir]) ++ List.replicate (6 - (lg_sl ([.ref y, .int st, .int mv, .int ck, .int ir])).length) Slot.unset).toArray = ls at hl ⊢
  replace hl : lv_has ls 6 [(0, .ref y), (1, .int st), (2, .int mv), (3, .int ck), (4, .int ir)] := hl
  subst hsz
  have hD := hD0.self (sz := s.heap.size)
  generalize hAe : va_A (wM cI y a b c9 d v th N n M S C V) s.heap.size = A at hD ⊢
  have hA : ∀ q : Nat, s.heap.size ≤ q → A q := fun q h => by rw [← hAe]; exact Or.inr h
  have hS : va_S A s.heap s.heap [] := va_S.rf
  replace hP : va_P (dC, dI) vwCl [(y, .inr (1, [.int th, .ref a, .int (nI n), .ref b, .ref c9, .ref d, .ref v])), (a, .inl (cI, 64, .inl N)), (b, .inl (cI, 40960, .inl M)), (c9, .inl (cI, 640, .inl S)), (d, .inl (cI, 640, .inl C)), (v, .inl (cI, 640, .inl V))] s.heap := hP
  replace hD : va_D A [(y, .inr (1, [.int th, .ref a, .int (nI n), .ref b, .ref c9, .ref d, .ref v])), (a, .inl (cI, 64, .inl N)), (b, .inl (cI, 40960, .inl M)), (c9, .inl (cI, 640, .inl S)), (d, .inl (cI, 640, .inl C)), (v, .inl (cI, 640, .inl V))] := hD
  refine lv_aload_n hx hb dX1_next_0 rfl (lv_at hl 0 rfl) ?_
  refine va_get (D := (dC, dI)) (ci := 1) (v := .int (nI n)) (C := RX1) (T := TX1) (N := 7) hx hb hts hinX1 hown hK hP 0 rfl rfl 2 (by decide) hf53 (fun _ h9 => h9) rfl dX1_next_1 ?_
  refine lv_if_eq (tgt := 17) hx hb dX1_next_4 (by decide) (fun c_1 => ?_) (fun c_1 => ?_)
  · have c_1 : n = 0 := (nz_eq (show n < 2 ^ 31 by omega)).mp c_1
    refine lv_iconst (v := nI 1) hx hb dX1_next_17 (by decide) ?_
    refine lv_goto (tgt := 22) hx hb dX1_next_18 (by decide) ?_
    refine lv_istore (lv' := [(5, .int (nI 1)), (0, .ref y), (1, .int st), (2, .int mv), (3, .int ck), (4, .int ir)]) hx hb dX1_next_22 hl (by decide) rfl (fun ls hl => ?_)
    refine lv_iload hx hb dX1_next_24 (lv_at hl 0 rfl) ?_
    refine lv_if_ne (tgt := 59) hx hb dX1_next_26 (by decide) (fun c_2 => ?_) (fun c_2 => ?_)
    · refine lv_iconst (v := nI 1) hx hb dX1_next_59 (by decide) ?_
      refine lv_goto (tgt := 64) hx hb dX1_next_60 (by decide) ?_
      refine lv_istore (lv' := [(5, .int (nI 1)), (0, .ref y), (1, .int st), (2, .int mv), (3, .int ck), (4, .int ir)]) hx hb dX1_next_64 hl (by decide) rfl (fun ls hl => ?_)
      refine lv_aload_n hx hb dX1_next_66 rfl (lv_at hl 1 rfl) ?_
      refine lv_iload hx hb dX1_next_67 (lv_at hl 0 rfl) ?_
      refine lv_if_eq (tgt := 76) hx hb dX1_next_69 (by decide) (fun c_3 => ?_) (fun c_3 => ?_)
      · exact absurd c_3 (by decide)
      · refine lv_iconst (v := nI 1) hx hb dX1_next_72 (by decide) ?_
        refine lv_goto (tgt := 99) hx hb dX1_next_73 (by decide) ?_
        refine va_put (D := (dC, dI)) (ci := 1) (v := .int (nI 1)) (ty := .int) (C := RX1) (T := TX1) (N := 7) hx hb hts hinX1 tyX1 tyX1_ok nmX1 hown hK hP hD hS 0 rfl rfl 0 (by decide) hf26 (fun _ h9 => h9) rfl (by decide +kernel) rfl rfl (Nat.le_of_ble_eq_true rfl) dX1_next_99 (fun H locs hP hD hS => ?_)
        replace hP : va_P (dC, dI) vwCl [(y, .inr (1, [.int (nI 1), .ref a, .int (nI n), .ref b, .ref c9, .ref d, .ref v])), (a, .inl (cI, 64, .inl N)), (b, .inl (cI, 40960, .inl M)), (c9, .inl (cI, 640, .inl S)), (d, .inl (cI, 640, .inl C)), (v, .inl (cI, 640, .inl V))] H := hP
        replace hD : va_D A [(y, .inr (1, [.int (nI 1), .ref a, .int (nI n), .ref b, .ref c9, .ref d, .ref v])), (a, .inl (cI, 64, .inl N)), (b, .inl (cI, 40960, .inl M)), (c9, .inl (cI, 640, .inl S)), (d, .inl (cI, 640, .inl C)), (v, .inl (cI, 640, .inl V))] := hD
        have hok : mo_okN V n st mv = 1 := by rw [mo_okN, if_pos c_1]
        refine lv_aload_n hx hb dX1_next_102 rfl (lv_at hl 1 rfl) ?_
        refine va_get (D := (dC, dI)) (ci := 1) (v := .int (nI 1)) (C := RX1) (T := TX1) (N := 7) hx hb hts hinX1 hown hK hP 0 rfl rfl 0 (by decide) hf26 (fun _ h9 => h9) rfl dX1_next_103 ?_
        refine lv_if_le (tgt := 111) hx hb dX1_next_106 (by decide) (fun c_4 => ?_) (fun c_4 => ?_)
        · exact absurd c_4 (by decide)
        · refine lv_iconst (v := nI 0) hx hb dX1_next_109 (by decide) ?_
          exact wr_ret hx hb hr hlocks (by rw [hok]; rfl) (by rw [hok]; rfl) hP hK hD hS dX1_next_110
    · exact absurd c_2 (by decide)
  · have c_1 : ¬ (n = 0) := fun h => c_1 ((nz_eq (show n < 2 ^ 31 by omega)).mpr h)
    refine lv_aload_n hx hb dX1_next_7 rfl (lv_at hl 0 rfl) ?_
    refine va_get (D := (dC, dI)) (ci := 1) (v := .int (nI n)) (C := RX1) (T := TX1) (N := 7) hx hb hts hinX1 hown hK hP 0 rfl rfl 2 (by decide) hf53 (fun _ h9 => h9) rfl dX1_next_8 ?_
    refine lv_sipush (v := nI 640) hx hb dX1_next_11 (by decide) ?_
    refine lv_icmp_ne (tgt := 21) hx hb dX1_next_14 (by decide) (fun c_5 => ?_) (fun c_5 => ?_)
    · have c_5 : ¬ (n = 640) := fun h => c_5 ((nI_eq (show n < 2 ^ 31 by omega) (show 640 < 2 ^ 31 by omega)).mpr h)
      refine lv_iconst (v := nI 0) hx hb dX1_next_21 (by decide) ?_
      refine lv_istore (lv' := [(5, .int (nI 0)), (0, .ref y), (1, .int st), (2, .int mv), (3, .int ck), (4, .int ir)]) hx hb dX1_next_22 hl (by decide) rfl (fun ls hl => ?_)
      refine lv_iload hx hb dX1_next_24 (lv_at hl 0 rfl) ?_
      refine lv_if_ne (tgt := 59) hx hb dX1_next_26 (by decide) (fun c_6 => ?_) (fun c_6 => ?_)
      · exact absurd (by decide) c_6
      · refine lv_aload_n hx hb dX1_next_29 rfl (lv_at hl 1 rfl) ?_
        refine va_get (D := (dC, dI)) (ci := 1) (v := .ref v) (C := RX1) (T := TX1) (N := 7) hx hb hts hinX1 hown hK hP 0 rfl rfl 6 (by decide) hf23 (fun _ h9 => h9) rfl dX1_next_30 ?_
        refine lv_aload_n hx hb dX1_next_33 rfl (lv_at hl 1 rfl) ?_
        refine va_get (D := (dC, dI)) (ci := 1) (v := .int (nI n)) (C := RX1) (T := TX1) (N := 7) hx hb hts hinX1 hown hK hP 0 rfl rfl 2 (by decide) hf53 (fun _ h9 => h9) rfl dX1_next_34 ?_
        refine lv_iconst (v := nI 1) hx hb dX1_next_37 (by decide) ?_
        refine lv_isub hx hb dX1_next_38 ?_
        refine lv_is (pk_sub (by omega)) ?_
        refine ix_iald hx hb hK hP 5 0 rfl rfl (show n - 1 < 640 by omega) (by decide) dX1_next_39 ?_
        refine lv_if_le (tgt := 63) hx hb dX1_next_40 (by decide) (fun c_7 => ?_) (fun c_7 => ?_)
        · refine lv_iconst (v := nI 0) hx hb dX1_next_63 (by decide) ?_
          refine lv_istore (lv' := [(5, .int (nI 0)), (0, .ref y), (1, .int st), (2, .int mv), (3, .int ck), (4, .int ir)]) hx hb dX1_next_64 hl (by decide) rfl (fun ls hl => ?_)
          refine lv_aload_n hx hb dX1_next_66 rfl (lv_at hl 1 rfl) ?_
          refine lv_iload hx hb dX1_next_67 (lv_at hl 0 rfl) ?_
          refine lv_if_eq (tgt := 76) hx hb dX1_next_69 (by decide) (fun c_8 => ?_) (fun c_8 => ?_)
          · refine lv_iload_n hx hb dX1_next_76 rfl (lv_at hl 2 rfl) ?_
            refine pu_callS (rest := [.ref y]) ⟨hx, hb, hml, hown, hts⟩ (k_X1_isState l st) (va_cwS 1 hts gX1_next_X1_isState rfl rfl rfl (by decide +kernel) ⟨Nat.le_of_ble_eq_true rfl, Nat.le_of_ble_eq_true rfl⟩) rfl hl.1 rfl (Nat.le_of_ble_eq_true rfl) dX1_next_77 ⟨Nat.zero_le _, Nat.zero_le _⟩ ?_
            refine lv_if_eq (tgt := 98) hx hb dX1_next_80 (by decide) (fun c_9 => ?_) (fun c_9 => ?_)
            · refine lv_iconst (v := nI 2) hx hb dX1_next_98 (by decide) ?_
              refine va_put (D := (dC, dI)) (ci := 1) (v := .int (nI 2)) (ty := .int) (C := RX1) (T := TX1) (N := 7) hx hb hts hinX1 tyX1 tyX1_ok nmX1 hown hK hP hD hS 0 rfl rfl 0 (by decide) hf26 (fun _ h9 => h9) rfl (by decide +kernel) rfl rfl (Nat.le_of_ble_eq_true rfl) dX1_next_99 (fun H locs hP hD hS => ?_)
              replace hP : va_P (dC, dI) vwCl [(y, .inr (1, [.int (nI 2), .ref a, .int (nI n), .ref b, .ref c9, .ref d, .ref v])), (a, .inl (cI, 64, .inl N)), (b, .inl (cI, 40960, .inl M)), (c9, .inl (cI, 640, .inl S)), (d, .inl (cI, 640, .inl C)), (v, .inl (cI, 640, .inl V))] H := hP
              replace hD : va_D A [(y, .inr (1, [.int (nI 2), .ref a, .int (nI n), .ref b, .ref c9, .ref d, .ref v])), (a, .inl (cI, 64, .inl N)), (b, .inl (cI, 40960, .inl M)), (c9, .inl (cI, 640, .inl S)), (d, .inl (cI, 640, .inl C)), (v, .inl (cI, 640, .inl V))] := hD
              have hok : mo_okN V n st mv = 2 := by rw [mo_okN, if_neg c_1, if_neg c_5, if_pos c_7]; rw [mo_okA, if_pos c_9]
              refine lv_aload_n hx hb dX1_next_102 rfl (lv_at hl 1 rfl) ?_
              refine va_get (D := (dC, dI)) (ci := 1) (v := .int (nI 2)) (C := RX1) (T := TX1) (N := 7) hx hb hts hinX1 hown hK hP 0 rfl rfl 0 (by decide) hf26 (fun _ h9 => h9) rfl dX1_next_103 ?_
              refine lv_if_le (tgt := 111) hx hb dX1_next_106 (by decide) (fun c_10 => ?_) (fun c_10 => ?_)
              · exact absurd c_10 (by decide)
              · refine lv_iconst (v := nI 0) hx hb dX1_next_109 (by decide) ?_
                exact wr_ret hx hb hr hlocks (by rw [hok]; rfl) (by rw [hok]; rfl) hP hK hD hS dX1_next_110
            · refine lv_iload_n hx hb dX1_next_83 rfl (lv_at hl 3 rfl) ?_
              refine lv_if_lt (tgt := 98) hx hb dX1_next_84 (by decide) (fun c_11 => ?_) (fun c_11 => ?_)
              · refine lv_iconst (v := nI 2) hx hb dX1_next_98 (by decide) ?_
                refine va_put (D := (dC, dI)) (ci := 1) (v := .int (nI 2)) (ty := .int) (C := RX1) (T := TX1) (N := 7) hx hb hts hinX1 tyX1 tyX1_ok nmX1 hown hK hP hD hS 0 rfl rfl 0 (by decide) hf26 (fun _ h9 => h9) rfl (by decide +kernel) rfl rfl (Nat.le_of_ble_eq_true rfl) dX1_next_99 (fun H locs hP hD hS => ?_)
                replace hP : va_P (dC, dI) vwCl [(y, .inr (1, [.int (nI 2), .ref a, .int (nI n), .ref b, .ref c9, .ref d, .ref v])), (a, .inl (cI, 64, .inl N)), (b, .inl (cI, 40960, .inl M)), (c9, .inl (cI, 640, .inl S)), (d, .inl (cI, 640, .inl C)), (v, .inl (cI, 640, .inl V))] H := hP
                replace hD : va_D A [(y, .inr (1, [.int (nI 2), .ref a, .int (nI n), .ref b, .ref c9, .ref d, .ref v])), (a, .inl (cI, 64, .inl N)), (b, .inl (cI, 40960, .inl M)), (c9, .inl (cI, 640, .inl S)), (d, .inl (cI, 640, .inl C)), (v, .inl (cI, 640, .inl V))] := hD
                have hok : mo_okN V n st mv = 2 := by rw [mo_okN, if_neg c_1, if_neg c_5, if_pos c_7]; rw [mo_okA, if_neg c_9, if_pos c_11]
                refine lv_aload_n hx hb dX1_next_102 rfl (lv_at hl 1 rfl) ?_
                refine va_get (D := (dC, dI)) (ci := 1) (v := .int (nI 2)) (C := RX1) (T := TX1) (N := 7) hx hb hts hinX1 hown hK hP 0 rfl rfl 0 (by decide) hf26 (fun _ h9 => h9) rfl dX1_next_103 ?_
                refine lv_if_le (tgt := 111) hx hb dX1_next_106 (by decide) (fun c_12 => ?_) (fun c_12 => ?_)
                · exact absurd c_12 (by decide)
                · refine lv_iconst (v := nI 0) hx hb dX1_next_109 (by decide) ?_
                  exact wr_ret hx hb hr hlocks (by rw [hok]; rfl) (by rw [hok]; rfl) hP hK hD hS dX1_next_110
              · refine lv_iload_n hx hb dX1_next_87 rfl (lv_at hl 3 rfl) ?_
                refine lv_sipush (v := nI 300) hx hb dX1_next_88 (by decide) ?_
                refine lv_icmp_gt (tgt := 98) hx hb dX1_next_91 (by decide) (fun c_13 => ?_) (fun c_13 => ?_)
                · refine lv_iconst (v := nI 2) hx hb dX1_next_98 (by decide) ?_
                  refine va_put (D := (dC, dI)) (ci := 1) (v := .int (nI 2)) (ty := .int) (C := RX1) (T := TX1) (N := 7) hx hb hts hinX1 tyX1 tyX1_ok nmX1 hown hK hP hD hS 0 rfl rfl 0 (by decide) hf26 (fun _ h9 => h9) rfl (by decide +kernel) rfl rfl (Nat.le_of_ble_eq_true rfl) dX1_next_99 (fun H locs hP hD hS => ?_)
                  replace hP : va_P (dC, dI) vwCl [(y, .inr (1, [.int (nI 2), .ref a, .int (nI n), .ref b, .ref c9, .ref d, .ref v])), (a, .inl (cI, 64, .inl N)), (b, .inl (cI, 40960, .inl M)), (c9, .inl (cI, 640, .inl S)), (d, .inl (cI, 640, .inl C)), (v, .inl (cI, 640, .inl V))] H := hP
                  replace hD : va_D A [(y, .inr (1, [.int (nI 2), .ref a, .int (nI n), .ref b, .ref c9, .ref d, .ref v])), (a, .inl (cI, 64, .inl N)), (b, .inl (cI, 40960, .inl M)), (c9, .inl (cI, 640, .inl S)), (d, .inl (cI, 640, .inl C)), (v, .inl (cI, 640, .inl V))] := hD
                  have hok : mo_okN V n st mv = 2 := by rw [mo_okN, if_neg c_1, if_neg c_5, if_pos c_7]; rw [mo_okA, if_neg c_9, if_neg c_11, if_pos c_13]
                  refine lv_aload_n hx hb dX1_next_102 rfl (lv_at hl 1 rfl) ?_
                  refine va_get (D := (dC, dI)) (ci := 1) (v := .int (nI 2)) (C := RX1) (T := TX1) (N := 7) hx hb hts hinX1 hown hK hP 0 rfl rfl 0 (by decide) hf26 (fun _ h9 => h9) rfl dX1_next_103 ?_
                  refine lv_if_le (tgt := 111) hx hb dX1_next_106 (by decide) (fun c_14 => ?_) (fun c_14 => ?_)
                  · exact absurd c_14 (by decide)
                  · refine lv_iconst (v := nI 0) hx hb dX1_next_109 (by decide) ?_
                    exact wr_ret hx hb hr hlocks (by rw [hok]; rfl) (by rw [hok]; rfl) hP hK hD hS dX1_next_110
                · refine lv_iconst (v := nI 0) hx hb dX1_next_94 (by decide) ?_
                  refine lv_goto (tgt := 99) hx hb dX1_next_95 (by decide) ?_
                  refine va_put (D := (dC, dI)) (ci := 1) (v := .int (nI 0)) (ty := .int) (C := RX1) (T := TX1) (N := 7) hx hb hts hinX1 tyX1 tyX1_ok nmX1 hown hK hP hD hS 0 rfl rfl 0 (by decide) hf26 (fun _ h9 => h9) rfl (by decide +kernel) rfl rfl (Nat.le_of_ble_eq_true rfl) dX1_next_99 (fun H locs hP hD hS => ?_)
                  replace hP : va_P (dC, dI) vwCl [(y, .inr (1, [.int (nI 0), .ref a, .int (nI n), .ref b, .ref c9, .ref d, .ref v])), (a, .inl (cI, 64, .inl N)), (b, .inl (cI, 40960, .inl M)), (c9, .inl (cI, 640, .inl S)), (d, .inl (cI, 640, .inl C)), (v, .inl (cI, 640, .inl V))] H := hP
                  replace hD : va_D A [(y, .inr (1, [.int (nI 0), .ref a, .int (nI n), .ref b, .ref c9, .ref d, .ref v])), (a, .inl (cI, 64, .inl N)), (b, .inl (cI, 40960, .inl M)), (c9, .inl (cI, 640, .inl S)), (d, .inl (cI, 640, .inl C)), (v, .inl (cI, 640, .inl V))] := hD
                  have hok : mo_okN V n st mv = 0 := by rw [mo_okN, if_neg c_1, if_neg c_5, if_pos c_7]; rw [mo_okA, if_neg c_9, if_neg c_11, if_neg c_13]
                  refine lv_aload_n hx hb dX1_next_102 rfl (lv_at hl 1 rfl) ?_
                  refine va_get (D := (dC, dI)) (ci := 1) (v := .int (nI 0)) (C := RX1) (T := TX1) (N := 7) hx hb hts hinX1 hown hK hP 0 rfl rfl 0 (by decide) hf26 (fun _ h9 => h9) rfl dX1_next_103 ?_
                  refine lv_if_le (tgt := 111) hx hb dX1_next_106 (by decide) (fun c_15 => ?_) (fun c_15 => ?_)
                  · refine lv_aload_n hx hb dX1_next_111 rfl (lv_at hl 1 rfl) ?_
                    refine lv_iload_n hx hb dX1_next_112 rfl (lv_at hl 2 rfl) ?_
                    refine lv_iload_n hx hb dX1_next_113 rfl (lv_at hl 3 rfl) ?_
                    refine lv_iload_n hx hb dX1_next_114 rfl (lv_at hl 4 rfl) ?_
                    refine lv_iload hx hb dX1_next_115 (lv_at hl 5 rfl) ?_
                    refine lv_if_eq (tgt := 124) hx hb dX1_next_117 (by decide) (fun c_16 => ?_) (fun c_16 => ?_)
                    · refine lv_aload_n hx hb dX1_next_124 rfl (lv_at hl 1 rfl) ?_
                      refine va_get (D := (dC, dI)) (ci := 1) (v := .ref d) (C := RX1) (T := TX1) (N := 7) hx hb hts hinX1 hown hK hP 0 rfl rfl 5 (by decide) hf20 (fun _ h9 => h9) rfl dX1_next_125 ?_
                      refine lv_aload_n hx hb dX1_next_128 rfl (lv_at hl 1 rfl) ?_
                      refine va_get (D := (dC, dI)) (ci := 1) (v := .int (nI n)) (C := RX1) (T := TX1) (N := 7) hx hb hts hinX1 hown hK hP 0 rfl rfl 2 (by decide) hf53 (fun _ h9 => h9) rfl dX1_next_129 ?_
                      refine lv_iconst (v := nI 1) hx hb dX1_next_132 (by decide) ?_
                      refine lv_isub hx hb dX1_next_133 ?_
                      refine lv_is (pk_sub (by omega)) ?_
                      refine ix_iald hx hb hK hP 4 0 rfl rfl (show n - 1 < 640 by omega) (by decide) dX1_next_134 ?_
                      refine lv_iconst (v := nI 1) hx hb dX1_next_135 (by decide) ?_
                      refine lv_iadd hx hb dX1_next_136 ?_
                      refine lv_is (show (C (n - 1)) + (nI 1) = mo_clN C n ir from by rw [mo_clN, if_pos c_16]) ?_
                      refine wr_callV (rest := []) (ws' := [(y, .inr (1, [.int (nI 0), .ref a, .int (nI (n + 1)), .ref b, .ref c9, .ref d, .ref v])), (a, .inl (cI, 64, .inl N)), (b, .inl (cI, 40960, .inl (mo_adM M N n 64))), (c9, .inl (cI, 640, .inl (upd S n st))), (d, .inl (cI, 640, .inl (upd C n (mo_clN C n ir)))), (v, .inl (cI, 640, .inl (upd V n (mo_ver (upd S n st) (mo_adM M N n 64) (upd C n (mo_clN C n ir)) n mv ck))))]) (wrst := []) ⟨hx, hb, hml, hown, hts⟩ (k_X1_add l dC dI cI y a b c9 d v (nI 0) N n M S C V st mv ck (mo_clN C n ir) H.size (by omega)) (cwV 4 hts gX1_next_X1_add rfl rfl rfl (by decide +kernel) ⟨Nat.le_of_ble_eq_true rfl, Nat.le_of_ble_eq_true rfl⟩) hK hP hD hS hA [0, 1, 2, 3, 4, 5] [] rfl rfl (by decide) (by decide) (by decide) rfl (q0 := 0) rfl rfl hl.1 rfl (Nat.le_of_ble_eq_true rfl) dX1_next_137 ⟨Nat.zero_le _, Nat.zero_le _⟩ (fun r_17 H locs hr_17 hP hD hS => ?_)
                      have hP : va_P (dC, dI) vwCl [(y, .inr (1, [.int (nI 0), .ref a, .int (nI (n + 1)), .ref b, .ref c9, .ref d, .ref v])), (a, .inl (cI, 64, .inl N)), (b, .inl (cI, 40960, .inl (mo_adM M N n 64))), (c9, .inl (cI, 640, .inl (upd S n st))), (d, .inl (cI, 640, .inl (upd C n (mo_clN C n ir)))), (v, .inl (cI, 640, .inl (upd V n (mo_ver (upd S n st) (mo_adM M N n 64) (upd C n (mo_clN C n ir)) n mv ck))))] H := hP
                      have hD : va_D A [(y, .inr (1, [.int (nI 0), .ref a, .int (nI (n + 1)), .ref b, .ref c9, .ref d, .ref v])), (a, .inl (cI, 64, .inl N)), (b, .inl (cI, 40960, .inl (mo_adM M N n 64))), (c9, .inl (cI, 640, .inl (upd S n st))), (d, .inl (cI, 640, .inl (upd C n (mo_clN C n ir)))), (v, .inl (cI, 640, .inl (upd V n (mo_ver (upd S n st) (mo_adM M N n 64) (upd C n (mo_clN C n ir)) n mv ck))))] := hD
                      refine lv_is hr_17 ?_
                      exact wr_ret hx hb hr hlocks (by rw [hok]; rfl) (by rw [hok]; rfl) hP hK hD hS dX1_next_140
                    · refine lv_iconst (v := nI 0) hx hb dX1_next_120 (by decide) ?_
                      refine lv_goto (tgt := 137) hx hb dX1_next_121 (by decide) ?_
                      refine lv_is (show nI 0 = mo_clN C n ir from by rw [mo_clN, if_neg c_16]) ?_
                      refine wr_callV (rest := []) (ws' := [(y, .inr (1, [.int (nI 0), .ref a, .int (nI (n + 1)), .ref b, .ref c9, .ref d, .ref v])), (a, .inl (cI, 64, .inl N)), (b, .inl (cI, 40960, .inl (mo_adM M N n 64))), (c9, .inl (cI, 640, .inl (upd S n st))), (d, .inl (cI, 640, .inl (upd C n (mo_clN C n ir)))), (v, .inl (cI, 640, .inl (upd V n (mo_ver (upd S n st) (mo_adM M N n 64) (upd C n (mo_clN C n ir)) n mv ck))))]) (wrst := []) ⟨hx, hb, hml, hown, hts⟩ (k_X1_add l dC dI cI y a b c9 d v (nI 0) N n M S C V st mv ck (mo_clN C n ir) H.size (by omega)) (cwV 4 hts gX1_next_X1_add rfl rfl rfl (by decide +kernel) ⟨Nat.le_of_ble_eq_true rfl, Nat.le_of_ble_eq_true rfl⟩) hK hP hD hS hA [0, 1, 2, 3, 4, 5] [] rfl rfl (by decide) (by decide) (by decide) rfl (q0 := 0) rfl rfl hl.1 rfl (Nat.le_of_ble_eq_true rfl) dX1_next_137 ⟨Nat.zero_le _, Nat.zero_le _⟩ (fun r_18 H locs hr_18 hP hD hS => ?_)
                      have hP : va_P (dC, dI) vwCl [(y, .inr (1, [.int (nI 0), .ref a, .int (nI (n + 1)), .ref b, .ref c9, .ref d, .ref v])), (a, .inl (cI, 64, .inl N)), (b, .inl (cI, 40960, .inl (mo_adM M N n 64))), (c9, .inl (cI, 640, .inl (upd S n st))), (d, .inl (cI, 640, .inl (upd C n (mo_clN C n ir)))), (v, .inl (cI, 640, .inl (upd V n (mo_ver (upd S n st) (mo_adM M N n 64) (upd C n (mo_clN C n ir)) n mv ck))))] H := hP
                      have hD : va_D A [(y, .inr (1, [.int (nI 0), .ref a, .int (nI (n + 1)), .ref b, .ref c9, .ref d, .ref v])), (a, .inl (cI, 64, .inl N)), (b, .inl (cI, 40960, .inl (mo_adM M N n 64))), (c9, .inl (cI, 640, .inl (upd S n st))), (d, .inl (cI, 640, .inl (upd C n (mo_clN C n ir)))), (v, .inl (cI, 640, .inl (upd V n (mo_ver (upd S n st) (mo_adM M N n 64) (upd C n (mo_clN C n ir)) n mv ck))))] := hD
                      refine lv_is hr_18 ?_
                      exact wr_ret hx hb hr hlocks (by rw [hok]; rfl) (by rw [hok]; rfl) hP hK hD hS dX1_next_140
                  · exact absurd (by decide) c_15
          · exact absurd (by decide) c_8
        · refine lv_aload_n hx hb dX1_next_43 rfl (lv_at hl 1 rfl) ?_
          refine va_get (D := (dC, dI)) (ci := 1) (v := .ref v) (C := RX1) (T := TX1) (N := 7) hx hb hts hinX1 hown hK hP 0 rfl rfl 6 (by decide) hf23 (fun _ h9 => h9) rfl dX1_next_44 ?_
          refine lv_aload_n hx hb dX1_next_47 rfl (lv_at hl 1 rfl) ?_
          refine va_get (D := (dC, dI)) (ci := 1) (v := .int (nI n)) (C := RX1) (T := TX1) (N := 7) hx hb hts hinX1 hown hK hP 0 rfl rfl 2 (by decide) hf53 (fun _ h9 => h9) rfl dX1_next_48 ?_
          refine lv_iconst (v := nI 1) hx hb dX1_next_51 (by decide) ?_
          refine lv_isub hx hb dX1_next_52 ?_
          refine lv_is (pk_sub (by omega)) ?_
          refine ix_iald hx hb hK hP 5 0 rfl rfl (show n - 1 < 640 by omega) (by decide) dX1_next_53 ?_
          refine lv_bipush (v := nI 6) hx hb dX1_next_54 (by decide) ?_
          refine lv_icmp_ge (tgt := 63) hx hb dX1_next_56 (by decide) (fun c_19 => ?_) (fun c_19 => ?_)
          · refine lv_iconst (v := nI 0) hx hb dX1_next_63 (by decide) ?_
            refine lv_istore (lv' := [(5, .int (nI 0)), (0, .ref y), (1, .int st), (2, .int mv), (3, .int ck), (4, .int ir)]) hx hb dX1_next_64 hl (by decide) rfl (fun ls hl => ?_)
            refine lv_aload_n hx hb dX1_next_66 rfl (lv_at hl 1 rfl) ?_
            refine lv_iload hx hb dX1_next_67 (lv_at hl 0 rfl) ?_
            refine lv_if_eq (tgt := 76) hx hb dX1_next_69 (by decide) (fun c_20 => ?_) (fun c_20 => ?_)
            · refine lv_iload_n hx hb dX1_next_76 rfl (lv_at hl 2 rfl) ?_
              refine pu_callS (rest := [.ref y]) ⟨hx, hb, hml, hown, hts⟩ (k_X1_isState l st) (va_cwS 1 hts gX1_next_X1_isState rfl rfl rfl (by decide +kernel) ⟨Nat.le_of_ble_eq_true rfl, Nat.le_of_ble_eq_true rfl⟩) rfl hl.1 rfl (Nat.le_of_ble_eq_true rfl) dX1_next_77 ⟨Nat.zero_le _, Nat.zero_le _⟩ ?_
              refine lv_if_eq (tgt := 98) hx hb dX1_next_80 (by decide) (fun c_21 => ?_) (fun c_21 => ?_)
              · refine lv_iconst (v := nI 2) hx hb dX1_next_98 (by decide) ?_
                refine va_put (D := (dC, dI)) (ci := 1) (v := .int (nI 2)) (ty := .int) (C := RX1) (T := TX1) (N := 7) hx hb hts hinX1 tyX1 tyX1_ok nmX1 hown hK hP hD hS 0 rfl rfl 0 (by decide) hf26 (fun _ h9 => h9) rfl (by decide +kernel) rfl rfl (Nat.le_of_ble_eq_true rfl) dX1_next_99 (fun H locs hP hD hS => ?_)
                replace hP : va_P (dC, dI) vwCl [(y, .inr (1, [.int (nI 2), .ref a, .int (nI n), .ref b, .ref c9, .ref d, .ref v])), (a, .inl (cI, 64, .inl N)), (b, .inl (cI, 40960, .inl M)), (c9, .inl (cI, 640, .inl S)), (d, .inl (cI, 640, .inl C)), (v, .inl (cI, 640, .inl V))] H := hP
                replace hD : va_D A [(y, .inr (1, [.int (nI 2), .ref a, .int (nI n), .ref b, .ref c9, .ref d, .ref v])), (a, .inl (cI, 64, .inl N)), (b, .inl (cI, 40960, .inl M)), (c9, .inl (cI, 640, .inl S)), (d, .inl (cI, 640, .inl C)), (v, .inl (cI, 640, .inl V))] := hD
                have hok : mo_okN V n st mv = 2 := by rw [mo_okN, if_neg c_1, if_neg c_5, if_neg c_7, if_pos c_19]; rw [mo_okA, if_pos c_21]
                refine lv_aload_n hx hb dX1_next_102 rfl (lv_at hl 1 rfl) ?_
                refine va_get (D := (dC, dI)) (ci := 1) (v := .int (nI 2)) (C := RX1) (T := TX1) (N := 7) hx hb hts hinX1 hown hK hP 0 rfl rfl 0 (by decide) hf26 (fun _ h9 => h9) rfl dX1_next_103 ?_
                refine lv_if_le (tgt := 111) hx hb dX1_next_106 (by decide) (fun c_22 => ?_) (fun c_22 => ?_)
                · exact absurd c_22 (by decide)
                · refine lv_iconst (v := nI 0) hx hb dX1_next_109 (by decide) ?_
                  exact wr_ret hx hb hr hlocks (by rw [hok]; rfl) (by rw [hok]; rfl) hP hK hD hS dX1_next_110
              · refine lv_iload_n hx hb dX1_next_83 rfl (lv_at hl 3 rfl) ?_
                refine lv_if_lt (tgt := 98) hx hb dX1_next_84 (by decide) (fun c_23 => ?_) (fun c_23 => ?_)
                · refine lv_iconst (v := nI 2) hx hb dX1_next_98 (by decide) ?_
                  refine va_put (D := (dC, dI)) (ci := 1) (v := .int (nI 2)) (ty := .int) (C := RX1) (T := TX1) (N := 7) hx hb hts hinX1 tyX1 tyX1_ok nmX1 hown hK hP hD hS 0 rfl rfl 0 (by decide) hf26 (fun _ h9 => h9) rfl (by decide +kernel) rfl rfl (Nat.le_of_ble_eq_true rfl) dX1_next_99 (fun H locs hP hD hS => ?_)
                  replace hP : va_P (dC, dI) vwCl [(y, .inr (1, [.int (nI 2), .ref a, .int (nI n), .ref b, .ref c9, .ref d, .ref v])), (a, .inl (cI, 64, .inl N)), (b, .inl (cI, 40960, .inl M)), (c9, .inl (cI, 640, .inl S)), (d, .inl (cI, 640, .inl C)), (v, .inl (cI, 640, .inl V))] H := hP
                  replace hD : va_D A [(y, .inr (1, [.int (nI 2), .ref a, .int (nI n), .ref b, .ref c9, .ref d, .ref v])), (a, .inl (cI, 64, .inl N)), (b, .inl (cI, 40960, .inl M)), (c9, .inl (cI, 640, .inl S)), (d, .inl (cI, 640, .inl C)), (v, .inl (cI, 640, .inl V))] := hD
                  have hok : mo_okN V n st mv = 2 := by rw [mo_okN, if_neg c_1, if_neg c_5, if_neg c_7, if_pos c_19]; rw [mo_okA, if_neg c_21, if_pos c_23]
                  refine lv_aload_n hx hb dX1_next_102 rfl (lv_at hl 1 rfl) ?_
                  refine va_get (D := (dC, dI)) (ci := 1) (v := .int (nI 2)) (C := RX1) (T := TX1) (N := 7) hx hb hts hinX1 hown hK hP 0 rfl rfl 0 (by decide) hf26 (fun _ h9 => h9) rfl dX1_next_103 ?_
                  refine lv_if_le (tgt := 111) hx hb dX1_next_106 (by decide) (fun c_24 => ?_) (fun c_24 => ?_)
                  · exact absurd c_24 (by decide)
                  · refine lv_iconst (v := nI 0) hx hb dX1_next_109 (by decide) ?_
                    exact wr_ret hx hb hr hlocks (by rw [hok]; rfl) (by rw [hok]; rfl) hP hK hD hS dX1_next_110
                · refine lv_iload_n hx hb dX1_next_87 rfl (lv_at hl 3 rfl) ?_
                  refine lv_sipush (v := nI 300) hx hb dX1_next_88 (by decide) ?_
                  refine lv_icmp_gt (tgt := 98) hx hb dX1_next_91 (by decide) (fun c_25 => ?_) (fun c_25 => ?_)
                  · refine lv_iconst (v := nI 2) hx hb dX1_next_98 (by decide) ?_
                    refine va_put (D := (dC, dI)) (ci := 1) (v := .int (nI 2)) (ty := .int) (C := RX1) (T := TX1) (N := 7) hx hb hts hinX1 tyX1 tyX1_ok nmX1 hown hK hP hD hS 0 rfl rfl 0 (by decide) hf26 (fun _ h9 => h9) rfl (by decide +kernel) rfl rfl (Nat.le_of_ble_eq_true rfl) dX1_next_99 (fun H locs hP hD hS => ?_)
                    replace hP : va_P (dC, dI) vwCl [(y, .inr (1, [.int (nI 2), .ref a, .int (nI n), .ref b, .ref c9, .ref d, .ref v])), (a, .inl (cI, 64, .inl N)), (b, .inl (cI, 40960, .inl M)), (c9, .inl (cI, 640, .inl S)), (d, .inl (cI, 640, .inl C)), (v, .inl (cI, 640, .inl V))] H := hP
                    replace hD : va_D A [(y, .inr (1, [.int (nI 2), .ref a, .int (nI n), .ref b, .ref c9, .ref d, .ref v])), (a, .inl (cI, 64, .inl N)), (b, .inl (cI, 40960, .inl M)), (c9, .inl (cI, 640, .inl S)), (d, .inl (cI, 640, .inl C)), (v, .inl (cI, 640, .inl V))] := hD
                    have hok : mo_okN V n st mv = 2 := by rw [mo_okN, if_neg c_1, if_neg c_5, if_neg c_7, if_pos c_19]; rw [mo_okA, if_neg c_21, if_neg c_23, if_pos c_25]
                    refine lv_aload_n hx hb dX1_next_102 rfl (lv_at hl 1 rfl) ?_
                    refine va_get (D := (dC, dI)) (ci := 1) (v := .int (nI 2)) (C := RX1) (T := TX1) (N := 7) hx hb hts hinX1 hown hK hP 0 rfl rfl 0 (by decide) hf26 (fun _ h9 => h9) rfl dX1_next_103 ?_
                    refine lv_if_le (tgt := 111) hx hb dX1_next_106 (by decide) (fun c_26 => ?_) (fun c_26 => ?_)
                    · exact absurd c_26 (by decide)
                    · refine lv_iconst (v := nI 0) hx hb dX1_next_109 (by decide) ?_
                      exact wr_ret hx hb hr hlocks (by rw [hok]; rfl) (by rw [hok]; rfl) hP hK hD hS dX1_next_110
                  · refine lv_iconst (v := nI 0) hx hb dX1_next_94 (by decide) ?_
                    refine lv_goto (tgt := 99) hx hb dX1_next_95 (by decide) ?_
                    refine va_put (D := (dC, dI)) (ci := 1) (v := .int (nI 0)) (ty := .int) (C := RX1) (T := TX1) (N := 7) hx hb hts hinX1 tyX1 tyX1_ok nmX1 hown hK hP hD hS 0 rfl rfl 0 (by decide) hf26 (fun _ h9 => h9) rfl (by decide +kernel) rfl rfl (Nat.le_of_ble_eq_true rfl) dX1_next_99 (fun H locs hP hD hS => ?_)
                    replace hP : va_P (dC, dI) vwCl [(y, .inr (1, [.int (nI 0), .ref a, .int (nI n), .ref b, .ref c9, .ref d, .ref v])), (a, .inl (cI, 64, .inl N)), (b, .inl (cI, 40960, .inl M)), (c9, .inl (cI, 640, .inl S)), (d, .inl (cI, 640, .inl C)), (v, .inl (cI, 640, .inl V))] H := hP
                    replace hD : va_D A [(y, .inr (1, [.int (nI 0), .ref a, .int (nI n), .ref b, .ref c9, .ref d, .ref v])), (a, .inl (cI, 64, .inl N)), (b, .inl (cI, 40960, .inl M)), (c9, .inl (cI, 640, .inl S)), (d, .inl (cI, 640, .inl C)), (v, .inl (cI, 640, .inl V))] := hD
                    have hok : mo_okN V n st mv = 0 := by rw [mo_okN, if_neg c_1, if_neg c_5, if_neg c_7, if_pos c_19]; rw [mo_okA, if_neg c_21, if_neg c_23, if_neg c_25]
                    refine lv_aload_n hx hb dX1_next_102 rfl (lv_at hl 1 rfl) ?_
                    refine va_get (D := (dC, dI)) (ci := 1) (v := .int (nI 0)) (C := RX1) (T := TX1) (N := 7) hx hb hts hinX1 hown hK hP 0 rfl rfl 0 (by decide) hf26 (fun _ h9 => h9) rfl dX1_next_103 ?_
                    refine lv_if_le (tgt := 111) hx hb dX1_next_106 (by decide) (fun c_27 => ?_) (fun c_27 => ?_)
                    · refine lv_aload_n hx hb dX1_next_111 rfl (lv_at hl 1 rfl) ?_
                      refine lv_iload_n hx hb dX1_next_112 rfl (lv_at hl 2 rfl) ?_
                      refine lv_iload_n hx hb dX1_next_113 rfl (lv_at hl 3 rfl) ?_
                      refine lv_iload_n hx hb dX1_next_114 rfl (lv_at hl 4 rfl) ?_
                      refine lv_iload hx hb dX1_next_115 (lv_at hl 5 rfl) ?_
                      refine lv_if_eq (tgt := 124) hx hb dX1_next_117 (by decide) (fun c_28 => ?_) (fun c_28 => ?_)
                      · refine lv_aload_n hx hb dX1_next_124 rfl (lv_at hl 1 rfl) ?_
                        refine va_get (D := (dC, dI)) (ci := 1) (v := .ref d) (C := RX1) (T := TX1) (N := 7) hx hb hts hinX1 hown hK hP 0 rfl rfl 5 (by decide) hf20 (fun _ h9 => h9) rfl dX1_next_125 ?_
                        refine lv_aload_n hx hb dX1_next_128 rfl (lv_at hl 1 rfl) ?_
                        refine va_get (D := (dC, dI)) (ci := 1) (v := .int (nI n)) (C := RX1) (T := TX1) (N := 7) hx hb hts hinX1 hown hK hP 0 rfl rfl 2 (by decide) hf53 (fun _ h9 => h9) rfl dX1_next_129 ?_
                        refine lv_iconst (v := nI 1) hx hb dX1_next_132 (by decide) ?_
                        refine lv_isub hx hb dX1_next_133 ?_
                        refine lv_is (pk_sub (by omega)) ?_
                        refine ix_iald hx hb hK hP 4 0 rfl rfl (show n - 1 < 640 by omega) (by decide) dX1_next_134 ?_
                        refine lv_iconst (v := nI 1) hx hb dX1_next_135 (by decide) ?_
                        refine lv_iadd hx hb dX1_next_136 ?_
                        refine lv_is (show (C (n - 1)) + (nI 1) = mo_clN C n ir from by rw [mo_clN, if_pos c_28]) ?_
                        refine wr_callV (rest := []) (ws' := [(y, .inr (1, [.int (nI 0), .ref a, .int (nI (n + 1)), .ref b, .ref c9, .ref d, .ref v])), (a, .inl (cI, 64, .inl N)), (b, .inl (cI, 40960, .inl (mo_adM M N n 64))), (c9, .inl (cI, 640, .inl (upd S n st))), (d, .inl (cI, 640, .inl (upd C n (mo_clN C n ir)))), (v, .inl (cI, 640, .inl (upd V n (mo_ver (upd S n st) (mo_adM M N n 64) (upd C n (mo_clN C n ir)) n mv ck))))]) (wrst := []) ⟨hx, hb, hml, hown, hts⟩ (k_X1_add l dC dI cI y a b c9 d v (nI 0) N n M S C V st mv ck (mo_clN C n ir) H.size (by omega)) (cwV 4 hts gX1_next_X1_add rfl rfl rfl (by decide +kernel) ⟨Nat.le_of_ble_eq_true rfl, Nat.le_of_ble_eq_true rfl⟩) hK hP hD hS hA [0, 1, 2, 3, 4, 5] [] rfl rfl (by decide) (by decide) (by decide) rfl (q0 := 0) rfl rfl hl.1 rfl (Nat.le_of_ble_eq_true rfl) dX1_next_137 ⟨Nat.zero_le _, Nat.zero_le _⟩ (fun r_29 H locs hr_29 hP hD hS => ?_)
                        have hP : va_P (dC, dI) vwCl [(y, .inr (1, [.int (nI 0), .ref a, .int (nI (n + 1)), .ref b, .ref c9, .ref d, .ref v])), (a, .inl (cI, 64, .inl N)), (b, .inl (cI, 40960, .inl (mo_adM M N n 64))), (c9, .inl (cI, 640, .inl (upd S n st))), (d, .inl (cI, 640, .inl (upd C n (mo_clN C n ir)))), (v, .inl (cI, 640, .inl (upd V n (mo_ver (upd S n st) (mo_adM M N n 64) (upd C n (mo_clN C n ir)) n mv ck))))] H := hP
                        have hD : va_D A [(y, .inr (1, [.int (nI 0), .ref a, .int (nI (n + 1)), .ref b, .ref c9, .ref d, .ref v])), (a, .inl (cI, 64, .inl N)), (b, .inl (cI, 40960, .inl (mo_adM M N n 64))), (c9, .inl (cI, 640, .inl (upd S n st))), (d, .inl (cI, 640, .inl (upd C n (mo_clN C n ir)))), (v, .inl (cI, 640, .inl (upd V n (mo_ver (upd S n st) (mo_adM M N n 64) (upd C n (mo_clN C n ir)) n mv ck))))] := hD
                        refine lv_is hr_29 ?_
                        exact wr_ret hx hb hr hlocks (by rw [hok]; rfl) (by rw [hok]; rfl) hP hK hD hS dX1_next_140
                      · refine lv_iconst (v := nI 0) hx hb dX1_next_120 (by decide) ?_
                        refine lv_goto (tgt := 137) hx hb dX1_next_121 (by decide) ?_
                        refine lv_is (show nI 0 = mo_clN C n ir from by rw [mo_clN, if_neg c_28]) ?_
                        refine wr_callV (rest := []) (ws' := [(y, .inr (1, [.int (nI 0), .ref a, .int (nI (n + 1)), .ref b, .ref c9, .ref d, .ref v])), (a, .inl (cI, 64, .inl N)), (b, .inl (cI, 40960, .inl (mo_adM M N n 64))), (c9, .inl (cI, 640, .inl (upd S n st))), (d, .inl (cI, 640, .inl (upd C n (mo_clN C n ir)))), (v, .inl (cI, 640, .inl (upd V n (mo_ver (upd S n st) (mo_adM M N n 64) (upd C n (mo_clN C n ir)) n mv ck))))]) (wrst := []) ⟨hx, hb, hml, hown, hts⟩ (k_X1_add l dC dI cI y a b c9 d v (nI 0) N n M S C V st mv ck (mo_clN C n ir) H.size (by omega)) (cwV 4 hts gX1_next_X1_add rfl rfl rfl (by decide +kernel) ⟨Nat.le_of_ble_eq_true rfl, Nat.le_of_ble_eq_true rfl⟩) hK hP hD hS hA [0, 1, 2, 3, 4, 5] [] rfl rfl (by decide) (by decide) (by decide) rfl (q0 := 0) rfl rfl hl.1 rfl (Nat.le_of_ble_eq_true rfl) dX1_next_137 ⟨Nat.zero_le _, Nat.zero_le _⟩ (fun r_30 H locs hr_30 hP hD hS => ?_)
                        have hP : va_P (dC, dI) vwCl [(y, .inr (1, [.int (nI 0), .ref a, .int (nI (n + 1)), .ref b, .ref c9, .ref d, .ref v])), (a, .inl (cI, 64, .inl N)), (b, .inl (cI, 40960, .inl (mo_adM M N n 64))), (c9, .inl (cI, 640, .inl (upd S n st))), (d, .inl (cI, 640, .inl (upd C n (mo_clN C n ir)))), (v, .inl (cI, 640, .inl (upd V n (mo_ver (upd S n st) (mo_adM M N n 64) (upd C n (mo_clN C n ir)) n mv ck))))] H := hP
                        have hD : va_D A [(y, .inr (1, [.int (nI 0), .ref a, .int (nI (n + 1)), .ref b, .ref c9, .ref d, .ref v])), (a, .inl (cI, 64, .inl N)), (b, .inl (cI, 40960, .inl (mo_adM M N n 64))), (c9, .inl (cI, 640, .inl (upd S n st))), (d, .inl (cI, 640, .inl (upd C n (mo_clN C n ir)))), (v, .inl (cI, 640, .inl (upd V n (mo_ver (upd S n st) (mo_adM M N n 64) (upd C n (mo_clN C n ir)) n mv ck))))] := hD
                        refine lv_is hr_30 ?_
                        exact wr_ret hx hb hr hlocks (by rw [hok]; rfl) (by rw [hok]; rfl) hP hK hD hS dX1_next_140
                    · exact absurd (by decide) c_27
            · exact absurd (by decide) c_20
          · refine lv_iconst (v := nI 1) hx hb dX1_next_59 (by decide) ?_
            refine lv_goto (tgt := 64) hx hb dX1_next_60 (by decide) ?_
            refine lv_istore (lv' := [(5, .int (nI 1)), (0, .ref y), (1, .int st), (2, .int mv), (3, .int ck), (4, .int ir)]) hx hb dX1_next_64 hl (by decide) rfl (fun ls hl => ?_)
            refine lv_aload_n hx hb dX1_next_66 rfl (lv_at hl 1 rfl) ?_
            refine lv_iload hx hb dX1_next_67 (lv_at hl 0 rfl) ?_
            refine lv_if_eq (tgt := 76) hx hb dX1_next_69 (by decide) (fun c_31 => ?_) (fun c_31 => ?_)
            · exact absurd c_31 (by decide)
            · refine lv_iconst (v := nI 1) hx hb dX1_next_72 (by decide) ?_
              refine lv_goto (tgt := 99) hx hb dX1_next_73 (by decide) ?_
              refine va_put (D := (dC, dI)) (ci := 1) (v := .int (nI 1)) (ty := .int) (C := RX1) (T := TX1) (N := 7) hx hb hts hinX1 tyX1 tyX1_ok nmX1 hown hK hP hD hS 0 rfl rfl 0 (by decide) hf26 (fun _ h9 => h9) rfl (by decide +kernel) rfl rfl (Nat.le_of_ble_eq_true rfl) dX1_next_99 (fun H locs hP hD hS => ?_)
              replace hP : va_P (dC, dI) vwCl [(y, .inr (1, [.int (nI 1), .ref a, .int (nI n), .ref b, .ref c9, .ref d, .ref v])), (a, .inl (cI, 64, .inl N)), (b, .inl (cI, 40960, .inl M)), (c9, .inl (cI, 640, .inl S)), (d, .inl (cI, 640, .inl C)), (v, .inl (cI, 640, .inl V))] H := hP
              replace hD : va_D A [(y, .inr (1, [.int (nI 1), .ref a, .int (nI n), .ref b, .ref c9, .ref d, .ref v])), (a, .inl (cI, 64, .inl N)), (b, .inl (cI, 40960, .inl M)), (c9, .inl (cI, 640, .inl S)), (d, .inl (cI, 640, .inl C)), (v, .inl (cI, 640, .inl V))] := hD
              have hok : mo_okN V n st mv = 1 := by rw [mo_okN, if_neg c_1, if_neg c_5, if_neg c_7, if_neg c_19]
              refine lv_aload_n hx hb dX1_next_102 rfl (lv_at hl 1 rfl) ?_
              refine va_get (D := (dC, dI)) (ci := 1) (v := .int (nI 1)) (C := RX1) (T := TX1) (N := 7) hx hb hts hinX1 hown hK hP 0 rfl rfl 0 (by decide) hf26 (fun _ h9 => h9) rfl dX1_next_103 ?_
              refine lv_if_le (tgt := 111) hx hb dX1_next_106 (by decide) (fun c_32 => ?_) (fun c_32 => ?_)
              · exact absurd c_32 (by decide)
              · refine lv_iconst (v := nI 0) hx hb dX1_next_109 (by decide) ?_
                exact wr_ret hx hb hr hlocks (by rw [hok]; rfl) (by rw [hok]; rfl) hP hK hD hS dX1_next_110
    · have c_5 : n = 640 := (nI_eq (show n < 2 ^ 31 by omega) (show 640 < 2 ^ 31 by omega)).mp c_5
      refine lv_iconst (v := nI 1) hx hb dX1_next_17 (by decide) ?_
      refine lv_goto (tgt := 22) hx hb dX1_next_18 (by decide) ?_
      refine lv_istore (lv' := [(5, .int (nI 1)), (0, .ref y), (1, .int st), (2, .int mv), (3, .int ck), (4, .int ir)]) hx hb dX1_next_22 hl (by decide) rfl (fun ls hl => ?_)
      refine lv_iload hx hb dX1_next_24 (lv_at hl 0 rfl) ?_
      refine lv_if_ne (tgt := 59) hx hb dX1_next_26 (by decide) (fun c_33 => ?_) (fun c_33 => ?_)
      · refine lv_iconst (v := nI 1) hx hb dX1_next_59 (by decide) ?_
        refine lv_goto (tgt := 64) hx hb dX1_next_60 (by decide) ?_
        refine lv_istore (lv' := [(5, .int (nI 1)), (0, .ref y), (1, .int st), (2, .int mv), (3, .int ck), (4, .int ir)]) hx hb dX1_next_64 hl (by decide) rfl (fun ls hl => ?_)
        refine lv_aload_n hx hb dX1_next_66 rfl (lv_at hl 1 rfl) ?_
        refine lv_iload hx hb dX1_next_67 (lv_at hl 0 rfl) ?_
        refine lv_if_eq (tgt := 76) hx hb dX1_next_69 (by decide) (fun c_34 => ?_) (fun c_34 => ?_)
        · exact absurd c_34 (by decide)
        · refine lv_iconst (v := nI 1) hx hb dX1_next_72 (by decide) ?_
          refine lv_goto (tgt := 99) hx hb dX1_next_73 (by decide) ?_
          refine va_put (D := (dC, dI)) (ci := 1) (v := .int (nI 1)) (ty := .int) (C := RX1) (T := TX1) (N := 7) hx hb hts hinX1 tyX1 tyX1_ok nmX1 hown hK hP hD hS 0 rfl rfl 0 (by decide) hf26 (fun _ h9 => h9) rfl (by decide +kernel) rfl rfl (Nat.le_of_ble_eq_true rfl) dX1_next_99 (fun H locs hP hD hS => ?_)
          replace hP : va_P (dC, dI) vwCl [(y, .inr (1, [.int (nI 1), .ref a, .int (nI n), .ref b, .ref c9, .ref d, .ref v])), (a, .inl (cI, 64, .inl N)), (b, .inl (cI, 40960, .inl M)), (c9, .inl (cI, 640, .inl S)), (d, .inl (cI, 640, .inl C)), (v, .inl (cI, 640, .inl V))] H := hP
          replace hD : va_D A [(y, .inr (1, [.int (nI 1), .ref a, .int (nI n), .ref b, .ref c9, .ref d, .ref v])), (a, .inl (cI, 64, .inl N)), (b, .inl (cI, 40960, .inl M)), (c9, .inl (cI, 640, .inl S)), (d, .inl (cI, 640, .inl C)), (v, .inl (cI, 640, .inl V))] := hD
          have hok : mo_okN V n st mv = 1 := by rw [mo_okN, if_neg c_1, if_pos c_5]
          refine lv_aload_n hx hb dX1_next_102 rfl (lv_at hl 1 rfl) ?_
          refine va_get (D := (dC, dI)) (ci := 1) (v := .int (nI 1)) (C := RX1) (T := TX1) (N := 7) hx hb hts hinX1 hown hK hP 0 rfl rfl 0 (by decide) hf26 (fun _ h9 => h9) rfl dX1_next_103 ?_
          refine lv_if_le (tgt := 111) hx hb dX1_next_106 (by decide) (fun c_35 => ?_) (fun c_35 => ?_)
          · exact absurd c_35 (by decide)
          · refine lv_iconst (v := nI 0) hx hb dX1_next_109 (by decide) ?_
            exact wr_ret hx hb hr hlocks (by rw [hok]; rfl) (by rw [hok]; rfl) hP hK hD hS dX1_next_110
      · exact absurd c_33 (by decide)
set_option maxHeartbeats 4000000 in
set_option maxRecDepth 100000 in
theorem k_X1_back (l : Launch) (dC : Nat → ClassId) (dI : Nat → Nat → Nat) (cI : ClassId) (y a b c9 d v : Nat) (th : Int32) (N : Nat → Int32) (n : Nat) (M S C V : Nat → Int32) (sz : Nat) (hn : n ≤ 640) : Met l yX1_back wsX1_back ({ frames := 0, cells := 0, slots := 0, locals := 0 } : Room) (wr (dC, dI) (wM cI y a b c9 d v th N n M S C V) (tM cI) sz [.ref y]) (wrQ (dC, dI) (wM cI y a b c9 d v (nI 0) N (n - 1) M S C V) (tM cI) (va_A (wM cI y a b c9 d v th N n M S C V) sz) (fun r => r = if n = 0 then nI 0 else nI 1)) 0 0 (va_A (wM cI y a b c9 d v th N n M S C V) sz) := by
  refine Met.ofW (cc := cX1_back) (maxL := 1) (ret := (some .boolean)) (by decide) rfl ?_
  intro p e s m args below meth c s₁ B hml hv
  obtain ⟨rfl, hsz, hP, hK, hD0⟩ := hv
  have hx := B.exec
  have hb := B.bytes
  have hr := B.returns
  have hts := atoms_spec (ws := wsX1_back) B.pre
  have hown : s.vm.findClass RX1 = some m.cls := findClass_of_methodNamed B.named
  have hlocks := B.notSynchronized
  have hinX1 : ∀ w ∈ u_ws RX1 TX1 7, w ∈ wsX1_back := by decide +kernel
  have hf26 := hts (.fieldLink RX1 26 "GameArbiterModel" "thrown" "I") (by decide +kernel)
  have hf53 := hts (.fieldLink RX1 53 "GameArbiterModel" "many" "I") (by decide +kernel)
  have hl := lv_entry ([.ref y]) (n := 1) (Nat.le_of_ble_eq_true rfl)
  rw [lg_entry_eq]
  generalize (lg_sl ([.ref y]) ++ List.replicate (1 - (lg_sl ([.ref y])).length) Slot.unset).toArray = ls at hl ⊢
  replace hl : lv_has ls 1 [(0, .ref y)] := hl
  subst hsz
  have hD := hD0.self (sz := s.heap.size)
  generalize hAe : va_A (wM cI y a b c9 d v th N n M S C V) s.heap.size = A at hD ⊢
  have hA : ∀ q : Nat, s.heap.size ≤ q → A q := fun q h => by rw [← hAe]; exact Or.inr h
  have hS : va_S A s.heap s.heap [] := va_S.rf
  replace hP : va_P (dC, dI) vwCl [(y, .inr (1, [.int th, .ref a, .int (nI n), .ref b, .ref c9, .ref d, .ref v])), (a, .inl (cI, 64, .inl N)), (b, .inl (cI, 40960, .inl M)), (c9, .inl (cI, 640, .inl S)), (d, .inl (cI, 640, .inl C)), (v, .inl (cI, 640, .inl V))] s.heap := hP
  replace hD : va_D A [(y, .inr (1, [.int th, .ref a, .int (nI n), .ref b, .ref c9, .ref d, .ref v])), (a, .inl (cI, 64, .inl N)), (b, .inl (cI, 40960, .inl M)), (c9, .inl (cI, 640, .inl S)), (d, .inl (cI, 640, .inl C)), (v, .inl (cI, 640, .inl V))] := hD
  refine lv_aload_n hx hb dX1_back_0 rfl (lv_at hl 0 rfl) ?_
  refine lv_iconst (v := nI 0) hx hb dX1_back_1 (by decide) ?_
  refine va_put (D := (dC, dI)) (ci := 1) (v := .int (nI 0)) (ty := .int) (C := RX1) (T := TX1) (N := 7) hx hb hts hinX1 tyX1 tyX1_ok nmX1 hown hK hP hD hS 0 rfl rfl 0 (by decide) hf26 (fun _ h9 => h9) rfl (by decide +kernel) rfl rfl (Nat.le_of_ble_eq_true rfl) dX1_back_2 (fun H locs hP hD hS => ?_)
  replace hP : va_P (dC, dI) vwCl [(y, .inr (1, [.int (nI 0), .ref a, .int (nI n), .ref b, .ref c9, .ref d, .ref v])), (a, .inl (cI, 64, .inl N)), (b, .inl (cI, 40960, .inl M)), (c9, .inl (cI, 640, .inl S)), (d, .inl (cI, 640, .inl C)), (v, .inl (cI, 640, .inl V))] H := hP
  replace hD : va_D A [(y, .inr (1, [.int (nI 0), .ref a, .int (nI n), .ref b, .ref c9, .ref d, .ref v])), (a, .inl (cI, 64, .inl N)), (b, .inl (cI, 40960, .inl M)), (c9, .inl (cI, 640, .inl S)), (d, .inl (cI, 640, .inl C)), (v, .inl (cI, 640, .inl V))] := hD
  refine lv_aload_n hx hb dX1_back_5 rfl (lv_at hl 0 rfl) ?_
  refine va_get (D := (dC, dI)) (ci := 1) (v := .int (nI n)) (C := RX1) (T := TX1) (N := 7) hx hb hts hinX1 hown hK hP 0 rfl rfl 2 (by decide) hf53 (fun _ h9 => h9) rfl dX1_back_6 ?_
  refine lv_if_ne (tgt := 14) hx hb dX1_back_9 (by decide) (fun c_1 => ?_) (fun c_1 => ?_)
  · have c_1 : ¬ (n = 0) := fun h => c_1 ((nz_eq (show n < 2 ^ 31 by omega)).mpr h)
    refine lv_aload_n hx hb dX1_back_14 rfl (lv_at hl 0 rfl) ?_
    refine lv_dup hx hb dX1_back_15 rfl ?_
    refine va_get (D := (dC, dI)) (ci := 1) (v := .int (nI n)) (C := RX1) (T := TX1) (N := 7) hx hb hts hinX1 hown hK hP 0 rfl rfl 2 (by decide) hf53 (fun _ h9 => h9) rfl dX1_back_16 ?_
    refine lv_iconst (v := nI 1) hx hb dX1_back_19 (by decide) ?_
    refine lv_isub hx hb dX1_back_20 ?_
    refine lv_is (pk_sub (by omega)) ?_
    refine va_put (D := (dC, dI)) (ci := 1) (v := .int (nI (n - 1))) (ty := .int) (C := RX1) (T := TX1) (N := 7) hx hb hts hinX1 tyX1 tyX1_ok nmX1 hown hK hP hD hS 0 rfl rfl 2 (by decide) hf53 (fun _ h9 => h9) rfl (by decide +kernel) rfl rfl (Nat.le_of_ble_eq_true rfl) dX1_back_21 (fun H locs hP hD hS => ?_)
    replace hP : va_P (dC, dI) vwCl [(y, .inr (1, [.int (nI 0), .ref a, .int (nI (n - 1)), .ref b, .ref c9, .ref d, .ref v])), (a, .inl (cI, 64, .inl N)), (b, .inl (cI, 40960, .inl M)), (c9, .inl (cI, 640, .inl S)), (d, .inl (cI, 640, .inl C)), (v, .inl (cI, 640, .inl V))] H := hP
    replace hD : va_D A [(y, .inr (1, [.int (nI 0), .ref a, .int (nI (n - 1)), .ref b, .ref c9, .ref d, .ref v])), (a, .inl (cI, 64, .inl N)), (b, .inl (cI, 40960, .inl M)), (c9, .inl (cI, 640, .inl S)), (d, .inl (cI, 640, .inl C)), (v, .inl (cI, 640, .inl V))] := hD
    refine lv_iconst (v := nI 1) hx hb dX1_back_24 (by decide) ?_
    exact wr_retz hx hb hr hlocks rfl (by rw [if_neg c_1]) (rfl) hP hK hD hS dX1_back_25
  · have c_1 : n = 0 := (nz_eq (show n < 2 ^ 31 by omega)).mp c_1
    refine lv_iconst (v := nI 0) hx hb dX1_back_12 (by decide) ?_
    exact wr_retz hx hb hr hlocks rfl (by rw [if_pos c_1]) (by rw [show n - 1 = n by omega]) hP hK hD hS dX1_back_13
set_option maxHeartbeats 4000000 in
set_option maxRecDepth 100000 in
theorem k_X1_verdict (l : Launch) (dC : Nat → ClassId) (dI : Nat → Nat → Nat) (cI : ClassId) (y a b c9 d v : Nat) (th : Int32) (N : Nat → Int32) (n : Nat) (M S C V : Nat → Int32) (sz : Nat) (hn : n ≤ 640) : Met l yX1_verdict wsX1_verdict ({ frames := 0, cells := 0, slots := 0, locals := 0 } : Room) (wr (dC, dI) (wM cI y a b c9 d v th N n M S C V) (tM cI) sz [.ref y]) (wrQ (dC, dI) (wM cI y a b c9 d v (nI 0) N n M S C V) (tM cI) (va_A (wM cI y a b c9 d v th N n M S C V) sz) (fun r => r = if n = 0 then -1 else V (n - 1))) 0 0 (va_A (wM cI y a b c9 d v th N n M S C V) sz) := by
  refine Met.ofW (cc := cX1_verdict) (maxL := 1) (ret := (some .int)) (by decide) rfl ?_
  intro p e s m args below meth c s₁ B hml hv
  obtain ⟨rfl, hsz, hP, hK, hD0⟩ := hv
  have hx := B.exec
  have hb := B.bytes
  have hr := B.returns
  have hts := atoms_spec (ws := wsX1_verdict) B.pre
  have hown : s.vm.findClass RX1 = some m.cls := findClass_of_methodNamed B.named
  have hlocks := B.notSynchronized
  have hinX1 : ∀ w ∈ u_ws RX1 TX1 7, w ∈ wsX1_verdict := by decide +kernel
  have hf23 := hts (.fieldLink RX1 23 "GameArbiterModel" "verdicts" "[I") (by decide +kernel)
  have hf26 := hts (.fieldLink RX1 26 "GameArbiterModel" "thrown" "I") (by decide +kernel)
  have hf53 := hts (.fieldLink RX1 53 "GameArbiterModel" "many" "I") (by decide +kernel)
  have hl := lv_entry ([.ref y]) (n := 1) (Nat.le_of_ble_eq_true rfl)
  rw [lg_entry_eq]
  generalize (lg_sl ([.ref y]) ++ List.replicate (1 - (lg_sl ([.ref y])).length) Slot.unset).toArray = ls at hl ⊢
  replace hl : lv_has ls 1 [(0, .ref y)] := hl
  subst hsz
  have hD := hD0.self (sz := s.heap.size)
  generalize hAe : va_A (wM cI y a b c9 d v th N n M S C V) s.heap.size = A at hD ⊢
  have hA : ∀ q : Nat, s.heap.size ≤ q → A q := fun q h => by rw [← hAe]; exact Or.inr h
  have hS : va_S A s.heap s.heap [] := va_S.rf
  replace hP : va_P (dC, dI) vwCl [(y, .inr (1, [.int th, .ref a, .int (nI n), .ref b, .ref c9, .ref d, .ref v])), (a, .inl (cI, 64, .inl N)), (b, .inl (cI, 40960, .inl M)), (c9, .inl (cI, 640, .inl S)), (d, .inl (cI, 640, .inl C)), (v, .inl (cI, 640, .inl V))] s.heap := hP
  replace hD : va_D A [(y, .inr (1, [.int th, .ref a, .int (nI n), .ref b, .ref c9, .ref d, .ref v])), (a, .inl (cI, 64, .inl N)), (b, .inl (cI, 40960, .inl M)), (c9, .inl (cI, 640, .inl S)), (d, .inl (cI, 640, .inl C)), (v, .inl (cI, 640, .inl V))] := hD
  refine lv_aload_n hx hb dX1_verdict_0 rfl (lv_at hl 0 rfl) ?_
  refine lv_iconst (v := nI 0) hx hb dX1_verdict_1 (by decide) ?_
  refine va_put (D := (dC, dI)) (ci := 1) (v := .int (nI 0)) (ty := .int) (C := RX1) (T := TX1) (N := 7) hx hb hts hinX1 tyX1 tyX1_ok nmX1 hown hK hP hD hS 0 rfl rfl 0 (by decide) hf26 (fun _ h9 => h9) rfl (by decide +kernel) rfl rfl (Nat.le_of_ble_eq_true rfl) dX1_verdict_2 (fun H locs hP hD hS => ?_)
  replace hP : va_P (dC, dI) vwCl [(y, .inr (1, [.int (nI 0), .ref a, .int (nI n), .ref b, .ref c9, .ref d, .ref v])), (a, .inl (cI, 64, .inl N)), (b, .inl (cI, 40960, .inl M)), (c9, .inl (cI, 640, .inl S)), (d, .inl (cI, 640, .inl C)), (v, .inl (cI, 640, .inl V))] H := hP
  replace hD : va_D A [(y, .inr (1, [.int (nI 0), .ref a, .int (nI n), .ref b, .ref c9, .ref d, .ref v])), (a, .inl (cI, 64, .inl N)), (b, .inl (cI, 40960, .inl M)), (c9, .inl (cI, 640, .inl S)), (d, .inl (cI, 640, .inl C)), (v, .inl (cI, 640, .inl V))] := hD
  refine lv_aload_n hx hb dX1_verdict_5 rfl (lv_at hl 0 rfl) ?_
  refine va_get (D := (dC, dI)) (ci := 1) (v := .int (nI n)) (C := RX1) (T := TX1) (N := 7) hx hb hts hinX1 hown hK hP 0 rfl rfl 2 (by decide) hf53 (fun _ h9 => h9) rfl dX1_verdict_6 ?_
  refine lv_if_ne (tgt := 16) hx hb dX1_verdict_9 (by decide) (fun c_1 => ?_) (fun c_1 => ?_)
  · have c_1 : ¬ (n = 0) := fun h => c_1 ((nz_eq (show n < 2 ^ 31 by omega)).mpr h)
    refine lv_aload_n hx hb dX1_verdict_16 rfl (lv_at hl 0 rfl) ?_
    refine va_get (D := (dC, dI)) (ci := 1) (v := .ref v) (C := RX1) (T := TX1) (N := 7) hx hb hts hinX1 hown hK hP 0 rfl rfl 6 (by decide) hf23 (fun _ h9 => h9) rfl dX1_verdict_17 ?_
    refine lv_aload_n hx hb dX1_verdict_20 rfl (lv_at hl 0 rfl) ?_
    refine va_get (D := (dC, dI)) (ci := 1) (v := .int (nI n)) (C := RX1) (T := TX1) (N := 7) hx hb hts hinX1 hown hK hP 0 rfl rfl 2 (by decide) hf53 (fun _ h9 => h9) rfl dX1_verdict_21 ?_
    refine lv_iconst (v := nI 1) hx hb dX1_verdict_24 (by decide) ?_
    refine lv_isub hx hb dX1_verdict_25 ?_
    refine lv_is (pk_sub (by omega)) ?_
    refine ix_iald hx hb hK hP 5 0 rfl rfl (show n - 1 < 640 by omega) (by decide) dX1_verdict_26 ?_
    exact wr_ret hx hb hr hlocks (by rw [if_neg c_1]) (rfl) hP hK hD hS dX1_verdict_27
  · have c_1 : n = 0 := (nz_eq (show n < 2 ^ 31 by omega)).mp c_1
    refine lv_iconst (v := (-1)) hx hb dX1_verdict_12 (by decide) ?_
    refine lv_goto (tgt := 27) hx hb dX1_verdict_13 (by decide) ?_
    exact wr_ret hx hb hr hlocks (by rw [if_pos c_1]) (rfl) hP hK hD hS dX1_verdict_27
