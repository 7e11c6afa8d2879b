set_option maxHeartbeats 8000000 in
set_option maxRecDepth 100000 in
/-- THE LAW, from its entry (over launches without stack traces) -/
theorem whole_start {p : Program} {e : Env} {s : State} {m : MethodId} {below : List Frame} {meth : Method} {c : Code} (l : Launch) (hno : l.stackTraces = false) {b L : Nat} {xs : Nat → Int32} (hL : L ≤ 2560) (C0 : lw_At p s m meth c b L xs) : W p l e room_1 s m #[Value.ref b] below meth c s.heap [] 0 0 (lw_Z below #[Value.ref b] s) (entryFrame m ([Value.ref b] : List Value).toArray 8) := by
  obtain ⟨hx, hb, hr, hml, hown, hts, hX, hbl, hlocks, hgv⟩ := id C0
  replace hb : c.code = cL_law := hb
  replace hown : s.vm.findClass RL = some m.cls := hown
  have hnw := flat_of_before _ hgv
  obtain ⟨A, hAe⟩ : ∃ A : Nat → Prop, A = fun q => s.heap.size ≤ q := ⟨_, rfl⟩
  have hA : ∀ q : Nat, s.heap.size ≤ q → A q := fun q h => by rw [hAe]; exact h
  have hA2 : ∀ q : Nat, A q → s.heap.size ≤ q := fun q h => by rw [hAe] at h; exact h
  have hA3 : ∀ a : Nat, a < s.heap.size → ¬ A a := fun a h z => Nat.not_le.mpr h (hA2 a z)
  have hU : vx_Zq Bundle.tN "UNASSIGNED_STACK" Bundle.steD A s s.heap := vx_Zqof (args := #[Value.ref b]) (hts (.laysStatic Bundle.tN "UNASSIGNED_STACK" Bundle.steD) (by decide +kernel)) (hts (.initialized Bundle.tN) (by decide +kernel)) (hnw (.isRef (.static Bundle.tN "UNASSIGNED_STACK" Bundle.steD)) (by decide +kernel)) hA3
  have hN : vx_Zq Bundle.tN "SUPPRESSED_SENTINEL" Bundle.listD A s s.heap := vx_Zqof (args := #[Value.ref b]) (hts (.laysStatic Bundle.tN "SUPPRESSED_SENTINEL" Bundle.listD) (by decide +kernel)) (hts (.initialized Bundle.tN) (by decide +kernel)) (hnw (.isRef (.static Bundle.tN "SUPPRESSED_SENTINEL" Bundle.listD)) (by decide +kernel)) hA3
  obtain ⟨e1, -, -, -, hs1, -⟩ := Cond.exactly_spec (args := #[Value.ref b]) (first := s) (o := none) (s := s) (idx := []) (t := Term.string "GameArbiter" 43) (cls := "java/lang/String") (hnw (.exactly (.string "GameArbiter" 43) "java/lang/String") (by decide +kernel))
  have hr1 : vk_R RX0 43 "the state, the moves or the clock is none that there is" e1 s := vk_R.of (A := #[Value.ref b]) (hts (.stringRef "GameArbiter" 43 "the state, the moves or the clock is none that there is") (by decide +kernel)) hs1
  obtain ⟨e2, -, -, -, hs2, -⟩ := Cond.exactly_spec (args := #[Value.ref b]) (first := s) (o := none) (s := s) (idx := []) (t := Term.string "GameArbiter" 58) (cls := "java/lang/String") (hnw (.exactly (.string "GameArbiter" 58) "java/lang/String") (by decide +kernel))
  have hr2 : vk_R RX0 58 "the game takes no further position" e2 s := vk_R.of (A := #[Value.ref b]) (hts (.stringRef "GameArbiter" 58 "the game takes no further position") (by decide +kernel)) hs2
  obtain ⟨e3, -, -, -, hs3, -⟩ := Cond.exactly_spec (args := #[Value.ref b]) (first := s) (o := none) (s := s) (idx := []) (t := Term.string "GameArbiter" 61) (cls := "java/lang/String") (hnw (.exactly (.string "GameArbiter" 61) "java/lang/String") (by decide +kernel))
  have hr3 : vk_R RX0 61 "the state or the moves are none that there are" e3 s := vk_R.of (A := #[Value.ref b]) (hts (.stringRef "GameArbiter" 61 "the state or the moves are none that there are") (by decide +kernel)) hs3
  obtain ⟨e4, -, -, -, hs4, -⟩ := Cond.exactly_spec (args := #[Value.ref b]) (first := s) (o := none) (s := s) (idx := []) (t := Term.string "GameArbiter" 72) (cls := "java/lang/String") (hnw (.exactly (.string "GameArbiter" 72) "java/lang/String") (by decide +kernel))
  have hr4 : vk_R RX0 72 "no such position, or no such fact of it" e4 s := vk_R.of (A := #[Value.ref b]) (hts (.stringRef "GameArbiter" 72 "no such position, or no such fact of it") (by decide +kernel)) hs4
  obtain ⟨e5, -, -, -, hs5, -⟩ := Cond.exactly_spec (args := #[Value.ref b]) (first := s) (o := none) (s := s) (idx := []) (t := Term.string "GameArbiter" 75) (cls := "java/lang/String") (hnw (.exactly (.string "GameArbiter" 75) "java/lang/String") (by decide +kernel))
  have hr5 : vk_R RX0 75 "no such position, or no such part of it" e5 s := vk_R.of (A := #[Value.ref b]) (hts (.stringRef "GameArbiter" 75 "no such position, or no such part of it") (by decide +kernel)) hs5
  obtain ⟨e6, -, -, -, hs6, -⟩ := Cond.exactly_spec (args := #[Value.ref b]) (first := s) (o := none) (s := s) (idx := []) (t := Term.string "GameArbiter" 77) (cls := "java/lang/String") (hnw (.exactly (.string "GameArbiter" 77) "java/lang/String") (by decide +kernel))
  have hr6 : vk_R RX0 77 "the state is none that there is" e6 s := vk_R.of (A := #[Value.ref b]) (hts (.stringRef "GameArbiter" 77 "the state is none that there is") (by decide +kernel)) hs6
  have hX1 : xw A 43 43 "the state, the moves or the clock is none that there is" "the state, the moves or the clock is none that there is" e1 e1 "java/lang/IllegalArgumentException" "java/lang/IllegalArgumentException" s s.heap := ⟨hU, hN, hr1, hr1, va_Nw.of rfl (hts (.castable "java/lang/IllegalArgumentException" "java/lang/IllegalArgumentException") (by decide +kernel)), va_Nw.of rfl (hts (.castable "java/lang/IllegalArgumentException" "java/lang/IllegalArgumentException") (by decide +kernel)), va_Nw.of rfl (hts (.declares (dcl "java/lang/RuntimeException")) (by decide +kernel)), va_Nw.of rfl (hts (.declares (dcl "java/lang/Exception")) (by decide +kernel)), va_Nw.of rfl (hts (.declares (dcl "java/lang/Throwable")) (by decide +kernel)), Or.inl rfl⟩
  have hX2 : xw A 58 61 "the game takes no further position" "the state or the moves are none that there are" e2 e3 "java/lang/IllegalStateException" "java/lang/IllegalArgumentException" s s.heap := ⟨hU, hN, hr2, hr3, va_Nw.of rfl (hts (.castable "java/lang/IllegalStateException" "java/lang/IllegalStateException") (by decide +kernel)), va_Nw.of rfl (hts (.castable "java/lang/IllegalArgumentException" "java/lang/IllegalArgumentException") (by decide +kernel)), va_Nw.of rfl (hts (.declares (dcl "java/lang/RuntimeException")) (by decide +kernel)), va_Nw.of rfl (hts (.declares (dcl "java/lang/Exception")) (by decide +kernel)), va_Nw.of rfl (hts (.declares (dcl "java/lang/Throwable")) (by decide +kernel)), Or.inr (va_Nc.of (args := #[Value.ref b]) (hnw (.not (.castable "java/lang/IllegalArgumentException" "java/lang/IllegalStateException")) (by decide +kernel)))⟩
  have hX3 : xw A 72 72 "no such position, or no such fact of it" "no such position, or no such fact of it" e4 e4 "java/lang/IndexOutOfBoundsException" "java/lang/IndexOutOfBoundsException" s s.heap := ⟨hU, hN, hr4, hr4, va_Nw.of rfl (hts (.castable "java/lang/IndexOutOfBoundsException" "java/lang/IndexOutOfBoundsException") (by decide +kernel)), va_Nw.of rfl (hts (.castable "java/lang/IndexOutOfBoundsException" "java/lang/IndexOutOfBoundsException") (by decide +kernel)), va_Nw.of rfl (hts (.declares (dcl "java/lang/RuntimeException")) (by decide +kernel)), va_Nw.of rfl (hts (.declares (dcl "java/lang/Exception")) (by decide +kernel)), va_Nw.of rfl (hts (.declares (dcl "java/lang/Throwable")) (by decide +kernel)), Or.inl rfl⟩
  have hX4 : xw A 75 75 "no such position, or no such part of it" "no such position, or no such part of it" e5 e5 "java/lang/IndexOutOfBoundsException" "java/lang/IndexOutOfBoundsException" s s.heap := ⟨hU, hN, hr5, hr5, va_Nw.of rfl (hts (.castable "java/lang/IndexOutOfBoundsException" "java/lang/IndexOutOfBoundsException") (by decide +kernel)), va_Nw.of rfl (hts (.castable "java/lang/IndexOutOfBoundsException" "java/lang/IndexOutOfBoundsException") (by decide +kernel)), va_Nw.of rfl (hts (.declares (dcl "java/lang/RuntimeException")) (by decide +kernel)), va_Nw.of rfl (hts (.declares (dcl "java/lang/Exception")) (by decide +kernel)), va_Nw.of rfl (hts (.declares (dcl "java/lang/Throwable")) (by decide +kernel)), Or.inl rfl⟩
  have hX5 : xw A 77 77 "the state is none that there is" "the state is none that there is" e6 e6 "java/lang/IllegalArgumentException" "java/lang/IllegalArgumentException" s s.heap := ⟨hU, hN, hr6, hr6, va_Nw.of rfl (hts (.castable "java/lang/IllegalArgumentException" "java/lang/IllegalArgumentException") (by decide +kernel)), va_Nw.of rfl (hts (.castable "java/lang/IllegalArgumentException" "java/lang/IllegalArgumentException") (by decide +kernel)), va_Nw.of rfl (hts (.declares (dcl "java/lang/RuntimeException")) (by decide +kernel)), va_Nw.of rfl (hts (.declares (dcl "java/lang/Exception")) (by decide +kernel)), va_Nw.of rfl (hts (.declares (dcl "java/lang/Throwable")) (by decide +kernel)), Or.inl rfl⟩
  obtain ⟨c0, iS0, hKn0⟩ := u_known (C := RX0) (T := TX0) (N := 4) (n := 4) hts inX0 (hts (.instantiable RX0 4) (by decide +kernel))
  obtain ⟨c1, iS1, hKn1⟩ := u_known (C := RX1) (T := TX1) (N := 7) (n := 7) hts inX1 (hts (.instantiable RX1 7) (by decide +kernel))
  obtain ⟨dC, dI, hKc⟩ : ∃ (dC : Nat → ClassId) (dI : Nat → Nat → Nat), ∀ (k : Nat) (q : vw_C), vwCl[k]? = some q → u_Kn s q.1 q.2.1 q.2.2 (dC k) (dI k) := by
    refine ⟨fun k => if k = 0 then c0 else c1, fun k => if k = 0 then iS0 else iS1, ?_⟩
    intro k q hq
    match k, hq with
    | 0, hq => cases hq; exact hKn0
    | 1, hq => cases hq; exact hKn1
    | k + 2, hq => simp [vwCl] at hq
  replace hts := fun w h => hts w (wsL_law_in w h)
  have hS : va_S A s.heap s.heap [] := va_S.rf
  have hK : va_K (dC, dI) vwCl [] s := ⟨hKc, fun k q h => by simp at h⟩
  have hP : va_P (dC, dI) vwCl [] s.heap := fun k q h => by simp at h
  have hD : va_D A [] := ⟨fun i j p q h => by simp at h, fun k q h => by simp at h⟩
  have hl := lv_entry ([.ref b]) (n := 8) (Nat.le_of_ble_eq_true rfl)
  rw [lg_entry_eq]
  generalize (lg_sl ([.ref b]) ++ List.replicate (8 - (lg_sl ([.ref b])).length) Slot.unset).toArray = ls at hl ⊢
  replace hl : lv_has ls 8 [(0, .ref b)] := hl
  refine va_new (ci := 0) (fs := [.null, .null, .null, .int 0]) (C := RX0) (T := TX0) (N := 4) hx hb hts inlX0 tyX0 tyX0_ok hown (hts (.classLink RL 8 RX0) (by decide +kernel)) (hts (.instantiable RX0 4) (by decide +kernel)) (hts (.initialized RX0) (by decide +kernel)) hK hP hD hS hA rfl (fun j hj => by rcases (show j = 0 ∨ j = 1 ∨ j = 2 ∨ j = 3 by omega) with rfl | rfl | rfl | rfl <;> rfl) (Nat.le_of_ble_eq_true rfl) (Nat.le_of_ble_eq_true rfl) dL_law_0 (fun x H hP hD hS => ?_)
  replace hP : va_P (dC, dI) vwCl [(x, .inr (0, [.null, .null, .null, .int 0]))] H := hP
  replace hD : va_D A [(x, .inr (0, [.null, .null, .null, .int 0]))] := hD
  refine W.widen (k := 1) (n := 4) (by omega) (by omega) ?_
  refine lv_dup hx hb dL_law_3 rfl ?_
  have hFc := va_free (wc := [(x, .inr (0, [.null, .null, .null, .int 0]))]) hD hS hA [0] rfl
  refine va_callv (va_runI (As := []) (rest := [.ref x]) ⟨hx, hb, hml, hown, hts⟩ (k_X0_init l dC dI x H.size) (cwI 0 hts gL_law_X0_init rfl rfl rfl (hts (.initialized RX0) (by decide +kernel)) (hts (.methodLink RL 35 yX0_init) (by decide +kernel)) (hts (.instanceMethod yX0_init) (by decide +kernel)) rfl (by decide +kernel) ⟨Nat.le_of_ble_eq_true rfl, Nat.le_of_ble_eq_true rfl⟩) ⟨wr_blind, fun U hU hW => ⟨rfl, by rw [hU], by rw [hU]; exact hP, va_K.moved hW.alike hK, hD.weaken (fun _ _ _ _ => trivial)⟩⟩ rfl rfl hl.1 rfl (lv_room (Nat.le_of_ble_eq_true rfl)) dL_law_4 ⟨Nat.le_of_ble_eq_true rfl, Nat.le_of_ble_eq_true rfl⟩) hS (fun q _ h => hFc q h) hFc (fun u t1 H1 locs ht hvm hw hB hz1 hk1 hS => ?_)
  obtain ⟨g, t, f, cI, cJ, hP1, hK1, hD1⟩ := hB
  rw [ht] at hP1
  obtain ⟨hP, hD⟩ := va_join (wr := []) (w1 := [(x, .inr (0, [.ref g, .ref t, .ref f, .int (nI 0)])), (g, .inl (cJ, 4, .inr (.inl (fun _ => 0)))), (t, .inl (cJ, 2560, .inr (.inl (fun _ => 0)))), (f, .inl (cI, 5120, .inl (fun _ => 0)))]) hP hD [0] [] rfl rfl (by decide) (by decide) hk1 hFc hP1 hD1
  replace hK : va_K (dC, dI) vwCl (tK cI cJ) s := va_K.moved hvm.symm hK1
  clear hP1 hD1 hk1 hFc hK1 hz1 ht hvm
  replace hP : va_P (dC, dI) vwCl [(x, .inr (0, [.ref g, .ref t, .ref f, .int (nI 0)])), (g, .inl (cJ, 4, .inr (.inl (fun _ => 0)))), (t, .inl (cJ, 2560, .inr (.inl (fun _ => 0)))), (f, .inl (cI, 5120, .inl (fun _ => 0)))] H1 := hP
  replace hD : va_D A [(x, .inr (0, [.ref g, .ref t, .ref f, .int (nI 0)])), (g, .inl (cJ, 4, .inr (.inl (fun _ => 0)))), (t, .inl (cJ, 2560, .inr (.inl (fun _ => 0)))), (f, .inl (cI, 5120, .inl (fun _ => 0)))] := hD
  refine W.widen (k := 4) (n := 7688) (by omega) (by omega) ?_
  refine lv_astore_n (lv' := [(1, .ref x), (0, .ref b)]) hx hb dL_law_7 rfl hl (by decide) rfl (fun ls hl => ?_)
  refine va_new (ci := 1) (fs := [.int 0, .null, .int 0, .null, .null, .null, .null]) (C := RX1) (T := TX1) (N := 7) hx hb hts inlX1 tyX1 tyX1_ok hown (hts (.classLink RL 36 RX1) (by decide +kernel)) (hts (.instantiable RX1 7) (by decide +kernel)) (hts (.initialized RX1) (by decide +kernel)) hK hP hD hS hA rfl (fun j hj => by rcases (show j = 0 ∨ j = 1 ∨ j = 2 ∨ j = 3 ∨ j = 4 ∨ j = 5 ∨ j = 6 by omega) with rfl | rfl | rfl | rfl | rfl | rfl | rfl <;> rfl) (Nat.le_of_ble_eq_true rfl) (Nat.le_of_ble_eq_true rfl) dL_law_8 (fun y H hP hD hS => ?_)
  replace hP : va_P (dC, dI) vwCl ([(x, .inr (0, [.ref g, .ref t, .ref f, .int (nI 0)])), (g, .inl (cJ, 4, .inr (.inl (fun _ => 0)))), (t, .inl (cJ, 2560, .inr (.inl (fun _ => 0)))), (f, .inl (cI, 5120, .inl (fun _ => 0)))] ++ [(y, .inr (1, [.int 0, .null, .int 0, .null, .null, .null, .null]))]) H := hP
  replace hD : va_D A ([(x, .inr (0, [.ref g, .ref t, .ref f, .int (nI 0)])), (g, .inl (cJ, 4, .inr (.inl (fun _ => 0)))), (t, .inl (cJ, 2560, .inr (.inl (fun _ => 0)))), (f, .inl (cI, 5120, .inl (fun _ => 0)))] ++ [(y, .inr (1, [.int 0, .null, .int 0, .null, .null, .null, .null]))]) := hD
  refine W.widen (k := 5) (n := 7695) (by omega) (by omega) ?_
  refine lv_dup hx hb dL_law_11 rfl ?_
  have hPc := hP.sub (ws' := [(y, .inr (1, [.int 0, .null, .int 0, .null, .null, .null, .null]))]) [4] rfl
  have hDc := hD.sub (ws' := [(y, .inr (1, [.int 0, .null, .int 0, .null, .null, .null, .null]))]) [4] (by decide) rfl
  have hKc := hK.sub (tys' := []) [] rfl
  have hFc := va_free (wc := [(y, .inr (1, [.int 0, .null, .int 0, .null, .null, .null, .null]))]) hD hS hA [4] rfl
  refine va_callv (va_runI (As := []) (rest := [.ref y]) ⟨hx, hb, hml, hown, hts⟩ (k_X1_init l dC dI y H.size) (cwI 0 hts gL_law_X1_init rfl rfl rfl (hts (.initialized RX1) (by decide +kernel)) (hts (.methodLink RL 38 yX1_init) (by decide +kernel)) (hts (.instanceMethod yX1_init) (by decide +kernel)) rfl (by decide +kernel) ⟨Nat.le_of_ble_eq_true rfl, Nat.le_of_ble_eq_true rfl⟩) ⟨wr_blind, fun U hU hW => ⟨rfl, by rw [hU], by rw [hU]; exact hPc, va_K.moved hW.alike hKc, hDc.weaken (fun _ _ _ _ => trivial)⟩⟩ rfl rfl hl.1 rfl (lv_room (Nat.le_of_ble_eq_true rfl)) dL_law_12 ⟨Nat.le_of_ble_eq_true rfl, Nat.le_of_ble_eq_true rfl⟩) hS (fun q _ h => hFc q h) hFc (fun u t1 H1 locs ht hvm hw hB hz1 hk1 hS => ?_)
  obtain ⟨a, b9, c9, d, v, cI2, hP1, hK1, hD1⟩ := hB
  rw [ht] at hP1
  have hK2 : va_K (dC, dI) vwCl (tK cI cJ ++ tM cI2) s := hK.app (va_K.moved hvm.symm hK1)
  obtain rfl := ty_int (i := 1) (j := 2) hK2 rfl rfl
  obtain ⟨hP, hD⟩ := va_join (wr := [(x, .inr (0, [.ref g, .ref t, .ref f, .int (nI 0)])), (g, .inl (cJ, 4, .inr (.inl (fun _ => 0)))), (t, .inl (cJ, 2560, .inr (.inl (fun _ => 0)))), (f, .inl (cI, 5120, .inl (fun _ => 0)))]) (w1 := [(y, .inr (1, [.int 0, .ref a, .int (nI 0), .ref b9, .ref c9, .ref d, .ref v])), (a, .inl (cI, 64, .inl (fun _ => 0))), (b9, .inl (cI, 40960, .inl (fun _ => 0))), (c9, .inl (cI, 640, .inl (fun _ => 0))), (d, .inl (cI, 640, .inl (fun _ => 0))), (v, .inl (cI, 640, .inl (fun _ => 0)))]) hP hD [4] [0, 1, 2, 3] rfl rfl (by decide) (by decide) hk1 hFc hP1 hD1
  clear hP1 hD1 hk1 hFc hK1 hz1 ht hvm hPc hDc hKc hK2
  replace hP : va_P (dC, dI) vwCl ([(x, .inr (0, [.ref g, .ref t, .ref f, .int (nI 0)])), (g, .inl (cJ, 4, .inr (.inl (fun _ => 0)))), (t, .inl (cJ, 2560, .inr (.inl (fun _ => 0)))), (f, .inl (cI, 5120, .inl (fun _ => 0)))] ++ [(y, .inr (1, [.int 0, .ref a, .int (nI 0), .ref b9, .ref c9, .ref d, .ref v])), (a, .inl (cI, 64, .inl (fun _ => 0))), (b9, .inl (cI, 40960, .inl (fun _ => 0))), (c9, .inl (cI, 640, .inl (fun _ => 0))), (d, .inl (cI, 640, .inl (fun _ => 0))), (v, .inl (cI, 640, .inl (fun _ => 0)))]) H1 := hP
  replace hD : va_D A ([(x, .inr (0, [.ref g, .ref t, .ref f, .int (nI 0)])), (g, .inl (cJ, 4, .inr (.inl (fun _ => 0)))), (t, .inl (cJ, 2560, .inr (.inl (fun _ => 0)))), (f, .inl (cI, 5120, .inl (fun _ => 0)))] ++ [(y, .inr (1, [.int 0, .ref a, .int (nI 0), .ref b9, .ref c9, .ref d, .ref v])), (a, .inl (cI, 64, .inl (fun _ => 0))), (b9, .inl (cI, 40960, .inl (fun _ => 0))), (c9, .inl (cI, 640, .inl (fun _ => 0))), (d, .inl (cI, 640, .inl (fun _ => 0))), (v, .inl (cI, 640, .inl (fun _ => 0)))]) := hD
  refine W.widen (k := 10) (n := 50639) (by omega) (by omega) ?_
  refine lv_astore_n (lv' := [(2, .ref y), (1, .ref x), (0, .ref b)]) hx hb dL_law_15 rfl hl (by decide) rfl (fun ls hl => ?_)
  refine lv_iconst (v := nI 1) hx hb dL_law_16 (by decide) ?_
  refine ix_newl hx hb (hts (.arrayClass .long) (by decide +kernel)) hK hP hD hS hA (k := 1) (by decide) (Nat.le_of_ble_eq_true rfl) (Nat.le_of_ble_eq_true rfl) dL_law_17 (fun o cz H hK3 hP hD hS => ?_)
  obtain rfl := ty_long (i := 0) (j := 2) hK3 rfl rfl
  clear hK3
  refine W.widen (k := 11) (n := 50640) (by omega) (by omega) ?_
  refine lv_astore_n (lv' := [(3, .ref o), (2, .ref y), (1, .ref x), (0, .ref b)]) hx hb dL_law_19 rfl hl (by decide) rfl (fun ls hl => ?_)
  refine lv_iconst (v := nI 0) hx hb dL_law_20 (by decide) ?_
  refine lv_istore (lv' := [(4, .int (nI 0)), (3, .ref o), (2, .ref y), (1, .ref x), (0, .ref b)]) hx hb dL_law_21 hl (by decide) rfl (fun ls hl => ?_)
  exact law_loop hL C0 hno hA hA2 hX1 hX2 hX3 hX4 hX5 hK (L + 1) 0 0 rfl (Nat.zero_le L) (by omega) (fun _ => 0) (fun _ => 0) (fun _ => 0) 0 0 (fun _ => 0) (fun _ => 0) (fun _ => 0) (fun _ => 0) (fun _ => 0) (fun _ => 0) Rel.new H locs hP hD hS ls (lv_sub hl [4, 3, 2, 1, 0] rfl)
