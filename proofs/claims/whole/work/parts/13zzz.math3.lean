/-! rows wb_, u_tn, g_or are pasted from the starting text BITS.to-paste -/
theorem wb_tb (n : Nat) : (lN n).toBitVec = BitVec.ofNat 64 n := rfl
theorem wb_inj {a b : Int64} (h : a.toBitVec = b.toBitVec) : a = b := Int64.toBitVec_inj.mp h
theorem wb_c : ∀ k, k < 64 → ((nI k).toInt64 &&& 63) = lN k := by decide +kernel
theorem wb_sm : ∀ k, k < 64 → (BitVec.ofNat 64 k).smod 64 = BitVec.ofNat 64 k := by decide +kernel
theorem wb_shl (n : Nat) {k : Nat} (hk : k < 64) : lN n <<< ((nI k).toInt64 &&& 63) = lN (n * 2 ^ k) := by
  rw [wb_c k hk]
  apply wb_inj
  rw [Int64.toBitVec_shiftLeft, wb_tb, wb_tb, wb_tb, wb_sm k hk]
  apply BitVec.eq_of_toNat_eq
  rw [BitVec.shiftLeft_eq', BitVec.toNat_shiftLeft, BitVec.toNat_ofNat, BitVec.toNat_ofNat, BitVec.toNat_ofNat, Nat.mod_eq_of_lt (show k < 2 ^ 64 by omega), Nat.shiftLeft_eq, Nat.mul_mod, Nat.mod_mod, ← Nat.mul_mod]
theorem u_tn {n : Nat} (h : n < 2 ^ 64) : (UInt64.ofNat n).toNat = n := Nat.mod_eq_of_lt h
theorem g_or {k p a b : Nat} (hp : 2 ^ k = p) (ha : a < p) (h : b * p + a < 2 ^ 64) : lN (b * p) ||| lN a = lN (b * p + a) := by
  subst hp
  have h1 : b * 2 ^ k ||| a = b * 2 ^ k + a := by rw [← Nat.shiftLeft_eq, Nat.shiftLeft_add_eq_or_of_lt ha]
  have h3 : UInt64.ofNat (b * 2 ^ k) ||| UInt64.ofNat a = UInt64.ofNat (b * 2 ^ k + a) := UInt64.toNat_inj.mp (by rw [UInt64.toNat_or, u_tn (by omega), u_tn (by omega), u_tn h, h1])
  have h2 := congrArg UInt64.toInt64 h3
  exact h2
/-! THE STEPS OF THE TIE, A CALL EACH -/
theorem ap_F_old {G T : Nat → Int64} {F : Nat → Int32} {n : Nat} {st mv ck cl : Int32} {j : Nat} (hj : j < n * 8) : ap_F G T F n st mv ck cl j = F j := by
  unfold ap_F ap_F3
  rw [upd_n (by omega), upd_n (by omega), upd_n (by omega), upd_n (by omega), upd_n (by omega), upd_n (by omega), upd_n (by omega), upd_n (by omega)]
section NEW
variable (G T : Nat → Int64) (F : Nat → Int32) (n : Nat) (st mv ck cl : Int32)
theorem ap_F_0 : ap_F G T F n st mv ck cl (n * 8 + 0) = ap_ct G T F n st := by
  unfold ap_F ap_F3
  rw [upd_n (by omega), upd_n (by omega), upd_n (by omega), upd_n (by omega), upd_n (by omega), upd_n (by omega), upd_n (by omega), upd_s]
theorem ap_F_1 : ap_F G T F n st mv ck cl (n * 8 + 1) = cl := by
  unfold ap_F ap_F3
  rw [upd_n (by omega), upd_n (by omega), upd_n (by omega), upd_n (by omega), upd_n (by omega), upd_n (by omega), upd_s]
theorem ap_F_2 : ap_F G T F n st mv ck cl (n * 8 + 2) = ap_vd G T F n st mv ck cl := by
  unfold ap_F ap_F3
  rw [upd_n (by omega), upd_n (by omega), upd_n (by omega), upd_n (by omega), upd_n (by omega), upd_s]
theorem ap_F_3 : ap_F G T F n st mv ck cl (n * 8 + 3) = ap_fi G T F n st mv ck cl := by
  unfold ap_F
  rw [upd_n (by omega), upd_n (by omega), upd_n (by omega), upd_n (by omega), upd_s]
theorem ap_F_4 : ap_F G T F n st mv ck cl (n * 8 + 4) = ap_be G T F n st := by
  unfold ap_F
  rw [upd_n (by omega), upd_n (by omega), upd_n (by omega), upd_s]
theorem ap_F_5 : ap_F G T F n st mv ck cl (n * 8 + 5) = st := by
  unfold ap_F
  rw [upd_n (by omega), upd_n (by omega), upd_s]
theorem ap_F_6 : ap_F G T F n st mv ck cl (n * 8 + 6) = if ga_dead G (nI (ap_mn G)) = 0 then nI 0 else nI 1 := by
  unfold ap_F
  rw [upd_n (by omega), upd_s]
theorem ap_F_7 : ap_F G T F n st mv ck cl (n * 8 + 7) = nI (ap_mn G) := by
  unfold ap_F
  rw [upd_s]
end NEW
theorem Rel.app {G T : Nat → Int64} {F : Nat → Int32} {n : Nat} {N M S C V : Nat → Int32} (h : Rel G T F n N M S C V) (hn : n < 640) (st mv ck cl : Int32) :
    ap_vd G T F n st mv ck cl = mo_ver (upd S n st) (mo_adM M N n 64) (upd C n cl) n mv ck ∧
    Rel G (ap_T G T n) (ap_F G T F n st mv ck cl) (n + 1) N (mo_adM M N n 64) (upd S n st) (upd C n cl) (upd V n (mo_ver (upd S n st) (mo_adM M N n 64) (upd C n cl) n mv ck)) := by
  have hM : ∀ q, q < 64 → mo_adM M N n 64 (64 * n + q) = nI (sqm G q) := fun q hq => by rw [adM_new M N n hq]; exact h.2.1 q hq
  have hct : ap_ct G T F n st = nI (mo_cnt (upd S n st) (mo_adM M N n 64) n (n + 1)) := by
    unfold ap_ct ap_be
    rw [h.count st, nI_add, cnt_new1]
  have hdd : ga_dead G (nI (ap_mn G)) = mo_dead (mo_adM M N n 64) n := dead_eq hM
  have hvd : ap_vd G T F n st mv ck cl = mo_ver (upd S n st) (mo_adM M N n 64) (upd C n cl) n mv ck := by
    have hle := mo_cnt_le (upd S n st) (mo_adM M N n 64) n (n + 1)
    unfold ap_vd ga_judge mo_ver
    rw [hct, hdd, upd_s]
    generalize mo_cnt (upd S n st) (mo_adM M N n 64) n (n + 1) = k at hle
    by_cases h5 : k < 5
    · rw [if_pos (nI_lt h5 (by omega)), if_pos h5]
      by_cases h3 : k < 3
      · rw [if_pos (nI_lt h3 (by omega)), if_pos h3]
      · rw [if_neg (nI_nlt (show 3 ≤ k by omega) (by omega)), if_neg h3]
    · rw [if_neg (nI_nlt (show 5 ≤ k by omega) (by omega)), if_neg h5]
  refine ⟨hvd, by omega, h.2.1, fun i hi k hk => ?_, fun i hi => ?_⟩
  · by_cases e : i = n
    · rw [e, hM k hk]
      unfold ap_T
      rw [pk_cpy_in (by omega) (by omega), show 0 + (n * 4 + k / 16 - n * 4) = k / 16 by omega]
      rfl
    · rw [adM_old M N (by omega) hk, h.2.2.1 i (by omega) k hk]
      unfold ap_T
      rw [pk_cpy_out (by omega)]
  · by_cases e : i = n
    · rw [e]
      refine ⟨?_, ?_, ?_, ?_, ?_, ?_, ?_, ?_⟩
      · rw [ap_F_1, upd_s]
      · rw [ap_F_2, upd_s, hvd]
      · rw [ap_F_5, upd_s]
      · rw [ap_F_0, hct]
      · rw [ap_F_3, h.fi_new]
      · rw [ap_F_4, h.be_new st n (Nat.le_refl n)]; rfl
      · rw [ap_F_6, hdd]
      · rw [ap_F_7]
        unfold ap_mn
        rw [cnt_hm (nI 0) 64 hM]
    · have hin : i < n := by omega
      have sm : ∀ j, j < i + 1 → mo_sm (upd S n st) (mo_adM M N n 64) i j 64 = mo_sm S M i j 64 := fun j hj => sm_congr (upd_n (by omega)) (upd_n (by omega)) (fun q hq => adM_old M N hin hq) (fun q hq => adM_old M N (by omega) hq) 64 (Nat.le_refl 64)
      have hrow : ∀ q, q < 64 → mo_adM M N n 64 (64 * i + q) = M (64 * i + q) := fun q hq => adM_old M N hin hq
      obtain ⟨a1, a2, a5, a0, a3, a4, a6, a7⟩ := h.2.2.2 i hin
      refine ⟨?_, ?_, ?_, ?_, ?_, ?_, ?_, ?_⟩
      · rw [ap_F_old (by omega), upd_n (by omega)]; exact a1
      · rw [ap_F_old (by omega), upd_n (by omega)]; exact a2
      · rw [ap_F_old (by omega), upd_n (by omega)]; exact a5
      · rw [ap_F_old (by omega), cnt_congr (i + 1) sm]; exact a0
      · rw [ap_F_old (by omega), fi_congr i (fun j hj => sm j (by omega))]; exact a3
      · rw [ap_F_old (by omega), be_congr i (fun j hj => sm j (by omega))]; exact a4
      · rw [ap_F_old (by omega), dead_congr hrow]; exact a6
      · rw [ap_F_old (by omega), hm_congr (nI 0) 64 hrow]; exact a7
/-! what is taken, what is refused -/
theorem st_iff1 (p : Int32) : ga_isState p = 0 ↔ ¬ (0 ≤ p.toInt ∧ p.toInt < 512 ∧ (p.toInt / 32 ≤ 7 ∨ p.toInt / 32 = 15)) := by
  have e : (p >>> (nI 5 &&& 31)).toInt = p.toInt / 32 := by rw [pk_shr p (nI 5 &&& 31) 5 (by decide), Int.shiftRight_eq_div_pow]; rfl
  unfold ga_isState
  by_cases c1 : p < 0
  · rw [if_pos c1]
    rw [Int32.lt_iff_toInt_lt] at c1
    have : (0 : Int32).toInt = 0 := rfl
    exact ⟨fun _ => by omega, fun _ => n0_eq⟩
  · rw [if_neg c1]
    rw [Int32.lt_iff_toInt_lt] at c1
    have z0 : (0 : Int32).toInt = 0 := rfl
    by_cases c2 : p < nI 512
    · rw [if_pos c2]
      rw [Int32.lt_iff_toInt_lt, nI_toInt (by omega)] at c2
      by_cases c3 : p >>> (nI 5 &&& 31) ≤ nI 7
      · rw [if_pos c3]
        rw [Int32.le_iff_toInt_le, nI_toInt (by omega), e] at c3
        exact ⟨fun z => absurd z n1_ne, fun z => absurd ⟨by omega, by omega, Or.inl (by omega)⟩ z⟩
      · rw [if_neg c3]
        rw [Int32.le_iff_toInt_le, nI_toInt (by omega), e] at c3
        by_cases c4 : p >>> (nI 5 &&& 31) = nI 15
        · rw [if_pos c4]
          rw [← Int32.toInt_inj, nI_toInt (by omega), e] at c4
          exact ⟨fun z => absurd z n1_ne, fun z => absurd ⟨by omega, by omega, Or.inr (by omega)⟩ z⟩
        · rw [if_neg c4]
          rw [← Int32.toInt_inj, nI_toInt (by omega), e] at c4
          exact ⟨fun _ => by omega, fun _ => n0_eq⟩
    · rw [if_neg c2]
      rw [Int32.lt_iff_toInt_lt, nI_toInt (by omega)] at c2
      exact ⟨fun _ => by omega, fun _ => n0_eq⟩
theorem st_iff2 (p : Int32) : mo_isState p = 0 ↔ ¬ (0 ≤ p.toInt / 32 ∧ (p.toInt / 32 < 8 ∨ p.toInt / 32 = 15)) := by
  have e : (p >>> (nI 5 &&& 31)).toInt = p.toInt / 32 := by rw [pk_shr p (nI 5 &&& 31) 5 (by decide), Int.shiftRight_eq_div_pow]; rfl
  have z0 : (0 : Int32).toInt = 0 := rfl
  unfold mo_isState
  by_cases c1 : p >>> (nI 5 &&& 31) < 0
  · rw [if_pos c1]
    rw [Int32.lt_iff_toInt_lt, e] at c1
    exact ⟨fun _ => by omega, fun _ => n0_eq⟩
  · rw [if_neg c1]
    rw [Int32.lt_iff_toInt_lt, e] at c1
    by_cases c2 : p >>> (nI 5 &&& 31) < nI 8
    · rw [if_pos c2]
      rw [Int32.lt_iff_toInt_lt, nI_toInt (by omega), e] at c2
      exact ⟨fun z => absurd z n1_ne, fun z => absurd ⟨by omega, Or.inl (by omega)⟩ z⟩
    · rw [if_neg c2]
      rw [Int32.lt_iff_toInt_lt, nI_toInt (by omega), e] at c2
      by_cases c4 : p >>> (nI 5 &&& 31) = nI 15
      · rw [if_pos c4]
        rw [← Int32.toInt_inj, nI_toInt (by omega), e] at c4
        exact ⟨fun z => absurd z n1_ne, fun z => absurd ⟨by omega, Or.inr (by omega)⟩ z⟩
      · rw [if_neg c4]
        rw [← Int32.toInt_inj, nI_toInt (by omega), e] at c4
        exact ⟨fun _ => by omega, fun _ => n0_eq⟩
theorem st_iff (p : Int32) : ga_isState p = 0 ↔ mo_isState p = 0 := by
  rw [st_iff1, st_iff2]
  omega
/-- a test of 0 .. k, by the class -/
theorem rng_iff {p : Int32} {k : Int32} : (if p < 0 then nI 0 else if k < p then nI 0 else nI 1 : Int32) = 0 ↔ (p < 0 ∨ k < p) := by
  by_cases c1 : p < 0
  · rw [if_pos c1]; exact ⟨fun _ => Or.inl c1, fun _ => n0_eq⟩
  · rw [if_neg c1]
    by_cases c2 : k < p
    · rw [if_pos c2]; exact ⟨fun _ => Or.inr c2, fun _ => n0_eq⟩
    · rw [if_neg c2]; exact ⟨fun z => absurd z n1_ne, fun z => z.elim (fun w => absurd w c1) (fun w => absurd w c2)⟩
theorem ok_B (st mv cl : Int32) : ga_okB st mv cl = mo_okB st mv cl := by
  unfold ga_okB mo_okB
  have hm : ga_isMoves mv = 0 ↔ (mv < 0 ∨ nI 300 < mv) := rng_iff
  have hc : ga_isClock cl = 0 ↔ (cl < 0 ∨ nI 1000 < cl) := rng_iff
  by_cases c1 : mo_isState st = 0
  · rw [if_pos ((st_iff st).mpr c1), if_pos c1]
  · rw [if_neg (fun z => c1 ((st_iff st).mp z)), if_neg c1]
    by_cases c2 : mv < 0
    · rw [if_pos (hm.mpr (Or.inl c2)), if_pos c2]
    · rw [if_neg c2]
      by_cases c3 : nI 300 < mv
      · rw [if_pos (hm.mpr (Or.inr c3)), if_pos c3]
      · rw [if_neg (fun z => (hm.mp z).elim c2 c3), if_neg c3]
        by_cases c4 : cl < 0
        · rw [if_pos (hc.mpr (Or.inl c4)), if_pos c4]
        · rw [if_neg c4]
          by_cases c5 : nI 1000 < cl
          · rw [if_pos (hc.mpr (Or.inr c5)), if_pos c5]
          · rw [if_neg (fun z => (hc.mp z).elim c4 c5), if_neg c5]
theorem Rel.ok_N {G T : Nat → Int64} {F : Nat → Int32} {n : Nat} {N M S C V : Nat → Int32} (h : Rel G T F n N M S C V) (st mv : Int32) : ga_okN F n st mv = mo_okN V n st mv := by
  have hm : ga_isMoves mv = 0 ↔ (mv < 0 ∨ nI 300 < mv) := rng_iff
  have hA : (if ga_isState st = 0 then 2 else if ga_isMoves mv = 0 then 2 else 0) = mo_okA st mv := by
    unfold mo_okA
    by_cases c1 : mo_isState st = 0
    · rw [if_pos ((st_iff st).mpr c1), if_pos c1]
    · rw [if_neg (fun z => c1 ((st_iff st).mp z)), if_neg c1]
      by_cases c2 : mv < 0
      · rw [if_pos (hm.mpr (Or.inl c2)), if_pos c2]
      · rw [if_neg c2]
        by_cases c3 : nI 300 < mv
        · rw [if_pos (hm.mpr (Or.inr c3)), if_pos c3]
        · rw [if_neg (fun z => (hm.mp z).elim c2 c3), if_neg c3]
  have hn := h.1
  unfold ga_okN mo_okN
  rw [hA]
  by_cases c0 : n = 0
  · rw [if_pos c0, if_pos (by rw [ga_takes, if_pos c0]; exact n0_eq)]
  · rw [if_neg c0]
    by_cases c6 : n = 640
    · rw [if_pos c6, if_pos (by rw [ga_takes, if_neg c0, if_neg (by omega)]; exact n0_eq)]
    · rw [if_neg c6]
      have e := (h.2.2.2 (n - 1) (by omega)).2.1
      have ht : ga_takes F n = 0 ↔ ¬ (V (n - 1) ≤ 0) ∧ ¬ (nI 6 ≤ V (n - 1)) := by
        rw [ga_takes, if_neg c0, if_pos (by omega), e]
        simp only [Int32.lt_iff_toInt_lt, Int32.le_iff_toInt_le, nI_toInt (show 1 < 2 ^ 31 by omega), nI_toInt (show 5 < 2 ^ 31 by omega), nI_toInt (show 6 < 2 ^ 31 by omega)]
        have z0 : (0 : Int32).toInt = 0 := rfl
        rw [z0]
        by_cases d1 : (V (n - 1)).toInt < ((1 : Nat) : Int)
        · rw [if_pos d1]; exact ⟨fun z => absurd z n1_ne, fun z => by omega⟩
        · rw [if_neg d1]
          by_cases d2 : (V (n - 1)).toInt ≤ ((5 : Nat) : Int)
          · rw [if_pos d2]; exact ⟨fun _ => by omega, fun _ => n0_eq⟩
          · rw [if_neg d2]; exact ⟨fun z => absurd z n1_ne, fun z => by omega⟩
      by_cases d1 : V (n - 1) ≤ 0
      · rw [if_neg (fun z => (ht.mp z).1 d1), if_pos d1]
      · rw [if_neg d1]
        by_cases d2 : nI 6 ≤ V (n - 1)
        · rw [if_neg (fun z => (ht.mp z).2 d2), if_pos d2]
        · rw [if_pos (ht.mpr ⟨d1, d2⟩), if_neg d2]
theorem ok_N_n {F : Nat → Int32} {n : Nat} {st mv : Int32} (h : ga_okN F n st mv = 0) : 0 < n ∧ n < 640 := by
  unfold ga_okN at h
  by_cases c : ga_takes F n = 0
  · rw [if_pos c] at h; omega
  · exact ga_takes_n c
theorem Rel.cl_N {G T : Nat → Int64} {F : Nat → Int32} {n : Nat} {N M S C V : Nat → Int32} (h : Rel G T F n N M S C V) (hn : 0 < n) (ir : Int32) : ga_clN F n ir = mo_clN C n ir := by
  unfold ga_clN mo_clN
  rw [(h.2.2.2 (n - 1) (by omega)).1]
theorem lt8_iff (w : Int32) : ¬ w < nI 8 ↔ nI 7 < w := by
  rw [Int32.lt_iff_toInt_lt, Int32.lt_iff_toInt_lt, nI_toInt (by omega), nI_toInt (by omega)]
  omega
theorem ok_O (n : Nat) (i w : Int32) : ga_okO n i w = mo_okO n i w := by
  unfold ga_okO mo_okO
  by_cases c1 : ga_isPos n i = 0
  · rw [if_pos c1, if_pos c1]
  · rw [if_neg c1, if_neg c1]
    by_cases c2 : w < 0
    · rw [if_pos c2, if_pos c2]
    · rw [if_neg c2, if_neg c2]
      by_cases c3 : w < nI 8
      · rw [if_pos c3, if_neg (fun z => (lt8_iff w).mpr z c3)]
      · rw [if_neg c3, if_pos ((lt8_iff w).mp c3)]
theorem le4_iff (w : Int32) : nI 4 ≤ w ↔ nI 3 < w := by
  rw [Int32.le_iff_toInt_le, Int32.lt_iff_toInt_lt, nI_toInt (by omega), nI_toInt (by omega)]
  omega
theorem part_iff (q : Int32) : ga_isPart q = 0 ↔ (q < 0 ∨ nI 3 < q) := by
  unfold ga_isPart
  by_cases c1 : q < 0
  · rw [if_pos c1]; exact ⟨fun _ => Or.inl c1, fun _ => n0_eq⟩
  · rw [if_neg c1]
    by_cases c2 : nI 4 ≤ q
    · rw [if_pos c2]; exact ⟨fun _ => Or.inr ((le4_iff q).mp c2), fun _ => n0_eq⟩
    · rw [if_neg c2]; exact ⟨fun z => absurd z n1_ne, fun z => z.elim (fun w => absurd w c1) (fun w => absurd ((le4_iff q).mpr w) c2)⟩
theorem ok_M (n : Nat) (i q : Int32) : ga_okM n i q = mo_okM n i q := by
  unfold ga_okM mo_okM
  by_cases c1 : ga_isPos n i = 0
  · rw [if_pos c1, if_pos c1]
  · rw [if_neg c1, if_neg c1]
    by_cases c2 : q < 0
    · rw [if_pos c2, if_pos ((part_iff q).mpr (Or.inl c2))]
    · rw [if_neg c2]
      by_cases c3 : nI 3 < q
      · rw [if_pos c3, if_pos ((part_iff q).mpr (Or.inr c3))]
      · rw [if_neg c3, if_neg (fun z => ((part_iff q).mp z).elim c2 c3)]
theorem ok_T (q : Int32) : ga_okT q = mo_okT q := by
  unfold ga_okT mo_okT
  by_cases c : mo_isState q = 0
  · rw [if_pos c, if_pos ((st_iff q).mpr c)]
  · rw [if_neg c, if_neg (fun z => c ((st_iff q).mp z))]
