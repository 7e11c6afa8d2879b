/-! a position is appended: the reference's tables behind it -/
theorem upd_s {f : Nat → Int32} {k : Nat} {x : Int32} : upd f k x k = x := pk_us
theorem upd_n {f : Nat → Int32} {k j : Nat} {x : Int32} (h : j ≠ k) : upd f k x j = f j := pk_un h
theorem adM_new (M N : Nat → Int32) (n : Nat) {q : Nat} (hq : q < 64) : mo_adM M N n 64 (64 * n + q) = N q := by
  unfold mo_adM
  rw [if_pos (by omega), show 64 * n + q - 64 * n = q by omega]
theorem adM_old (M N : Nat → Int32) {n i : Nat} (hi : i < n) {q : Nat} (hq : q < 64) : mo_adM M N n 64 (64 * i + q) = M (64 * i + q) := by
  unfold mo_adM
  rw [if_neg (by omega)]
/-- the reference's words at i, over tables that agree on the positions up to i -/
theorem sm_congr {S S' M M' : Nat → Int32} {i j : Nat} (h1 : S' i = S i) (h2 : S' j = S j) (h3 : ∀ q, q < 64 → M' (64 * i + q) = M (64 * i + q)) (h4 : ∀ q, q < 64 → M' (64 * j + q) = M (64 * j + q)) : ∀ k, k ≤ 64 → mo_sm S' M' i j k = mo_sm S M i j k
  | 0, _ => by unfold mo_sm; rw [h1, h2]
  | k + 1, hk => by unfold mo_sm; rw [sm_congr h1 h2 h3 h4 k (by omega), h3 k (by omega), h4 k (by omega)]
theorem cnt_congr {S S' M M' : Nat → Int32} {i : Nat} : ∀ k, (∀ j, j < k → mo_sm S' M' i j 64 = mo_sm S M i j 64) → mo_cnt S' M' i k = mo_cnt S M i k
  | 0, _ => rfl
  | k + 1, h => by rw [mo_cnt, mo_cnt, cnt_congr k (fun j hj => h j (by omega)), h k (by omega)]
theorem fi_congr {S S' M M' : Nat → Int32} {i : Nat} : ∀ k, (∀ j, j < k → mo_sm S' M' i j 64 = mo_sm S M i j 64) → mo_fi S' M' i k = mo_fi S M i k
  | 0, _ => rfl
  | k + 1, h => by rw [mo_fi, mo_fi, fi_congr k (fun j hj => h j (by omega)), h k (by omega)]
theorem be_congr {S S' M M' : Nat → Int32} {i : Nat} : ∀ k, (∀ j, j < k → mo_sm S' M' i j 64 = mo_sm S M i j 64) → mo_be S' M' i k = mo_be S M i k
  | 0, _ => rfl
  | k + 1, h => by rw [mo_be, mo_be, be_congr k (fun j hj => h j (by omega)), h k (by omega)]
theorem hm_congr {M M' : Nat → Int32} {i : Nat} (man : Int32) : ∀ k, (∀ q, q < k → M' (64 * i + q) = M (64 * i + q)) → mo_hm M' i man k = mo_hm M i man k
  | 0, _ => rfl
  | k + 1, h => by rw [mo_hm, mo_hm, hm_congr man k (fun j hj => h j (by omega)), h k (by omega)]
theorem co_congr {M M' : Nat → Int32} {i : Nat} (man : Int32) : ∀ k, (∀ q, q < k → M' (64 * i + q) = M (64 * i + q)) → mo_co M' i man k = mo_co M i man k
  | 0, _ => rfl
  | k + 1, h => by rw [mo_co, mo_co, co_congr man k (fun j hj => h j (by omega)), h k (by omega)]
theorem dead_congr {M M' : Nat → Int32} {i : Nat} (h : ∀ q, q < 64 → M' (64 * i + q) = M (64 * i + q)) : mo_dead M' i = mo_dead M i := by
  unfold mo_dead
  simp only [hm_congr (M := M) (M' := M') (i := i) _ 64 h, co_congr (M := M) (M' := M') (i := i) _ 64 h]
/-! the new position, against those before it -/
section APP
variable {S M N : Nat → Int32} {n : Nat} {st : Int32}
theorem sm_new {j : Nat} (hj : j < n) : mo_sm (upd S n st) (mo_adM M N n 64) n j 64 = 0 ↔ ¬ Pos S M N st j := by
  rw [mo_sm_iff, upd_s, upd_n (show j ≠ n by omega)]
  unfold Pos
  constructor
  · intro z w; exact z ⟨w.1.symm, fun q hq => by rw [adM_new M N n hq, adM_old M N hj hq, w.2 q hq]⟩
  · intro z w; exact z ⟨w.1.symm, fun q hq => by rw [← adM_old M N hj hq, ← w.2 q hq, adM_new M N n hq]⟩
theorem sm_self : ¬ mo_sm (upd S n st) (mo_adM M N n 64) n n 64 = 0 := fun z => (mo_sm_iff _ _ _ _ _).mp z ⟨rfl, fun _ _ => rfl⟩
theorem cnt_new : ∀ k, k ≤ n → mo_cnt (upd S n st) (mo_adM M N n 64) n k = mo_tm S M N st k
  | 0, _ => rfl
  | k + 1, hk => by
    rw [mo_cnt, mo_tm, cnt_new k (by omega)]
    by_cases c1 : mo_nx S M N k st 64 = 0
    · rw [if_pos c1, if_pos ((sm_new (by omega)).mpr ((mo_nx_iff S M N k st 64).mp c1))]
    · rw [if_neg c1, if_neg (fun z => c1 ((mo_nx_iff S M N k st 64).mpr ((sm_new (by omega)).mp z)))]
theorem cnt_new1 : mo_cnt (upd S n st) (mo_adM M N n 64) n (n + 1) = mo_tm S M N st n + 1 := by
  rw [mo_cnt, cnt_new n (Nat.le_refl n), if_neg sm_self]
/-- the least of the positions that are the given one -/
theorem fi_spec {S M : Nat → Int32} {i : Nat} {P : Nat → Prop} : ∀ k, k ≤ i → (∀ j, j < k → (mo_sm S M i j 64 = 0 ↔ ¬ P j)) → (mo_fi S M i k = i ∧ ∀ j, j < k → ¬ P j) ∨ (mo_fi S M i k < k ∧ P (mo_fi S M i k) ∧ ∀ j, j < mo_fi S M i k → ¬ P j)
  | 0, _, _ => Or.inl ⟨rfl, fun j hj => absurd hj (by omega)⟩
  | k + 1, hk, h => by
    have ih := fi_spec k (by omega) (fun j hj => h j (by omega))
    by_cases c1 : mo_sm S M i k 64 = 0
    · have hnk := (h k (by omega)).mp c1
      rw [mo_fi, if_pos c1]
      rcases ih with ⟨e, z⟩ | ⟨e, z1, z2⟩
      · exact Or.inl ⟨e, fun j hj => by
          by_cases hjk : j = k
          · rw [hjk]; exact hnk
          · exact z j (by omega)⟩
      · exact Or.inr ⟨by omega, z1, z2⟩
    · have hpk : P k := Classical.byContradiction (fun z => c1 ((h k (by omega)).mpr z))
      rw [mo_fi, if_neg c1]
      rcases ih with ⟨e, z⟩ | ⟨e, z1, z2⟩
      · rw [e, if_neg (by omega)]
        exact Or.inr ⟨by omega, hpk, z⟩
      · rw [if_pos (by omega)]
        exact Or.inr ⟨by omega, z1, z2⟩
end APP
theorem Rel.be_new {G T : Nat → Int64} {F : Nat → Int32} {n : Nat} {N M S C V : Nat → Int32} (h : Rel G T F n N M S C V) (st : Int32) : ∀ k, k ≤ n → mo_be (upd S n st) (mo_adM M N n 64) n k = ga_last G T F st k
  | 0, _ => rfl
  | k + 1, hk => by
    have ih := Rel.be_new h st k (by omega)
    have hp := h.pos st (j := k) (by omega)
    have hs := sm_new (S := S) (M := M) (N := N) (n := n) (st := st) (j := k) (by omega)
    rw [mo_be, ih]
    by_cases c1 : F (k * 8 + 5) = st
    · by_cases c2 : ga_has G T k = 0
      · rw [ga_last, if_pos c1, if_pos c2, if_pos (hs.mpr (fun z => (hp.mpr z).2 c2))]
      · rw [ga_last, if_pos c1, if_neg c2, if_neg (fun z => hs.mp z (hp.mp ⟨c1, c2⟩))]
    · rw [ga_last, if_neg c1, if_pos (hs.mpr (fun z => c1 (hp.mpr z).1))]
theorem Rel.fi_new {G T : Nat → Int64} {F : Nat → Int32} {n : Nat} {N M S C V : Nat → Int32} (h : Rel G T F n N M S C V) (st mv ck cl : Int32) : ap_fi G T F n st mv ck cl = nI (mo_fi (upd S n st) (mo_adM M N n 64) n n) := by
  have hn := h.1
  have new := fi_spec (S := upd S n st) (M := mo_adM M N n 64) (i := n) (P := Pos S M N st) n (Nat.le_refl n) (fun j hj => sm_new hj)
  unfold ap_fi ap_be
  rcases h.last st n (Nat.le_refl n) with ⟨e, hno⟩ | ⟨a, ha, e, hp, hno⟩
  · rw [if_pos e]
    rcases new with ⟨e2, -⟩ | ⟨e2, z1, -⟩
    · rw [e2]
    · exact absurd z1 (hno _ e2)
  · rw [e, if_neg (by
      intro z
      have := congrArg Int32.toInt z
      rw [nI_toInt (by omega)] at this
      have h1 : (-1 : Int32).toInt = -1 := by decide
      omega), nI_clamp (by omega)]
    have e3 : ap_F3 G T F n st mv ck cl (a * 8 + 3) = F (a * 8 + 3) := by
      unfold ap_F3
      rw [upd_n (by omega), upd_n (by omega), upd_n (by omega)]
    obtain ⟨-, -, -, -, e4, -⟩ := h.2.2.2 a ha
    rw [e3, e4]
    congr 1
    have old := fi_spec (S := S) (M := M) (i := a) (P := Pos S M N st) a (Nat.le_refl a) (fun j hj => by
      rw [mo_sm_iff, hp.1]
      unfold Pos
      constructor
      · intro z w; exact z ⟨w.1.symm, fun q hq => by rw [hp.2 q hq, w.2 q hq]⟩
      · intro z w; exact z ⟨w.1.symm, fun q hq => by rw [← w.2 q hq, hp.2 q hq]⟩)
    rcases new with ⟨-, z⟩ | ⟨e2, z1, z2⟩
    · exact absurd hp (z a ha)
    · rcases old with ⟨e5, w⟩ | ⟨e5, w1, w2⟩
      · rw [e5]
        rcases Nat.lt_trichotomy a (mo_fi (upd S n st) (mo_adM M N n 64) n n) with q | q | q
        · exact absurd hp (z2 a q)
        · exact q
        · exact absurd z1 (w _ q)
      · rcases Nat.lt_trichotomy (mo_fi S M a a) (mo_fi (upd S n st) (mo_adM M N n 64) n n) with q | q | q
        · exact absurd w1 (z2 _ q)
        · exact q
        · exact absurd z1 (w2 _ q)
/-! men counted: on the given squares, and on the position told -/
theorem cnt_hm {G : Nat → Int64} {M : Nat → Int32} {i : Nat} (man : Int32) : ∀ k, (∀ q, q < k → M (64 * i + q) = nI (sqm G q)) → ga_cnt G man k = mo_hm M i man k
  | 0, _ => rfl
  | k + 1, h => by rw [ga_cnt, mo_hm, cnt_hm man k (fun q hq => h q (by omega)), h k (by omega)]
theorem hm_three {M : Nat → Int32} {i : Nat} : ∀ k, mo_hm M i (nI 0) k + mo_hm M i (nI 6) k + mo_hm M i (nI 12) k ≤ k
  | 0 => by unfold mo_hm; omega
  | k + 1 => by
    have ih := hm_three (M := M) (i := i) k
    unfold mo_hm
    by_cases c0 : M (64 * i + k) = nI 0
    · have c6 : ¬ M (64 * i + k) = nI 6 := by rw [c0]; decide
      have c12 : ¬ M (64 * i + k) = nI 12 := by rw [c0]; decide
      rw [if_pos c0, if_neg c6, if_neg c12]; omega
    · rw [if_neg c0]
      by_cases c6 : M (64 * i + k) = nI 6
      · have c12 : ¬ M (64 * i + k) = nI 12 := by rw [c6]; decide
        rw [if_pos c6, if_neg c12]; omega
      · rw [if_neg c6]
        by_cases c12 : M (64 * i + k) = nI 12
        · rw [if_pos c12]; omega
        · rw [if_neg c12]; omega
theorem cnt_zero {G : Nat → Int64} {man : Int32} : ∀ k, ga_cnt G man k = 0 → ∀ q, q < k → ¬ nI (sqm G q) = man
  | 0, _ => fun q hq => absurd hq (by omega)
  | k + 1, h => by
    unfold ga_cnt at h
    intro q hq
    by_cases c : nI (sqm G k) = man
    · rw [if_pos c] at h; omega
    · rw [if_neg c] at h
      by_cases hqk : q = k
      · rw [hqk]; exact c
      · exact cnt_zero k (by omega) q (by omega)
theorem cnt_one {G : Nat → Int64} {man : Int32} : ∀ k, ga_cnt G man k = 1 → ∃ u, u < k ∧ nI (sqm G u) = man ∧ ∀ q, q < k → q ≠ u → ¬ nI (sqm G q) = man
  | 0, h => by unfold ga_cnt at h; omega
  | k + 1, h => by
    unfold ga_cnt at h
    by_cases c : nI (sqm G k) = man
    · rw [if_pos c] at h
      exact ⟨k, by omega, c, fun q h1 h2 => cnt_zero k (by omega) q (by omega)⟩
    · rw [if_neg c] at h
      obtain ⟨u, h1, h2, h3⟩ := cnt_one k (by omega)
      exact ⟨u, by omega, h2, fun q g1 g2 => by
        by_cases hqk : q = k
        · rw [hqk]; exact c
        · exact h3 q (by omega) g2⟩
theorem first_at {G : Nat → Int64} {man : Int32} {u : Nat} (hu : u < 64) (h2 : nI (sqm G u) = man) (h3 : ∀ q, q < 64 → q ≠ u → ¬ nI (sqm G q) = man) : ∀ k, k ≤ 64 → 64 - k ≤ u → ga_first G man k = nI u
  | 0, _, h => absurd h (by omega)
  | k + 1, hk, h => by
    rw [ga_first]
    by_cases e : 63 - k = u
    · rw [e, if_pos h2]
    · rw [if_neg (h3 (63 - k) (by omega) e)]
      exact first_at hu h2 h3 k (by omega) (by omega)
theorem co_at {G : Nat → Int64} {M : Nat → Int32} {i : Nat} {man : Int32} {u : Nat} (hu : u < 64) (hM : ∀ q, q < 64 → M (64 * i + q) = nI (sqm G q)) (h2 : nI (sqm G u) = man) (h3 : ∀ q, q < 64 → q ≠ u → ¬ nI (sqm G q) = man) : ∀ k, k ≤ 64 → u < k → mo_co M i man k = (u % 8 + u / 8) % 2
  | 0, _, h => absurd h (by omega)
  | k + 1, hk, h => by
    rw [mo_co, hM k (by omega)]
    by_cases e : k = u
    · rw [e, if_pos h2]
    · rw [if_neg (h3 k (by omega) e)]
      exact co_at hu hM h2 h3 k (by omega) (by omega)
theorem ga_col_n {u : Nat} (hu : u < 64) : ga_col (nI u) = nI ((u % 8 + u / 8) % 2) := by
  unfold ga_col
  rw [pk_andN (by omega) (m := nI 7) 3 (by decide), pk_shrN (by omega) (nI 3 &&& 31) 3 (by decide), nI_add, pk_andN (by omega) (m := nI 1) 1 (by decide)]
theorem col_eq {G : Nat → Int64} {M : Nat → Int32} {i : Nat} (hM : ∀ q, q < 64 → M (64 * i + q) = nI (sqm G q)) {m1 m2 : Int32} (h1 : ga_cnt G m1 64 = 1) (h2 : ga_cnt G m2 64 = 1) : ga_col (ga_first G m1 64) = ga_col (ga_first G m2 64) ↔ mo_co M i m1 64 = mo_co M i m2 64 := by
  obtain ⟨u, a1, a2, a3⟩ := cnt_one 64 h1
  obtain ⟨w, b1, b2, b3⟩ := cnt_one 64 h2
  rw [first_at a1 a2 a3 64 (by omega) (by omega), first_at b1 b2 b3 64 (by omega) (by omega), co_at a1 hM a2 a3 64 (by omega) (by omega), co_at b1 hM b2 b3 64 (by omega) (by omega), ga_col_n a1, ga_col_n b1]
  exact nI_eq (by omega) (by omega)
theorem dead_eq {G : Nat → Int64} {M : Nat → Int32} {i : Nat} (hM : ∀ q, q < 64 → M (64 * i + q) = nI (sqm G q)) : ga_dead G (nI (ap_mn G)) = mo_dead M i := by
  have e : ∀ man, ga_cnt G man 64 = mo_hm M i man 64 := fun man => cnt_hm man 64 hM
  have h3 := hm_three (M := M) (i := i) 64
  have hmn : ap_mn G = 64 - mo_hm M i (nI 0) 64 := by unfold ap_mn; rw [e]
  unfold ga_dead mo_dead
  rw [hmn]
  by_cases c6 : mo_hm M i (nI 6) 64 = 1
  · rw [e (nI 6), if_pos c6, if_pos c6]
    by_cases c12 : mo_hm M i (nI 12) 64 = 1
    · rw [e (nI 12), if_pos c12, if_pos c12]
      generalize hz : 64 - mo_hm M i (nI 0) 64 = z
      have hz2 : 2 ≤ z := by omega
      have hz64 : z ≤ 64 := by omega
      by_cases z2 : z = 2
      · rw [if_pos (by rw [z2]), if_neg (by omega), if_pos z2]
      · rw [if_neg (fun w => z2 ((nI_eq (by omega) (by omega)).mp w))]
        by_cases z3 : z = 3
        · rw [if_pos (by rw [z3]), if_neg (show ¬ 4 ≤ z by omega), if_neg z2, e (nI 3), e (nI 9), e (nI 2), e (nI 8)]
          by_cases q : mo_hm M i (nI 3) 64 + mo_hm M i (nI 9) 64 + mo_hm M i (nI 2) 64 + mo_hm M i (nI 8) 64 = 1
          · rw [if_pos q, if_pos (by omega)]
          · rw [if_neg q, if_neg (by omega)]
        · rw [if_neg (fun w => z3 ((nI_eq (by omega) (by omega)).mp w)), if_pos (show 4 ≤ z by omega)]
          by_cases z4 : z = 4
          · rw [if_pos (by rw [z4]), if_pos z4]
            by_cases c3 : mo_hm M i (nI 3) 64 = 1
            · by_cases c9 : mo_hm M i (nI 9) 64 = 1
              · rw [e (nI 3), e (nI 9), if_pos c3, if_pos c3, if_pos c9, if_pos c9]
                have hc := col_eq hM (m1 := nI 3) (m2 := nI 9) (by rw [e]; exact c3) (by rw [e]; exact c9)
                by_cases q : mo_co M i (nI 3) 64 = mo_co M i (nI 9) 64
                · rw [if_pos q, if_pos (hc.mpr q)]
                · rw [if_neg q, if_neg (fun w => q (hc.mp w))]
              · rw [e (nI 3), e (nI 9), if_pos c3, if_pos c3, if_neg c9, if_neg c9]
            · rw [e (nI 3), if_neg c3, if_neg c3]
          · rw [if_neg (fun w => z4 ((nI_eq (by omega) (by omega)).mp w)), if_neg z4]
    · rw [e (nI 12), if_neg c12, if_neg c12]
  · rw [e (nI 6), if_neg c6, if_neg c6]
