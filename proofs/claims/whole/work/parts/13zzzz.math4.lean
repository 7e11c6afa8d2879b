/-! the answers that only read, and squares -/
theorem Rel.ver {G T : Nat → Int64} {F : Nat → Int32} {n : Nat} {N M S C V : Nat → Int32} (h : Rel G T F n N M S C V) : (if n = 0 then (-1 : Int32) else F ((n - 1) * 8 + 2)) = if n = 0 then -1 else V (n - 1) := by
  by_cases c : n = 0
  · rw [if_pos c, if_pos c]
  · rw [if_neg c, if_neg c, (h.2.2.2 (n - 1) (by omega)).2.1]
theorem Rel.of_eq {G T : Nat → Int64} {F : Nat → Int32} {n : Nat} {N M S C V : Nat → Int32} (h : Rel G T F n N M S C V) {i w : Int32} (hok : ga_okO n i w = 0) : F (i.toNatClampNeg * 8 + w.toNatClampNeg) = mo_of S M C V i.toNatClampNeg w := by
  have hn := h.1
  unfold ga_okO at hok
  by_cases c1 : ga_isPos n i = 0
  · rw [if_pos c1] at hok; omega
  · rw [if_neg c1] at hok
    by_cases c2 : w < 0
    · rw [if_pos c2] at hok; omega
    · rw [if_neg c2] at hok
      by_cases c3 : w < nI 8
      · obtain ⟨a, ha, rfl⟩ := ga_isPos_nat hn c1
        obtain ⟨k, hk, rfl⟩ := nI_of c2
        have hk8 : k < 8 := (nI_ltI hk (by omega)).mp c3
        obtain ⟨a1, a2, a5, a0, a3, a4, a6, a7⟩ := h.2.2.2 a ha
        rw [nI_clamp (by omega), nI_clamp (by omega)]
        have ne : ∀ {x y : Nat}, x < 8 → y < 8 → x ≠ y → ¬ nI x = nI y := fun hx hy hxy z => hxy ((nI_eq (by omega) (by omega)).mp z)
        rcases (show k = 0 ∨ k = 1 ∨ k = 2 ∨ k = 3 ∨ k = 4 ∨ k = 5 ∨ k = 6 ∨ k = 7 by omega) with rfl | rfl | rfl | rfl | rfl | rfl | rfl | rfl
        · rw [mo_of, if_pos rfl]; exact a0
        · rw [mo_of, if_neg (ne (by omega) (by omega) (by omega)), if_pos rfl]; exact a1
        · rw [mo_of, if_neg (ne (by omega) (by omega) (by omega)), if_neg (ne (by omega) (by omega) (by omega)), if_pos rfl]; exact a2
        · rw [mo_of, if_neg (ne (by omega) (by omega) (by omega)), if_neg (ne (by omega) (by omega) (by omega)), if_neg (ne (by omega) (by omega) (by omega)), if_pos rfl]; exact a3
        · rw [mo_of, if_neg (ne (by omega) (by omega) (by omega)), if_neg (ne (by omega) (by omega) (by omega)), if_neg (ne (by omega) (by omega) (by omega)), if_neg (ne (by omega) (by omega) (by omega)), if_pos rfl]; exact a4
        · rw [mo_of, if_neg (ne (by omega) (by omega) (by omega)), if_neg (ne (by omega) (by omega) (by omega)), if_neg (ne (by omega) (by omega) (by omega)), if_neg (ne (by omega) (by omega) (by omega)), if_neg (ne (by omega) (by omega) (by omega)), if_pos rfl]; exact a5
        · rw [mo_of, if_neg (ne (by omega) (by omega) (by omega)), if_neg (ne (by omega) (by omega) (by omega)), if_neg (ne (by omega) (by omega) (by omega)), if_neg (ne (by omega) (by omega) (by omega)), if_neg (ne (by omega) (by omega) (by omega)), if_neg (ne (by omega) (by omega) (by omega)), if_pos rfl]; exact a6
        · rw [mo_of, if_neg (ne (by omega) (by omega) (by omega)), if_neg (ne (by omega) (by omega) (by omega)), if_neg (ne (by omega) (by omega) (by omega)), if_neg (ne (by omega) (by omega) (by omega)), if_neg (ne (by omega) (by omega) (by omega)), if_neg (ne (by omega) (by omega) (by omega)), if_neg (ne (by omega) (by omega) (by omega))]; exact a7
      · rw [if_neg c3] at hok; omega
/-- sixteen men, put together again -/
theorem mn_eq {M : Nat → Int32} {a b : Nat} {g : Int64} (hM : ∀ k, k < 16 → M ((64 * a + 16 * b) + k) = nI (nib g k)) : ∀ k, k ≤ 16 → mo_mn M a b k = lN (uN g / 2 ^ (64 - 4 * k))
  | 0, _ => by rw [nib_top]; rfl
  | k + 1, hk => by
    have hnb := nib_lt g k
    have hup := nib_up g (k := k) (by omega)
    have hlt : uN g / 2 ^ (64 - 4 * (k + 1)) < 2 ^ 64 := Nat.lt_of_le_of_lt (Nat.div_le_self _ _) (by have := uN_lt g; omega)
    rw [mo_mn, mn_eq hM k (by omega), hM k (by omega), wb_shl _ (by omega), nI_l (n := nib g k) (by omega), hup]
    rw [hup] at hlt
    rw [show (2 : Nat) ^ 4 = 16 by rfl, g_or (k := 4) (p := 16) (by rfl) (by omega) (by omega), Nat.mul_comm]
theorem Rel.men_eq {G T : Nat → Int64} {F : Nat → Int32} {n : Nat} {N M S C V : Nat → Int32} (h : Rel G T F n N M S C V) {i q : Int32} (hok : ga_okM n i q = 0) : T (i.toNatClampNeg * 4 + q.toNatClampNeg) = mo_mn M i.toNatClampNeg q.toNatClampNeg 16 := by
  have hn := h.1
  unfold ga_okM at hok
  by_cases c1 : ga_isPos n i = 0
  · rw [if_pos c1] at hok; omega
  · rw [if_neg c1] at hok
    by_cases c2 : ga_isPart q = 0
    · rw [if_pos c2] at hok; omega
    · obtain ⟨a, ha, rfl⟩ := ga_isPos_nat hn c1
      obtain ⟨b, hb, rfl⟩ := ga_isPart_nat c2
      rw [nI_clamp (by omega), nI_clamp (by omega)]
      rw [mn_eq (g := T (a * 4 + b)) (fun k hk => by
        have e := h.2.2.1 a ha (16 * b + k) (by omega)
        rw [show (16 * b + k) / 16 = b by omega, show (16 * b + k) % 16 = k by omega] at e
        rw [← e, Nat.add_assoc]) 16 (Nat.le_refl 16)]
      rw [show 64 - 4 * 16 = 0 by omega, Nat.pow_zero, Nat.div_one]
      apply uN_inj
      have e2 : uN (lN (uN (T (a * 4 + b)))) = uN (T (a * 4 + b)) % 2 ^ 64 := rfl
      rw [e2]
      have := uN_lt (T (a * 4 + b))
      omega
theorem be_none {S M : Nat → Int32} {i : Nat} : ∀ k, k ≤ 640 → (mo_be S M i k = -1 ↔ mo_cnt S M i k = 0)
  | 0, _ => ⟨fun _ => rfl, fun _ => rfl⟩
  | k + 1, hk => by
    have ih := be_none (S := S) (M := M) (i := i) k (by omega)
    by_cases c : mo_sm S M i k 64 = 0
    · rw [mo_be, mo_cnt, if_pos c, if_pos c, Nat.add_zero]; exact ih
    · rw [mo_be, mo_cnt, if_neg c, if_neg c]
      constructor
      · intro z
        have := congrArg Int32.toInt z
        rw [nI_toInt (by omega)] at this
        have h1 : (-1 : Int32).toInt = -1 := by decide
        omega
      · intro z; omega
theorem cnt_self {S M : Nat → Int32} {i : Nat} : mo_cnt S M i (i + 1) = mo_cnt S M i i + 1 := by
  rw [mo_cnt, if_neg (fun z => (mo_sm_iff _ _ _ _ _).mp z ⟨rfl, fun _ _ => rfl⟩)]
theorem Rel.look_eq {G T : Nat → Int64} {F : Nat → Int32} {n : Nat} {N M S C V : Nat → Int32} (h : Rel G T F n N M S C V) (q : Int32) : ga_look F n q = mo_look S M C n q := by
  have hn := h.1
  have d : ∀ k, k ≤ n → ga_diff F k = mo_df S M k := by
    intro k
    induction k with
    | zero => intro _; rfl
    | succ k ih =>
      intro hk
      obtain ⟨-, -, -, -, -, a4, -⟩ := h.2.2.2 k (by omega)
      rw [ga_diff, mo_df, ih (by omega), a4]
      have e := be_none (S := S) (M := M) (i := k) k (by omega)
      by_cases c : mo_be S M k k = -1
      · rw [if_pos c, if_pos (by rw [cnt_self, e.mp c])]
      · rw [if_neg c, if_neg (fun z => c (e.mpr (by rw [cnt_self] at z; omega)))]
  have g0 : ∀ k, k ≤ n → ga_great F 0 k = nI (mo_gc S M k) := by
    intro k
    induction k with
    | zero => intro _; rfl
    | succ k ih =>
      intro hk
      obtain ⟨-, -, -, a0, -⟩ := h.2.2.2 k (by omega)
      have l1 := mo_gc_le S M k
      have l2 := mo_cnt_le S M k (k + 1)
      rw [ga_great, mo_gc, ih (by omega), a0]
      by_cases c : mo_cnt S M k (k + 1) ≤ mo_gc S M k
      · rw [if_neg (nI_nlt c (by omega)), if_pos c]
      · rw [if_pos (nI_lt (by omega) (by omega)), if_neg c]
  have g1 : ∀ k, k ≤ n → ga_great F 1 k = mo_gl C k := by
    intro k
    induction k with
    | zero => intro _; rfl
    | succ k ih =>
      intro hk
      obtain ⟨a1, -⟩ := h.2.2.2 k (by omega)
      rw [ga_great, mo_gl, ih (by omega), a1]
      by_cases c : C k ≤ mo_gl C k
      · rw [if_neg (by rw [Int32.lt_iff_toInt_lt]; rw [Int32.le_iff_toInt_le] at c; omega), if_pos c]
      · rw [if_pos (by rw [Int32.lt_iff_toInt_lt]; rw [Int32.le_iff_toInt_le] at c; omega), if_neg c]
  unfold ga_look mo_look
  rw [n0_eq, d n (Nat.le_refl n), g0 n (Nat.le_refl n), g1 n (Nat.le_refl n)]
theorem Rel.sq {G T : Nat → Int64} {F : Nat → Int32} {n : Nat} {N M S C V : Nat → Int32} (h : Rel G T F n N M S C V) (q : Int32) (g : Int64) : ga_sqR q g = mo_sqR q g ∧ Rel (ga_sqG G q g) T F n (mo_sqW N q g) M S C V := by
  have hp := part_iff q
  unfold ga_sqR mo_sqR ga_sqG mo_sqW
  by_cases c1 : q < 0
  · rw [if_pos (hp.mpr (Or.inl c1)), if_pos c1, if_pos (hp.mpr (Or.inl c1)), if_pos c1]; exact ⟨rfl, h⟩
  · by_cases c2 : nI 3 < q
    · have c3 : ¬ q ≤ nI 3 := by rw [Int32.le_iff_toInt_le]; rw [Int32.lt_iff_toInt_lt] at c2; omega
      rw [if_pos (hp.mpr (Or.inr c2)), if_neg c1, if_neg c3, if_pos (hp.mpr (Or.inr c2)), if_neg c1, if_neg c3]; exact ⟨rfl, h⟩
    · have c3 : q ≤ nI 3 := by rw [Int32.le_iff_toInt_le]; rw [Int32.lt_iff_toInt_lt] at c2; omega
      have hq : ¬ ga_isPart q = 0 := fun z => (hp.mp z).elim c1 c2
      rw [if_neg hq, if_neg c1, if_pos c3, if_neg hq, if_neg c1, if_pos c3]
      by_cases c4 : ∀ k, k < 16 → nib g k ≤ 12
      · have c5 := (men_ok g).mpr c4
        have c6 : ¬ ga_areMen g = 0 := by rw [ga_areMen, if_pos c4]; exact n1_ne
        rw [if_neg c6, if_pos c5, if_neg c6, if_pos c5]
        refine ⟨rfl, h.1, fun k hk => ?_, h.2.2⟩
        obtain ⟨a, ha, rfl⟩ := ga_isPart_nat hq
        rw [nI_clamp (by omega)]
        unfold mo_sqN sqm
        by_cases e : k / 16 = a
        · rw [if_pos (by omega), e, show vp_updL G a g a = g from pk_uLs, show k - 16 * a = k % 16 by omega]
        · rw [if_neg (by omega), show vp_updL G a g (k / 16) = G (k / 16) from pk_uLn e]
          exact h.2.1 k hk
      · have c5 : ¬ ∀ k, k < 16 → uN g / 2 ^ (4 * k) % 16 ≤ 12 := fun z => c4 ((men_ok g).mp z)
        have c6 : ga_areMen g = 0 := by rw [ga_areMen, if_neg c4]; exact n0_eq
        rw [if_pos c6, if_neg c5, if_pos c6, if_neg c5]
        exact ⟨rfl, h⟩
