/-! THE TWO STATES, AND THAT THEY STAY TIED: no machine here -/
theorem n1_ne : ¬ nI 1 = 0 := by decide
theorem n0_eq : nI 0 = 0 := by decide
theorem nI_inj16 {a b : Nat} (ha : a < 16) (hb : b < 16) : nI a = nI b ↔ a = b := nI_eq (by omega) (by omega)
/-! a long and its sixteen men -/
theorem nib_step (a s : Nat) : a / 2 ^ s = 16 * (a / 2 ^ (s + 4)) + a / 2 ^ s % 16 := by
  have h := Nat.div_add_mod (a / 2 ^ s) 16
  rw [Nat.div_div_eq_div_mul, show 2 ^ s * 16 = 2 ^ (s + 4) by rw [Nat.pow_add]] at h
  exact h.symm
theorem nib_up (g : Int64) {k : Nat} (hk : k < 16) : uN g / 2 ^ (64 - 4 * (k + 1)) = 16 * (uN g / 2 ^ (64 - 4 * k)) + nib g k := by
  have h := nib_step (uN g) (60 - 4 * k)
  rw [show 60 - 4 * k + 4 = 64 - 4 * k by omega] at h
  rw [show 64 - 4 * (k + 1) = 60 - 4 * k by omega]
  exact h
theorem nib_top (g : Int64) : uN g / 2 ^ (64 - 4 * 0) = 0 := by
  rw [show 64 - 4 * 0 = 64 by omega]
  have := uN_lt g
  exact Nat.div_eq_of_lt (by omega)
theorem nib_ext {g h : Int64} (e : ∀ k, k < 16 → nib g k = nib h k) : g = h := by
  have key : ∀ k, k ≤ 16 → uN g / 2 ^ (64 - 4 * k) = uN h / 2 ^ (64 - 4 * k) := by
    intro k
    induction k with
    | zero => intro _; rw [nib_top, nib_top]
    | succ k ih =>
      intro hk
      rw [nib_up g (by omega), nib_up h (by omega), ih (by omega), e k (by omega)]
  have h16 := key 16 (Nat.le_refl 16)
  rw [show 64 - 4 * 16 = 0 by omega, Nat.pow_zero, Nat.div_one, Nat.div_one] at h16
  exact uN_inj h16
/-- all men are at most 12, from the low end or from the high end -/
theorem men_ok (g : Int64) : (∀ k, k < 16 → uN g / 2 ^ (4 * k) % 16 ≤ 12) ↔ ∀ k, k < 16 → nib g k ≤ 12 := by
  constructor
  · intro h k hk
    have := h (15 - k) (by omega)
    rw [show 4 * (15 - k) = 60 - 4 * k by omega] at this
    exact this
  · intro h k hk
    have := h (15 - k) (by omega)
    unfold nib at this
    rw [show 60 - 4 * (15 - k) = 4 * k by omega] at this
    exact this
/-! what the reference's loops say -/
theorem mo_sm_iff (S M : Nat → Int32) (i j : Nat) : ∀ k, mo_sm S M i j k = 0 ↔ ¬ (S i = S j ∧ ∀ q, q < k → M (64 * i + q) = M (64 * j + q))
  | 0 => by
    unfold mo_sm
    by_cases h : S i = S j
    · rw [if_pos h]; exact ⟨fun z => absurd z n1_ne, fun z => absurd ⟨h, fun q hq => absurd hq (by omega)⟩ z⟩
    · rw [if_neg h]; exact ⟨fun _ z => h z.1, fun _ => n0_eq⟩
  | k + 1 => by
    have ih := mo_sm_iff S M i j k
    unfold mo_sm
    by_cases h : mo_sm S M i j k = 0
    · rw [if_pos h]
      exact ⟨fun _ z => ih.mp h ⟨z.1, fun q hq => z.2 q (by omega)⟩, fun _ => n0_eq⟩
    · rw [if_neg h]
      have h2 : S i = S j ∧ ∀ q, q < k → M (64 * i + q) = M (64 * j + q) := Classical.byContradiction (fun z => h (ih.mpr z))
      by_cases h3 : M (64 * i + k) = M (64 * j + k)
      · rw [if_pos h3]
        refine ⟨fun z => absurd z n1_ne, fun z => absurd ⟨h2.1, fun q hq => ?_⟩ z⟩
        by_cases hqk : q = k
        · rw [hqk]; exact h3
        · exact h2.2 q (by omega)
      · rw [if_neg h3]
        exact ⟨fun _ z => h3 (z.2 k (by omega)), fun _ => n0_eq⟩
theorem mo_nx_iff (S M N : Nat → Int32) (i : Nat) (st : Int32) : ∀ k, mo_nx S M N i st k = 0 ↔ ¬ (S i = st ∧ ∀ q, q < k → M (64 * i + q) = N q)
  | 0 => by
    unfold mo_nx
    by_cases h : S i = st
    · rw [if_pos h]; exact ⟨fun z => absurd z n1_ne, fun z => absurd ⟨h, fun q hq => absurd hq (by omega)⟩ z⟩
    · rw [if_neg h]; exact ⟨fun _ z => h z.1, fun _ => n0_eq⟩
  | k + 1 => by
    have ih := mo_nx_iff S M N i st k
    unfold mo_nx
    by_cases h : mo_nx S M N i st k = 0
    · rw [if_pos h]
      exact ⟨fun _ z => ih.mp h ⟨z.1, fun q hq => z.2 q (by omega)⟩, fun _ => n0_eq⟩
    · rw [if_neg h]
      have h2 : S i = st ∧ ∀ q, q < k → M (64 * i + q) = N q := Classical.byContradiction (fun z => h (ih.mpr z))
      by_cases h3 : M (64 * i + k) = N k
      · rw [if_pos h3]
        refine ⟨fun z => absurd z n1_ne, fun z => absurd ⟨h2.1, fun q hq => ?_⟩ z⟩
        by_cases hqk : q = k
        · rw [hqk]; exact h3
        · exact h2.2 q (by omega)
      · rw [if_neg h3]
        exact ⟨fun _ z => h3 (z.2 k (by omega)), fun _ => n0_eq⟩
/-- position j is the one that is given, with the state st -/
def Pos (S M N : Nat → Int32) (st : Int32) (j : Nat) : Prop := S j = st ∧ ∀ q, q < 64 → M (64 * j + q) = N q
theorem ga_has_iff (G T : Nat → Int64) (a : Nat) : ga_has G T a = 0 ↔ ¬ ∀ p, p < 4 → T (a * 4 + p) = G p := by
  unfold ga_has
  by_cases h : ∀ p, p < 4 → T (a * 4 + p) = G p
  · rw [if_pos h]; exact ⟨fun z => absurd z n1_ne, fun z => absurd h z⟩
  · rw [if_neg h]; exact ⟨fun _ => h, fun _ => n0_eq⟩
/-! the tie -/
def Rel (G T : Nat → Int64) (F : Nat → Int32) (n : Nat) (N M S C V : Nat → Int32) : Prop :=
  n ≤ 640 ∧ (∀ k, k < 64 → N k = nI (sqm G k)) ∧ (∀ i, i < n → ∀ k, k < 64 → M (64 * i + k) = nI (nib (T (i * 4 + k / 16)) (k % 16))) ∧
  (∀ i, i < n → F (i * 8 + 1) = C i ∧ F (i * 8 + 2) = V i ∧ F (i * 8 + 5) = S i ∧ F (i * 8 + 0) = nI (mo_cnt S M i (i + 1)) ∧ F (i * 8 + 3) = nI (mo_fi S M i i) ∧ F (i * 8 + 4) = mo_be S M i i ∧ F (i * 8 + 6) = (if mo_dead M i = 0 then nI 0 else nI 1) ∧ F (i * 8 + 7) = nI (64 - mo_hm M i (nI 0) 64))
theorem Rel.less {G T : Nat → Int64} {F : Nat → Int32} {n k : Nat} {N M S C V : Nat → Int32} (h : Rel G T F n N M S C V) (hk : k ≤ n) : Rel G T F k N M S C V := by
  obtain ⟨h1, h2, h3, h4⟩ := h
  exact ⟨by omega, h2, fun i hi => h3 i (by omega), fun i hi => h4 i (by omega)⟩
theorem Rel.new : Rel (fun _ => 0) (fun _ => 0) (fun _ => 0) 0 (fun _ => 0) (fun _ => 0) (fun _ => 0) (fun _ => 0) (fun _ => 0) := by
  refine ⟨by omega, fun k hk => ?_, fun i hi => absurd hi (by omega), fun i hi => absurd hi (by omega)⟩
  have : sqm (fun _ => 0) k = 0 := by
    unfold sqm nib
    rw [show uN 0 = 0 from rfl, Nat.zero_div, Nat.zero_mod]
  rw [this, n0_eq]
/-- a told position's squares are those given: by the longs, by the men -/
theorem rows_iff {G T : Nat → Int64} {N M : Nat → Int32} {i : Nat} (hN : ∀ k, k < 64 → N k = nI (sqm G k)) (hM : ∀ k, k < 64 → M (64 * i + k) = nI (nib (T (i * 4 + k / 16)) (k % 16))) : (∀ p, p < 4 → T (i * 4 + p) = G p) ↔ ∀ q, q < 64 → M (64 * i + q) = N q := by
  constructor
  · intro h q hq
    rw [hM q hq, hN q hq, h (q / 16) (by omega)]
    rfl
  · intro h p hp
    apply nib_ext
    intro k hk
    have h1 := h (16 * p + k) (by omega)
    rw [hM _ (by omega), hN _ (by omega)] at h1
    have h2 := (nI_inj16 (nib_lt _ _) (nib_lt _ _)).mp h1
    rw [show (16 * p + k) / 16 = p by omega, show (16 * p + k) % 16 = k by omega] at h2
    exact h2
theorem Rel.pos {G T : Nat → Int64} {F : Nat → Int32} {n : Nat} {N M S C V : Nat → Int32} (h : Rel G T F n N M S C V) (st : Int32) {j : Nat} (hj : j < n) : (F (j * 8 + 5) = st ∧ ¬ ga_has G T j = 0) ↔ Pos S M N st j := by
  obtain ⟨h1, h2, h3, h4⟩ := h
  obtain ⟨-, -, e5, -⟩ := h4 j hj
  rw [e5, ga_has_iff]
  unfold Pos
  rw [← rows_iff h2 (h3 j hj)]
  constructor
  · intro z; exact ⟨z.1, Classical.byContradiction z.2⟩
  · intro z; exact ⟨z.1, fun w => w z.2⟩
/-- the last told position that is the given one -/
theorem Rel.last {G T : Nat → Int64} {F : Nat → Int32} {n : Nat} {N M S C V : Nat → Int32} (h : Rel G T F n N M S C V) (st : Int32) : ∀ k, k ≤ n → (ga_last G T F st k = -1 ∧ ∀ j, j < k → ¬ Pos S M N st j) ∨ ∃ a, a < k ∧ ga_last G T F st k = nI a ∧ Pos S M N st a ∧ ∀ j, a < j → j < k → ¬ Pos S M N st j
  | 0, _ => Or.inl ⟨rfl, fun j hj => absurd hj (by omega)⟩
  | k + 1, hk => by
    have ih := Rel.last h st k (by omega)
    have hp := h.pos st (j := k) (by omega)
    have down : (¬ Pos S M N st k) → ga_last G T F st (k + 1) = ga_last G T F st k → (ga_last G T F st (k + 1) = -1 ∧ ∀ j, j < k + 1 → ¬ Pos S M N st j) ∨ ∃ a, a < k + 1 ∧ ga_last G T F st (k + 1) = nI a ∧ Pos S M N st a ∧ ∀ j, a < j → j < k + 1 → ¬ Pos S M N st j := by
      intro hn e
      rw [e]
      rcases ih with ⟨e1, h1⟩ | ⟨a, ha, e1, hpa, h1⟩
      · exact Or.inl ⟨e1, fun j hj => by
          by_cases hjk : j = k
          · rw [hjk]; exact hn
          · exact h1 j (by omega)⟩
      · exact Or.inr ⟨a, by omega, e1, hpa, fun j h2 h3 => by
          by_cases hjk : j = k
          · rw [hjk]; exact hn
          · exact h1 j h2 (by omega)⟩
    by_cases c1 : F (k * 8 + 5) = st
    · by_cases c2 : ga_has G T k = 0
      · exact down (fun z => (hp.mpr z).2 c2) (by rw [ga_last, if_pos c1, if_pos c2])
      · exact Or.inr ⟨k, by omega, by rw [ga_last, if_pos c1, if_neg c2], hp.mp ⟨c1, c2⟩, fun j h2 h3 => absurd h3 (by omega)⟩
    · exact down (fun z => c1 (hp.mpr z).1) (by rw [ga_last, if_neg c1])
theorem mo_tm_none {S M N : Nat → Int32} {st : Int32} : ∀ k, (∀ j, j < k → ¬ Pos S M N st j) → mo_tm S M N st k = 0
  | 0, _ => rfl
  | k + 1, h => by
    rw [mo_tm, mo_tm_none k (fun j hj => h j (by omega)), if_pos ((mo_nx_iff S M N k st 64).mpr (h k (by omega)))]
theorem mo_tm_up {S M N : Nat → Int32} {st : Int32} {a : Nat} : ∀ d, (∀ j, a < j → j < a + 1 + d → ¬ Pos S M N st j) → mo_tm S M N st (a + 1 + d) = mo_tm S M N st (a + 1)
  | 0, _ => rfl
  | d + 1, h => by
    rw [show a + 1 + (d + 1) = (a + 1 + d) + 1 by omega, mo_tm, mo_tm_up d (fun j h1 h2 => h j h1 (by omega)), if_pos ((mo_nx_iff S M N (a + 1 + d) st 64).mpr (h _ (by omega) (by omega))), Nat.add_zero]
/-- where a is the given position, as many are the same as a as are the given one -/
theorem mo_cnt_tm {S M N : Nat → Int32} {st : Int32} {a : Nat} (ha : Pos S M N st a) : ∀ k, mo_cnt S M a k = mo_tm S M N st k
  | 0 => rfl
  | k + 1 => by
    rw [mo_cnt, mo_tm, mo_cnt_tm ha k]
    have e : mo_sm S M a k 64 = 0 ↔ mo_nx S M N k st 64 = 0 := by
      rw [mo_sm_iff, mo_nx_iff, ha.1]
      constructor
      · intro z w; exact z ⟨w.1.symm, fun q hq => by rw [ha.2 q hq, w.2 q hq]⟩
      · intro z w; exact z ⟨w.1.symm, fun q hq => by rw [← w.2 q hq, ha.2 q hq]⟩
    by_cases c1 : mo_nx S M N k st 64 = 0
    · rw [if_pos c1, if_pos (e.mpr c1)]
    · rw [if_neg c1, if_neg (fun z => c1 (e.mp z))]
theorem ga_isPos_in {n a : Nat} (hn : n ≤ 640) (ha : a < n) : ¬ ga_isPos n (nI a) = 0 := by
  rw [ga_isPos, if_neg (nI_pos (by omega)), if_neg (nI_ge ha (by omega))]
  exact n1_ne
theorem Rel.count {G T : Nat → Int64} {F : Nat → Int32} {n : Nat} {N M S C V : Nat → Int32} (h : Rel G T F n N M S C V) (st : Int32) : ga_cup F n (ga_last G T F st n) = nI (mo_tm S M N st n) := by
  rcases h.last st n (Nat.le_refl n) with ⟨e, hno⟩ | ⟨a, ha, e, hp, hno⟩
  · rw [e, ga_cup, if_pos (by rw [ga_isPos, if_pos (by decide)]; exact n0_eq), mo_tm_none n hno]
  · have hn := h.1
    obtain ⟨-, -, -, e0, -⟩ := h.2.2.2 a ha
    rw [e, ga_cup, if_neg (ga_isPos_in hn ha), nI_clamp (by omega), e0, mo_cnt_tm hp (a + 1)]
    obtain ⟨d, hd⟩ : ∃ d, n = a + 1 + d := ⟨n - (a + 1), by omega⟩
    rw [hd, mo_tm_up d (fun j h1 h2 => hno j h1 (by omega))]
