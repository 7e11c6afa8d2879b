/-! what the class's own methods answer, as functions of its cells: G the squares given, T the squares told, F the facts, n the positions -/
def ga_isPart (p : Int32) : Int32 := if p < 0 then nI 0 else if nI 4 ≤ p then nI 0 else nI 1
def ga_isMoves (p : Int32) : Int32 := if p < 0 then nI 0 else if nI 300 < p then nI 0 else nI 1
def ga_isClock (p : Int32) : Int32 := if p < 0 then nI 0 else if nI 1000 < p then nI 0 else nI 1
def ga_isState (p : Int32) : Int32 := if p < 0 then nI 0 else if p < nI 512 then (if p >>> (nI 5 &&& 31) ≤ nI 7 then nI 1 else if p >>> (nI 5 &&& 31) = nI 15 then nI 1 else nI 0) else nI 0
noncomputable def ga_areMen (g : Int64) : Int32 := @ite Int32 (∀ k, k < 16 → nib g k ≤ 12) (Classical.propDecidable _) (nI 1) (nI 0)
def ga_isPos (n : Nat) (i : Int32) : Int32 := if i < 0 then nI 0 else if nI n ≤ i then nI 0 else nI 1
def ga_takes (F : Nat → Int32) (n : Nat) : Int32 := if n = 0 then nI 0 else if n < 640 then (if F ((n - 1) * 8 + 2) < nI 1 then nI 1 else if F ((n - 1) * 8 + 2) ≤ nI 5 then nI 0 else nI 1) else nI 0
noncomputable def ga_has (G T : Nat → Int64) (a : Nat) : Int32 := @ite Int32 (∀ p, p < 4 → T (a * 4 + p) = G p) (Classical.propDecidable _) (nI 1) (nI 0)
noncomputable def ga_last (G T : Nat → Int64) (F : Nat → Int32) (st : Int32) : Nat → Int32
  | 0 => -1
  | k + 1 => if F (k * 8 + 5) = st then (if ga_has G T k = 0 then ga_last G T F st k else nI k) else ga_last G T F st k
def ga_cup (F : Nat → Int32) (n : Nat) (i : Int32) : Int32 := if ga_isPos n i = 0 then nI 0 else F (i.toNatClampNeg * 8 + 0)
def ga_judge (mv ck dd ct cl : Int32) : Int32 := if mv = 0 then (if ck = 0 then nI 2 else nI 1) else if dd = 0 then (if ct < nI 5 then (if cl < nI 150 then (if ct < nI 3 then (if cl < nI 100 then nI 0 else nI 7) else (if cl < nI 100 then nI 6 else nI 8)) else nI 5) else nI 4) else nI 3
def sqm (G : Nat → Int64) (k : Nat) : Nat := nib (G (k / 16)) (k % 16)
def ga_cnt (G : Nat → Int64) (man : Int32) : Nat → Nat
  | 0 => 0
  | k + 1 => ga_cnt G man k + (if nI (sqm G k) = man then 1 else 0)
def ga_first (G : Nat → Int64) (man : Int32) : Nat → Int32
  | 0 => -1
  | k + 1 => if nI (sqm G (63 - k)) = man then nI (63 - k) else ga_first G man k
def ga_col (q : Int32) : Int32 := ((q &&& nI 7) + (q >>> (nI 3 &&& 31))) &&& nI 1
def ga_dead (G : Nat → Int64) (men : Int32) : Int32 :=
  if ga_cnt G (nI 6) 64 = 1 then (if ga_cnt G (nI 12) 64 = 1 then (if men = nI 2 then nI 1 else if men = nI 3 then
    (if ((ga_cnt G (nI 3) 64 + ga_cnt G (nI 9) 64) + ga_cnt G (nI 2) 64) + ga_cnt G (nI 8) 64 = 1 then nI 1 else nI 0)
    else if men = nI 4 then (if ga_cnt G (nI 3) 64 = 1 then (if ga_cnt G (nI 9) 64 = 1 then (if ga_col (ga_first G (nI 3) 64) = ga_col (ga_first G (nI 9) 64) then nI 1 else nI 0) else nI 0) else nI 0) else nI 0) else nI 0) else nI 0
def ga_diff (F : Nat → Int32) : Nat → Nat
  | 0 => 0
  | k + 1 => ga_diff F k + (if F (k * 8 + 4) = -1 then 1 else 0)
def ga_great (F : Nat → Int32) (b : Nat) : Nat → Int32
  | 0 => nI 0
  | k + 1 => if ga_great F b k < F (k * 8 + b) then F (k * 8 + b) else ga_great F b k
theorem ga_cnt_le (G : Nat → Int64) (man : Int32) : ∀ k, ga_cnt G man k ≤ k
  | 0 => Nat.le_refl 0
  | k + 1 => by
    have := ga_cnt_le G man k
    unfold ga_cnt
    split <;> omega
theorem ga_diff_le (F : Nat → Int32) : ∀ k, ga_diff F k ≤ k
  | 0 => Nat.le_refl 0
  | k + 1 => by
    have := ga_diff_le F k
    unfold ga_diff
    split <;> omega
/-- the class's cells -/
abbrev wX (cI cJ : ClassId) (x g t f : Nat) (G T : Nat → Int64) (F : Nat → Int32) (n : Nat) : va_W := [(x, .inr (0, [.ref g, .ref t, .ref f, .int (nI n)])), (g, .inl (cJ, 4, .inr (.inl G))), (t, .inl (cJ, 2560, .inr (.inl T))), (f, .inl (cI, 5120, .inl F))]
abbrev tK (cI cJ : ClassId) : List (ClassId × FieldType) := [(cJ, .long), (cI, .int)]
/-- the reference's cells -/
abbrev wM (cI : ClassId) (y a b c d v : Nat) (th : Int32) (N : Nat → Int32) (n : Nat) (M S C V : Nat → Int32) : va_W := [(y, .inr (1, [.int th, .ref a, .int (nI n), .ref b, .ref c, .ref d, .ref v])), (a, .inl (cI, 64, .inl N)), (b, .inl (cI, 40960, .inl M)), (c, .inl (cI, 640, .inl S)), (d, .inl (cI, 640, .inl C)), (v, .inl (cI, 640, .inl V))]
abbrev tM (cI : ClassId) : List (ClassId × FieldType) := [(cI, .int)]
theorem ga_isPos_nat {n : Nat} (hn : n ≤ 640) {i : Int32} (h : ¬ ga_isPos n i = 0) : ∃ a : Nat, a < n ∧ i = nI a := by
  unfold ga_isPos at h
  by_cases h1 : i < 0
  · rw [if_pos h1] at h; exact absurd nI_0 h
  · rw [if_neg h1] at h
    by_cases h2 : nI n ≤ i
    · rw [if_pos h2] at h; exact absurd nI_0 h
    · obtain ⟨j, hj, rfl⟩ := nI_of h1
      exact ⟨j, by
        rcases Nat.lt_or_ge j n with q | q
        · exact q
        · exact absurd (nI_le q hj) h2, rfl⟩
theorem ga_isPart_nat {i : Int32} (h : ¬ ga_isPart i = 0) : ∃ a : Nat, a < 4 ∧ i = nI a := by
  unfold ga_isPart at h
  by_cases h1 : i < 0
  · rw [if_pos h1] at h; exact absurd nI_0 h
  · rw [if_neg h1] at h
    by_cases h2 : nI 4 ≤ i
    · rw [if_pos h2] at h; exact absurd nI_0 h
    · obtain ⟨j, hj, rfl⟩ := nI_of h1
      exact ⟨j, by
        rcases Nat.lt_or_ge j 4 with q | q
        · exact q
        · exact absurd (nI_le q hj) h2, rfl⟩
theorem ga_last_nat (G T : Nat → Int64) (F : Nat → Int32) (st : Int32) : ∀ k : Nat, ga_last G T F st k = -1 ∨ ∃ a : Nat, a < k ∧ ga_last G T F st k = nI a
  | 0 => Or.inl rfl
  | k + 1 => by
    have ih : ga_last G T F st k = -1 ∨ ∃ a : Nat, a < k + 1 ∧ ga_last G T F st k = nI a := by
      rcases ga_last_nat G T F st k with h | ⟨a, h1, h2⟩
      · exact Or.inl h
      · exact Or.inr ⟨a, by omega, h2⟩
    by_cases h1 : F (k * 8 + 5) = st
    · by_cases h2 : ga_has G T k = 0
      · rw [ga_last, if_pos h1, if_pos h2]; exact ih
      · rw [ga_last, if_pos h1, if_neg h2]; exact Or.inr ⟨k, by omega, rfl⟩
    · rw [ga_last, if_neg h1]; exact ih
noncomputable def ga_sqR (p : Int32) (m : Int64) : Int32 := if ga_isPart p = 0 then nI 0 else if ga_areMen m = 0 then nI 0 else nI 1
noncomputable def ga_sqG (G : Nat → Int64) (p : Int32) (m : Int64) : Nat → Int64 := if ga_isPart p = 0 then G else if ga_areMen m = 0 then G else vp_updL G p.toNatClampNeg m
noncomputable def ap_be (G T : Nat → Int64) (F : Nat → Int32) (n : Nat) (st : Int32) : Int32 := ga_last G T F st n
noncomputable def ap_ct (G T : Nat → Int64) (F : Nat → Int32) (n : Nat) (st : Int32) : Int32 := ga_cup F n (ap_be G T F n st) + nI 1
def ap_mn (G : Nat → Int64) : Nat := 64 - ga_cnt G (nI 0) 64
noncomputable def ap_vd (G T : Nat → Int64) (F : Nat → Int32) (n : Nat) (st mv ck cl : Int32) : Int32 := ga_judge mv ck (ga_dead G (nI (ap_mn G))) (ap_ct G T F n st) cl
noncomputable def ap_F3 (G T : Nat → Int64) (F : Nat → Int32) (n : Nat) (st mv ck cl : Int32) : Nat → Int32 := upd (upd (upd F (n * 8 + 0) (ap_ct G T F n st)) (n * 8 + 1) cl) (n * 8 + 2) (ap_vd G T F n st mv ck cl)
noncomputable def ap_fi (G T : Nat → Int64) (F : Nat → Int32) (n : Nat) (st mv ck cl : Int32) : Int32 := if ap_be G T F n st = -1 then nI n else ap_F3 G T F n st mv ck cl ((ap_be G T F n st).toNatClampNeg * 8 + 3)
noncomputable def ap_F (G T : Nat → Int64) (F : Nat → Int32) (n : Nat) (st mv ck cl : Int32) : Nat → Int32 := upd (upd (upd (upd (upd (ap_F3 G T F n st mv ck cl) (n * 8 + 3) (ap_fi G T F n st mv ck cl)) (n * 8 + 4) (ap_be G T F n st)) (n * 8 + 5) st) (n * 8 + 6) (if ga_dead G (nI (ap_mn G)) = 0 then nI 0 else nI 1)) (n * 8 + 7) (nI (ap_mn G))
def ap_T (G T : Nat → Int64) (n : Nat) : Nat → Int64 := va_cpy G T 0 (n * 4) 4
