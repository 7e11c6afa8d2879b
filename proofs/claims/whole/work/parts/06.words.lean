/-! what the class's own methods answer, as functions of its cells: G the squares given, T the squares told, F the facts, n the positions -/
def ga_isPart (p : Int32) : Int32 := if p < 0 then nI 0 else if nI 4 ≤ p then nI 0 else nI 1
def ga_isMoves (p : Int32) : Int32 := if p < 0 then nI 0 else if nI 300 < p then nI 0 else nI 1
def ga_isClock (p : Int32) : Int32 := if p < 0 then nI 0 else if nI 1000 < p then nI 0 else nI 1
def ga_isState (p : Int32) : Int32 := if p < 0 then nI 0 else if p < nI 512 then (if p >>> (nI 5 &&& 31) ≤ nI 7 then nI 1 else if p >>> (nI 5 &&& 31) = nI 15 then nI 1 else nI 0) else nI 0
noncomputable def ga_areMen (g : Int64) : Int32 := @ite Int32 (∀ k, k < 16 → nib g k ≤ 12) (Classical.propDecidable _) (nI 1) (nI 0)
def ga_isPos (n : Nat) (i : Int32) : Int32 := if i < 0 then nI 0 else if nI n ≤ i then nI 0 else nI 1
def ga_takes (F : Nat → Int32) (n : Nat) : Int32 := if n = 0 then nI 0 else if n < 640 then (if F ((n - 1) * 8 + 2) < nI 1 then nI 1 else if F ((n - 1) * 8 + 2) ≤ nI 5 then nI 0 else nI 1) else nI 0
noncomputable def ga_has (G T : Nat → Int64) (a : Nat) : Int32 := @ite Int32 (∀ p, p < 4 → T (a * 4 + p) = G p) (Classical.propDecidable _) (nI 1) (nI 0)
noncomputable def ga_last (G T : Nat → Int64) (F : Nat → Int32) (st : Int32) : Nat → Int32
  | 0 => -1
  | k + 1 => if F (k * 8 + 5) = st then (if ga_has G T k = 0 then ga_last G T F st k else nI k) else ga_last G T F st k
def ga_cup (F : Nat → Int32) (n : Nat) (i : Int32) : Int32 := if ga_isPos n i = 0 then nI 0 else F (i.toNatClampNeg * 8 + 0)
def ga_judge (mv ck dd ct cl : Int32) : Int32 := if mv = 0 then (if ck = 0 then nI 2 else nI 1) else if dd = 0 then (if ct < nI 5 then (if cl < nI 150 then (if ct < nI 3 then (if cl < nI 100 then nI 0 else nI 7) else (if cl < nI 100 then nI 6 else nI 8)) else nI 5) else nI 4) else nI 3
def sqm (G : Nat → Int64) (k : Nat) : Nat := nib (G (k / 16)) (k % 16)
def ga_cnt (G : Nat → Int64) (man : Int32) : Nat → Nat
  | 0 => 0
  | k + 1 => ga_cnt G man k + (if nI (sqm G k) = man then 1 else 0)
def ga_first (G : Nat → Int64) (man : Int32) : Nat → Int32
  | 0 => -1
  | k + 1 => if nI (sqm G (63 - k)) = man then nI (63 - k) else ga_first G man k
def ga_col (q : Int32) : Int32 := ((q &&& nI 7) + (q >>> (nI 3 &&& 31))) &&& nI 1
def ga_dead (G : Nat → Int64) (men : Int32) : Int32 :=
  if ga_cnt G (nI 6) 64 = 1 then (if ga_cnt G (nI 12) 64 = 1 then (if men = nI 2 then nI 1 else if men = nI 3 then
    (if ((ga_cnt G (nI 3) 64 + ga_cnt G (nI 9) 64) + ga_cnt G (nI 2) 64) + ga_cnt G (nI 8) 64 = 1 then nI 1 else nI 0)
    else if men = nI 4 then (if ga_cnt G (nI 3) 64 = 1 then (if ga_cnt G (nI 9) 64 = 1 then (if ga_col (ga_first G (nI 3) 64) = ga_col (ga_first G (nI 9) 64) then nI 1 else nI 0) else nI 0) else nI 0) else nI 0) else nI 0) else nI 0
def ga_diff (F : Nat → Int32) : Nat → Nat
  | 0 => 0
  | k + 1 => ga_diff F k + (if F (k * 8 + 4) = -1 then 1 else 0)
def ga_great (F : Nat → Int32) (b : Nat) : Nat → Int32
  | 0 => nI 0
  | k + 1 => if ga_great F b k < F (k * 8 + b) then F (k * 8 + b) else ga_great F b k
theorem ga_cnt_le (G : Nat → Int64) (man : Int32) : ∀ k, ga_cnt G man k ≤ k
  | 0 => Nat.le_refl 0
  | k + 1 => by
    have := ga_cnt_le G man k
    unfold ga_cnt
    split <;> omega
theorem ga_diff_le (F : Nat → Int32) : ∀ k, ga_diff F k ≤ k
  | 0 => Nat.le_refl 0
  | k + 1 => by
    have := ga_diff_le F k
    unfold ga_diff
    split <;> omega
/-- the class's cells -/
abbrev wX (cI cJ : ClassId) (x g t f : Nat) (G T : Nat → Int64) (F : Nat → Int32) (n : Nat) : va_W := [(x, .inr (0, [.ref g, .ref t, .ref f, .int (nI n)])), (g, .inl (cJ, 4, .inr (.inl G))), (t, .inl (cJ, 2560, .inr (.inl T))), (f, .inl (cI, 5120, .inl F))]
abbrev tK (cI cJ : ClassId) : List (ClassId × FieldType) := [(cJ, .long), (cI, .int)]
/-- the reference's cells -/
abbrev wM (cI : ClassId) (y a b c d v : Nat) (th : Int32) (N : Nat → Int32) (n : Nat) (M S C V : Nat → Int32) : va_W := [(y, .inr (1, [.int th, .ref a, .int (nI n), .ref b, .ref c, .ref d, .ref v])), (a, .inl (cI, 64, .inl N)), (b, .inl (cI, 40960, .inl M)), (c, .inl (cI, 640, .inl S)), (d, .inl (cI, 640, .inl C)), (v, .inl (cI, 640, .inl V))]
abbrev tM (cI : ClassId) : List (ClassId × FieldType) := [(cI, .int)]
theorem ga_isPos_nat {n : Nat} (hn : n ≤ 640) {i : Int32} (h : ¬ ga_isPos n i = 0) : ∃ a : Nat, a < n ∧ i = nI a := by
  unfold ga_isPos at h
  by_cases h1 : i < 0
  · rw [if_pos h1] at h; exact absurd nI_0 h
  · rw [if_neg h1] at h
    by_cases h2 : nI n ≤ i
    · rw [if_pos h2] at h; exact absurd nI_0 h
    · obtain ⟨j, hj, rfl⟩ := nI_of h1
      exact ⟨j, by
        rcases Nat.lt_or_ge j n with q | q
        · exact q
        · exact absurd (nI_le q hj) h2, rfl⟩
