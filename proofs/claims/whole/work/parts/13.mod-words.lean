/-! what the reference's methods answer, as functions of its cells: N the squares given, M the squares told, S states, C clocks, V verdicts -/
def mo_isState (p : Int32) : Int32 := if p >>> (nI 5 &&& 31) < 0 then nI 0 else if p >>> (nI 5 &&& 31) < nI 8 then nI 1 else if p >>> (nI 5 &&& 31) = nI 15 then nI 1 else nI 0
def mo_sm (S M : Nat → Int32) (i j : Nat) : Nat → Int32
  | 0 => if S i = S j then nI 1 else nI 0
  | k + 1 => if mo_sm S M i j k = 0 then nI 0 else if M (64 * i + k) = M (64 * j + k) then nI 1 else nI 0
def mo_nx (S M N : Nat → Int32) (i : Nat) (q : Int32) : Nat → Int32
  | 0 => if S i = q then nI 1 else nI 0
  | k + 1 => if mo_nx S M N i q k = 0 then nI 0 else if M (64 * i + k) = N k then nI 1 else nI 0
def mo_cnt (S M : Nat → Int32) (i : Nat) : Nat → Nat
  | 0 => 0
  | j + 1 => mo_cnt S M i j + (if mo_sm S M i j 64 = 0 then 0 else 1)
def mo_hm (M : Nat → Int32) (i : Nat) (man : Int32) : Nat → Nat
  | 0 => 0
  | k + 1 => mo_hm M i man k + (if M (64 * i + k) = man then 1 else 0)
def mo_co (M : Nat → Int32) (i : Nat) (man : Int32) : Nat → Nat
  | 0 => 0
  | k + 1 => if M (64 * i + k) = man then (k % 8 + k / 8) % 2 else mo_co M i man k
def mo_dead (M : Nat → Int32) (i : Nat) : Int32 :=
  if mo_hm M i (nI 6) 64 = 1 then (if mo_hm M i (nI 12) 64 = 1 then (if 4 ≤ 64 - mo_hm M i (nI 0) 64 then (if 64 - mo_hm M i (nI 0) 64 = 4 then (if mo_hm M i (nI 3) 64 = 1 then (if mo_hm M i (nI 9) 64 = 1 then (if mo_co M i (nI 3) 64 = mo_co M i (nI 9) 64 then nI 1 else nI 0) else nI 0) else nI 0) else nI 0)
    else (if 64 - mo_hm M i (nI 0) 64 = 2 then nI 1 else if ((mo_hm M i (nI 2) 64 + mo_hm M i (nI 8) 64) + mo_hm M i (nI 3) 64) + mo_hm M i (nI 9) 64 = 1 then nI 1 else nI 0)) else nI 0) else nI 0
def mo_ver (S M C : Nat → Int32) (i : Nat) (mv ck : Int32) : Int32 := if mv = 0 then (if ck = 0 then nI 2 else nI 1) else if mo_dead M i = 0 then (if mo_cnt S M i (i + 1) < 5 then (if C i < nI 150 then (if mo_cnt S M i (i + 1) < 3 then (if C i < nI 100 then nI 0 else nI 7) else (if C i < nI 100 then nI 6 else nI 8)) else nI 5) else nI 4) else nI 3
def mo_sqN (N : Nat → Int32) (a : Nat) (g : Int64) (k : Nat) : Nat → Int32 := fun j => if 16 * a ≤ j ∧ j < 16 * a + k then nI (nib g (j - 16 * a)) else N j
def mo_adM (M N : Nat → Int32) (n k : Nat) : Nat → Int32 := fun j => if 64 * n ≤ j ∧ j < 64 * n + k then N (j - 64 * n) else M j
def mo_fi (S M : Nat → Int32) (i : Nat) : Nat → Nat
  | 0 => i
  | j + 1 => if mo_sm S M i j 64 = 0 then mo_fi S M i j else if mo_fi S M i j ≤ j then mo_fi S M i j else j
def mo_be (S M : Nat → Int32) (i : Nat) : Nat → Int32
  | 0 => -1
  | j + 1 => if mo_sm S M i j 64 = 0 then mo_be S M i j else nI j
def mo_mn (M : Nat → Int32) (a b : Nat) : Nat → Int64
  | 0 => 0
  | k + 1 => (mo_mn M a b k <<< ((nI 4).toInt64 &&& 63)) ||| (M ((64 * a + 16 * b) + k)).toInt64
def mo_tm (S M N : Nat → Int32) (q : Int32) : Nat → Nat
  | 0 => 0
  | j + 1 => mo_tm S M N q j + (if mo_nx S M N j q 64 = 0 then 0 else 1)
def mo_df (S M : Nat → Int32) : Nat → Nat
  | 0 => 0
  | j + 1 => mo_df S M j + (if mo_cnt S M j (j + 1) = 1 then 1 else 0)
def mo_gc (S M : Nat → Int32) : Nat → Nat
  | 0 => 0
  | j + 1 => if mo_cnt S M j (j + 1) ≤ mo_gc S M j then mo_gc S M j else mo_cnt S M j (j + 1)
def mo_gl (C : Nat → Int32) : Nat → Int32
  | 0 => nI 0
  | j + 1 => if C j ≤ mo_gl C j then mo_gl C j else C j
theorem mo_sm_nar (S M : Nat → Int32) (i j : Nat) : ∀ k, narrow .boolean (.int (mo_sm S M i j k)) = .int (mo_sm S M i j k)
  | 0 => by unfold mo_sm; split <;> rfl
  | k + 1 => by unfold mo_sm; split <;> (try split) <;> rfl
theorem mo_nx_nar (S M N : Nat → Int32) (i : Nat) (q : Int32) : ∀ k, narrow .boolean (.int (mo_nx S M N i q k)) = .int (mo_nx S M N i q k)
  | 0 => by unfold mo_nx; split <;> rfl
  | k + 1 => by unfold mo_nx; split <;> (try split) <;> rfl
theorem mo_cnt_le (S M : Nat → Int32) (i : Nat) : ∀ k, mo_cnt S M i k ≤ k
  | 0 => Nat.le_refl 0
  | k + 1 => by
    have := mo_cnt_le S M i k
    unfold mo_cnt
    split <;> omega
theorem mo_hm_le (M : Nat → Int32) (i : Nat) (man : Int32) : ∀ k, mo_hm M i man k ≤ k
  | 0 => Nat.le_refl 0
  | k + 1 => by
    have := mo_hm_le M i man k
    unfold mo_hm
    split <;> omega
theorem mo_co_lt (M : Nat → Int32) (i : Nat) (man : Int32) : ∀ k, mo_co M i man k < 2
  | 0 => by unfold mo_co; decide
  | k + 1 => by
    have := mo_co_lt M i man k
    unfold mo_co
    split <;> omega
theorem mo_fi_le (S M : Nat → Int32) (i : Nat) : ∀ k, mo_fi S M i k ≤ i
  | 0 => Nat.le_refl i
  | k + 1 => by
    have := mo_fi_le S M i k
    unfold mo_fi
    split
    · omega
    · split <;> omega
theorem mo_tm_le (S M N : Nat → Int32) (q : Int32) : ∀ k, mo_tm S M N q k ≤ k
  | 0 => Nat.le_refl 0
  | k + 1 => by
    have := mo_tm_le S M N q k
    unfold mo_tm
    split <;> omega
theorem mo_df_le (S M : Nat → Int32) : ∀ k, mo_df S M k ≤ k
  | 0 => Nat.le_refl 0
  | k + 1 => by
    have := mo_df_le S M k
    unfold mo_df
    split <;> omega
theorem mo_gc_le (S M : Nat → Int32) : ∀ k, mo_gc S M k ≤ k
  | 0 => Nat.le_refl 0
  | k + 1 => by
    have h1 := mo_gc_le S M k
    have h2 := mo_cnt_le S M k (k + 1)
    unfold mo_gc
    split <;> omega
theorem mo_sqN_0 (N : Nat → Int32) (a : Nat) (g : Int64) : mo_sqN N a g 0 = N := by
  funext j
  unfold mo_sqN
  rw [if_neg (by omega)]
theorem mo_sqN_s (N : Nat → Int32) (a : Nat) (g : Int64) (k : Nat) : upd (mo_sqN N a g k) (16 * a + k) (nI (nib g k)) = mo_sqN N a g (k + 1) := by
  funext j
  unfold mo_sqN upd
  by_cases h : j = 16 * a + k
  · rw [if_pos h, if_pos (by omega), h, show 16 * a + k - 16 * a = k by omega]
  · rw [if_neg h]
    dsimp only
    by_cases h2 : 16 * a ≤ j ∧ j < 16 * a + k
    · rw [if_pos h2, if_pos (by omega)]
    · rw [if_neg h2, if_neg (by omega)]
theorem mo_adM_0 (M N : Nat → Int32) (n : Nat) : mo_adM M N n 0 = M := by
  funext j
  unfold mo_adM
  rw [if_neg (by omega)]
theorem mo_adM_s (M N : Nat → Int32) (n k : Nat) : upd (mo_adM M N n k) (64 * n + k) (N k) = mo_adM M N n (k + 1) := by
  funext j
  unfold mo_adM upd
  by_cases h : j = 64 * n + k
  · rw [if_pos h, if_pos (by omega), h, show 64 * n + k - 64 * n = k by omega]
  · rw [if_neg h]
    dsimp only
    by_cases h2 : 64 * n ≤ j ∧ j < 64 * n + k
    · rw [if_pos h2, if_pos (by omega)]
    · rw [if_neg h2, if_neg (by omega)]
/-- a choice by a number -/
def sel {α : Type} (k : Nat) (a b : α) : α := if k = 0 then a else b
noncomputable def mo_sqR (q : Int32) (g : Int64) : Int32 := if q < 0 then nI 0 else if q ≤ nI 3 then @ite Int32 (∀ k, k < 16 → uN g / 2 ^ (4 * k) % 16 ≤ 12) (Classical.propDecidable _) (nI 1) (nI 0) else nI 0
noncomputable def mo_sqW (N : Nat → Int32) (q : Int32) (g : Int64) : Nat → Int32 := if q < 0 then N else if q ≤ nI 3 then @ite (Nat → Int32) (∀ k, k < 16 → uN g / 2 ^ (4 * k) % 16 ≤ 12) (Classical.propDecidable _) (mo_sqN N q.toNatClampNeg g 16) N else N
def mo_okB (st mv cl : Int32) : Nat := if mo_isState st = 0 then 1 else if mv < 0 then 1 else if nI 300 < mv then 1 else if cl < 0 then 1 else if nI 1000 < cl then 1 else 0
def mo_okA (st mv : Int32) : Nat := if mo_isState st = 0 then 2 else if mv < 0 then 2 else if nI 300 < mv then 2 else 0
def mo_okN (V : Nat → Int32) (n : Nat) (st mv : Int32) : Nat := if n = 0 then 1 else if n = 640 then 1 else if V (n - 1) ≤ 0 then mo_okA st mv else if nI 6 ≤ V (n - 1) then mo_okA st mv else 1
def mo_clN (C : Nat → Int32) (n : Nat) (ir : Int32) : Int32 := if ir = 0 then C (n - 1) + nI 1 else nI 0
def mo_okO (n : Nat) (i w : Int32) : Nat := if ga_isPos n i = 0 then 1 else if w < 0 then 1 else if nI 7 < w then 1 else 0
def mo_okM (n : Nat) (i q : Int32) : Nat := if ga_isPos n i = 0 then 1 else if q < 0 then 1 else if nI 3 < q then 1 else 0
def mo_okT (q : Int32) : Nat := if mo_isState q = 0 then 1 else 0
def mo_of (S M C V : Nat → Int32) (i : Nat) (w : Int32) : Int32 := if w = nI 0 then nI (mo_cnt S M i (i + 1)) else if w = nI 1 then C i else if w = nI 2 then V i else if w = nI 3 then nI (mo_fi S M i i) else if w = nI 4 then mo_be S M i i else if w = nI 5 then S i else if w = nI 6 then (if mo_dead M i = 0 then nI 0 else nI 1) else nI (64 - mo_hm M i (nI 0) 64)
def mo_look (S M C : Nat → Int32) (n : Nat) (q : Int32) : Int32 := if q = 0 then nI n else if q = nI 1 then nI (mo_df S M n) else if q = nI 2 then nI (mo_gc S M n) else if q = nI 3 then mo_gl C n else -1
