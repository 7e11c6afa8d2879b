/-! numbers: the sixteen men of a long (uN and its rows are pasted from the starting text BITS.to-paste) -/
def uN (x : Int64) : Nat := x.toUInt64.toNat
theorem uN_lt (x : Int64) : uN x < 18446744073709551616 := x.toUInt64.toNat_lt
theorem uN_inj {x y : Int64} (h : uN x = uN y) : x = y := congrArg UInt64.toInt64 (UInt64.toNat_inj.mp h)
theorem uN_shr (x : Int64) (s : UInt64) : uN (x.toUInt64 >>> s).toInt64 = uN x / 2 ^ (s.toNat % 64) := by
  show (x.toUInt64 >>> s).toNat = _
  rw [UInt64.toNat_shiftRight, Nat.shiftRight_eq_div_pow]
  rfl
theorem uN_sk (x : Int64) {k : Nat} (hk : k < 64) : uN (x.toUInt64 >>> ((nI k).toInt64.toUInt64 &&& Int64.toUInt64 63)).toInt64 = uN x / 2 ^ k := by
  have h : ((nI k).toInt64.toUInt64 &&& Int64.toUInt64 63).toNat % 64 = k := by
    rw [nI_l (by omega), UInt64.toNat_and]
    have e : (lN k).toUInt64.toNat = k % 2 ^ 64 := rfl
    have e2 : (Int64.toUInt64 63).toNat = 2 ^ 6 - 1 := by decide
    rw [e, e2, Nat.and_two_pow_sub_one_eq_mod]
    omega
  rw [uN_shr, h]
/-! ===== unsigned comparison by xor with the least ===== -/
/-- the man on square k of a part -/
def nib (g : Int64) (k : Nat) : Nat := uN g / 2 ^ (60 - 4 * k) % 16
theorem nib_lt (g : Int64) (k : Nat) : nib g k < 16 := Nat.mod_lt _ (by decide)
theorem uN_bv (x : Int64) : x.toBitVec.toNat = uN x := rfl
theorem nib_u (g : Int64) {k : Nat} (hk : k < 16) : ((g.toUInt64 >>> ((nI (4 * (15 - k))).toInt64.toUInt64 &&& Int64.toUInt64 63)).toInt64).toInt32 &&& nI 15 = nI (nib g k) := by
  rw [pk_and _ 4 (by decide)]
  have h1 := uN_sk g (k := 4 * (15 - k)) (by omega)
  generalize (g.toUInt64 >>> ((nI (4 * (15 - k))).toInt64.toUInt64 &&& Int64.toUInt64 63)).toInt64 = y at h1
  have h2 : y.toInt32.toBitVec.toNat = uN y % 2 ^ 32 := by
    show (y.toBitVec.signExtend 32).toNat = _
    rw [BitVec.signExtend_eq_setWidth_of_le _ (by decide), BitVec.toNat_setWidth]
    rfl
  have h3 : 4 * (15 - k) = 60 - 4 * k := by omega
  rw [h2, h1, h3]
  unfold nib
  congr 1
  generalize uN g / 2 ^ (60 - 4 * k) = z
  omega
theorem nib_s (g : Int64) {s : Nat} (hs : s ≤ 60) : (g >>> ((nI s).toInt64 &&& 63)) &&& 15 = lN (uN g / 2 ^ s % 16) := by
  have hk : (((nI s).toInt64 &&& 63).toBitVec.smod 64).toNat = s := by
    have : ∀ z, z < 64 → (((nI z).toInt64 &&& 63).toBitVec.smod 64).toNat = z := by decide +kernel
    exact this s (by omega)
  apply uN_inj
  show ((g >>> ((nI s).toInt64 &&& 63)) &&& 15).toBitVec.toNat = (lN (uN g / 2 ^ s % 16)).toBitVec.toNat
  have e1 : ((g >>> ((nI s).toInt64 &&& 63)) &&& 15).toBitVec = (g.toBitVec >>> s) &&& 15#64 := by
    show (g.toBitVec.sshiftRight (((nI s).toInt64 &&& 63).toBitVec.smod 64).toNat) &&& 15#64 = _
    rw [hk]
    apply BitVec.eq_of_getLsbD_eq
    intro i hi
    rw [BitVec.getLsbD_and, BitVec.getLsbD_and, BitVec.getLsbD_sshiftRight, BitVec.getLsbD_ushiftRight]
    by_cases h4 : i < 4
    · have h5 : s + i < 64 := by omega
      simp [h5, Nat.not_le.mpr hi]
    · have h6 : (15#64).getLsbD i = false := by
        have : ∀ j, j < 64 → 4 ≤ j → (15#64).getLsbD j = false := by decide +kernel
        exact this i hi (by omega)
      rw [h6, Bool.and_false, Bool.and_false]
  rw [e1, BitVec.toNat_and, BitVec.toNat_ushiftRight, Nat.shiftRight_eq_div_pow]
  have e2 : (15#64).toNat = 2 ^ 4 - 1 := by decide
  rw [e2, Nat.and_two_pow_sub_one_eq_mod]
  show uN g / 2 ^ s % 2 ^ 4 = (BitVec.ofNat 64 (uN g / 2 ^ s % 16)).toNat
  rw [BitVec.toNat_ofNat]
  generalize uN g / 2 ^ s = z
  omega
