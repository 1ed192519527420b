/-! bits of longs that are not below 0 -/
theorem zlN (a : Nat) : Int64.ofInt (a : Int) = lN a := rfl
theorem zlI {a : Nat} (h : a < 9223372036854775808) : (lN a).toInt = (a : Int) := by
  show (Int64.ofInt (a : Int)).toInt = a
  exact z64_toInt ⟨by omega, by omega⟩
theorem zlbv {a : Nat} (h : a < 9223372036854775808) : (BitVec.ofNat 64 a).toInt = (a : Int) := by
  have h1 := zlI h
  have h2 : (lN a).toInt = (BitVec.ofInt 64 (a : Int)).toInt := rfl
  rw [h2, BitVec.ofInt_natCast] at h1
  exact h1
theorem zl_and_lN (a b : Nat) : lN a &&& lN b = lN (a &&& b) := by
  apply Int64.toBitVec.inj
  show BitVec.ofInt 64 (a : Int) &&& BitVec.ofInt 64 (b : Int) = BitVec.ofInt 64 ((a &&& b : Nat) : Int)
  rw [BitVec.ofInt_natCast, BitVec.ofInt_natCast, BitVec.ofInt_natCast]
  exact (BitVec.ofNat_and ..).symm
theorem zl_or_lN (a b : Nat) : lN a ||| lN b = lN (a ||| b) := by
  apply Int64.toBitVec.inj
  show BitVec.ofInt 64 (a : Int) ||| BitVec.ofInt 64 (b : Int) = BitVec.ofInt 64 ((a ||| b : Nat) : Int)
  rw [BitVec.ofInt_natCast, BitVec.ofInt_natCast, BitVec.ofInt_natCast]
  exact (BitVec.ofNat_or ..).symm
theorem zland_N {a b : Nat} (ha : a < 9223372036854775808) : zland a b = ((a &&& b : Nat) : Int) := by
  unfold zland
  rw [zlN, zlN, zl_and_lN, zlI (Nat.lt_of_le_of_lt Nat.and_le_left ha)]
theorem zlor_N {a b : Nat} (ha : a < 9223372036854775808) (hb : b < 9223372036854775808) : zlor a b = ((a ||| b : Nat) : Int) := by
  unfold zlor
  rw [zlN, zlN, zl_or_lN, zlI (Nat.or_lt_two_pow (n := 63) ha hb)]
theorem zl_c : ∀ k, k < 64 → (((Int32.ofInt ((k : Nat) : Int)).toInt64 &&& 63).toBitVec.smod 64) = BitVec.ofNat 64 k := by decide +kernel
theorem zl_cu : ∀ k, k < 64 → ((Int32.ofInt ((k : Nat) : Int)).toInt64.toUInt64 &&& Int64.toUInt64 63) = UInt64.ofNat k := by decide +kernel
theorem zlshl_N {a k : Nat} (hk : k < 64) (h : a * 2 ^ k < 9223372036854775808) : zlshl a k = ((a * 2 ^ k : Nat) : Int) := by
  unfold zlshl
  rw [zlN]
  have h1 : (lN a <<< ((Int32.ofInt ((k : Nat) : Int)).toInt64 &&& 63)).toBitVec = BitVec.ofNat 64 (a * 2 ^ k) := by
    rw [Int64.toBitVec_shiftLeft, zl_c k hk]
    show (BitVec.ofInt 64 (a : Int)) <<< (BitVec.ofNat 64 k) = _
    rw [BitVec.ofInt_natCast, BitVec.shiftLeft_eq', BitVec.toNat_ofNat, Nat.mod_eq_of_lt (by omega : k < 2 ^ 64)]
    apply BitVec.eq_of_toNat_eq
    rw [BitVec.toNat_shiftLeft, BitVec.toNat_ofNat, BitVec.toNat_ofNat, Nat.shiftLeft_eq, Nat.mod_mul_mod]
  show BitVec.toInt (lN a <<< ((Int32.ofInt ((k : Nat) : Int)).toInt64 &&& 63)).toBitVec = _
  rw [h1]
  exact zlbv h
theorem zlshr_N {a k : Nat} (ha : a < 9223372036854775808) (hk : k < 64) : zlshr a k = ((a / 2 ^ k : Nat) : Int) := by
  unfold zlshr
  rw [zlN]
  have h2 : a / 2 ^ k ≤ a := Nat.div_le_self _ _
  have h1 : (lN a >>> ((Int32.ofInt ((k : Nat) : Int)).toInt64 &&& 63)).toBitVec = BitVec.ofNat 64 (a / 2 ^ k) := by
    rw [Int64.toBitVec_shiftRight, zl_c k hk]
    show (BitVec.ofInt 64 (a : Int)).sshiftRight' (BitVec.ofNat 64 k) = _
    rw [BitVec.ofInt_natCast, BitVec.sshiftRight_eq', BitVec.toNat_ofNat, Nat.mod_eq_of_lt (by omega)]
    apply BitVec.eq_of_toInt_eq
    rw [BitVec.toInt_sshiftRight, zlbv ha, zlbv (by omega), Int.shiftRight_eq_div_pow]
    norm_cast
  show BitVec.toInt (lN a >>> ((Int32.ofInt ((k : Nat) : Int)).toInt64 &&& 63)).toBitVec = _
  rw [h1]
  exact zlbv (by omega)
theorem zlushr_N {a k : Nat} (ha : a < 9223372036854775808) (hk : k < 64) : zlushr a k = ((a / 2 ^ k : Nat) : Int) := by
  unfold zlushr
  rw [zl_cu k hk, zlN]
  have h2 : a / 2 ^ k ≤ a := Nat.div_le_self _ _
  have h1 : ((lN a).toUInt64 >>> UInt64.ofNat k).toInt64 = lN (a / 2 ^ k) := by
    apply Int64.toBitVec.inj
    show ((lN a).toUInt64 >>> UInt64.ofNat k).toBitVec = BitVec.ofInt 64 ((a / 2 ^ k : Nat) : Int)
    rw [UInt64.toBitVec_shiftRight, BitVec.ofInt_natCast]
    show (BitVec.ofInt 64 (a : Int)) >>> ((UInt64.ofNat k).toBitVec % 64) = _
    rw [BitVec.ofInt_natCast]
    apply BitVec.eq_of_toNat_eq
    rw [BitVec.ushiftRight_eq', BitVec.toNat_ushiftRight, BitVec.toNat_ofNat, BitVec.toNat_ofNat, Nat.mod_eq_of_lt (by omega : a < 2 ^ 64), Nat.mod_eq_of_lt (by omega : a / 2 ^ k < 2 ^ 64), Nat.shiftRight_eq_div_pow]
    congr 2
    have : ∀ k, k < 64 → ((UInt64.ofNat k).toBitVec % 64).toNat = k := by decide +kernel
    exact this k hk
  rw [h1]
  exact zlI (by omega)
theorem zl2i_N {a : Nat} (h : a < 2147483648) : zl2i a = (a : Int) := by
  unfold zl2i
  rw [zlN, lN_i, nI_toInt h]
/-- behind ten bits more -/
theorem zl_put {v r : Int} (h0 : 0 ≤ v) (h1 : v < 1125899906842624) (h2 : 0 ≤ r) (h3 : r < 1024) : zlor (zlshl v 10) r = v * 1024 + r := by
  obtain ⟨a, rfl⟩ : ∃ a : Nat, v = (a : Int) := ⟨v.toNat, by omega⟩
  obtain ⟨b, rfl⟩ : ∃ b : Nat, r = (b : Int) := ⟨r.toNat, by omega⟩
  have e := zlshl_N (a := a) (k := 10) (by omega) (by omega)
  rw [show ((10 : Nat) : Int) = (10 : Int) from rfl] at e
  rw [e, zlor_N (by omega) (by omega)]
  have h4 := Nat.two_pow_add_eq_or_of_lt (i := 10) (b := b) (by omega) a
  rw [show a * 2 ^ 10 = 2 ^ 10 * a by omega, ← h4]
  omega
