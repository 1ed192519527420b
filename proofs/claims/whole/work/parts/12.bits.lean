/-! bits of small numbers -/
theorem zbN (a : Nat) : Int32.ofInt (a : Int) = nI a := rfl
theorem zbI {a : Nat} (h : a < 2147483648) : (nI a).toInt = (a : Int) := nI_toInt h
theorem zb_and_nI (a b : Nat) : nI a &&& nI b = nI (a &&& b) := by
  apply Int32.toBitVec.inj
  show BitVec.ofInt 32 (a : Int) &&& BitVec.ofInt 32 (b : Int) = BitVec.ofInt 32 ((a &&& b : Nat) : Int)
  rw [BitVec.ofInt_natCast, BitVec.ofInt_natCast, BitVec.ofInt_natCast]
  exact (BitVec.ofNat_and ..).symm
theorem zb_or_nI (a b : Nat) : nI a ||| nI b = nI (a ||| b) := by
  apply Int32.toBitVec.inj
  show BitVec.ofInt 32 (a : Int) ||| BitVec.ofInt 32 (b : Int) = BitVec.ofInt 32 ((a ||| b : Nat) : Int)
  rw [BitVec.ofInt_natCast, BitVec.ofInt_natCast, BitVec.ofInt_natCast]
  exact (BitVec.ofNat_or ..).symm
theorem zb_xor_nI (a b : Nat) : nI a ^^^ nI b = nI (a ^^^ b) := by
  apply Int32.toBitVec.inj
  show BitVec.ofInt 32 (a : Int) ^^^ BitVec.ofInt 32 (b : Int) = BitVec.ofInt 32 ((a ^^^ b : Nat) : Int)
  rw [BitVec.ofInt_natCast, BitVec.ofInt_natCast, BitVec.ofInt_natCast]
  exact (BitVec.ofNat_xor ..).symm
theorem zand_N {a b : Nat} (ha : a < 2147483648) : zand a b = ((a &&& b : Nat) : Int) := by
  unfold zand
  rw [zbN, zbN, zb_and_nI, zbI (Nat.lt_of_le_of_lt Nat.and_le_left ha)]
theorem zor_N {a b : Nat} (ha : a < 2147483648) (hb : b < 2147483648) : zor a b = ((a ||| b : Nat) : Int) := by
  unfold zor
  rw [zbN, zbN, zb_or_nI, zbI (Nat.or_lt_two_pow (n := 31) ha hb)]
theorem zxor_N {a b : Nat} (ha : a < 2147483648) (hb : b < 2147483648) : zxor a b = ((a ^^^ b : Nat) : Int) := by
  unfold zxor
  rw [zbN, zbN, zb_xor_nI, zbI (Nat.xor_lt_two_pow (n := 31) ha hb)]
theorem zbv {a : Nat} (h : a < 2147483648) : (BitVec.ofNat 32 a).toInt = (a : Int) := by
  have h1 := zbI h
  have h2 : (nI a).toInt = (BitVec.ofInt 32 (a : Int)).toInt := rfl
  rw [h2, BitVec.ofInt_natCast] at h1
  exact h1
theorem zb_sm : ∀ n, n < 32 → ((nI n &&& 31).toBitVec.smod 32) = BitVec.ofNat 32 n := by decide +kernel
theorem zshr_N {a k : Nat} (ha : a < 2147483648) (hk : k < 32) : zshr a k = ((a / 2 ^ k : Nat) : Int) := by
  unfold zshr
  rw [zbN, zbN]
  have h1 : (nI a >>> (nI k &&& 31)).toBitVec = BitVec.ofNat 32 (a / 2 ^ k) := by
    rw [Int32.toBitVec_shiftRight, zb_sm k hk]
    show (BitVec.ofInt 32 (a : Int)).sshiftRight' (BitVec.ofNat 32 k) = _
    rw [BitVec.ofInt_natCast, BitVec.sshiftRight_eq', BitVec.toNat_ofNat, Nat.mod_eq_of_lt (by omega)]
    apply BitVec.eq_of_toInt_eq
    rw [BitVec.toInt_sshiftRight]
    have e1 : (BitVec.ofNat 32 a).toInt = (a : Int) := zbv ha
    have h2 : a / 2 ^ k ≤ a := Nat.div_le_self _ _
    have e2 : (BitVec.ofNat 32 (a / 2 ^ k)).toInt = ((a / 2 ^ k : Nat) : Int) := zbv (by omega)
    rw [e1, e2, Int.shiftRight_eq_div_pow]
    norm_cast
  have h2 : a / 2 ^ k ≤ a := Nat.div_le_self _ _
  show BitVec.toInt (nI a >>> (nI k &&& 31)).toBitVec = _
  rw [h1]
  exact zbv (by omega)
theorem zshl_N {a k : Nat} (hk : k < 32) (h : a * 2 ^ k < 2147483648) : zshl a k = ((a * 2 ^ k : Nat) : Int) := by
  unfold zshl
  rw [zbN, zbN]
  have h1 : (nI a <<< (nI k &&& 31)).toBitVec = BitVec.ofNat 32 (a * 2 ^ k) := by
    rw [Int32.toBitVec_shiftLeft, zb_sm k hk]
    show (BitVec.ofInt 32 (a : Int)) <<< (BitVec.ofNat 32 k) = _
    rw [BitVec.ofInt_natCast, BitVec.shiftLeft_eq', BitVec.toNat_ofNat, Nat.mod_eq_of_lt (by omega : k < 2 ^ 32)]
    apply BitVec.eq_of_toNat_eq
    rw [BitVec.toNat_shiftLeft, BitVec.toNat_ofNat, BitVec.toNat_ofNat, Nat.shiftLeft_eq, Nat.mod_mul_mod]
  show BitVec.toInt (nI a <<< (nI k &&& 31)).toBitVec = _
  rw [h1]
  exact zbv (by omega)
theorem zshl_1 {k : Nat} (hk : k < 31) : zshl 1 k = ((2 ^ k : Nat) : Int) := by
  have h := Nat.pow_lt_pow_right (by omega : 1 < 2) hk
  have := zshl_N (a := 1) (k := k) (by omega) (by omega)
  simpa using this
/-- the truth of a bit -/
def zb (p : Prop) [Decidable p] : Int := if p then 1 else 0
theorem zb01 (p : Prop) [Decidable p] : zb p = 0 ∨ zb p = 1 := by unfold zb; split <;> simp
theorem zb_t {p : Prop} [Decidable p] (h : p) : zb p = 1 := if_pos h
theorem zb_f {p : Prop} [Decidable p] (h : ¬ p) : zb p = 0 := if_neg h
theorem zbit {a k : Nat} (ha : a < 2147483648) (hk : k < 32) : zand (zshr a k) 1 = zb (a.testBit k = true) := by
  rw [zshr_N ha hk]
  have h2 : a / 2 ^ k ≤ a := Nat.div_le_self _ _
  have h3 := zand_N (a := a / 2 ^ k) (b := 1) (by omega)
  rw [show ((1 : Nat) : Int) = (1 : Int) from rfl] at h3
  rw [h3, Nat.and_one_is_mod]
  have h4 : a.testBit k = decide (a / 2 ^ k % 2 = 1) := Nat.testBit_eq_decide_div_mod_eq
  rw [h4]
  unfold zb
  by_cases h : a / 2 ^ k % 2 = 1
  · rw [h]; simp
  · rw [if_neg (by simpa using h)]; omega
/-- and not -/
theorem zandn_N {a b : Nat} (ha : a < 2147483648) (hb : b < 2147483648) : zand a (zxor b (-1)) = ((a ^^^ (a &&& b) : Nat) : Int) := by
  unfold zand zxor
  rw [Int32.ofInt_toInt, zbN, zbN]
  have e : nI a &&& (nI b ^^^ Int32.ofInt (-1)) = nI (a ^^^ (a &&& b)) := by
    apply Int32.toBitVec.inj
    rw [← zb_xor_nI, ← zb_and_nI]
    show (nI a).toBitVec &&& ((nI b).toBitVec ^^^ (BitVec.ofInt 32 (-1))) = (nI a).toBitVec ^^^ ((nI a).toBitVec &&& (nI b).toBitVec)
    apply BitVec.eq_of_getLsbD_eq
    intro i hi
    have h1 : (BitVec.ofInt 32 (-1)).getLsbD i = true := by
      have : BitVec.ofInt 32 (-1) = BitVec.allOnes 32 := by decide
      rw [this, BitVec.getLsbD_allOnes, decide_eq_true hi]
    simp only [BitVec.getLsbD_and, BitVec.getLsbD_xor, h1]
    cases (nI a).toBitVec.getLsbD i <;> cases (nI b).toBitVec.getLsbD i <;> rfl
  rw [e, zbI (Nat.xor_lt_two_pow (n := 31) ha (Nat.lt_of_le_of_lt Nat.and_le_left ha))]
-- locals behind a store, written out
theorem zs0 {w v : zV} {L : List zV} : zst (w :: L) 0 v = v :: L := rfl
theorem zsI {a : Int} {v : zV} {L : List zV} : zst (zI a :: L) 1 v = zI a :: zst L 0 v := rfl
theorem zsP {a : Int} {v : zV} {L : List zV} : zst (zP a :: L) 1 v = zP a :: zst L 0 v := rfl
theorem zsQ {a : Nat} {v : zV} {L : List zV} : zst (zQ a :: L) 1 v = zQ a :: zst L 0 v := rfl
theorem zsN {v : zV} {L : List zV} : zst (zN :: L) 1 v = zN :: zst L 0 v := rfl
theorem zsJ {a : Int} {v : zV} {L : List zV} : zst (zJ a :: L) 1 v = zN :: zst L 0 v := rfl
theorem zsS {w v : zV} {L : List zV} {i : Nat} : zst (w :: L) (i + 2) v = w :: zst L (i + 1) v := rfl
