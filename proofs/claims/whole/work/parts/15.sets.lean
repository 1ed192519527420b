/-! sets of small numbers, as bits -/
def zmask (f : Nat → Bool) : Nat → Nat
  | 0 => 0
  | n + 1 => if f n then zmask f n ||| 2 ^ n else zmask f n
theorem zmask_lt (f : Nat → Bool) : ∀ n, zmask f n < 2 ^ n
  | 0 => by simp [zmask]
  | n + 1 => by
    have h := zmask_lt f n
    have h2 : (2 : Nat) ^ n < 2 ^ (n + 1) := by rw [Nat.pow_succ]; have := Nat.two_pow_pos n; omega
    unfold zmask
    split
    · exact Nat.or_lt_two_pow (by omega) h2
    · omega
theorem zmask_bit (f : Nat → Bool) : ∀ n i, (zmask f n).testBit i = (decide (i < n) && f i)
  | 0, i => by simp [zmask]
  | n + 1, i => by
    have h := zmask_bit f n i
    have e : (2 ^ n).testBit i = decide (n = i) := Nat.testBit_two_pow
    have e2 : (zmask f (n + 1)).testBit i = ((zmask f n).testBit i || (f n && decide (n = i))) := by
      rw [show zmask f (n + 1) = if f n then zmask f n ||| 2 ^ n else zmask f n from rfl]
      cases hf : f n <;> simp [Nat.testBit_or, e]
    rw [e2, h]
    by_cases hi : n = i
    · subst hi; simp
    · have : (decide (i < n + 1)) = decide (i < n) := by
        by_cases h1 : i < n
        · simp [h1]; omega
        · simp [h1]; omega
      simp [hi, this]
theorem zmask_s {f : Nat → Bool} {n : Nat} (h : f n = true) : zmask f (n + 1) = zmask f n ||| 2 ^ n := by simp [zmask, h]
theorem zmask_n {f : Nat → Bool} {n : Nat} (h : f n = false) : zmask f (n + 1) = zmask f n := by simp [zmask, h]
theorem zor_0 {a : Nat} (ha : a < 2147483648) : zor a 0 = (a : Int) := by
  have := zor_N (a := a) (b := 0) ha (by omega)
  simpa using this
theorem zor_b {a k : Nat} (ha : a < 2147483648) (hk : k < 31) : zor a (zshl 1 k) = ((a ||| 2 ^ k : Nat) : Int) := by
  rw [zshl_1 hk]
  have h := Nat.pow_lt_pow_right (by omega : 1 < 2) hk
  exact zor_N ha (by omega)
theorem zall {k : Nat} (hk : k < 31) : zshl 1 k - 1 = ((2 ^ k - 1 : Nat) : Int) := by
  rw [zshl_1 hk]
  have := Nat.two_pow_pos k
  omega
/-- two sets are one if they have the same members -/
theorem zset_ext {a b : Nat} (h : ∀ i, a.testBit i = b.testBit i) : a = b := Nat.eq_of_testBit_eq h
