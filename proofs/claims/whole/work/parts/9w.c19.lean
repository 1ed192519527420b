/-- twelve digits of four bits, the first highest -/
def pkN (D : Nat → Nat) : Nat → Nat
  | 0 => 0
  | k + 1 => pkN D k * 16 + D k
theorem pkN_bit {D : Nat → Nat} : ∀ (k b : Nat), (∀ i, i < k → D i < 16) → (pkN D k).testBit b = (decide (b < 4 * k) && (D (k - 1 - b / 4)).testBit (b % 4))
  | 0, b, _ => by simp [pkN]
  | k + 1, b, h => by
    have ih := pkN_bit (D := D) k
    show (pkN D k * 16 + D k).testBit b = _
    rw [show pkN D k * 16 + D k = 2 ^ 4 * pkN D k + D k by omega, Nat.testBit_two_pow_mul_add _ (by have := h k (by omega); omega)]
    by_cases hb : b < 4
    · rw [if_pos hb, decide_eq_true (by omega), Bool.true_and, show k + 1 - 1 - b / 4 = k by omega, show b % 4 = b by omega]
    · rw [if_neg hb, ih (b - 4) (fun i hi => h i (by omega)), show k + 1 - 1 - b / 4 = k - 1 - (b - 4) / 4 by omega, show (b - 4) % 4 = b % 4 by omega]
      by_cases hk : b < 4 * (k + 1)
      · rw [decide_eq_true (by omega), decide_eq_true hk]
      · rw [decide_eq_false (by omega), decide_eq_false hk]
theorem pkN_lt {D : Nat → Nat} : ∀ (k : Nat), (∀ i, i < k → D i < 16) → pkN D k < 16 ^ k
  | 0, _ => by simp [pkN]
  | k + 1, h => by
    have h1 := pkN_lt (D := D) k (fun i hi => h i (by omega))
    have h2 := h k (by omega)
    show pkN D k * 16 + D k < 16 ^ (k + 1)
    rw [Nat.pow_succ]
    omega
theorem pkN_congr {D D' : Nat → Nat} : ∀ {k : Nat}, (∀ i, i < k → D i = D' i) → pkN D k = pkN D' k
  | 0, _ => rfl
  | k + 1, h => by
    show pkN D k * 16 + D k = pkN D' k * 16 + D' k
    rw [pkN_congr (fun i hi => h i (by omega)), h k (by omega)]
theorem pkN_less {D D' : Nat → Nat} {x : Nat} (h1 : ∀ y, y < x → D y = D' y) (h2 : D x < D' x) : ∀ {k : Nat}, x < k → (∀ i, i < k → D i < 16) → pkN D k < pkN D' k
  | 0, hx, _ => absurd hx (by omega)
  | k + 1, hx, h => by
    show pkN D k * 16 + D k < pkN D' k * 16 + D' k
    by_cases e : x = k
    · subst e
      rw [pkN_congr (D := D) (D' := D') (fun i hi => h1 i hi)]
      omega
    · have := pkN_less (D := D) (D' := D') h1 h2 (k := k) (by omega) (fun i hi => h i (by omega))
      have := h k (by omega)
      omega
theorem pkN_inj {D D' : Nat → Nat} : ∀ {k : Nat}, (∀ i, i < k → D i < 16) → (∀ i, i < k → D' i < 16) → pkN D k = pkN D' k → ∀ i, i < k → D i = D' i
  | 0, _, _, _, i, hi => absurd hi (by omega)
  | k + 1, h, h', e, i, hi => by
    have e : pkN D k * 16 + D k = pkN D' k * 16 + D' k := e
    have a := h k (by omega)
    have b := h' k (by omega)
    by_cases q : i = k
    · subst q; omega
    · exact pkN_inj (k := k) (fun i hi => h i (by omega)) (fun i hi => h' i (by omega)) (by omega) i (by omega)
def pkp (i j : Nat) : Nat := j * 2 ^ (44 - 4 * i) ||| i * 2 ^ (44 - 4 * j)
theorem pk_fit (a i : Nat) (ha : a < 16) (hi : i < 12) : a * 2 ^ (44 - 4 * i) < 9223372036854775808 := by
  have h1 : 2 ^ (44 - 4 * i) ≤ 2 ^ 44 := Nat.pow_le_pow_right (by decide) (by omega)
  have h2 : a * 2 ^ (44 - 4 * i) ≤ 15 * 2 ^ 44 := Nat.mul_le_mul (by omega) h1
  have h3 : 15 * 2 ^ 44 < 9223372036854775808 := by decide
  omega
theorem pkp_lt {i j : Nat} (hi : i < 12) (hj : j < 12) : pkp i j < 2 ^ 48 := by
  have h1 : 2 ^ (44 - 4 * i) ≤ 2 ^ 44 := Nat.pow_le_pow_right (by decide) (by omega)
  have h2 : j * 2 ^ (44 - 4 * i) ≤ 11 * 2 ^ 44 := Nat.mul_le_mul (by omega) h1
  have h3 : 2 ^ (44 - 4 * j) ≤ 2 ^ 44 := Nat.pow_le_pow_right (by decide) (by omega)
  have h4 : i * 2 ^ (44 - 4 * j) ≤ 11 * 2 ^ 44 := Nat.mul_le_mul (by omega) h3
  exact Nat.or_lt_two_pow (by omega) (by omega)
theorem mul_bit (a k b : Nat) : (a * 2 ^ k).testBit b = (decide (k ≤ b) && a.testBit (b - k)) := by
  rw [← Nat.shiftLeft_eq, Nat.testBit_shiftLeft]
theorem bit16 {a t : Nat} (ha : a < 16) (ht : 4 ≤ t) : a.testBit t = false := Nat.testBit_lt_two_pow (Nat.lt_of_lt_of_le ha (Nat.pow_le_pow_right (n := 2) (i := 4) (by omega) ht))
theorem dig_bit {a i b : Nat} (ha : a < 16) (hi : i < 12) (hb : b < 48) : (a * 2 ^ (44 - 4 * i)).testBit b = (decide (11 - b / 4 = i) && a.testBit (b % 4)) := by
  rw [mul_bit]
  by_cases h : 44 - 4 * i ≤ b
  · rw [decide_eq_true h, Bool.true_and]
    by_cases e : 11 - b / 4 = i
    · rw [decide_eq_true e, Bool.true_and, show b - (44 - 4 * i) = b % 4 by omega]
    · rw [decide_eq_false e, Bool.false_and]
      exact bit16 ha (by omega)
  · rw [decide_eq_false h, decide_eq_false (by omega), Bool.false_and, Bool.false_and]
/-- two letters come together -/
def dUp (D : Nat → Nat) (i j : Nat) : Nat → Nat := fun x => if x = j then i else if x = i then j else D x
theorem pk_up {D : Nat → Nat} {i j : Nat} (hD : ∀ x, x < 12 → D x < 16) (hi : i < 12) (hj : j < 12) (hij : i ≠ j) (h1 : D i = 0) (h2 : D j = 0) : pkN D 12 ||| pkp i j = pkN (dUp D i j) 12 := by
  have hD' : ∀ x, x < 12 → dUp D i j x < 16 := fun x hx => by unfold dUp; have := hD x hx; split <;> (try split) <;> omega
  refine zset_ext (fun b => ?_)
  unfold pkp
  rw [Nat.testBit_or, Nat.testBit_or, pkN_bit 12 b hD, pkN_bit 12 b hD']
  by_cases hb : b < 48
  · rw [dig_bit (by omega) hi hb, dig_bit (by omega) hj hb, decide_eq_true (show b < 4 * 12 by omega), Bool.true_and, Bool.true_and]
    show _ = (dUp D i j (12 - 1 - b / 4)).testBit (b % 4)
    rw [show 12 - 1 - b / 4 = 11 - b / 4 by omega]
    generalize 11 - b / 4 = x
    unfold dUp
    by_cases e1 : x = j
    · rw [if_pos e1, decide_eq_false (by omega), decide_eq_true e1, e1, h2]
      simp
    · rw [if_neg e1, decide_eq_false e1]
      by_cases e2 : x = i
      · rw [if_pos e2, decide_eq_true e2, e2, h1]
        simp
      · rw [if_neg e2, decide_eq_false e2]
        simp
  · rw [decide_eq_false (show ¬ b < 4 * 12 by omega), Bool.false_and, Bool.false_and, Bool.false_or, mul_bit, mul_bit, bit16 (a := j) (by omega) (by omega), bit16 (a := i) (by omega) (by omega)]
    simp
theorem zl2i_15 {a : Nat} : zand (zl2i (a : Int)) 15 = ((a % 16 : Nat) : Int) := by
  unfold zand zl2i
  rw [zlN, lN_i, Int32.ofInt_toInt, show Int32.ofInt 15 = nI 15 from rfl, zb_and_nI]
  have e : a &&& 15 = a % 16 := Nat.and_two_pow_sub_one_eq_mod a 4
  rw [e, nI_toInt (by omega)]
theorem pk_at {D : Nat → Nat} {i : Nat} (hD : ∀ x, x < 12 → D x < 16) (hi : i < 12) : pkN D 12 / 2 ^ (44 - 4 * i) % 16 = D i := by
  refine zset_ext (fun t => ?_)
  rw [show (16 : Nat) = 2 ^ 4 from rfl, Nat.testBit_mod_two_pow, Nat.testBit_div_two_pow, pkN_bit 12 _ hD]
  by_cases ht : t < 4
  · rw [decide_eq_true ht, decide_eq_true (by omega), Bool.true_and, Bool.true_and, show 12 - 1 - (t + (44 - 4 * i)) / 4 = i by omega, show (t + (44 - 4 * i)) % 4 = t by omega]
  · rw [decide_eq_false ht, Bool.false_and, bit16 (hD i hi) (by omega)]
theorem pk_mate {D : Nat → Nat} {i : Nat} (hD : ∀ x, x < 12 → D x < 16) (hi : i < 12) : zand (zl2i (zlushr ((pkN D 12 : Nat) : Int) (44 - 4 * (i : Int)))) 15 = ((D i : Nat) : Int) := by
  have hl := pkN_lt 12 hD
  rw [show (16 : Nat) ^ 12 = 281474976710656 from rfl] at hl
  rw [show (44 : Int) - 4 * (i : Int) = ((44 - 4 * i : Nat) : Int) by omega, zlushr_N (by omega) (by omega), zl2i_15, pk_at hD hi]
theorem c_packed (d : Nat) {E : zE} {m : zM} (i j : Nat) (hi : i < 12) (hj : j < 12) : zR zX4_packed (d) [zI (i : Nat), zI (j : Nat)] m E E (fun r m' => r = some (zJ (pkp i j : Nat)) ∧ m = m') := by
  refine zR_go [zI (i : Nat), zI (j : Nat)] (by decide +kernel) (Nat.le_of_ble_eq_true rfl) rfl rfl ?_
  refine z_iload_n dX4_packed_0 rfl ?_
  refine z_i2l dX4_packed_1 ?_
  refine z_bipush dX4_packed_2 rfl (by decide) ?_
  refine z_iconst dX4_packed_4 (by decide) ?_
  refine z_iload_n dX4_packed_5 rfl ?_
  refine z_mul dX4_packed_6 (by omega) ?_
  refine z_sub dX4_packed_7 (by omega) ?_
  refine z_lshl dX4_packed_8 ?_
  rw [show (44 : Int) - 4 * (i : Nat) = ((44 - 4 * i : Nat) : Int) by omega, zlshl_N (by omega) (pk_fit j i (by omega) (by omega))]
  refine z_iload_n dX4_packed_9 rfl ?_
  refine z_i2l dX4_packed_10 ?_
  refine z_bipush dX4_packed_11 rfl (by decide) ?_
  refine z_iconst dX4_packed_13 (by decide) ?_
  refine z_iload_n dX4_packed_14 rfl ?_
  refine z_mul dX4_packed_15 (by omega) ?_
  refine z_sub dX4_packed_16 (by omega) ?_
  refine z_lshl dX4_packed_17 ?_
  rw [show (44 : Int) - 4 * (j : Nat) = ((44 - 4 * j : Nat) : Int) by omega, zlshl_N (by omega) (pk_fit i j (by omega) (by omega))]
  refine z_lor dX4_packed_18 ?_
  rw [zlor_N (pk_fit j i (by omega) (by omega)) (pk_fit i j (by omega) (by omega))]
  refine z_lret dX4_packed_19 rfl rfl ?_
  exact ⟨rfl, rfl⟩
