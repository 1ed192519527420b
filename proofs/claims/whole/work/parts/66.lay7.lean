/-! in how many ways so many twos can be taken -/
def zfz (g : Nat) (s : Nat) (k : Int) : Int := zsum (fun i => zb (g.testBit i.toNat = false)) s k
theorem zfz_nn (g s : Nat) (k : Int) : 0 ≤ zfz g s k ∧ zfz g s k ≤ s := by
  have := zsum_bd (f := fun i => zb (g.testBit i.toNat = false)) (b := 1) (j := s) (k := k) (fun i _ _ => by have := zb01 (g.testBit i.toNat = false); omega)
  unfold zfz
  omega
/-- from a free letter on -/
theorem zfz_cut {g s : Nat} {k i : Int} (h0 : k ≤ i) (h1 : i < k + s) (hf : g.testBit i.toNat = false) : zfz g ((k + s - 1 - i).toNat) (i + 1) + 1 ≤ zfz g s k := by
  have e : s = (i - k).toNat + (1 + (k + s - 1 - i).toNat) := by omega
  unfold zfz
  rw [show zsum (fun i => zb (g.testBit i.toNat = false)) s k = zsum (fun i => zb (g.testBit i.toNat = false)) ((i - k).toNat + (1 + (k + s - 1 - i).toNat)) k from congrArg (fun q => zsum _ q k) e, zsum_app, show k + ((i - k).toNat : Int) = i by omega, zsum_app, show i + ((1 : Nat) : Int) = i + 1 by omega, zsum_s, zsum_0, zb_t hf]
  have := (zfz_nn g (i - k).toNat k).1
  unfold zfz at this
  omega
theorem zfz_less {g b s : Nat} {k j : Int} (hk : 0 ≤ k) (h0 : k ≤ j) (h1 : j < k + s) (hf : g.testBit j.toNat = false) : zfz (g ||| b ||| 2 ^ j.toNat) s k + 1 ≤ zfz g s k := by
  have h := zsum_le (f := fun i => zb ((g ||| b ||| 2 ^ j.toNat).testBit i.toNat = false)) (g := fun i => zb (g.testBit i.toNat = false) - zb (i = j)) (j := s) (k := k) (fun i q1 q2 => by
    by_cases e : i = j
    · subst e
      rw [zb_t hf, zb_t rfl, zb_f (by rw [or_bit]; simp)]
      omega
    · rw [zb_f e]
      by_cases hg : g.testBit i.toNat = false
      · rw [zb_t hg]; have := zb01 ((g ||| b ||| 2 ^ j.toNat).testBit i.toNat = false); omega
      · rw [zb_f hg, zb_f (by rw [or_bit, Nat.testBit_or]; simp only [Bool.or_eq_false_iff, not_and]; intro h; exact absurd h.1 hg)]; omega)
  rw [zsum_sub, zsum_ind h0 h1] at h
  unfold zfz
  omega
/-- twos of letters from fr on, those in g being gone: k of them -/
def sPr (n : Nat) (may : Int → Int → Bool) : Nat → Nat → Nat → Int → Int
  | 0, _, _, k => if k = 0 then 1 else 0
  | u + 1, fr, g, k => if k = 0 then 1 else zsum (fun i => if g.testBit i.toNat = true then 0 else zsum (fun j => if g.testBit j.toNat = false ∧ may i j = true then sPr n may u (i.toNat + 1) (g ||| 2 ^ i.toNat ||| 2 ^ j.toNat) (k - 1) else 0) (n - 1 - i.toNat) (i + 1)) (n - fr) fr
def sPrF (n : Nat) (may : Int → Int → Bool) (u g : Nat) (k i : Int) : Int := if g.testBit i.toNat = true then 0 else zsum (fun j => if g.testBit j.toNat = false ∧ may i j = true then sPr n may u (i.toNat + 1) (g ||| 2 ^ i.toNat ||| 2 ^ j.toNat) (k - 1) else 0) (n - 1 - i.toNat) (i + 1)
theorem zsum_nn {f : Int → Int} : ∀ {j : Nat} {k : Int}, (∀ i, k ≤ i → i < k + j → 0 ≤ f i) → 0 ≤ zsum f j k
  | 0, k, _ => Int.le_refl _
  | j + 1, k, h => by
    rw [zsum_s]
    have := h k (by omega) (by omega)
    have := zsum_nn (f := f) (j := j) (k := k + 1) (fun i q1 q2 => h i (by omega) (by omega))
    omega
theorem sPr_nn (n : Nat) (may : Int → Int → Bool) : ∀ (u fr g : Nat) (k : Int), 0 ≤ sPr n may u fr g k
  | 0, fr, g, k => by unfold sPr; split <;> decide
  | u + 1, fr, g, k => by
    unfold sPr
    split
    · decide
    · refine zsum_nn (fun i _ _ => ?_)
      split
      · decide
      · refine zsum_nn (fun j _ _ => ?_)
        split
        · exact sPr_nn n may u _ _ _
        · decide
theorem sFac_mono : ∀ {a b : Nat}, a ≤ b → sFac a ≤ sFac b
  | a, 0, h => by rw [show a = 0 by omega]; exact Nat.le_refl _
  | a, b + 1, h => by
    by_cases e : a = b + 1
    · rw [e]; exact Nat.le_refl _
    · have h1 := sFac_mono (a := a) (b := b) (by omega)
      have : sFac (b + 1) = (b + 1) * sFac b := rfl
      rw [this]
      exact Nat.le_trans h1 (Nat.le_mul_of_pos_left _ (by omega))
theorem zsum_mul (f : Int → Int) (c : Int) : ∀ (j : Nat) (k : Int), zsum (fun i => f i * c) j k = zsum f j k * c
  | 0, k => by rw [zsum_0, zsum_0, Int.zero_mul]
  | j + 1, k => by rw [zsum_s, zsum_s, zsum_mul f c j (k + 1), Int.add_mul]
theorem sPr_le (n : Nat) (may : Int → Int → Bool) : ∀ (u fr g : Nat) (k : Int), sPr n may u fr g k ≤ sFac (zfz g (n - fr) fr).toNat
  | 0, fr, g, k => by
    have := sFac_pos (zfz g (n - fr) fr).toNat
    unfold sPr
    split <;> omega
  | u + 1, fr, g, k => by
    have hp := sFac_pos (zfz g (n - fr) fr).toNat
    unfold sPr
    split
    · omega
    · have hf := zfz_nn g (n - fr) fr
      have h1 := zsum_le (f := fun i => if g.testBit i.toNat = true then 0 else zsum (fun j => if g.testBit j.toNat = false ∧ may i j = true then sPr n may u (i.toNat + 1) (g ||| 2 ^ i.toNat ||| 2 ^ j.toNat) (k - 1) else 0) (n - 1 - i.toNat) (i + 1)) (g := fun i => zb (g.testBit i.toNat = false) * ((zfz g (n - fr) fr - 1) * sFac ((zfz g (n - fr) fr).toNat - 2))) (j := n - fr) (k := fr) (fun i q1 q2 => by
        by_cases e : g.testBit i.toNat = true
        · rw [if_pos e, zb_f (by rw [e]; decide), Int.zero_mul]; decide
        · have e : g.testBit i.toNat = false := by simpa using e
          rw [if_neg (by rw [e]; decide), zb_t e, Int.one_mul]
          have hc := zfz_cut (g := g) (s := n - fr) (k := fr) q1 q2 e
          rw [show ((fr : Int) + (n - fr : Nat) - 1 - i).toNat = n - 1 - i.toNat by omega] at hc
          have h2 := zsum_le (f := fun j => if g.testBit j.toNat = false ∧ may i j = true then sPr n may u (i.toNat + 1) (g ||| 2 ^ i.toNat ||| 2 ^ j.toNat) (k - 1) else 0) (g := fun j => zb (g.testBit j.toNat = false) * (sFac ((zfz g (n - fr) fr).toNat - 2) : Int)) (j := n - 1 - i.toNat) (k := i + 1) (fun j r1 r2 => by
            by_cases e2 : g.testBit j.toNat = false
            · rw [zb_t e2, Int.one_mul]
              split
              · have h3 := sPr_le n may u (i.toNat + 1) (g ||| 2 ^ i.toNat ||| 2 ^ j.toNat) (k - 1)
                have h4 := zfz_less (g := g) (b := 2 ^ i.toNat) (s := n - 1 - i.toNat) (k := i + 1) (j := j) (by omega) r1 r2 e2
                rw [show n - (i.toNat + 1) = n - 1 - i.toNat by omega, show ((i.toNat + 1 : Nat) : Int) = i + 1 by omega] at h3
                have h5 := sFac_mono (a := (zfz (g ||| 2 ^ i.toNat ||| 2 ^ j.toNat) (n - 1 - i.toNat) (i + 1)).toNat) (b := (zfz g (n - fr) fr).toNat - 2) (by omega)
                omega
              · exact Int.natCast_nonneg _
            · rw [if_neg (by intro h; exact e2 h.1), zb_f e2, Int.zero_mul]; decide)
          refine Int.le_trans h2 ?_
          rw [zsum_mul]
          refine Int.mul_le_mul_of_nonneg_right ?_ (Int.natCast_nonneg _)
          have : zsum (fun j => zb (g.testBit j.toNat = false)) (n - 1 - i.toNat) (i + 1) = zfz g (n - 1 - i.toNat) (i + 1) := rfl
          omega)
      rw [zsum_mul] at h1
      refine Int.le_trans h1 ?_
      have e : zsum (fun i => zb (g.testBit i.toNat = false)) (n - fr) fr = zfz g (n - fr) fr := rfl
      rw [e]
      generalize hz : zfz g (n - fr) fr = f at *
      obtain ⟨a, rfl⟩ : ∃ a : Nat, f = (a : Int) := ⟨f.toNat, by omega⟩
      rw [Int.toNat_natCast]
      rcases Nat.lt_or_ge a 2 with h | h
      · have : (a : Int) * (((a : Int) - 1) * (sFac (a - 2) : Nat)) = 0 := by
          rcases (show a = 0 ∨ a = 1 by omega) with rfl | rfl <;> simp
        rw [this]
        exact Int.natCast_nonneg _
      · obtain ⟨b, rfl⟩ : ∃ b, a = b + 2 := ⟨a - 2, by omega⟩
        have : ((sFac (b + 2) : Nat) : Int) = ((b + 2 : Nat) : Int) * (((b + 2 : Nat) - 1 : Int) * (sFac b : Nat)) := by
          have e2 : sFac (b + 2) = (b + 2) * ((b + 1) * sFac b) := rfl
          rw [e2, Int.natCast_mul, Int.natCast_mul, show ((b + 2 : Nat) - 1 : Int) = ((b + 1 : Nat) : Int) by omega]
        rw [this, show b + 2 - 2 = b by omega]
        exact Int.le_refl _
/-- with fuel enough -/
theorem sPr_eq {n : Nat} {may : Int → Int → Bool} {u fr g : Nat} {k : Int} (hk : k ≠ 0) (hu : zfz g (n - fr) fr ≤ 2 * u + 1) : sPr n may u fr g k = zsum (sPrF n may (u - 1) g k) (n - fr) fr := by
  cases u with
  | zero =>
    unfold sPr
    rw [if_neg hk]
    refine (zsum_z (fun i q1 q2 => ?_)).symm
    unfold sPrF
    split
    · rfl
    · rename_i e
      have e : g.testBit i.toNat = false := by simpa using e
      have hc := zfz_cut (g := g) (s := n - fr) (k := fr) q1 q2 e
      rw [show ((fr : Int) + (n - fr : Nat) - 1 - i).toNat = n - 1 - i.toNat by omega] at hc
      refine zsum_z (fun j r1 r2 => if_neg (fun h => ?_))
      have := zfz_less (g := g) (b := 2 ^ i.toNat) (s := n - 1 - i.toNat) (k := i + 1) (j := j) (by omega) r1 r2 h.1
      have := (zfz_nn (g ||| 2 ^ i.toNat ||| 2 ^ j.toNat) (n - 1 - i.toNat) (i + 1)).1
      omega
  | succ u =>
    show (if k = 0 then 1 else _) = _
    rw [if_neg hk]
    rfl
theorem sPr_0 {n : Nat} {may : Int → Int → Bool} {u fr g : Nat} : sPr n may u fr g 0 = 1 := by
  cases u <;> rfl
