/-! how many pairings a set of letters has -/
theorem sLay_0 (n : Nat) (may : Int → Int → Bool) (mt : Int → Int) : sLay n may 0 mt = if sFst mt n < 0 then [mt] else [] := rfl
theorem sLay_s (n : Nat) (may : Int → Int → Bool) (u : Nat) (mt : Int → Int) : sLay n may (u + 1) mt = if sFst mt n < 0 then [mt] else sCat (fun j => if mt j < 0 ∧ may (sFst mt n) j = true then sLay n may u (sUp mt (sFst mt n) j) else []) (n - 1 - (sFst mt n).toNat) (sFst mt n + 1) := rfl
theorem sFst_congr {n : Nat} {mt mt' : Int → Int} (h : ∀ i : Int, 0 ≤ i → i < n → (mt i < 0 ↔ mt' i < 0)) : sFst mt n = sFst mt' n := zfst_congr (fun i q0 q1 => decide_eq_decide.mpr (h i q0 (by omega)))
theorem sCat_length {α : Type} (g : Int → List α) : ∀ (s : Nat) (k : Int), ((sCat g s k).length : Int) = zsum (fun j => ((g j).length : Int)) s k
  | 0, _ => rfl
  | s + 1, k => by rw [sCat_s, List.length_append, zsum_s, ← sCat_length g s (k + 1)]; omega
theorem sCat_congr {α : Type} {g g' : Int → List α} : ∀ {s : Nat} {k : Int}, (∀ j, k ≤ j → j < k + s → g j = g' j) → sCat g s k = sCat g' s k
  | 0, _, _ => rfl
  | s + 1, k, h => by rw [sCat_s, sCat_s, h k (by omega) (by omega), sCat_congr (fun j h1 h2 => h j (by omega) (by omega))]
theorem sUp_neg {mt : Int → Int} {i j x : Int} (hi : 0 ≤ i) (hj : 0 ≤ j) : sUp mt i j x < 0 ↔ mt x < 0 ∧ x ≠ i ∧ x ≠ j := by
  unfold sUp
  split
  · constructor
    · intro h; omega
    · intro h; exact absurd (by assumption) h.2.2
  · split
    · constructor
      · intro h; omega
      · intro h; exact absurd (by assumption) h.2.1
    · constructor
      · intro h; exact ⟨h, by assumption, by assumption⟩
      · intro h; exact h.1
/-- what is free decides how many -/
theorem sLay_frl {n : Nat} {may : Int → Int → Bool} : ∀ (u : Nat) (mt mt' : Int → Int), (∀ i : Int, 0 ≤ i → i < n → (mt i < 0 ↔ mt' i < 0)) → (sLay n may u mt).length = (sLay n may u mt').length
  | 0, mt, mt', h => by rw [sLay_0, sLay_0, sFst_congr h]; split <;> rfl
  | u + 1, mt, mt', h => by
    rw [sLay_s, sLay_s, sFst_congr h]
    split
    · rfl
    · rename_i hf
      have hl := sFst_lt hf
      have e : ∀ (g g' : Int → List (Int → Int)) (s : Nat) (k : Int), (∀ j, k ≤ j → j < k + s → (g j).length = (g' j).length) → (sCat g s k).length = (sCat g' s k).length := by
        intro g g' s
        induction s with
        | zero => intro k _; rfl
        | succ s ih => intro k hh; rw [sCat_s, sCat_s, List.length_append, List.length_append, hh k (by omega) (by omega), ih (k + 1) (fun j h1 h2 => hh j (by omega) (by omega))]
      refine e _ _ _ _ (fun j q0 q1 => ?_)
      have hj := h j (by omega) (by omega)
      by_cases hc : mt j < 0 ∧ may (sFst mt' n) j = true
      · rw [if_pos hc, if_pos ⟨hj.mp hc.1, hc.2⟩]
        exact sLay_frl u _ _ (fun i i0 i1 => by rw [sUp_neg hl.1 (by omega), sUp_neg hl.1 (by omega), h i i0 i1])
      · rw [if_neg hc, if_neg (fun g => hc ⟨hj.mpr g.1, g.2⟩)]
theorem sLay_fuel {n : Nat} {may : Int → Int → Bool} : ∀ (u : Nat) (mt : Int → Int), sFr mt n ≤ 2 * u → sLay n may (u + 1) mt = sLay n may u mt
  | 0, mt, h => by
    have hz : sFst mt n < 0 := by
      rcases Int.lt_or_le (sFst mt n) 0 with q | q
      · exact q
      · have := sFr_split (mt := mt) (n := n) (by omega)
        have h2 := zsum_bd (f := fun i => zb (mt i < 0)) (b := 1) (j := n - 1 - (sFst mt n).toNat) (k := sFst mt n + 1) (fun i _ _ => by have := zb01 (mt i < 0); omega)
        omega
    rw [sLay_s, sLay_0, if_pos hz, if_pos hz]
  | u + 1, mt, h => by
    rw [sLay_s, sLay_s n may u]
    split
    · rfl
    · rename_i hf
      have hl := sFst_lt hf
      refine sCat_congr (fun j q0 q1 => ?_)
      by_cases hc : mt j < 0 ∧ may (sFst mt n) j = true
      · rw [if_pos hc, if_pos hc]
        refine sLay_fuel u _ ?_
        rw [sFr_up hl.1 hl.2.1 (by omega) (by omega) (by omega) hl.2.2.1 hc.1]
        omega
      · rw [if_neg hc, if_neg hc]
/-- without two letters -/
def rmv (S i j : Nat) : Nat := S ^^^ (S &&& (2 ^ i ||| 2 ^ j))
theorem rmv_bit {S i j x : Nat} : (rmv S i j).testBit x = true ↔ S.testBit x = true ∧ x ≠ i ∧ x ≠ j := by
  unfold rmv
  rw [andn_bit, Nat.testBit_or, Nat.testBit_two_pow, Nat.testBit_two_pow, Bool.and_eq_true]
  simp only [Bool.not_eq_true', Bool.or_eq_false_iff, decide_eq_false_iff_not]
  constructor
  · rintro ⟨h1, h2, h3⟩; exact ⟨h1, fun h => h2 h.symm, fun h => h3 h.symm⟩
  · rintro ⟨h1, h2, h3⟩; exact ⟨h1, fun h => h2 h.symm, fun h => h3 h.symm⟩
theorem rmv_lt {S i j k : Nat} (h : S < 2 ^ k) : rmv S i j < 2 ^ k := Nat.xor_lt_two_pow h (Nat.lt_of_le_of_lt Nat.and_le_left h)
/-- how many pairings of a set -/
def tb (n : Nat) (may : Int → Int → Bool) (S : Nat) : Int := ((sLay n may 6 (mtA S)).length : Int)
theorem mtA_neg {S : Nat} {x : Int} (h : 0 ≤ x) : mtA S x < 0 ↔ S.testBit x.toNat = true := by
  unfold mtA
  split
  · constructor
    · intro _; assumption
    · intro _; omega
  · constructor
    · intro h; omega
    · intro h; exact absurd h (by assumption)
theorem mtA_fst {n S : Nat} (hn : n ≤ 12) (hS : S < 2 ^ n) (h0 : S ≠ 0) : sFst (mtA S) n = ((lo S : Nat) : Int) := by
  have h12 : S < 4096 := Nat.lt_of_lt_of_le hS (Nat.pow_le_pow_right (n := 2) (j := 12) (by omega) hn)
  have hl := lo_12 S h12 h0
  have hln : lo S < n := by
    rcases Nat.lt_or_ge (lo S) n with q | q
    · exact q
    · rw [Nat.testBit_lt_two_pow (Nat.lt_of_lt_of_le hS (Nat.pow_le_pow_right (n := 2) (by omega) q))] at hl; cases hl.2.1
  unfold sFst
  refine zfst_at (fun i hi => ?_) ?_ hln
  · rw [decide_eq_false_iff_not, mtA_neg (by omega), Int.toNat_natCast, lo_min h12 h0 hi]
    decide
  · rw [decide_eq_true_eq, mtA_neg (by omega), Int.toNat_natCast]
    exact hl.2.1
theorem mtA_no {n S : Nat} (h0 : S = 0) : sFst (mtA S) n < 0 := by
  unfold sFst
  rw [zfst_none (fun i hi => by rw [decide_eq_false_iff_not, mtA_neg (by omega), h0, Nat.zero_testBit]; decide)]
  decide
theorem tb_0 (n : Nat) (may : Int → Int → Bool) : tb n may 0 = 1 := by
  unfold tb
  rw [sLay_s, if_pos (mtA_no rfl)]
  rfl
theorem sFr_mtA {n S : Nat} (hn : n ≤ 12) : sFr (mtA S) n ≤ 12 := by
  have := sFr_nn (mtA S) n
  omega
theorem lo_n {n S : Nat} (hn : n ≤ 12) (hS : S < 2 ^ n) (h0 : S ≠ 0) : lo S < n ∧ S.testBit (lo S) = true ∧ ∀ i, i < lo S → S.testBit i = false := by
  have h12 : S < 4096 := Nat.lt_of_lt_of_le hS (Nat.pow_le_pow_right (n := 2) (j := 12) (by omega) hn)
  have hl := lo_12 S h12 h0
  refine ⟨?_, hl.2.1, fun i hi => lo_min h12 h0 hi⟩
  rcases Nat.lt_or_ge (lo S) n with q | q
  · exact q
  · rw [Nat.testBit_lt_two_pow (Nat.lt_of_lt_of_le hS (Nat.pow_le_pow_right (n := 2) (by omega) q))] at hl; cases hl.2.1
theorem tb_s {n S : Nat} {may : Int → Int → Bool} (hn : n ≤ 12) (hS : S < 2 ^ n) (h0 : S ≠ 0) : tb n may S = zsum (fun j => if S.testBit j.toNat = true ∧ may ((lo S : Nat) : Int) j = true then tb n may (rmv S (lo S) j.toNat) else 0) (n - 1 - lo S) ((lo S : Nat) + 1) := by
  have hf := mtA_fst hn hS h0
  have hl := lo_n hn hS h0
  have hfr := sFr_mtA (S := S) hn
  unfold tb
  rw [sLay_s, if_neg (by omega), sCat_length, hf, Int.toNat_natCast]
  refine zsum_congr (fun j q0 q1 => ?_)
  have hj0 : 0 ≤ j := by omega
  by_cases hc : mtA S j < 0 ∧ may ((lo S : Nat) : Int) j = true
  · rw [if_pos hc, if_pos ⟨(mtA_neg hj0).mp hc.1, hc.2⟩]
    have hi0 : mtA S ((lo S : Nat) : Int) < 0 := (mtA_neg (by omega)).mpr (by rw [Int.toNat_natCast]; exact hl.2.1)
    rw [sLay_frl 5 (sUp (mtA S) ((lo S : Nat) : Int) j) (mtA (rmv S (lo S) j.toNat)) (fun x x0 x1 => by
      rw [sUp_neg (by omega) hj0, mtA_neg x0, mtA_neg x0, rmv_bit]
      constructor
      · rintro ⟨a, b, c⟩; exact ⟨a, by omega, by omega⟩
      · rintro ⟨a, b, c⟩; exact ⟨a, by omega, by omega⟩)]
    have hfu := sFr_up (mt := mtA S) (n := n) (i := ((lo S : Nat) : Int)) (j := j) (by omega) (by omega) hj0 (by omega) (by omega) hi0 hc.1
    have e : sFr (sUp (mtA S) ((lo S : Nat) : Int) j) n = sFr (mtA (rmv S (lo S) j.toNat)) n := by
      unfold sFr
      refine zsum_congr (fun x x0 x1 => ?_)
      refine zb_congr ?_
      rw [sUp_neg (by omega) hj0, mtA_neg x0, mtA_neg x0, rmv_bit]
      constructor
      · rintro ⟨a, b, c⟩; exact ⟨a, by omega, by omega⟩
      · rintro ⟨a, b, c⟩; exact ⟨a, by omega, by omega⟩
    rw [← sLay_fuel 5 (mtA (rmv S (lo S) j.toNat)) (by omega)]
  · rw [if_neg hc, if_neg (fun g => hc ⟨(mtA_neg hj0).mpr g.1, g.2⟩)]
    rfl
theorem tb_rg {n : Nat} {may : Int → Int → Bool} (hn : n ≤ 12) (S : Nat) : 0 ≤ tb n may S ∧ tb n may S ≤ 10395 := by
  have := sLay_le hn may 6 (mtA S)
  unfold tb
  omega
/-- a sum over the bits of a set -/
def bsum (F : Nat → Int) (S : Nat) : Int := zsum (fun j => if S.testBit j.toNat = true then F j.toNat else 0) 12 0
theorem bsum_0 (F : Nat → Int) : bsum F 0 = 0 := zsum_z (fun i _ _ => if_neg (by rw [Nat.zero_testBit]; decide))
theorem bsum_lo (F : Nat → Int) {S : Nat} (hS : S < 4096) (h0 : S ≠ 0) : bsum F S = F (lo S) + bsum F (S &&& (S - 1)) := by
  have hl := lo_12 S hS h0
  have key : bsum F S - bsum F (S &&& (S - 1)) = F (lo S) := by
    unfold bsum
    rw [← zsum_sub]
    have e : zsum (fun i => (if S.testBit i.toNat = true then F i.toNat else 0) - (if (S &&& (S - 1)).testBit i.toNat = true then F i.toNat else 0)) 12 0 = zsum (fun i => zb (i = ((lo S : Nat) : Int)) * F (lo S)) 12 0 := by
      refine zsum_congr (fun i q0 q1 => ?_)
      rw [hl.2.2, andn_bit, Nat.testBit_two_pow]
      by_cases e : i = ((lo S : Nat) : Int)
      · rw [zb_t e, e, Int.toNat_natCast, hl.2.1]
        simp
      · rw [zb_f e, decide_eq_false (show ¬ lo S = i.toNat by omega)]
        simp
    rw [e, zsum_mul, zsum_ind (by omega) (by omega)]
    omega
  omega
theorem tb_ch {n S P : Nat} {may : Int → Int → Bool} (hn : n ≤ 12) (hS : S < 2 ^ n) (h0 : S ≠ 0) (hP : ∀ j, P.testBit j = true ↔ j < n ∧ may ((lo S : Nat) : Int) (j : Int) = true) : tb n may S = bsum (fun j => tb n may ((S &&& (S - 1)) ^^^ ((S &&& (S - 1)) &&& 2 ^ j))) (P &&& (S &&& (S - 1))) := by
  have h12 : S < 4096 := Nat.lt_of_lt_of_le hS (Nat.pow_le_pow_right (n := 2) (j := 12) (by omega) hn)
  have hl := lo_n hn hS h0
  have ho := (lo_12 S h12 h0).2.2
  rw [tb_s hn hS h0, ho]
  unfold bsum
  rw [show (12 : Nat) = (lo S + 1) + ((n - 1 - lo S) + (12 - n)) by omega, zsum_app _ (lo S + 1) ((n - 1 - lo S) + (12 - n)), zsum_app _ (n - 1 - lo S) (12 - n)]
  have hb : ∀ i : Nat, (P &&& (S ^^^ (S &&& 2 ^ lo S))).testBit i = true ↔ (i < n ∧ may ((lo S : Nat) : Int) (i : Int) = true) ∧ S.testBit i = true ∧ i ≠ lo S := fun i => by
    rw [Nat.testBit_and, Bool.and_eq_true, hP, andn_bit, Bool.and_eq_true, Nat.testBit_two_pow]
    simp only [Bool.not_eq_true', decide_eq_false_iff_not]
    constructor
    · rintro ⟨a, b, c⟩; exact ⟨a, b, fun h => c h.symm⟩
    · rintro ⟨a, b, c⟩; exact ⟨a, b, fun h => c h.symm⟩
  have z1 : zsum (fun j => if (P &&& (S ^^^ (S &&& 2 ^ lo S))).testBit j.toNat = true then (fun j => tb n may ((S ^^^ (S &&& 2 ^ lo S)) ^^^ ((S ^^^ (S &&& 2 ^ lo S)) &&& 2 ^ j))) j.toNat else 0) (lo S + 1) 0 = 0 := zsum_z (fun i q0 q1 => if_neg (fun h => by
    have := (hb i.toNat).mp h
    rcases Nat.lt_or_ge i.toNat (lo S) with q | q
    · rw [hl.2.2 _ q] at this; cases this.2.1
    · omega))
  have z2 : zsum (fun j => if (P &&& (S ^^^ (S &&& 2 ^ lo S))).testBit j.toNat = true then (fun j => tb n may ((S ^^^ (S &&& 2 ^ lo S)) ^^^ ((S ^^^ (S &&& 2 ^ lo S)) &&& 2 ^ j))) j.toNat else 0) (12 - n) (0 + ((lo S + 1 : Nat) : Int) + ((n - 1 - lo S : Nat) : Int)) = 0 := zsum_z (fun i q0 q1 => if_neg (fun h => by
    have := ((hb i.toNat).mp h).1.1
    omega))
  rw [z1, z2, Int.zero_add, Int.add_zero]
  rw [show (0 : Int) + ((lo S + 1 : Nat) : Int) = ((lo S : Nat) : Int) + 1 by omega]
  refine zsum_congr (fun j q0 q1 => ?_)
  have e : rmv S (lo S) j.toNat = (S ^^^ (S &&& 2 ^ lo S)) ^^^ ((S ^^^ (S &&& 2 ^ lo S)) &&& 2 ^ j.toNat) := zset_ext (fun x => Bool.eq_iff_iff.mpr (by
    rw [rmv_bit, andn_bit, andn_bit, Nat.testBit_two_pow, Nat.testBit_two_pow, Bool.and_eq_true, Bool.and_eq_true]
    simp only [Bool.not_eq_true', decide_eq_false_iff_not]
    constructor
    · rintro ⟨a, b, c⟩; exact ⟨⟨a, fun h => b h.symm⟩, fun h => c h.symm⟩
    · rintro ⟨⟨a, b⟩, c⟩; exact ⟨a, fun h => b h.symm, fun h => c h.symm⟩))
  have hj := hb j.toNat
  rw [show ((j.toNat : Nat) : Int) = j by omega] at hj
  by_cases hc : S.testBit j.toNat = true ∧ may ((lo S : Nat) : Int) j = true
  · rw [if_pos hc, if_pos (hj.mpr ⟨⟨by omega, hc.2⟩, hc.1, by omega⟩), e]
  · rw [if_neg hc, if_neg (fun h => hc ⟨(hj.mp h).2.1, (hj.mp h).1.2⟩)]
