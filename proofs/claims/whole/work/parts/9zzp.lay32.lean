/-! sums over sets: how many ways leave letters alone -/
abbrev fit (S fr g k : Nat) : Prop := (∀ x, x < 12 → S.testBit x = true → fr ≤ x ∧ g.testBit x = false) ∧ sPop 12 S = 2 * k
theorem pop_ne {n S : Nat} (hn : n ≤ 12) (hS : S < 2 ^ n) (h0 : S ≠ 0) : sPop 12 S ≠ 0 := by
  have hl := lo_n hn hS h0
  have h := pop_n hn hS
  have := zsum_pos (f := fun r => zb (S.testBit r.toNat = true)) (j := n) (k := 0) (x := ((lo S : Nat) : Int)) (fun i _ _ => by have := zb01 (S.testBit i.toNat = true); omega) (by omega) (by omega)
  have e : zb (S.testBit ((lo S : Nat) : Int).toNat = true) = 1 := zb_t (by rw [Int.toNat_natCast]; exact hl.2.1)
  rw [e] at this
  omega
theorem pop_rmv {S i j : Nat} (hi : S.testBit i = true) (hj : S.testBit j = true) (hij : i < j) (j12 : j < 12) : sPop 12 S = sPop 12 (rmv S i j) + 2 := by
  have h1 := sPop_sum S 12
  have h2 := sPop_sum (rmv S i j) 12
  have e : zsum (fun r => zb (S.testBit r.toNat = true)) 12 0 = zsum (fun r => (zb ((rmv S i j).testBit r.toNat = true) + zb (r = (i : Int))) + zb (r = (j : Int))) 12 0 := zsum_congr (fun r r0 r1 => by
    by_cases e1 : r = (i : Int)
    · rw [zb_t e1, zb_f (show ¬ r = (j : Int) by omega), zb_f (show ¬ (rmv S i j).testBit r.toNat = true from fun h => by have := (rmv_bit.mp h).2.1; omega), zb_t (show S.testBit r.toNat = true by rw [e1, Int.toNat_natCast]; exact hi)]
      rfl
    · by_cases e2 : r = (j : Int)
      · rw [zb_f e1, zb_t e2, zb_f (show ¬ (rmv S i j).testBit r.toNat = true from fun h => by have := (rmv_bit.mp h).2.2; omega), zb_t (show S.testBit r.toNat = true by rw [e2, Int.toNat_natCast]; exact hj)]
        rfl
      · rw [zb_f e1, zb_f e2, Int.add_zero, Int.add_zero]
        exact zb_congr ⟨fun h => rmv_bit.mpr ⟨h, by omega, by omega⟩, fun h => (rmv_bit.mp h).1⟩)
  rw [zsum_add, zsum_add, zsum_ind (by omega) (by omega), zsum_ind (by omega) (by omega)] at e
  omega
theorem fit_rmv {n s fr g k i j : Nat} (hn : n ≤ 12) (hs : s < 2 ^ n) (hi : s.testBit i = true) (hj : s.testBit j = true) (hij : i < j) (hjn : j < n) (hfr : fr ≤ i) (gi : g.testBit i = false) (gj : g.testBit j = false) : fit (rmv s i j) (i + 1) (g ||| 2 ^ i ||| 2 ^ j) k ↔ fit s fr g (k + 1) ∧ lo s = i := by
  have hp := pop_rmv hi hj hij (by omega)
  have h0 : s ≠ 0 := fun h => by rw [h, Nat.zero_testBit] at hi; cases hi
  have hl := lo_n hn hs h0
  have hb : ∀ x, (g ||| 2 ^ i ||| 2 ^ j).testBit x = false ↔ g.testBit x = false ∧ x ≠ i ∧ x ≠ j := fun x => by
    rw [Nat.testBit_or, Nat.testBit_or, Nat.testBit_two_pow, Nat.testBit_two_pow, Bool.or_eq_false_iff, Bool.or_eq_false_iff, decide_eq_false_iff_not, decide_eq_false_iff_not]
    constructor
    · rintro ⟨⟨a, b⟩, c⟩; exact ⟨a, fun h => b h.symm, fun h => c h.symm⟩
    · rintro ⟨a, b, c⟩; exact ⟨⟨a, fun h => b h.symm⟩, fun h => c h.symm⟩
  constructor
  · rintro ⟨h1, h2⟩
    have hx : ∀ x, x < 12 → s.testBit x = true → x = i ∨ x = j ∨ (i + 1 ≤ x ∧ g.testBit x = false) := fun x x1 hx => by
      by_cases e1 : x = i
      · exact Or.inl e1
      · by_cases e2 : x = j
        · exact Or.inr (Or.inl e2)
        · have := h1 x x1 (rmv_bit.mpr ⟨hx, e1, e2⟩)
          exact Or.inr (Or.inr ⟨this.1, ((hb x).mp this.2).1⟩)
    refine ⟨⟨fun x x1 hx1 => ?_, by omega⟩, ?_⟩
    · rcases hx x x1 hx1 with e | e | e
      · rw [e]; exact ⟨hfr, gi⟩
      · rw [e]; exact ⟨by omega, gj⟩
      · exact ⟨by omega, e.2⟩
    · have q : ¬ i < lo s := fun q => by rw [hl.2.2 i q] at hi; cases hi
      rcases hx (lo s) (by omega) hl.2.1 with e | e | e <;> omega
  · rintro ⟨⟨h1, h2⟩, h3⟩
    refine ⟨fun x x1 hx => ?_, by omega⟩
    have hx' := rmv_bit.mp hx
    have q : ¬ x < lo s := fun q => by rw [hl.2.2 x q] at hx'; cases hx'.1
    exact ⟨by omega, (hb x).mpr ⟨(h1 x x1 hx'.1).2, hx'.2⟩⟩
theorem xor_rmv {s i j : Nat} (hi : s.testBit i = true) (hj : s.testBit j = true) : s ^^^ (2 ^ i ||| 2 ^ j) = rmv s i j := by
  unfold rmv
  congr 1
  refine zset_ext (fun x => ?_)
  rw [Nat.testBit_and, Nat.testBit_or, Nat.testBit_two_pow, Nat.testBit_two_pow]
  by_cases e1 : i = x
  · rw [← e1, hi]; rfl
  · by_cases e2 : j = x
    · rw [← e2, hj]; rfl
    · rw [decide_eq_false e1, decide_eq_false e2, Bool.or_false, Bool.and_false]
theorem xor_bit {s i j x : Nat} (h : x = i ∨ x = j) : (s ^^^ (2 ^ i ||| 2 ^ j)).testBit x = !(s.testBit x) := by
  rw [Nat.testBit_xor, Nat.testBit_or, Nat.testBit_two_pow, Nat.testBit_two_pow]
  rcases h with h | h
  · rw [decide_eq_true h.symm, Bool.true_or, Bool.xor_true]
  · rw [decide_eq_true h.symm, Bool.or_true, Bool.xor_true]
theorem part_sum {n : Nat} {may : Int → Int → Bool} (hn : n ≤ 12) : ∀ (u fr g k : Nat), k ≤ u → zsum (fun S => if fit S.toNat fr g k then tb n may S.toNat else 0) (2 ^ n) 0 = sPr n may u fr g ((k : Nat) : Int)
  | u, fr, g, 0, _ => by
    rw [show ((0 : Nat) : Int) = 0 from rfl, sPr_0]
    have hp : (0 : Nat) < 2 ^ n := Nat.two_pow_pos n
    rw [zsum_congr (g := fun S => zb (S = 0) * (fun _ => (1 : Int)) S) (fun S s0 s1 => ?_), zsum_pick (by omega) (by omega)]
    by_cases e : S = 0
    · rw [zb_t e, e, if_pos (show fit (0 : Int).toNat fr g 0 from ⟨fun x _ h => (by rw [show (0 : Int).toNat = 0 from rfl, Nat.zero_testBit] at h; cases h), (by decide)⟩), show (0 : Int).toNat = 0 from rfl, tb_0]
      rfl
    · rw [zb_f e, if_neg (fun h => pop_ne hn (show S.toNat < 2 ^ n by omega) (by omega) h.2), Int.zero_mul]
  | 0, fr, g, k + 1, h => by omega
  | u + 1, fr, g, k + 1, h => by
    have key : ∀ S : Int, 0 ≤ S → S < 0 + ((2 ^ n : Nat) : Int) → (if fit S.toNat fr g (k + 1) then tb n may S.toNat else 0) = zsum (fun i => zsum (fun j => if (fit S.toNat fr g (k + 1) ∧ lo S.toNat = i.toNat) ∧ S.toNat.testBit j.toNat = true ∧ may i j = true then tb n may (rmv S.toNat i.toNat j.toNat) else 0) (n - 1 - i.toNat) (i + 1)) (n - fr) fr := fun S s0 s1 => by
      have hS : S.toNat < 2 ^ n := by omega
      by_cases hf : fit S.toNat fr g (k + 1)
      · have h0 : S.toNat ≠ 0 := fun e => by have := hf.2; rw [e] at this; have e2 : sPop 12 0 = 0 := by decide
                                             omega
        have hl := lo_n hn hS h0
        have hb := hf.1 (lo S.toNat) (by omega) hl.2.1
        rw [if_pos hf, tb_s hn hS h0]
        rw [zsum_congr (j := n - fr) (g := fun i => zb (i = ((lo S.toNat : Nat) : Int)) * zsum (fun j => if S.toNat.testBit j.toNat = true ∧ may ((lo S.toNat : Nat) : Int) j = true then tb n may (rmv S.toNat (lo S.toNat) j.toNat) else 0) (n - 1 - lo S.toNat) ((lo S.toNat : Nat) + 1)) (fun i i0 i1 => ?_), zsum_mul, zsum_ind (by omega) (by omega), Int.one_mul]
        by_cases e : i = ((lo S.toNat : Nat) : Int)
        · rw [zb_t e, Int.one_mul, e, Int.toNat_natCast]
          refine zsum_congr (fun j _ _ => ?_)
          by_cases hc : S.toNat.testBit j.toNat = true ∧ may ((lo S.toNat : Nat) : Int) j = true
          · rw [if_pos hc, if_pos ⟨⟨hf, rfl⟩, hc⟩]
          · rw [if_neg hc, if_neg (fun q => hc q.2)]
        · rw [zb_f e, Int.zero_mul]
          exact zsum_z (fun j _ _ => if_neg (fun q => by have := q.1.2; omega))
      · rw [if_neg hf]
        exact (zsum_z (fun i _ _ => zsum_z (fun j _ _ => if_neg (fun q => hf q.1.1)))).symm
    rw [zsum_congr key, zsum_swap]
    unfold sPr
    rw [if_neg (show ¬ ((k + 1 : Nat) : Int) = 0 by omega)]
    refine zsum_congr (fun i i0 i1 => ?_)
    rw [zsum_swap]
    have lob : ∀ S : Int, 0 ≤ S → S < 0 + ((2 ^ n : Nat) : Int) → fit S.toNat fr g (k + 1) → S.toNat.testBit (lo S.toNat) = true ∧ lo S.toNat < n := fun S s0 s1 hf => by
      have h0 : S.toNat ≠ 0 := fun e => by have := hf.2; rw [e] at this; have e2 : sPop 12 0 = 0 := by decide
                                           omega
      have hl := lo_n hn (show S.toNat < 2 ^ n by omega) h0
      exact ⟨hl.2.1, hl.1⟩
    by_cases gi : g.testBit i.toNat = true
    · rw [if_pos gi]
      refine zsum_z (fun j _ _ => zsum_z (fun S s0 s1 => if_neg (fun q => ?_)))
      have hl := lob S s0 s1 q.1.1
      have := (q.1.1.1 (lo S.toNat) (by omega) hl.1).2
      rw [q.1.2, gi] at this
      cases this
    · rw [if_neg gi]
      have gi' : g.testBit i.toNat = false := by rcases hb : g.testBit i.toNat with _ | _; · rfl
                                                 · exact absurd hb gi
      refine zsum_congr (fun j j0 j1 => ?_)
      by_cases hc : g.testBit j.toNat = false ∧ may i j = true
      · rw [if_pos hc, show ((k + 1 : Nat) : Int) - 1 = ((k : Nat) : Int) by omega, ← part_sum hn u (i.toNat + 1) (g ||| 2 ^ i.toNat ||| 2 ^ j.toNat) k (by omega)]
        have hM : 2 ^ i.toNat ||| 2 ^ j.toNat < 2 ^ n := Nat.or_lt_two_pow (Nat.pow_lt_pow_right (by omega) (by omega)) (Nat.pow_lt_pow_right (by omega) (by omega))
        have hbi : ∀ R : Nat, fit R (i.toNat + 1) (g ||| 2 ^ i.toNat ||| 2 ^ j.toNat) k → R.testBit i.toNat = false ∧ R.testBit j.toNat = false := fun R hR => by
          constructor
          · rcases hb : R.testBit i.toNat with _ | _
            · rfl
            · have := (hR.1 i.toNat (by omega) hb).1; omega
          · rcases hb : R.testBit j.toNat with _ | _
            · rfl
            · have := (hR.1 j.toNat (by omega) hb).2
              rw [Nat.testBit_or, Nat.testBit_two_pow, decide_eq_true rfl, Bool.or_true] at this
              cases this
        rw [zsum_congr (f := fun S => if fit S.toNat (i.toNat + 1) (g ||| 2 ^ i.toNat ||| 2 ^ j.toNat) k then tb n may S.toNat else 0) (g := fun S => if S.toNat.testBit i.toNat = false ∧ S.toNat.testBit j.toNat = false then (if fit S.toNat (i.toNat + 1) (g ||| 2 ^ i.toNat ||| 2 ^ j.toNat) k then tb n may S.toNat else 0) else 0) (fun R _ _ => by
          by_cases hR : fit R.toNat (i.toNat + 1) (g ||| 2 ^ i.toNat ||| 2 ^ j.toNat) k
          · rw [if_pos hR, if_pos (hbi _ hR)]
          · rw [if_neg hR, ite_self])]
        rw [← zsum_inv (σ := fun S => ((S.toNat ^^^ (2 ^ i.toNat ||| 2 ^ j.toNat) : Nat) : Int)) (G := fun S => if S.toNat.testBit i.toNat = false ∧ S.toNat.testBit j.toNat = false then (if fit S.toNat (i.toNat + 1) (g ||| 2 ^ i.toNat ||| 2 ^ j.toNat) k then tb n may S.toNat else 0) else 0) (fun x x0 x1 => ⟨⟨by omega, Int.ofNat_lt.mpr (Nat.xor_lt_two_pow (by omega) hM)⟩, by
          rw [Int.toNat_natCast, Nat.xor_assoc, Nat.xor_self, Nat.xor_zero]
          omega⟩)]
        refine zsum_congr (fun S s0 s1 => ?_)
        have hS : S.toNat < 2 ^ n := by omega
        rw [Int.toNat_natCast, xor_bit (Or.inl rfl), xor_bit (Or.inr rfl)]
        by_cases hb : S.toNat.testBit i.toNat = true ∧ S.toNat.testBit j.toNat = true
        · rw [if_pos (show (!(S.toNat.testBit i.toNat)) = false ∧ (!(S.toNat.testBit j.toNat)) = false by rw [hb.1, hb.2]; exact ⟨rfl, rfl⟩), xor_rmv hb.1 hb.2]
          have hq := fit_rmv (k := k) (fr := fr) hn hS hb.1 hb.2 (show i.toNat < j.toNat by omega) (by omega) (by omega) gi' hc.1
          by_cases hR : fit S.toNat fr g (k + 1) ∧ lo S.toNat = i.toNat
          · rw [if_pos ⟨hR, hb.2, hc.2⟩, if_pos (hq.mpr hR)]
          · rw [if_neg (fun q => hR q.1), if_neg (fun q => hR (hq.mp q))]
        · rw [if_neg (c := (!(S.toNat.testBit i.toNat)) = false ∧ (!(S.toNat.testBit j.toNat)) = false) (fun q => hb ⟨by simpa using q.1, by simpa using q.2⟩)]
          refine if_neg (fun q => hb ⟨?_, q.2.1⟩)
          have hl := lob S s0 s1 q.1.1
          rw [q.1.2] at hl
          exact hl.1
      · rw [if_neg hc]
        refine zsum_z (fun S s0 s1 => if_neg (fun q => hc ⟨?_, q.2.2⟩))
        exact (q.1.1.1 j.toNat (by omega) q.2.1).2
theorem part_is {n : Nat} {may : Int → Int → Bool} (hn : n ≤ 12) {k : Int} (h0 : 0 ≤ k) (h6 : k ≤ 6) : zsum (fun S => if ((sPop 12 S.toNat : Nat) : Int) = 2 * k then tb n may S.toNat else 0) (2 ^ n) 0 = sPr n may 6 0 0 k := by
  have h := part_sum (may := may) hn 6 0 0 k.toNat (by omega)
  rw [show ((k.toNat : Nat) : Int) = k by omega] at h
  rw [← h]
  refine zsum_congr (fun S _ _ => ?_)
  by_cases hc : ((sPop 12 S.toNat : Nat) : Int) = 2 * k
  · rw [if_pos hc, if_pos ⟨fun x _ _ => ⟨Nat.zero_le _, Nat.zero_testBit _⟩, by omega⟩]
  · rw [if_neg hc, if_neg (fun q => hc (by have := q.2; omega))]
