/-! rows of pairings, laid line by line -/
def tri : Nat → Int
  | 0 => 0
  | q + 1 => tri q + q
theorem tri_le {q : Nat} (h : q ≤ 6) : 0 ≤ tri q ∧ tri q ≤ 15 := by
  have a : ∀ q, q < 7 → 0 ≤ tri q ∧ tri q ≤ 15 := by decide
  exact a q (by omega)
theorem crR_nn (n : Nat) (mt : Int → Int) : 0 ≤ crR n mt := zsum_nn (fun i _ _ => zsum_nn (fun r _ _ => by unfold crT; have := zb01 (0 ≤ mt r ∧ mt r < i ∧ i < r ∧ r < mt i); omega))
theorem trR_nn (n : Nat) (od br : Int → Bool) (mt : Int → Int) : 0 ≤ trR n od br mt := zsum_nn (fun i _ _ => by
  split
  · have h1 := zb01 (br i = true)
    have h2 : 0 ≤ zsum (fun r => trT od mt i r) n 0 := zsum_nn (fun r _ _ => by unfold trT; have := zb01 (0 ≤ mt r ∧ od r = true ∧ mt r < i ∧ i < r ∧ r < mt i); omega)
    omega
  · exact Int.le_refl _)
/-- what holds of a row with q lines laid and the letters S free -/
def xI (n A : Nat) (mt : Int → Int) (S q : Nat) : Prop := S < 2 ^ n ∧ (∀ x : Int, 0 ≤ x → x < n → (mt x < 0 ↔ S.testBit x.toNat = true)) ∧ (∀ x : Nat, S.testBit x = true → A.testBit x = true) ∧ pIv n (sMk A mt) ∧ (∀ (y : Int) (x : Nat), 0 ≤ y → y < n → y < sMk A mt y → S.testBit x = true → y < x) ∧ sOp (sMk A mt) n ≤ q ∧ sFr mt n ≤ 2 * (6 - (q : Int)) ∧ crR n (sMk A mt) ≤ tri q
theorem bit_lt {S n x : Nat} (hS : S < 2 ^ n) (h : S.testBit x = true) : x < n := by
  rcases Nat.lt_or_ge x n with q | q
  · exact q
  · rw [Nat.testBit_lt_two_pow (Nat.lt_of_lt_of_le hS (Nat.pow_le_pow_right (n := 2) (by omega) q))] at h; cases h
theorem sMk_in {A : Nat} {mt : Int → Int} {x : Int} (h0 : 0 ≤ x) (h1 : x < 12) : sMk A mt x = if A.testBit x.toNat = true then mt x else -1 := by unfold sMk; rw [if_pos ⟨h0, h1⟩]
theorem xI_fst {n A : Nat} {mt : Int → Int} {S q : Nat} (hn : n ≤ 12) (h : xI n A mt S q) (h0 : S ≠ 0) : sFst mt n = ((lo S : Nat) : Int) := by
  rw [← mtA_fst hn h.1 h0]
  exact sFst_congr (fun i q0 q1 => by rw [h.2.1 i q0 q1, mtA_neg q0])
theorem xI_no {n A : Nat} {mt : Int → Int} {S q : Nat} (h : xI n A mt S q) (h0 : S = 0) : sFst mt n < 0 := by
  rw [sFst_congr (mt' := mtA S) (fun i q0 q1 => by rw [h.2.1 i q0 q1, mtA_neg q0])]
  exact mtA_no h0
theorem xI_free {n A : Nat} {mt : Int → Int} {S q x : Nat} (hn : n ≤ 12) (h : xI n A mt S q) (hx : S.testBit x = true) : mt (x : Int) < 0 ∧ sMk A mt (x : Int) < 0 := by
  have hxn := bit_lt h.1 hx
  have e := (h.2.1 (x : Int) (by omega) (by omega)).mpr (by rw [Int.toNat_natCast]; exact hx)
  refine ⟨e, ?_⟩
  rw [sMk_in (by omega) (by omega), Int.toNat_natCast, if_pos (h.2.2.1 x hx)]
  exact e
theorem pIv_up {n : Nat} {mt : Int → Int} {i j : Int} (h : pIv n mt) (hi : 0 ≤ i) (hij : i < j) (hj : j < n) (h1 : mt i < 0) (h2 : mt j < 0) : pIv n (sUp mt i j) := by
  intro x x0 x1 hx
  have ei : sUp mt i j i = j := by unfold sUp; rw [if_neg (by omega), if_pos rfl]
  have ej : sUp mt i j j = i := by unfold sUp; rw [if_pos rfl]
  by_cases e1 : x = j
  · subst e1; rw [ej, ei]; omega
  · by_cases e2 : x = i
    · subst e2; rw [ei, ej]; omega
    · have er : sUp mt i j x = mt x := by unfold sUp; rw [if_neg e1, if_neg e2]
      rw [er] at hx ⊢
      have g := h x x0 x1 hx
      have er2 : sUp mt i j (mt x) = mt (mt x) := by
        unfold sUp
        rw [if_neg (fun e => by rw [e] at g; omega), if_neg (fun e => by rw [e] at g; omega)]
      rw [er2]
      exact g
theorem xI_up {n A : Nat} {mt : Int → Int} {S q j : Nat} (hn : n ≤ 12) (h : xI n A mt S q) (hq : q ≤ 5) (h0 : S ≠ 0) (hj : lo S < j) (hb : S.testBit j = true) : xI n A (sUp mt ((lo S : Nat) : Int) (j : Int)) (rmv S (lo S) j) (q + 1) := by
  have hl := lo_n hn h.1 h0
  have hjn := bit_lt h.1 hb
  have fi := xI_free hn h hl.2.1
  have fj := xI_free hn h hb
  obtain ⟨a1, a2, a3, a4, a5, a6, a7, a8⟩ := h
  have eM := sMk_up (A := A) (mt := mt) (i := ((lo S : Nat) : Int)) (k := (j : Int)) (by omega) (by omega) (by omega) (by omega) (by rw [Int.toNat_natCast]; exact a3 _ hl.2.1) (by rw [Int.toNat_natCast]; exact a3 _ hb)
  have hL : ∀ y : Int, 0 ≤ y → y < n → y < sMk A mt y → y < ((lo S : Nat) : Int) := fun y y0 y1 y2 => a5 y (lo S) y0 y1 y2 hl.2.1
  refine ⟨rmv_lt a1, fun x x0 x1 => ?_, fun x hx => a3 x (rmv_bit.mp hx).1, ?_, fun y x y0 y1 y2 hx => ?_, ?_, ?_, ?_⟩
  · rw [sUp_neg (by omega) (by omega), a2 x x0 x1, rmv_bit]
    constructor
    · rintro ⟨a, b, c⟩; exact ⟨a, by omega, by omega⟩
    · rintro ⟨a, b, c⟩; exact ⟨a, by omega, by omega⟩
  · rw [← eM]; exact pIv_up a4 (by omega) (by omega) (by omega) fi.2 fj.2
  · rw [← eM] at y2
    have hx := rmv_bit.mp hx
    by_cases e1 : y = (j : Int)
    · have ej : sUp (sMk A mt) ((lo S : Nat) : Int) (j : Int) y = ((lo S : Nat) : Int) := by unfold sUp; rw [if_pos e1]
      omega
    · by_cases e2 : y = ((lo S : Nat) : Int)
      · rcases Nat.lt_or_ge (lo S) x with g | g
        · omega
        · rcases Nat.lt_or_ge x (lo S) with g2 | g2
          · rw [hl.2.2 x g2] at hx; cases hx.1
          · exact absurd (by omega) hx.2.1
      · have er : sUp (sMk A mt) ((lo S : Nat) : Int) (j : Int) y = sMk A mt y := by unfold sUp; rw [if_neg e1, if_neg e2]
        rw [er] at y2
        exact a5 y x y0 y1 y2 hx.1
  · rw [← eM, sOp_up (by omega) (by omega) (by omega) fi.2 fj.2]; omega
  · rw [sFr_up (by omega) (by omega) (by omega) (by omega) (by omega) fi.1 fj.1]; omega
  · rw [← eM, crR_up a4 (by omega) (by omega) (by omega) fi.2 fj.2 hL]
    have := cr_le (j := (j : Int)) a4 hL
    show _ ≤ tri q + q
    omega
/-- the letters that are taken between two -/
def btw (A S i j : Nat) : Nat := ((A ^^^ (A &&& S)) &&& (2 ^ j - 1)) ^^^ (((A ^^^ (A &&& S)) &&& (2 ^ j - 1)) &&& (2 ^ (i + 1) - 1))
theorem btw_bit {A S i j x : Nat} : (btw A S i j).testBit x = true ↔ (A.testBit x = true ∧ S.testBit x = false) ∧ x < j ∧ i < x := by
  unfold btw
  rw [andn_bit, Nat.testBit_and, andn_bit, Nat.testBit_two_pow_sub_one, Nat.testBit_two_pow_sub_one]
  simp only [Bool.and_eq_true, Bool.not_eq_true', decide_eq_true_eq, decide_eq_false_iff_not]
  constructor
  · rintro ⟨⟨⟨a, b⟩, c⟩, d⟩; exact ⟨⟨a, b⟩, c, by omega⟩
  · rintro ⟨⟨a, b⟩, c, d⟩; exact ⟨⟨⟨a, b⟩, c⟩, by omega⟩
theorem btw_lt {A S i j n : Nat} (hA : A < 2 ^ n) : btw A S i j < 2 ^ n := by
  have h1 : A ^^^ (A &&& S) < 2 ^ n := Nat.xor_lt_two_pow hA (Nat.lt_of_le_of_lt Nat.and_le_left hA)
  have h2 : (A ^^^ (A &&& S)) &&& (2 ^ j - 1) < 2 ^ n := Nat.lt_of_le_of_lt Nat.and_le_left h1
  exact Nat.xor_lt_two_pow h2 (Nat.lt_of_le_of_lt Nat.and_le_left h2)
theorem xI_tk {n A : Nat} {mt : Int → Int} {S q x : Nat} (hn : n ≤ 12) (hA : A < 2 ^ n) (h : xI n A mt S q) : (A.testBit x = true ∧ S.testBit x = false) ↔ x < n ∧ 0 ≤ sMk A mt (x : Int) := by
  constructor
  · rintro ⟨a, b⟩
    have hx := bit_lt hA a
    refine ⟨hx, ?_⟩
    rw [sMk_in (by omega) (by omega), Int.toNat_natCast, if_pos a]
    have := h.2.1 (x : Int) (by omega) (by omega)
    rw [Int.toNat_natCast, b] at this
    rcases Int.lt_or_le (mt (x : Int)) 0 with g | g
    · exact absurd (this.mp g) (by decide)
    · exact g
  · rintro ⟨a, b⟩
    rw [sMk_in (by omega) (by omega), Int.toNat_natCast] at b
    by_cases e : A.testBit x = true
    · rw [if_pos e] at b
      refine ⟨e, ?_⟩
      have := h.2.1 (x : Int) (by omega) (by omega)
      rw [Int.toNat_natCast] at this
      cases hs : S.testBit x
      · rfl
      · have := this.mpr hs; omega
    · rw [if_neg e] at b; omega
/-- a set's letters below n, counted -/
theorem pop_n {n X : Nat} (hn : n ≤ 12) (hX : X < 2 ^ n) : ((sPop 12 X : Nat) : Int) = zsum (fun r => zb (X.testBit r.toNat = true)) n 0 := by
  rw [sPop_sum, show (12 : Nat) = n + (12 - n) by omega, zsum_app, zsum_z (j := 12 - n) (fun i q0 q1 => zb_f (fun h => by have := bit_lt hX h; omega)), Int.add_zero]
theorem btw_cr {n A : Nat} {mt : Int → Int} {S q i j : Nat} (hn : n ≤ 12) (hA : A < 2 ^ n) (h : xI n A mt S q) : ((sPop 12 (btw A S i j) : Nat) : Int) = zsum (fun r => zb (0 ≤ sMk A mt r ∧ (i : Int) < r ∧ r < (j : Int))) n 0 := by
  rw [pop_n hn (btw_lt hA)]
  refine zsum_congr (fun r r0 r1 => zb_congr ?_)
  rw [btw_bit, xI_tk hn hA h, show ((r.toNat : Nat) : Int) = r by omega]
  constructor
  · rintro ⟨⟨a, b⟩, c, d⟩; exact ⟨b, by omega, by omega⟩
  · rintro ⟨a, b, c⟩; exact ⟨⟨by omega, a⟩, by omega, by omega⟩
theorem btw_tr {n A : Nat} {mt : Int → Int} {S q i j : Nat} {od : Int → Bool} (hn : n ≤ 12) (hA : A < 2 ^ n) (h : xI n A mt S q) : ((sPop 12 (btw A S i j &&& zmask (fun x => od (x : Int)) n) : Nat) : Int) = zsum (fun r => zb ((0 ≤ sMk A mt r ∧ (i : Int) < r ∧ r < (j : Int)) ∧ od r = true)) n 0 := by
  rw [pop_n hn (Nat.lt_of_le_of_lt Nat.and_le_left (btw_lt hA))]
  refine zsum_congr (fun r r0 r1 => zb_congr ?_)
  rw [Nat.testBit_and, Bool.and_eq_true, btw_bit, xI_tk hn hA h, zmask_bit, Bool.and_eq_true, decide_eq_true_eq, show ((r.toNat : Nat) : Int) = r by omega]
  constructor
  · rintro ⟨⟨⟨a, b⟩, c, d⟩, e, f⟩; exact ⟨⟨b, by omega, by omega⟩, f⟩
  · rintro ⟨⟨a, b, c⟩, f⟩; exact ⟨⟨⟨by omega, a⟩, by omega, by omega⟩, by omega, f⟩
theorem sLay_6 {n : Nat} {may : Int → Int → Bool} {mt : Int → Int} {u : Nat} (h : sFr mt n ≤ 2 * u) : ∀ k, sLay n may (u + k) mt = sLay n may u mt
  | 0 => rfl
  | k + 1 => by rw [show u + (k + 1) = (u + k) + 1 by omega, sLay_fuel (u + k) mt (by omega), sLay_6 h k]
/-- how many rows come of it -/
theorem xI_len {n A : Nat} {mt : Int → Int} {S q u : Nat} {may : Int → Int → Bool} (h : xI n A mt S q) (hu : u + q = 6) : ((sLay n may u mt).length : Int) = tb n may S := by
  unfold tb
  rw [← sLay_frl 6 mt (mtA S) (fun i q0 q1 => by rw [h.2.1 i q0 q1, mtA_neg q0]), show (6 : Nat) = u + q by omega, sLay_6 (by have := h.2.2.2.2.2.2.1; omega)]
theorem dg_16 {n : Nat} {M : Int → Int} (h : pIv n M) (hn : n ≤ 12) : ∀ x, x < 12 → dg M n x < 16 := fun x _ => by
  unfold dg
  split
  · rename_i q; have := (h x (by omega) (by omega) q.2).1; omega
  · decide
theorem dg_up {n : Nat} {M : Int → Int} {i j : Nat} (h : pIv n M) (hn : n ≤ 12) (hij : i < j) (hj : j < n) (h1 : M (i : Int) < 0) (h2 : M (j : Int) < 0) : pkN (dg M n) 12 ||| pkp i j = pkN (dg (sUp M (i : Int) (j : Int)) n) 12 := by
  rw [pk_up (dg_16 h hn) (by omega) (by omega) (by omega) (by unfold dg; rw [if_neg (by omega)]) (by unfold dg; rw [if_neg (by omega)])]
  refine pkN_congr (fun x hx => ?_)
  unfold dUp dg sUp
  by_cases e : x = j
  · rw [if_pos e, if_pos (show (x : Int) = (j : Int) by omega), if_pos (by omega)]; omega
  · rw [if_neg e, if_neg (show ¬ (x : Int) = (j : Int) by omega)]
    by_cases e' : x = i
    · rw [if_pos e', if_pos (show (x : Int) = (i : Int) by omega), if_pos (by omega)]; omega
    · rw [if_neg e', if_neg (show ¬ (x : Int) = (i : Int) by omega)]
/-- the facts of a row -/
def pF (n : Nat) (od br : Int → Bool) (M : Int → Int) : Int := crR n M + 16 * (trR n od br M % 2)
theorem xI_0 {n A : Nat} (hn : n ≤ 12) (hA : A < 2 ^ n) : xI n A (mtA A) A 0 ∧ pkN (dg (sMk A (mtA A)) n) 12 = 0 ∧ crR n (sMk A (mtA A)) = 0 ∧ ∀ od br, trR n od br (sMk A (mtA A)) = 0 := by
  have hM : ∀ x : Int, 0 ≤ x → x < n → sMk A (mtA A) x = -1 := fun x x0 x1 => by rw [sMk_mtA, if_pos (by omega)]
  have hc : crR n (sMk A (mtA A)) = 0 := zsum_z (fun i _ _ => zsum_z (fun r r0 r1 => zb_f (by rw [hM r r0 (by omega)]; omega)))
  refine ⟨⟨hA, fun x x0 x1 => mtA_neg x0, fun x hx => hx, fun x x0 x1 h => by rw [hM x x0 x1] at h; omega, fun y x y0 y1 y2 _ => by rw [hM y y0 y1] at y2; omega, ?_, ?_, ?_⟩, ?_, hc, fun od br => zsum_z (fun i i0 i1 => if_neg (by rw [hM i i0 (by omega)]; omega))⟩
  · unfold sOp
    rw [zsum_z (fun i i0 i1 => zb_f (by rw [hM i i0 (by omega)]; omega))]
    decide
  · have := sFr_nn (mtA A) n; omega
  · rw [hc]; decide
  · rw [pkN_congr (D' := fun _ => 0) (fun x hx => by
      unfold dg
      by_cases e : (x : Int) < n
      · rw [if_neg (by rw [hM x (by omega) e]; omega)]
      · rw [if_neg (by omega)])]
    rfl
