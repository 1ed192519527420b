/-- parts: from point p on, s of them -/
def sParts (R : Nat → Nat) : Nat → Nat → Nat → Nat
  | 0, _, _ => 0
  | s + 1, p, left => if left.testBit p then 1 + sParts R s (p + 1) (left ^^^ (left &&& R p)) else sParts R s (p + 1) left
theorem sParts_t {R : Nat → Nat} {s p left : Nat} (h : left.testBit p = true) : sParts R (s + 1) p left = 1 + sParts R s (p + 1) (left ^^^ (left &&& R p)) := by simp [sParts, h]
theorem sParts_f {R : Nat → Nat} {s p left : Nat} (h : left.testBit p = false) : sParts R (s + 1) p left = sParts R s (p + 1) left := by simp [sParts, h]
theorem sParts_le (R : Nat → Nat) : ∀ s p left, sParts R s p left ≤ s
  | 0, _, _ => Nat.le_refl _
  | s + 1, p, left => by
    unfold sParts
    split
    · have := sParts_le R s (p + 1) (left ^^^ (left &&& R p)); omega
    · have := sParts_le R s (p + 1) left; omega
/-- how many bits below n -/
def sPop : Nat → Nat → Nat
  | 0, _ => 0
  | n + 1, s => sPop n s + (if s.testBit n then 1 else 0)
theorem sPop_le : ∀ n s, sPop n s ≤ n
  | 0, _ => Nat.le_refl _
  | n + 1, s => by have := sPop_le n s; unfold sPop; split <;> omega
theorem sPop_0 : ∀ s, s < 256 → sPop 8 s = 0 → s = 0 := by decide +kernel
theorem sPop_s : ∀ s, s < 256 → 0 < s → sPop 8 (s &&& (s - 1)) + 1 = sPop 8 s := by decide +kernel
theorem l_partsOf (d : Nat) {E : zE} {m : zM} {P : Option zV → zM → Prop} (hE : shM E) (hm : ptM m) (pts : Int) (wl : Int) (hln : 0 ≤ m aM f_lines ∧ m aM f_lines ≤ 6) (hcd : ∀ k : Nat, (k : Int) < m aM f_lines → 0 ≤ m a_codes k ∧ gFr (m a_codes) k < 8 ∧ gTo (m a_codes) k < 8) : ∀ (j : Nat) (k n left : Nat), (k + j = 8) → (left < 256) → (n ≤ k) → (P (some (zI (n + sParts (gR (m aM f_lines).toNat (gFr (m a_codes)) (gTo (m a_codes)) (gSk (m a_codes) wl (-1))) j k left : Nat))) m) → zA zX12_partsOf (d + 2) E E P 8 [zP aM, zI pts, zI wl, zI (left : Nat), zI (n : Nat), zI (k : Nat)] [] m E := by
  intro j
  induction j with
  | zero =>
    intro k n left hk hl hn hP
    refine z_iload dX12_partsOf_8 rfl ?_
    refine z_bipush dX12_partsOf_10 rfl (by decide) ?_
    refine z_icmp_ge (tgt := 49) dX12_partsOf_12 rfl (fun h12 => ?_) (fun h => absurd (by omega) h)
    refine z_iload dX12_partsOf_49 rfl ?_
    refine z_iret dX12_partsOf_51 rfl rfl ?_
    exact hP
  | succ j ih =>
    intro k n left hk hl hn hP
    refine z_iload dX12_partsOf_8 rfl ?_
    refine z_bipush dX12_partsOf_10 rfl (by decide) ?_
    refine z_icmp_ge (tgt := 49) dX12_partsOf_12 rfl (fun h => absurd h (by omega)) (fun h12 => ?_)
    refine z_iload_n dX12_partsOf_15 rfl ?_
    refine z_iload dX12_partsOf_16 rfl ?_
    refine z_callS mlX12_158 dX12_partsOf_18 (av := [_, _]) rfl rfl (Nat.le_of_ble_eq_true rfl) (r_has _ hE hm left k (by omega) (by omega)) (Nat.le_refl _) (Nat.le_refl _) (Nat.le_refl _) (Nat.le_refl _) ?_
    rintro _ _ ⟨rfl, rfl⟩
    refine z_ifz_ne (tgt := 27) dX12_partsOf_21 rfl (fun h21 => ?_) (fun h21 => ?_)
    · refine z_inc dX12_partsOf_27 rfl (by omega) ?_
      refine z_iload_n dX12_partsOf_30 rfl ?_
      refine z_aload_n dX12_partsOf_31 rfl ?_
      refine z_iload dX12_partsOf_32 rfl ?_
      refine z_iload_n dX12_partsOf_34 rfl ?_
      refine z_iconst dX12_partsOf_35 (by decide) ?_
      try dsimp only [zs0, zsI, zsP, zsN, zsJ, zsS, zst2, Nat.reduceAdd]
      refine z_callV mlX12_282 dX12_partsOf_36 (sh_M hE) (av := [_, _, _]) rfl rfl (Nat.le_of_ble_eq_true rfl) (r_reached _ hE hm k wl (-1) (by omega) hln hcd) (Nat.le_refl _) (Nat.le_refl _) (Nat.le_refl _) (Nat.le_refl _) ?_
      rintro _ _ ⟨rfl, rfl⟩
      refine z_iconst dX12_partsOf_39 (by decide) ?_
      refine z_ixor dX12_partsOf_40 ?_
      refine z_iand dX12_partsOf_41 ?_
      rw [zandn_N (by omega) (by have := @gR_lt (m aM f_lines).toNat (gFr (m a_codes)) (gTo (m a_codes)) (gSk (m a_codes) wl (-1)) k; omega)]
      refine z_ist 3 dX12_partsOf_42 rfl (Nat.le_of_ble_eq_true rfl) ?_
      refine z_inc dX12_partsOf_43 rfl (by omega) ?_
      refine z_goto (tgt := 8) dX12_partsOf_46 rfl ?_
      try dsimp only [zs0, zsI, zsP, zsN, zsJ, zsS, zst2, Nat.reduceAdd]
      rw [show (k : Int) + 1 = ((k + 1 : Nat) : Int) by omega, show (n : Int) + 1 = ((n + 1 : Nat) : Int) by omega]
      rw [sParts_t h21, ← Nat.add_assoc] at hP
      exact ih (k + 1) (n + 1) _ (by omega) (Nat.xor_lt_two_pow (n := 8) hl (Nat.lt_of_le_of_lt Nat.and_le_left hl)) (by omega) hP
    · refine z_goto (tgt := 43) dX12_partsOf_24 rfl ?_
      refine z_inc dX12_partsOf_43 rfl (by omega) ?_
      refine z_goto (tgt := 8) dX12_partsOf_46 rfl ?_
      try dsimp only [zs0, zsI, zsP, zsN, zsJ, zsS, zst2, Nat.reduceAdd]
      rw [show (k : Int) + 1 = ((k + 1 : Nat) : Int) by omega]
      rw [sParts_f (by simpa using h21)] at hP
      exact ih (k + 1) n left (by omega) hl (by omega) hP

theorem r_partsOf (d : Nat) {E : zE} {m : zM} (hE : shM E) (hm : ptM m) (pts : Nat) (wl : Int) (hpt : pts < 256) (hln : 0 ≤ m aM f_lines ∧ m aM f_lines ≤ 6) (hcd : ∀ k : Nat, (k : Int) < m aM f_lines → 0 ≤ m a_codes k ∧ gFr (m a_codes) k < 8 ∧ gTo (m a_codes) k < 8) : zR zX12_partsOf (d + 2) [zP aM, zI (pts : Nat), zI wl] m E E (fun r m' => r = some (zI (sParts (gR (m aM f_lines).toNat (gFr (m a_codes)) (gTo (m a_codes)) (gSk (m a_codes) wl (-1))) 8 0 pts : Nat)) ∧ m = m') := by
  refine zR_go [zP aM, zI (pts : Nat), zI wl, zN, zN, zN] (by decide +kernel) (Nat.le_of_ble_eq_true rfl) rfl rfl ?_
  refine z_iload_n dX12_partsOf_0 rfl ?_
  refine z_ist 3 dX12_partsOf_1 rfl (Nat.le_of_ble_eq_true rfl) ?_
  refine z_iconst dX12_partsOf_2 (by decide) ?_
  refine z_istore dX12_partsOf_3 (Nat.le_of_ble_eq_true rfl) ?_
  refine z_iconst dX12_partsOf_5 (by decide) ?_
  refine z_istore dX12_partsOf_6 (Nat.le_of_ble_eq_true rfl) ?_
  try dsimp only [zs0, zsI, zsP, zsN, zsJ, zsS, zst2, Nat.reduceAdd]
  refine l_partsOf d hE hm (pts : Int) wl hln hcd 8 0 0 pts (by omega) hpt (by omega) ⟨by rw [Nat.zero_add], rfl⟩

theorem l_lost (d : Nat) {E : zE} {m : zM} {P : Option zV → zM → Prop} (hE : shM E) (hm : ptM m) (pts : Nat) (hpt : pts < 256) (hln : 0 ≤ m aM f_lines ∧ m aM f_lines ≤ 6) (hcd : ∀ k : Nat, (k : Int) < m aM f_lines → 0 ≤ m a_codes k ∧ gFr (m a_codes) k < 8 ∧ gTo (m a_codes) k < 8) (hw : wfC (m a_c)) : ∀ (j : Nat) (k : Nat), (k + j = 8) → (P (some (zI (zmask (fun p => pts.testBit p && decide ((gR (m aM f_lines).toNat (gFr (m a_codes)) (gTo (m a_codes)) (gSk (m a_codes) (-1) (-1))) p &&& (zmask (fun p => decide (m a_c (32 + 9 * (p : Int) + 1) ≠ 1)) (m a_c 2).toNat) = 0)) 8 : Nat))) m) → zA zX12_lost (d + 3) E E P 4 [zP aM, zI (pts : Nat), zI (zmask (fun p => pts.testBit p && decide ((gR (m aM f_lines).toNat (gFr (m a_codes)) (gTo (m a_codes)) (gSk (m a_codes) (-1) (-1))) p &&& (zmask (fun p => decide (m a_c (32 + 9 * (p : Int) + 1) ≠ 1)) (m a_c 2).toNat) = 0)) k : Nat), zI (k : Nat)] [] m E := by
  intro j
  induction j with
  | zero =>
    intro k hk hP
    refine z_iload_n dX12_lost_4 rfl ?_
    refine z_bipush dX12_lost_5 rfl (by decide) ?_
    refine z_icmp_ge (tgt := 45) dX12_lost_7 rfl (fun h7 => ?_) (fun h => absurd (by omega) h)
    refine z_iload_n dX12_lost_45 rfl ?_
    refine z_iret dX12_lost_46 rfl rfl ?_
    rw [show (8 : Nat) = k by omega] at hP
    exact hP
  | succ j ih =>
    intro k hk hP
    refine z_iload_n dX12_lost_4 rfl ?_
    refine z_bipush dX12_lost_5 rfl (by decide) ?_
    refine z_icmp_ge (tgt := 45) dX12_lost_7 rfl (fun h => absurd h (by omega)) (fun h7 => ?_)
    refine z_iload_n dX12_lost_10 rfl ?_
    refine z_iload_n dX12_lost_11 rfl ?_
    refine z_callS mlX12_158 dX12_lost_12 (av := [_, _]) rfl rfl (Nat.le_of_ble_eq_true rfl) (r_has _ hE hm pts k (by omega) (by omega)) (Nat.le_refl _) (Nat.le_refl _) (Nat.le_refl _) (Nat.le_refl _) ?_
    rintro _ _ ⟨rfl, rfl⟩
    refine z_ifz_eq (tgt := 39) dX12_lost_15 rfl (fun h15 => ?_) (fun h15 => ?_)
    · refine z_inc dX12_lost_39 rfl (by omega) ?_
      refine z_goto (tgt := 4) dX12_lost_42 rfl ?_
      try dsimp only [zs0, zsI, zsP, zsN, zsJ, zsS, zst2, Nat.reduceAdd]
      rw [show (k : Int) + 1 = ((k + 1 : Nat) : Int) by omega, ← zmask_n (show (fun p => pts.testBit p && decide ((gR (m aM f_lines).toNat (gFr (m a_codes)) (gTo (m a_codes)) (gSk (m a_codes) (-1) (-1))) p &&& (zmask (fun p => decide (m a_c (32 + 9 * (p : Int) + 1) ≠ 1)) (m a_c 2).toNat) = 0)) k = false by simp only [Bool.and_eq_false_iff]; left; simpa using h15)]
      exact ih (k + 1) (by omega) hP
    · refine z_aload_n dX12_lost_18 rfl ?_
      refine z_iload_n dX12_lost_19 rfl ?_
      refine z_iconst dX12_lost_20 (by decide) ?_
      refine z_iconst dX12_lost_21 (by decide) ?_
      refine z_callV mlX12_282 dX12_lost_22 (sh_M hE) (av := [_, _, _]) rfl rfl (Nat.le_of_ble_eq_true rfl) (r_reached _ hE hm k (-1) (-1) (by omega) hln hcd) (Nat.le_refl _) (Nat.le_refl _) (Nat.le_refl _) (Nat.le_refl _) ?_
      rintro _ _ ⟨rfl, rfl⟩
      refine z_aload_n dX12_lost_25 rfl ?_
      refine z_callV mlX12_286 dX12_lost_26 (sh_M hE) (av := _) rfl rfl (Nat.le_of_ble_eq_true rfl) (r_outerPoints _ hE hm hw) (Nat.le_refl _) (Nat.le_refl _) (Nat.le_refl _) (Nat.le_refl _) ?_
      rintro _ _ ⟨rfl, rfl⟩
      refine z_iand dX12_lost_29 ?_
      rw [zand_N (by have h1 := zmask_lt (fun p => decide (m a_c (32 + 9 * (p : Int) + 1) ≠ 1)) (m a_c 2).toNat; have h2 := Nat.pow_le_pow_right (n := 2) (by omega) (show (m a_c 2).toNat ≤ 8 by have := hw.2.2.1; omega); have h3 := @gR_lt (m aM f_lines).toNat (gFr (m a_codes)) (gTo (m a_codes)) (gSk (m a_codes) (-1) (-1)) k; omega)]
      refine z_if_ne (tgt := 39) dX12_lost_30 rfl (fun h30 => ?_) (fun h30 => ?_)
      · refine z_inc dX12_lost_39 rfl (by omega) ?_
        refine z_goto (tgt := 4) dX12_lost_42 rfl ?_
        try dsimp only [zs0, zsI, zsP, zsN, zsJ, zsS, zst2, Nat.reduceAdd]
        rw [show (k : Int) + 1 = ((k + 1 : Nat) : Int) by omega, ← zmask_n (show (fun p => pts.testBit p && decide ((gR (m aM f_lines).toNat (gFr (m a_codes)) (gTo (m a_codes)) (gSk (m a_codes) (-1) (-1))) p &&& (zmask (fun p => decide (m a_c (32 + 9 * (p : Int) + 1) ≠ 1)) (m a_c 2).toNat) = 0)) k = false by simp only [Bool.and_eq_false_iff, decide_eq_false_iff_not]; right; omega)]
        exact ih (k + 1) (by omega) hP
      · refine z_iload_n dX12_lost_33 rfl ?_
        refine z_iconst dX12_lost_34 (by decide) ?_
        refine z_iload_n dX12_lost_35 rfl ?_
        refine z_ishl dX12_lost_36 ?_
        have hml := zmask_lt (fun p => pts.testBit p && decide ((gR (m aM f_lines).toNat (gFr (m a_codes)) (gTo (m a_codes)) (gSk (m a_codes) (-1) (-1))) p &&& (zmask (fun p => decide (m a_c (32 + 9 * (p : Int) + 1) ≠ 1)) (m a_c 2).toNat) = 0)) k
        have hm2 : (2 : Nat) ^ k ≤ 2 ^ 8 := Nat.pow_le_pow_right (by omega) (by omega)
        refine z_ior dX12_lost_37 ?_
        rw [zor_b (by omega) (by omega)]
        refine z_ist 2 dX12_lost_38 rfl (Nat.le_of_ble_eq_true rfl) ?_
        refine z_inc dX12_lost_39 rfl (by omega) ?_
        refine z_goto (tgt := 4) dX12_lost_42 rfl ?_
        try dsimp only [zs0, zsI, zsP, zsN, zsJ, zsS, zst2, Nat.reduceAdd]
        rw [show (k : Int) + 1 = ((k + 1 : Nat) : Int) by omega, ← zmask_s (show (fun p => pts.testBit p && decide ((gR (m aM f_lines).toNat (gFr (m a_codes)) (gTo (m a_codes)) (gSk (m a_codes) (-1) (-1))) p &&& (zmask (fun p => decide (m a_c (32 + 9 * (p : Int) + 1) ≠ 1)) (m a_c 2).toNat) = 0)) k = true by simp only [Bool.and_eq_true, decide_eq_true_eq]; exact ⟨h15, by omega⟩)]
        exact ih (k + 1) (by omega) hP

theorem r_lost (d : Nat) {E : zE} {m : zM} (hE : shM E) (hm : ptM m) (pts : Nat) (hpt : pts < 256) (hln : 0 ≤ m aM f_lines ∧ m aM f_lines ≤ 6) (hcd : ∀ k : Nat, (k : Int) < m aM f_lines → 0 ≤ m a_codes k ∧ gFr (m a_codes) k < 8 ∧ gTo (m a_codes) k < 8) (hw : wfC (m a_c)) : zR zX12_lost (d + 3) [zP aM, zI (pts : Nat)] m E E (fun r m' => r = some (zI (zmask (fun p => pts.testBit p && decide ((gR (m aM f_lines).toNat (gFr (m a_codes)) (gTo (m a_codes)) (gSk (m a_codes) (-1) (-1))) p &&& (zmask (fun p => decide (m a_c (32 + 9 * (p : Int) + 1) ≠ 1)) (m a_c 2).toNat) = 0)) 8 : Nat)) ∧ m = m') := by
  refine zR_go [zP aM, zI (pts : Nat), zN, zN] (by decide +kernel) (Nat.le_of_ble_eq_true rfl) rfl rfl ?_
  refine z_iconst dX12_lost_0 (by decide) ?_
  refine z_ist 2 dX12_lost_1 rfl (Nat.le_of_ble_eq_true rfl) ?_
  refine z_iconst dX12_lost_2 (by decide) ?_
  refine z_ist 3 dX12_lost_3 rfl (Nat.le_of_ble_eq_true rfl) ?_
  try dsimp only [zs0, zsI, zsP, zsN, zsJ, zsS, zst2, Nat.reduceAdd]
  refine l_lost d hE hm pts hpt hln hcd hw 8 0 (by omega) ⟨rfl, rfl⟩

theorem l_bits (d : Nat) {E : zE} {m : zM} {P : Option zV → zM → Prop} (b : Int) : ∀ (j n s : Nat), s < 256 → sPop 8 s = j → n + j ≤ 100 → P (some (zI (n + j : Nat))) m → zA zX12_bits d E E P 4 [zI b, zI (n : Nat), zI (s : Nat)] [] m E := by
  intro j
  induction j with
  | zero =>
    intro n s hs hj hn hP
    have h0 : s = 0 := sPop_0 s hs hj
    refine z_iload_n dX12_bits_4 rfl ?_
    refine z_if_eq (tgt := 20) dX12_bits_5 rfl (fun h5 => ?_) (fun h => absurd (by omega) h)
    refine z_iload_n dX12_bits_20 rfl ?_
    refine z_iret dX12_bits_21 rfl rfl ?_
    exact hP
  | succ j ih =>
    intro n s hs hj hn hP
    have h0 : 0 < s := Nat.pos_of_ne_zero (fun e => by rw [e] at hj; cases hj)
    have h1 := sPop_s s hs h0
    refine z_iload_n dX12_bits_4 rfl ?_
    refine z_if_eq (tgt := 20) dX12_bits_5 rfl (fun h => absurd h (by omega)) (fun h5 => ?_)
    refine z_inc dX12_bits_8 rfl (by omega) ?_
    refine z_iload_n dX12_bits_11 rfl ?_
    refine z_iload_n dX12_bits_12 rfl ?_
    refine z_iconst dX12_bits_13 (by decide) ?_
    refine z_sub dX12_bits_14 (by omega) ?_
    rw [show (s : Int) - 1 = ((s - 1 : Nat) : Int) by omega]
    refine z_iand dX12_bits_15 ?_
    rw [zand_N (by omega)]
    refine z_ist 2 dX12_bits_16 rfl (Nat.le_of_ble_eq_true rfl) ?_
    refine z_goto (tgt := 4) dX12_bits_17 rfl ?_
    try dsimp only [zs0, zsI, zsP, zsN, zsJ, zsS, zst2, Nat.reduceAdd]
    rw [show (n : Int) + 1 = ((n + 1 : Nat) : Int) by omega]
    exact ih (n + 1) _ (Nat.lt_of_le_of_lt Nat.and_le_left hs) (by omega) (by omega) (by rw [show n + 1 + j = n + (j + 1) by omega]; exact hP)
theorem r_bits (d : Nat) {E : zE} {m : zM} (s : Nat) (hs : s < 256) : zR zX12_bits d [zI (s : Nat)] m E E (fun r m' => r = some (zI (sPop 8 s : Nat)) ∧ m = m') := by
  refine zR_go [zI (s : Nat), zN, zN] (by decide +kernel) (Nat.le_of_ble_eq_true rfl) rfl rfl ?_
  refine z_iconst dX12_bits_0 (by decide) ?_
  refine z_ist 1 dX12_bits_1 rfl (Nat.le_of_ble_eq_true rfl) ?_
  refine z_iload_n dX12_bits_2 rfl ?_
  refine z_ist 2 dX12_bits_3 rfl (Nat.le_of_ble_eq_true rfl) ?_
  try dsimp only [zs0, zsI, zsP, zsN, zsJ, zsS, zst2, Nat.reduceAdd]
  refine l_bits d (s : Int) (sPop 8 s) 0 s hs rfl (by have := sPop_le 8 s; omega) ⟨by rw [Nat.zero_add], rfl⟩

theorem r_loops (d : Nat) {E : zE} {m : zM} (hE : shM E) (hm : ptM m)  (hln : 0 ≤ m aM f_lines ∧ m aM f_lines ≤ 6) (hcd : ∀ k : Nat, (k : Int) < m aM f_lines → 0 ≤ m a_codes k ∧ gFr (m a_codes) k < 8 ∧ gTo (m a_codes) k < 8) (hw : wfC (m a_c)) : zR zX12_loops (d + 3) [zP aM] m E E (fun r m' => r = some (zI (m aM f_lines + (sParts (gR (m aM f_lines).toNat (gFr (m a_codes)) (gTo (m a_codes)) (gSk (m a_codes) (-1) (-1))) 8 0 (2 ^ (m a_c 2).toNat - 1) : Nat) - m a_c 2)) ∧ m = m') := by
  refine zR_go [zP aM] (by decide +kernel) (Nat.le_of_ble_eq_true rfl) rfl rfl ?_
  refine z_aload_n dX12_loops_0 rfl ?_
  refine z_gI f_lines rfl flX12_197 dX12_loops_1 (sh_M hE) rfl ?_
  refine z_aload_n dX12_loops_4 rfl ?_
  refine z_aload_n dX12_loops_5 rfl ?_
  refine z_callV mlX12_292 dX12_loops_6 (sh_M hE) (av := _) rfl rfl (Nat.le_of_ble_eq_true rfl) (r_allPoints _ hE hm hw) (Nat.le_refl _) (Nat.le_refl _) (Nat.le_refl _) (Nat.le_refl _) ?_
  rintro _ _ ⟨rfl, rfl⟩
  refine z_iconst dX12_loops_9 (by decide) ?_
  refine z_callV mlX12_298 dX12_loops_10 (sh_M hE) (av := [_, _]) rfl rfl (Nat.le_of_ble_eq_true rfl) (r_partsOf _ hE hm _ (-1) (by have h2 := Nat.pow_le_pow_right (n := 2) (by omega) (show (m a_c 2).toNat ≤ 8 by have := hw.2.2.1; omega); have h3 := Nat.two_pow_pos (m a_c 2).toNat; omega) hln hcd) (Nat.le_refl _) (Nat.le_refl _) (Nat.le_refl _) (Nat.le_refl _) ?_
  rintro _ _ ⟨rfl, rfl⟩
  refine z_add dX12_loops_13 (by have := hw.2.2.1; have hq := sParts_le (gR (m aM f_lines).toNat (gFr (m a_codes)) (gTo (m a_codes)) (gSk (m a_codes) (-1) (-1))) 8 0 (2 ^ (m a_c 2).toNat - 1); omega) ?_
  refine z_aload_n dX12_loops_14 rfl ?_
  refine z_gP 0 rfl (r := a_c) flX12_7 dX12_loops_15 (sh_M hE) rfl (pt_c hm) (by decide) ?_
  refine z_iconst dX12_loops_18 (by decide) ?_
  refine z_iald dX12_loops_19 (sh_c hE) (by have := hw.2.2.1; have hq := sParts_le (gR (m aM f_lines).toNat (gFr (m a_codes)) (gTo (m a_codes)) (gSk (m a_codes) (-1) (-1))) 8 0 (2 ^ (m a_c 2).toNat - 1); omega) (by have := hw.2.2.1; have hq := sParts_le (gR (m aM f_lines).toNat (gFr (m a_codes)) (gTo (m a_codes)) (gSk (m a_codes) (-1) (-1))) 8 0 (2 ^ (m a_c 2).toNat - 1); omega) ?_
  refine z_sub dX12_loops_20 (by have := hw.2.2.1; have hq := sParts_le (gR (m aM f_lines).toNat (gFr (m a_codes)) (gTo (m a_codes)) (gSk (m a_codes) (-1) (-1))) 8 0 (2 ^ (m a_c 2).toNat - 1); omega) ?_
  refine z_iret dX12_loops_21 rfl rfl ?_
  exact ⟨rfl, rfl⟩

theorem l_bridges (d : Nat) {E : zE} {m : zM} {P : Option zV → zM → Prop} (hE : shM E) (hm : ptM m)  (hln : 0 ≤ m aM f_lines ∧ m aM f_lines ≤ 6) (hcd : ∀ k : Nat, (k : Int) < m aM f_lines → 0 ≤ m a_codes k ∧ gFr (m a_codes) k < 8 ∧ gTo (m a_codes) k < 8) (hw : wfC (m a_c)) : ∀ (j : Nat) (k n : Int), (0 ≤ k) → (k + j = m aM f_lines) → (0 ≤ n ∧ n ≤ k) → (P (some (zI (n + zsum (fun k => zb ((sParts (gR (m aM f_lines).toNat (gFr (m a_codes)) (gTo (m a_codes)) (gSk (m a_codes) (-1) (-1))) 8 0 (2 ^ (m a_c 2).toNat - 1) : Int) < sParts (gR (m aM f_lines).toNat (gFr (m a_codes)) (gTo (m a_codes)) (gSk (m a_codes) k (-1))) 8 0 (2 ^ (m a_c 2).toNat - 1))) j k))) m) → zA zX12_bridges (d + 3) E E P 4 [zP aM, zI n, zI k] [] m E := by
  intro j
  induction j with
  | zero =>
    intro k n h0 hk hn hP
    refine z_iload_n dX12_bridges_4 rfl ?_
    refine z_aload_n dX12_bridges_5 rfl ?_
    refine z_gI f_lines rfl flX12_197 dX12_bridges_6 (sh_M hE) rfl ?_
    refine z_icmp_ge (tgt := 47) dX12_bridges_9 rfl (fun h9 => ?_) (fun h => absurd (by omega) h)
    refine z_iload_n dX12_bridges_47 rfl ?_
    refine z_iret dX12_bridges_48 rfl rfl ?_
    rw [zsum_0, Int.add_zero] at hP
    exact hP
  | succ j ih =>
    intro k n h0 hk hn hP
    refine z_iload_n dX12_bridges_4 rfl ?_
    refine z_aload_n dX12_bridges_5 rfl ?_
    refine z_gI f_lines rfl flX12_197 dX12_bridges_6 (sh_M hE) rfl ?_
    refine z_icmp_ge (tgt := 47) dX12_bridges_9 rfl (fun h => absurd h (by omega)) (fun h9 => ?_)
    refine z_iload_n dX12_bridges_12 rfl ?_
    refine z_aload_n dX12_bridges_13 rfl ?_
    refine z_aload_n dX12_bridges_14 rfl ?_
    refine z_callV mlX12_292 dX12_bridges_15 (sh_M hE) (av := _) rfl rfl (Nat.le_of_ble_eq_true rfl) (r_allPoints _ hE hm hw) (Nat.le_refl _) (Nat.le_refl _) (Nat.le_refl _) (Nat.le_refl _) ?_
    rintro _ _ ⟨rfl, rfl⟩
    refine z_iload_n dX12_bridges_18 rfl ?_
    refine z_callV mlX12_298 dX12_bridges_19 (sh_M hE) (av := [_, _]) rfl rfl (Nat.le_of_ble_eq_true rfl) (r_partsOf _ hE hm _ k (by have h2 := Nat.pow_le_pow_right (n := 2) (by omega) (show (m a_c 2).toNat ≤ 8 by have := hw.2.2.1; omega); have h3 := Nat.two_pow_pos (m a_c 2).toNat; omega) hln hcd) (Nat.le_refl _) (Nat.le_refl _) (Nat.le_refl _) (Nat.le_refl _) ?_
    rintro _ _ ⟨rfl, rfl⟩
    refine z_aload_n dX12_bridges_22 rfl ?_
    refine z_aload_n dX12_bridges_23 rfl ?_
    refine z_callV mlX12_292 dX12_bridges_24 (sh_M hE) (av := _) rfl rfl (Nat.le_of_ble_eq_true rfl) (r_allPoints _ hE hm hw) (Nat.le_refl _) (Nat.le_refl _) (Nat.le_refl _) (Nat.le_refl _) ?_
    rintro _ _ ⟨rfl, rfl⟩
    refine z_iconst dX12_bridges_27 (by decide) ?_
    refine z_callV mlX12_298 dX12_bridges_28 (sh_M hE) (av := [_, _]) rfl rfl (Nat.le_of_ble_eq_true rfl) (r_partsOf _ hE hm _ (-1) (by have h2 := Nat.pow_le_pow_right (n := 2) (by omega) (show (m a_c 2).toNat ≤ 8 by have := hw.2.2.1; omega); have h3 := Nat.two_pow_pos (m a_c 2).toNat; omega) hln hcd) (Nat.le_refl _) (Nat.le_refl _) (Nat.le_refl _) (Nat.le_refl _) ?_
    rintro _ _ ⟨rfl, rfl⟩
    refine z_icmp_le (tgt := 38) dX12_bridges_31 rfl (fun h31 => ?_) (fun h31 => ?_)
    · refine z_iconst dX12_bridges_38 (by decide) ?_
      refine z_add dX12_bridges_39 (by omega) ?_
      refine z_ist 1 dX12_bridges_40 rfl (Nat.le_of_ble_eq_true rfl) ?_
      refine z_inc dX12_bridges_41 rfl (by omega) ?_
      refine z_goto (tgt := 4) dX12_bridges_44 rfl ?_
      try dsimp only [zs0, zsI, zsP, zsN, zsJ, zsS, zst2, Nat.reduceAdd]
      rw [zsum_s, zb_f (by omega), ← Int.add_assoc] at hP
      exact ih (k + 1) _ (by omega) (by omega) (by omega) hP
    · refine z_iconst dX12_bridges_34 (by decide) ?_
      refine z_goto (tgt := 39) dX12_bridges_35 rfl ?_
      refine z_add dX12_bridges_39 (by omega) ?_
      refine z_ist 1 dX12_bridges_40 rfl (Nat.le_of_ble_eq_true rfl) ?_
      refine z_inc dX12_bridges_41 rfl (by omega) ?_
      refine z_goto (tgt := 4) dX12_bridges_44 rfl ?_
      try dsimp only [zs0, zsI, zsP, zsN, zsJ, zsS, zst2, Nat.reduceAdd]
      rw [zsum_s, zb_t (by omega), ← Int.add_assoc] at hP
      exact ih (k + 1) _ (by omega) (by omega) (by omega) hP

theorem r_bridges (d : Nat) {E : zE} {m : zM} (hE : shM E) (hm : ptM m)  (hln : 0 ≤ m aM f_lines ∧ m aM f_lines ≤ 6) (hcd : ∀ k : Nat, (k : Int) < m aM f_lines → 0 ≤ m a_codes k ∧ gFr (m a_codes) k < 8 ∧ gTo (m a_codes) k < 8) (hw : wfC (m a_c)) : zR zX12_bridges (d + 3) [zP aM] m E E (fun r m' => r = some (zI (zsum (fun k => zb ((sParts (gR (m aM f_lines).toNat (gFr (m a_codes)) (gTo (m a_codes)) (gSk (m a_codes) (-1) (-1))) 8 0 (2 ^ (m a_c 2).toNat - 1) : Int) < sParts (gR (m aM f_lines).toNat (gFr (m a_codes)) (gTo (m a_codes)) (gSk (m a_codes) k (-1))) 8 0 (2 ^ (m a_c 2).toNat - 1))) (m aM f_lines).toNat 0)) ∧ m = m') := by
  refine zR_go [zP aM, zN, zN] (by decide +kernel) (Nat.le_of_ble_eq_true rfl) rfl rfl ?_
  refine z_iconst dX12_bridges_0 (by decide) ?_
  refine z_ist 1 dX12_bridges_1 rfl (Nat.le_of_ble_eq_true rfl) ?_
  refine z_iconst dX12_bridges_2 (by decide) ?_
  refine z_ist 2 dX12_bridges_3 rfl (Nat.le_of_ble_eq_true rfl) ?_
  try dsimp only [zs0, zsI, zsP, zsN, zsJ, zsS, zst2, Nat.reduceAdd]
  refine l_bridges d hE hm hln hcd hw (m aM f_lines).toNat 0 0 (by omega) (by omega) (by omega) ⟨by rw [Int.zero_add], rfl⟩

theorem l_rings (d : Nat) {E : zE} {m : zM} {P : Option zV → zM → Prop} (hE : shM E) (hm : ptM m)  (hln : 0 ≤ m aM f_lines ∧ m aM f_lines ≤ 6) (hcd : ∀ k : Nat, (k : Int) < m aM f_lines → 0 ≤ m a_codes k ∧ gFr (m a_codes) k < 8 ∧ gTo (m a_codes) k < 8) : ∀ (j : Nat) (k n : Int), (0 ≤ k) → (k + j = m aM f_lines) → (0 ≤ n ∧ n ≤ k) → (P (some (zI (n + zsum (fun k => zb (m a_codes k / 100 = m a_codes k / 10 % 10)) j k))) m) → zA zX12_rings (d + 1) E E P 4 [zP aM, zI n, zI k] [] m E := by
  intro j
  induction j with
  | zero =>
    intro k n h0 hk hn hP
    refine z_iload_n dX12_rings_4 rfl ?_
    refine z_aload_n dX12_rings_5 rfl ?_
    refine z_gI f_lines rfl flX12_197 dX12_rings_6 (sh_M hE) rfl ?_
    refine z_icmp_ge (tgt := 39) dX12_rings_9 rfl (fun h9 => ?_) (fun h => absurd (by omega) h)
    refine z_iload_n dX12_rings_39 rfl ?_
    refine z_iret dX12_rings_40 rfl rfl ?_
    rw [zsum_0, Int.add_zero] at hP
    exact hP
  | succ j ih =>
    intro k n h0 hk hn hP
    refine z_iload_n dX12_rings_4 rfl ?_
    refine z_aload_n dX12_rings_5 rfl ?_
    refine z_gI f_lines rfl flX12_197 dX12_rings_6 (sh_M hE) rfl ?_
    refine z_icmp_ge (tgt := 39) dX12_rings_9 rfl (fun h => absurd h (by omega)) (fun h9 => ?_)
    refine z_iload_n dX12_rings_12 rfl ?_
    refine z_aload_n dX12_rings_13 rfl ?_
    refine z_iload_n dX12_rings_14 rfl ?_
    refine z_callV mlX12_276 dX12_rings_15 (sh_M hE) (av := [_]) rfl rfl (Nat.le_of_ble_eq_true rfl) (r_fromOf _ hE hm k h0 (by omega) (by have h := (hcd k.toNat (by omega)).1; rw [show ((k.toNat : Nat) : Int) = k by omega] at h; exact h)) (Nat.le_refl _) (Nat.le_refl _) (Nat.le_refl _) (Nat.le_refl _) ?_
    rintro _ _ ⟨rfl, rfl⟩
    refine z_aload_n dX12_rings_18 rfl ?_
    refine z_iload_n dX12_rings_19 rfl ?_
    refine z_callV mlX12_279 dX12_rings_20 (sh_M hE) (av := [_]) rfl rfl (Nat.le_of_ble_eq_true rfl) (r_toOf _ hE hm k h0 (by omega) (by have h := (hcd k.toNat (by omega)).1; rw [show ((k.toNat : Nat) : Int) = k by omega] at h; exact h)) (Nat.le_refl _) (Nat.le_refl _) (Nat.le_refl _) (Nat.le_refl _) ?_
    rintro _ _ ⟨rfl, rfl⟩
    refine z_icmp_ne (tgt := 30) dX12_rings_23 rfl (fun h23 => ?_) (fun h23 => ?_)
    · refine z_iconst dX12_rings_30 (by decide) ?_
      refine z_add dX12_rings_31 (by omega) ?_
      refine z_ist 1 dX12_rings_32 rfl (Nat.le_of_ble_eq_true rfl) ?_
      refine z_inc dX12_rings_33 rfl (by omega) ?_
      refine z_goto (tgt := 4) dX12_rings_36 rfl ?_
      try dsimp only [zs0, zsI, zsP, zsN, zsJ, zsS, zst2, Nat.reduceAdd]
      rw [zsum_s, zb_f (by omega), ← Int.add_assoc] at hP
      exact ih (k + 1) _ (by omega) (by omega) (by omega) hP
    · refine z_iconst dX12_rings_26 (by decide) ?_
      refine z_goto (tgt := 31) dX12_rings_27 rfl ?_
      refine z_add dX12_rings_31 (by omega) ?_
      refine z_ist 1 dX12_rings_32 rfl (Nat.le_of_ble_eq_true rfl) ?_
      refine z_inc dX12_rings_33 rfl (by omega) ?_
      refine z_goto (tgt := 4) dX12_rings_36 rfl ?_
      try dsimp only [zs0, zsI, zsP, zsN, zsJ, zsS, zst2, Nat.reduceAdd]
      rw [zsum_s, zb_t (by omega), ← Int.add_assoc] at hP
      exact ih (k + 1) _ (by omega) (by omega) (by omega) hP

theorem r_rings (d : Nat) {E : zE} {m : zM} (hE : shM E) (hm : ptM m)  (hln : 0 ≤ m aM f_lines ∧ m aM f_lines ≤ 6) (hcd : ∀ k : Nat, (k : Int) < m aM f_lines → 0 ≤ m a_codes k ∧ gFr (m a_codes) k < 8 ∧ gTo (m a_codes) k < 8) : zR zX12_rings (d + 1) [zP aM] m E E (fun r m' => r = some (zI (zsum (fun k => zb (m a_codes k / 100 = m a_codes k / 10 % 10)) (m aM f_lines).toNat 0)) ∧ m = m') := by
  refine zR_go [zP aM, zN, zN] (by decide +kernel) (Nat.le_of_ble_eq_true rfl) rfl rfl ?_
  refine z_iconst dX12_rings_0 (by decide) ?_
  refine z_ist 1 dX12_rings_1 rfl (Nat.le_of_ble_eq_true rfl) ?_
  refine z_iconst dX12_rings_2 (by decide) ?_
  refine z_ist 2 dX12_rings_3 rfl (Nat.le_of_ble_eq_true rfl) ?_
  try dsimp only [zs0, zsI, zsP, zsN, zsJ, zsS, zst2, Nat.reduceAdd]
  refine l_rings d hE hm hln hcd (m aM f_lines).toNat 0 0 (by omega) (by omega) (by omega) ⟨by rw [Int.zero_add], rfl⟩
