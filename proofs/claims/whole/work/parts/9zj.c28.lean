def rnx (D : Nat → Nat) (n x : Nat) : Nat := if D x + 1 < n then D x + 1 else 0
theorem rnx_lt {D : Nat → Nat} {n x : Nat} (h : x < n) : rnx D n x < n := by unfold rnx; split <;> omega
theorem two_at (x : Nat) : (2 ^ x).testBit x = true := by rw [Nat.testBit_two_pow]; simp
theorem l_countRounds_in (d : Nat) {E : zE} {m : zM} {P : Option zV → zM → Prop} (p a cap : Int) (sp : E.1 p = (10, 7)) (sa : E.1 a = (2, cap)) (sb : E.1 (a + 1) = (1, cap)) (a0 : 0 < a) (q0 : m p 0 = a) (q1 : m p 1 = a + 1) (n : Nat) (hn : n ≤ 12) (q4 : m p 4 = (n : Int)) (k : Int) (k0 : 0 ≤ k) (k1 : k < cap) (D : Nat → Nat) (hD : ∀ x, x < 12 → D x < 16) (hk : m a k = ((pkN D 12 : Nat) : Int)) (hn_ : ∀ x, x < n → D x < n) (rg ri : Nat) : ∀ (j : Nat) (x st seen : Nat), (st + j = 12) → (x < n) → (zA zX4_countRounds (d + 1) E E P 93 [zP p, zI k, zI (lfS n (sTrG (fun x => 2 ^ x) (rnx D n) j seen x) : Nat), zI (rg : Nat), zI (ri : Nat), zN, zN, zN] [] m E) → zA zX4_countRounds (d + 1) E E P 34 [zP p, zI k, zI (lfS n seen : Nat), zI (rg : Nat), zI (ri : Nat), zI (x : Nat), zI (st : Nat), zN] [] m E := by
  intro j
  induction j with
  | zero =>
    intro x st seen hj hx hP
    have hlf := lfS_lt n seen
    have h12 : 2 ^ n ≤ 2 ^ 12 := Nat.pow_le_pow_right (by decide) hn
    have hx2 : 2 ^ x ≤ 2 ^ 12 := Nat.pow_le_pow_right (by decide) (by omega)
    refine z_iload dX4_countRounds_34 rfl ?_
    refine z_bipush dX4_countRounds_36 rfl (by decide) ?_
    refine z_icmp_ge (tgt := 93) dX4_countRounds_38 rfl (fun h38 => ?_) (fun h => absurd (by omega) h)
    refine zA_wk [_, _, _, _, _, zN, zN, zN] (by exact ⟨Or.inr rfl, Or.inr rfl, Or.inr rfl, Or.inr rfl, Or.inr rfl, Or.inl rfl, Or.inl rfl, Or.inl rfl, trivial⟩) ?_
    exact hP
  | succ j ih =>
    intro x st seen hj hx hP
    have hlf := lfS_lt n seen
    have h12 : 2 ^ n ≤ 2 ^ 12 := Nat.pow_le_pow_right (by decide) hn
    have hx2 : 2 ^ x ≤ 2 ^ 12 := Nat.pow_le_pow_right (by decide) (by omega)
    refine z_iload dX4_countRounds_34 rfl ?_
    refine z_bipush dX4_countRounds_36 rfl (by decide) ?_
    refine z_icmp_ge (tgt := 93) dX4_countRounds_38 rfl (fun h => absurd h (by omega)) (fun h38 => ?_)
    refine z_iload_n dX4_countRounds_41 rfl ?_
    refine z_iload dX4_countRounds_42 rfl ?_
    refine z_ishr dX4_countRounds_44 ?_
    refine z_iconst dX4_countRounds_45 (by decide) ?_
    refine z_iand dX4_countRounds_46 ?_
    rw [zbit (by omega) (by omega)]
    refine z_if_eq (tgt := 93) dX4_countRounds_47 rfl (fun h47 => ?_) (fun h47 => ?_)
    · have hbx : ¬ seen.testBit x = false := fun e => by
        rw [zb_t (lfS_bit.mpr ⟨by omega, e⟩)] at h47; exact absurd h47 (by decide)
      refine zA_wk [_, _, _, _, _, zN, zN, zN] (by exact ⟨Or.inr rfl, Or.inr rfl, Or.inr rfl, Or.inr rfl, Or.inr rfl, Or.inl rfl, Or.inl rfl, Or.inl rfl, trivial⟩) ?_
      rw [sTrG_t (by cases e : seen.testBit x; exact absurd e hbx; rfl)] at hP
      exact hP
    · have hbx : seen.testBit x = false := by
        by_cases e : (lfS n seen).testBit x = true
        · exact (lfS_bit.mp e).2
        · rw [zb_f e] at h47; exact absurd rfl h47
      have hDx := hn_ x hx
      refine z_iload_n dX4_countRounds_50 rfl ?_
      refine z_iconst dX4_countRounds_51 (by decide) ?_
      refine z_iload dX4_countRounds_52 rfl ?_
      refine z_ishl dX4_countRounds_54 ?_
      rw [zshl_1 (by omega)]
      refine z_iconst dX4_countRounds_55 (by decide) ?_
      refine z_ixor dX4_countRounds_56 ?_
      refine z_iand dX4_countRounds_57 ?_
      rw [zandn_N (by omega) (by omega), lfS_or]
      refine z_ist 2 dX4_countRounds_58 rfl (Nat.le_of_ble_eq_true rfl) ?_
      refine z_aload_n dX4_countRounds_59 rfl ?_
      refine z_iload_n dX4_countRounds_60 rfl ?_
      refine z_iload dX4_countRounds_61 rfl ?_
      try dsimp only [zs0, zsI, zsP, zsN, zsJ, zsS, zst2, Nat.reduceAdd]
      refine z_callV mlX4_84 dX4_countRounds_63 sp (av := [_, _]) rfl rfl (Nat.le_of_ble_eq_true rfl) (c_mateOf _ p a cap sp sa sb a0 q0 q1 k k0 k1 D hD hk x (by omega)) (Nat.le_refl _) (Nat.le_refl _) (Nat.le_refl _) (Nat.le_refl _) ?_
      rintro _ _ ⟨rfl, rfl⟩
      refine z_iconst dX4_countRounds_66 (by decide) ?_
      refine z_add dX4_countRounds_67 (by omega) ?_
      refine z_istore dX4_countRounds_68 (Nat.le_of_ble_eq_true rfl) ?_
      refine z_iload dX4_countRounds_70 rfl ?_
      refine z_aload_n dX4_countRounds_72 rfl ?_
      refine z_gIv 4 rfl flX4_40 dX4_countRounds_73 sp rfl q4 ?_
      try dsimp only [zs0, zsI, zsP, zsN, zsJ, zsS, zst2, Nat.reduceAdd]
      refine z_icmp_ge (tgt := 84) dX4_countRounds_76 rfl (fun h76 => ?_) (fun h76 => ?_)
      · refine z_iconst dX4_countRounds_84 (by decide) ?_
        refine z_istore dX4_countRounds_85 (Nat.le_of_ble_eq_true rfl) ?_
        refine z_inc dX4_countRounds_87 rfl (by omega) ?_
        refine z_goto (tgt := 34) dX4_countRounds_90 rfl ?_
        try dsimp only [zs0, zsI, zsP, zsN, zsJ, zsS, zst2, Nat.reduceAdd]
        refine zA_wk [_, _, _, _, _, _, _, zN] (by exact ⟨Or.inr rfl, Or.inr rfl, Or.inr rfl, Or.inr rfl, Or.inr rfl, Or.inr rfl, Or.inr rfl, Or.inl rfl, trivial⟩) ?_
        rw [show (st : Int) + 1 = ((st + 1 : Nat) : Int) by omega]
        rw [sTrG_f hbx] at hP
        have e : rnx D n x = 0 := if_neg (by omega)
        have g := ih (rnx D n x) (st + 1) (seen ||| 2 ^ x) (by omega) (by rw [e]; omega) hP
        rw [e] at g
        exact g
      · refine z_iload dX4_countRounds_79 rfl ?_
        refine z_goto (tgt := 85) dX4_countRounds_81 rfl ?_
        refine z_istore dX4_countRounds_85 (Nat.le_of_ble_eq_true rfl) ?_
        refine z_inc dX4_countRounds_87 rfl (by omega) ?_
        refine z_goto (tgt := 34) dX4_countRounds_90 rfl ?_
        try dsimp only [zs0, zsI, zsP, zsN, zsJ, zsS, zst2, Nat.reduceAdd]
        refine zA_wk [_, _, _, _, _, _, _, zN] (by exact ⟨Or.inr rfl, Or.inr rfl, Or.inr rfl, Or.inr rfl, Or.inr rfl, Or.inr rfl, Or.inr rfl, Or.inl rfl, trivial⟩) ?_
        rw [show (st : Int) + 1 = ((st + 1 : Nat) : Int) by omega]
        rw [sTrG_f hbx] at hP
        have e : rnx D n x = D x + 1 := if_pos (by omega)
        have g := ih (rnx D n x) (st + 1) (seen ||| 2 ^ x) (by omega) (by rw [e]; omega) hP
        rw [e] at g
        exact g

theorem l_countRounds_out (d : Nat) {E : zE} {m : zM} {P : Option zV → zM → Prop} (p a cap : Int) (sp : E.1 p = (10, 7)) (sa : E.1 a = (2, cap)) (sb : E.1 (a + 1) = (1, cap)) (a0 : 0 < a) (q0 : m p 0 = a) (q1 : m p 1 = a + 1) (n : Nat) (hn : n ≤ 12) (q4 : m p 4 = (n : Int)) (k : Int) (k0 : 0 ≤ k) (k1 : k < cap) (D : Nat → Nat) (hD : ∀ x, x < 12 → D x < 16) (hk : m a k = ((pkN D 12 : Nat) : Int)) (hn_ : ∀ x, x < n → D x < n) (hnx : ∀ x, x < n → (rnx D n) x < n) (had : ∀ x, x < n → ((fun x => 2 ^ x) x).testBit x = true) : ∀ (j : Nat) (rg ri seen : Nat), (ri + j = 12) → (sUn seen n ≤ j) → (rg ≤ ri) → (P (some (zI (((rg + sRiG (fun x => 2 ^ x) (rnx D n) n n 0 seen : Nat) : Int)))) m) → zA zX4_countRounds (d + 2) E E P 14 [zP p, zI k, zI (lfS n seen : Nat), zI (rg : Nat), zI (ri : Nat), zN, zN, zN] [] m E := by
  intro j
  induction j with
  | zero =>
    intro rg ri seen hj hu hr hP
    have hlf := lfS_lt n seen
    have h12 : 2 ^ n ≤ 2 ^ 12 := Nat.pow_le_pow_right (by decide) hn
    refine z_iload dX4_countRounds_14 rfl ?_
    refine z_bipush dX4_countRounds_16 rfl (by decide) ?_
    refine z_icmp_ge (tgt := 102) dX4_countRounds_18 rfl (fun h18 => ?_) (fun h => absurd (by omega) h)
    refine z_iload_n dX4_countRounds_102 rfl ?_
    refine z_iret dX4_countRounds_103 rfl rfl ?_
    rw [sRiG_no (sUn_left (by omega)), Nat.add_zero] at hP
    exact hP
  | succ j ih =>
    intro rg ri seen hj hu hr hP
    have hlf := lfS_lt n seen
    have h12 : 2 ^ n ≤ 2 ^ 12 := Nat.pow_le_pow_right (by decide) hn
    refine z_iload dX4_countRounds_14 rfl ?_
    refine z_bipush dX4_countRounds_16 rfl (by decide) ?_
    refine z_icmp_ge (tgt := 102) dX4_countRounds_18 rfl (fun h => absurd h (by omega)) (fun h18 => ?_)
    refine z_iload_n dX4_countRounds_21 rfl ?_
    refine z_if_eq (tgt := 102) dX4_countRounds_22 rfl (fun h22 => ?_) (fun h22 => ?_)
    · have hz : lfS n seen = 0 := by omega
      refine z_iload_n dX4_countRounds_102 rfl ?_
      refine z_iret dX4_countRounds_103 rfl rfl ?_
      rw [sRiG_no (hz), Nat.add_zero] at hP
      exact hP
    · have hz : lfS n seen ≠ 0 := by omega
      have hlo := lo_n hn (lfS_lt n seen) hz
      refine z_iload_n dX4_countRounds_25 rfl ?_
      refine z_callS mlX4_56 dX4_countRounds_26 (av := [_]) rfl rfl (Nat.le_of_ble_eq_true rfl) (c_leastOf _ (lfS n seen) (by omega) hz) (Nat.le_refl _) (Nat.le_refl _) (Nat.le_refl _) (Nat.le_refl _) ?_
      rintro _ _ ⟨rfl, rfl⟩
      refine z_istore dX4_countRounds_29 (Nat.le_of_ble_eq_true rfl) ?_
      refine z_iconst dX4_countRounds_31 (by decide) ?_
      refine z_istore dX4_countRounds_32 (Nat.le_of_ble_eq_true rfl) ?_
      try dsimp only [zs0, zsI, zsP, zsN, zsJ, zsS, zst2, Nat.reduceAdd]
      refine zA_wk [_, _, _, _, _, _, _, zN] (by exact ⟨Or.inr rfl, Or.inr rfl, Or.inr rfl, Or.inr rfl, Or.inr rfl, Or.inr rfl, Or.inr rfl, Or.inl rfl, trivial⟩) ?_
      refine l_countRounds_in (d + 1) p a cap sp sa sb a0 q0 q1 n hn q4 k k0 k1 D hD hk hn_ rg ri 12 (lo (lfS n seen)) 0 seen (by omega) (by omega) ?_
      rw [show (12 : Nat) = n + (12 - n) by omega, sTrG_12 hnx had hlo.1]
      refine z_inc dX4_countRounds_93 rfl (by omega) ?_
      refine z_inc dX4_countRounds_96 rfl (by omega) ?_
      refine z_goto (tgt := 14) dX4_countRounds_99 rfl ?_
      try dsimp only [zs0, zsI, zsP, zsN, zsJ, zsS, zst2, Nat.reduceAdd]
      rw [show (rg : Int) + 1 = ((rg + 1 : Nat) : Int) by omega, show (ri : Int) + 1 = ((ri + 1 : Nat) : Int) by omega]
      refine ih (rg + 1) (ri + 1) _ (by omega) (by have := sTrG_dn (nx := (rnx D n)) hn had hz; omega) (by omega) ?_
      rw [sRiG_one hn had hz] at hP
      rw [show rg + 1 + sRiG (fun x => 2 ^ x) (rnx D n) n n 0 (sTrG (fun x => 2 ^ x) (rnx D n) n seen (lo (lfS n seen))) = rg + (1 + sRiG (fun x => 2 ^ x) (rnx D n) n n 0 (sTrG (fun x => 2 ^ x) (rnx D n) n seen (lo (lfS n seen)))) by omega]
      exact hP

theorem c_countRounds (d : Nat) {E : zE} {m : zM} (p a cap : Int) (sp : E.1 p = (10, 7)) (sa : E.1 a = (2, cap)) (sb : E.1 (a + 1) = (1, cap)) (a0 : 0 < a) (q0 : m p 0 = a) (q1 : m p 1 = a + 1) (n : Nat) (hn : n ≤ 12) (q4 : m p 4 = (n : Int)) (k : Int) (k0 : 0 ≤ k) (k1 : k < cap) (D : Nat → Nat) (hD : ∀ x, x < 12 → D x < 16) (hk : m a k = ((pkN D 12 : Nat) : Int)) (hn_ : ∀ x, x < n → D x < n) : zR zX4_countRounds (d + 2) [zP p, zI k] m E E (fun r m' => r = some (zI ((sRiG (fun x => 2 ^ x) (rnx D n) n n 0 0 : Nat) : Int)) ∧ m = m') := by
  have h12 : 2 ^ n ≤ 2 ^ 12 := Nat.pow_le_pow_right (by decide) hn
  have h0 := Nat.two_pow_pos n
  refine zR_go [zP p, zI k, zN, zN, zN, zN, zN, zN] (by decide +kernel) (Nat.le_of_ble_eq_true rfl) rfl rfl ?_
  refine z_iconst dX4_countRounds_0 (by decide) ?_
  refine z_aload_n dX4_countRounds_1 rfl ?_
  refine z_gIv 4 rfl flX4_40 dX4_countRounds_2 sp rfl q4 ?_
  refine z_ishl dX4_countRounds_5 ?_
  rw [zshl_1 (by omega)]
  refine z_iconst dX4_countRounds_6 (by decide) ?_
  refine z_sub dX4_countRounds_7 (by omega) ?_
  rw [show ((2 ^ n : Nat) : Int) - 1 = ((lfS n 0 : Nat) : Int) by rw [lfS_full]; omega]
  refine z_ist 2 dX4_countRounds_8 rfl (Nat.le_of_ble_eq_true rfl) ?_
  refine z_iconst dX4_countRounds_9 (by decide) ?_
  refine z_ist 3 dX4_countRounds_10 rfl (Nat.le_of_ble_eq_true rfl) ?_
  refine z_iconst dX4_countRounds_11 (by decide) ?_
  refine z_istore dX4_countRounds_12 (Nat.le_of_ble_eq_true rfl) ?_
  try dsimp only [zs0, zsI, zsP, zsN, zsJ, zsS, zst2, Nat.reduceAdd]
  have g := l_countRounds_out d p a cap sp sa sb a0 q0 q1 n hn q4 k k0 k1 D hD hk hn_ (P := fun r m' => r = some (zI ((sRiG (fun x => 2 ^ x) (rnx D n) n n 0 0 : Nat) : Int)) ∧ m = m') (fun x hx => rnx_lt hx) (fun x hx => two_at x) 12 0 0 0 (by omega) (by have := sUn_le 0 n; omega) (by omega) ⟨by rw [Nat.zero_add], rfl⟩
  exact g

theorem l_commonRings_in (d : Nat) {E : zE} {m : zM} {P : Option zV → zM → Prop} (p a cap : Int) (sp : E.1 p = (10, 7)) (sa : E.1 a = (2, cap)) (sb : E.1 (a + 1) = (1, cap)) (a0 : 0 < a) (q0 : m p 0 = a) (q1 : m p 1 = a + 1) (n : Nat) (hn : n ≤ 12) (q4 : m p 4 = (n : Int)) (k : Int) (k0 : 0 ≤ k) (k1 : k < cap) (D : Nat → Nat) (hD : ∀ x, x < 12 → D x < 16) (hk : m a k = ((pkN D 12 : Nat) : Int)) (hn_ : ∀ x, x < n → D x < n) (ko : Int) (ko0 : 0 ≤ ko) (ko1 : ko < cap) (Do : Nat → Nat) (hDo : ∀ x, x < 12 → Do x < 16) (hko : m a ko = ((pkN Do 12 : Nat) : Int)) (hno : ∀ x, x < n → Do x < n) (rg ri : Nat) : ∀ (j : Nat) (x st seen : Nat), (st + j = 12) → (x < n) → (zA zX4_commonRings (d + 1) E E P 89 [zP p, zI k, zI ko, zI (lfS n (sTrG (fun x => 2 ^ x ||| 2 ^ D x) (fun x => Do (D x)) j seen x) : Nat), zI (rg : Nat), zI (ri : Nat), zN, zN, zN] [] m E) → zA zX4_commonRings (d + 1) E E P 35 [zP p, zI k, zI ko, zI (lfS n seen : Nat), zI (rg : Nat), zI (ri : Nat), zI (x : Nat), zI (st : Nat), zN] [] m E := by
  intro j
  induction j with
  | zero =>
    intro x st seen hj hx hP
    have hlf := lfS_lt n seen
    have h12 : 2 ^ n ≤ 2 ^ 12 := Nat.pow_le_pow_right (by decide) hn
    have hx2 : 2 ^ x ≤ 2 ^ 12 := Nat.pow_le_pow_right (by decide) (by omega)
    refine z_iload dX4_commonRings_35 rfl ?_
    refine z_bipush dX4_commonRings_37 rfl (by decide) ?_
    refine z_icmp_ge (tgt := 89) dX4_commonRings_39 rfl (fun h39 => ?_) (fun h => absurd (by omega) h)
    refine zA_wk [_, _, _, _, _, _, zN, zN, zN] (by exact ⟨Or.inr rfl, Or.inr rfl, Or.inr rfl, Or.inr rfl, Or.inr rfl, Or.inr rfl, Or.inl rfl, Or.inl rfl, Or.inl rfl, trivial⟩) ?_
    exact hP
  | succ j ih =>
    intro x st seen hj hx hP
    have hlf := lfS_lt n seen
    have h12 : 2 ^ n ≤ 2 ^ 12 := Nat.pow_le_pow_right (by decide) hn
    have hx2 : 2 ^ x ≤ 2 ^ 12 := Nat.pow_le_pow_right (by decide) (by omega)
    refine z_iload dX4_commonRings_35 rfl ?_
    refine z_bipush dX4_commonRings_37 rfl (by decide) ?_
    refine z_icmp_ge (tgt := 89) dX4_commonRings_39 rfl (fun h => absurd h (by omega)) (fun h39 => ?_)
    refine z_iload_n dX4_commonRings_42 rfl ?_
    refine z_iload dX4_commonRings_43 rfl ?_
    refine z_ishr dX4_commonRings_45 ?_
    refine z_iconst dX4_commonRings_46 (by decide) ?_
    refine z_iand dX4_commonRings_47 ?_
    rw [zbit (by omega) (by omega)]
    refine z_if_eq (tgt := 89) dX4_commonRings_48 rfl (fun h48 => ?_) (fun h48 => ?_)
    · have hbx : ¬ seen.testBit x = false := fun e => by
        rw [zb_t (lfS_bit.mpr ⟨by omega, e⟩)] at h48; exact absurd h48 (by decide)
      refine zA_wk [_, _, _, _, _, _, zN, zN, zN] (by exact ⟨Or.inr rfl, Or.inr rfl, Or.inr rfl, Or.inr rfl, Or.inr rfl, Or.inr rfl, Or.inl rfl, Or.inl rfl, Or.inl rfl, trivial⟩) ?_
      rw [sTrG_t (by cases e : seen.testBit x; exact absurd e hbx; rfl)] at hP
      exact hP
    · have hbx : seen.testBit x = false := by
        by_cases e : (lfS n seen).testBit x = true
        · exact (lfS_bit.mp e).2
        · rw [zb_f e] at h48; exact absurd rfl h48
      have hDx := hn_ x hx
      have hp2 : 2 ^ D x ≤ 2 ^ 12 := Nat.pow_le_pow_right (by decide) (by omega)
      refine z_aload_n dX4_commonRings_51 rfl ?_
      refine z_iload_n dX4_commonRings_52 rfl ?_
      refine z_iload dX4_commonRings_53 rfl ?_
      refine z_callV mlX4_84 dX4_commonRings_55 sp (av := [_, _]) rfl rfl (Nat.le_of_ble_eq_true rfl) (c_mateOf _ p a cap sp sa sb a0 q0 q1 k k0 k1 D hD hk x (by omega)) (Nat.le_refl _) (Nat.le_refl _) (Nat.le_refl _) (Nat.le_refl _) ?_
      rintro _ _ ⟨rfl, rfl⟩
      refine z_istore dX4_commonRings_58 (Nat.le_of_ble_eq_true rfl) ?_
      refine z_iload_n dX4_commonRings_60 rfl ?_
      refine z_iconst dX4_commonRings_61 (by decide) ?_
      refine z_iload dX4_commonRings_62 rfl ?_
      refine z_ishl dX4_commonRings_64 ?_
      rw [zshl_1 (by omega)]
      refine z_iconst dX4_commonRings_65 (by decide) ?_
      refine z_iload dX4_commonRings_66 rfl ?_
      refine z_ishl dX4_commonRings_68 ?_
      rw [zshl_1 (by omega)]
      refine z_ior dX4_commonRings_69 ?_
      rw [zor_N (by omega) (by omega)]
      refine z_iconst dX4_commonRings_70 (by decide) ?_
      refine z_ixor dX4_commonRings_71 ?_
      refine z_iand dX4_commonRings_72 ?_
      rw [zandn_N (by omega) (Nat.or_lt_two_pow (n := 31) (by omega) (by omega)), lfS_or]
      refine z_ist 3 dX4_commonRings_73 rfl (Nat.le_of_ble_eq_true rfl) ?_
      refine z_aload_n dX4_commonRings_74 rfl ?_
      refine z_iload_n dX4_commonRings_75 rfl ?_
      refine z_iload dX4_commonRings_76 rfl ?_
      try dsimp only [zs0, zsI, zsP, zsN, zsJ, zsS, zst2, Nat.reduceAdd]
      refine z_callV mlX4_84 dX4_commonRings_78 sp (av := [_, _]) rfl rfl (Nat.le_of_ble_eq_true rfl) (c_mateOf _ p a cap sp sa sb a0 q0 q1 ko ko0 ko1 Do hDo hko (D x) (by omega)) (Nat.le_refl _) (Nat.le_refl _) (Nat.le_refl _) (Nat.le_refl _) ?_
      rintro _ _ ⟨rfl, rfl⟩
      refine z_istore dX4_commonRings_81 (Nat.le_of_ble_eq_true rfl) ?_
      refine z_inc dX4_commonRings_83 rfl (by omega) ?_
      refine z_goto (tgt := 35) dX4_commonRings_86 rfl ?_
      try dsimp only [zs0, zsI, zsP, zsN, zsJ, zsS, zst2, Nat.reduceAdd]
      refine zA_wk [_, _, _, _, _, _, _, _, zN] (by exact ⟨Or.inr rfl, Or.inr rfl, Or.inr rfl, Or.inr rfl, Or.inr rfl, Or.inr rfl, Or.inr rfl, Or.inr rfl, Or.inl rfl, trivial⟩) ?_
      rw [show (st : Int) + 1 = ((st + 1 : Nat) : Int) by omega]
      rw [sTrG_f hbx] at hP
      exact ih (Do (D x)) (st + 1) (seen ||| (2 ^ x ||| 2 ^ D x)) (by omega) (hno _ (hn_ x hx)) hP

theorem l_commonRings_out (d : Nat) {E : zE} {m : zM} {P : Option zV → zM → Prop} (p a cap : Int) (sp : E.1 p = (10, 7)) (sa : E.1 a = (2, cap)) (sb : E.1 (a + 1) = (1, cap)) (a0 : 0 < a) (q0 : m p 0 = a) (q1 : m p 1 = a + 1) (n : Nat) (hn : n ≤ 12) (q4 : m p 4 = (n : Int)) (k : Int) (k0 : 0 ≤ k) (k1 : k < cap) (D : Nat → Nat) (hD : ∀ x, x < 12 → D x < 16) (hk : m a k = ((pkN D 12 : Nat) : Int)) (hn_ : ∀ x, x < n → D x < n) (ko : Int) (ko0 : 0 ≤ ko) (ko1 : ko < cap) (Do : Nat → Nat) (hDo : ∀ x, x < 12 → Do x < 16) (hko : m a ko = ((pkN Do 12 : Nat) : Int)) (hno : ∀ x, x < n → Do x < n) (hnx : ∀ x, x < n → (fun x => Do (D x)) x < n) (had : ∀ x, x < n → ((fun x => 2 ^ x ||| 2 ^ D x) x).testBit x = true) : ∀ (j : Nat) (rg ri seen : Nat), (ri + j = 12) → (sUn seen n ≤ j) → (rg ≤ ri) → (P (some (zI (((rg + sRiG (fun x => 2 ^ x ||| 2 ^ D x) (fun x => Do (D x)) n n 0 seen : Nat) : Int)))) m) → zA zX4_commonRings (d + 2) E E P 15 [zP p, zI k, zI ko, zI (lfS n seen : Nat), zI (rg : Nat), zI (ri : Nat), zN, zN, zN] [] m E := by
  intro j
  induction j with
  | zero =>
    intro rg ri seen hj hu hr hP
    have hlf := lfS_lt n seen
    have h12 : 2 ^ n ≤ 2 ^ 12 := Nat.pow_le_pow_right (by decide) hn
    refine z_iload dX4_commonRings_15 rfl ?_
    refine z_bipush dX4_commonRings_17 rfl (by decide) ?_
    refine z_icmp_ge (tgt := 98) dX4_commonRings_19 rfl (fun h19 => ?_) (fun h => absurd (by omega) h)
    refine z_iload dX4_commonRings_98 rfl ?_
    refine z_iret dX4_commonRings_100 rfl rfl ?_
    rw [sRiG_no (sUn_left (by omega)), Nat.add_zero] at hP
    exact hP
  | succ j ih =>
    intro rg ri seen hj hu hr hP
    have hlf := lfS_lt n seen
    have h12 : 2 ^ n ≤ 2 ^ 12 := Nat.pow_le_pow_right (by decide) hn
    refine z_iload dX4_commonRings_15 rfl ?_
    refine z_bipush dX4_commonRings_17 rfl (by decide) ?_
    refine z_icmp_ge (tgt := 98) dX4_commonRings_19 rfl (fun h => absurd h (by omega)) (fun h19 => ?_)
    refine z_iload_n dX4_commonRings_22 rfl ?_
    refine z_if_eq (tgt := 98) dX4_commonRings_23 rfl (fun h23 => ?_) (fun h23 => ?_)
    · have hz : lfS n seen = 0 := by omega
      refine z_iload dX4_commonRings_98 rfl ?_
      refine z_iret dX4_commonRings_100 rfl rfl ?_
      rw [sRiG_no (hz), Nat.add_zero] at hP
      exact hP
    · have hz : lfS n seen ≠ 0 := by omega
      have hlo := lo_n hn (lfS_lt n seen) hz
      refine z_iload_n dX4_commonRings_26 rfl ?_
      refine z_callS mlX4_56 dX4_commonRings_27 (av := [_]) rfl rfl (Nat.le_of_ble_eq_true rfl) (c_leastOf _ (lfS n seen) (by omega) hz) (Nat.le_refl _) (Nat.le_refl _) (Nat.le_refl _) (Nat.le_refl _) ?_
      rintro _ _ ⟨rfl, rfl⟩
      refine z_istore dX4_commonRings_30 (Nat.le_of_ble_eq_true rfl) ?_
      refine z_iconst dX4_commonRings_32 (by decide) ?_
      refine z_istore dX4_commonRings_33 (Nat.le_of_ble_eq_true rfl) ?_
      try dsimp only [zs0, zsI, zsP, zsN, zsJ, zsS, zst2, Nat.reduceAdd]
      refine zA_wk [_, _, _, _, _, _, _, _, zN] (by exact ⟨Or.inr rfl, Or.inr rfl, Or.inr rfl, Or.inr rfl, Or.inr rfl, Or.inr rfl, Or.inr rfl, Or.inr rfl, Or.inl rfl, trivial⟩) ?_
      refine l_commonRings_in (d + 1) p a cap sp sa sb a0 q0 q1 n hn q4 k k0 k1 D hD hk hn_ ko ko0 ko1 Do hDo hko hno rg ri 12 (lo (lfS n seen)) 0 seen (by omega) (by omega) ?_
      rw [show (12 : Nat) = n + (12 - n) by omega, sTrG_12 hnx had hlo.1]
      refine z_inc dX4_commonRings_89 rfl (by omega) ?_
      refine z_inc dX4_commonRings_92 rfl (by omega) ?_
      refine z_goto (tgt := 15) dX4_commonRings_95 rfl ?_
      try dsimp only [zs0, zsI, zsP, zsN, zsJ, zsS, zst2, Nat.reduceAdd]
      rw [show (rg : Int) + 1 = ((rg + 1 : Nat) : Int) by omega, show (ri : Int) + 1 = ((ri + 1 : Nat) : Int) by omega]
      refine ih (rg + 1) (ri + 1) _ (by omega) (by have := sTrG_dn (nx := (fun x => Do (D x))) hn had hz; omega) (by omega) ?_
      rw [sRiG_one hn had hz] at hP
      rw [show rg + 1 + sRiG (fun x => 2 ^ x ||| 2 ^ D x) (fun x => Do (D x)) n n 0 (sTrG (fun x => 2 ^ x ||| 2 ^ D x) (fun x => Do (D x)) n seen (lo (lfS n seen))) = rg + (1 + sRiG (fun x => 2 ^ x ||| 2 ^ D x) (fun x => Do (D x)) n n 0 (sTrG (fun x => 2 ^ x ||| 2 ^ D x) (fun x => Do (D x)) n seen (lo (lfS n seen)))) by omega]
      exact hP

theorem c_commonRings (d : Nat) {E : zE} {m : zM} (p a cap : Int) (sp : E.1 p = (10, 7)) (sa : E.1 a = (2, cap)) (sb : E.1 (a + 1) = (1, cap)) (a0 : 0 < a) (q0 : m p 0 = a) (q1 : m p 1 = a + 1) (n : Nat) (hn : n ≤ 12) (q4 : m p 4 = (n : Int)) (k : Int) (k0 : 0 ≤ k) (k1 : k < cap) (D : Nat → Nat) (hD : ∀ x, x < 12 → D x < 16) (hk : m a k = ((pkN D 12 : Nat) : Int)) (hn_ : ∀ x, x < n → D x < n) (ko : Int) (ko0 : 0 ≤ ko) (ko1 : ko < cap) (Do : Nat → Nat) (hDo : ∀ x, x < 12 → Do x < 16) (hko : m a ko = ((pkN Do 12 : Nat) : Int)) (hno : ∀ x, x < n → Do x < n) : zR zX4_commonRings (d + 2) [zP p, zI k, zI ko] m E E (fun r m' => r = some (zI ((sRiG (fun x => 2 ^ x ||| 2 ^ D x) (fun x => Do (D x)) n n 0 0 : Nat) : Int)) ∧ m = m') := by
  have h12 : 2 ^ n ≤ 2 ^ 12 := Nat.pow_le_pow_right (by decide) hn
  have h0 := Nat.two_pow_pos n
  refine zR_go [zP p, zI k, zI ko, zN, zN, zN, zN, zN, zN] (by decide +kernel) (Nat.le_of_ble_eq_true rfl) rfl rfl ?_
  refine z_iconst dX4_commonRings_0 (by decide) ?_
  refine z_aload_n dX4_commonRings_1 rfl ?_
  refine z_gIv 4 rfl flX4_40 dX4_commonRings_2 sp rfl q4 ?_
  refine z_ishl dX4_commonRings_5 ?_
  rw [zshl_1 (by omega)]
  refine z_iconst dX4_commonRings_6 (by decide) ?_
  refine z_sub dX4_commonRings_7 (by omega) ?_
  rw [show ((2 ^ n : Nat) : Int) - 1 = ((lfS n 0 : Nat) : Int) by rw [lfS_full]; omega]
  refine z_ist 3 dX4_commonRings_8 rfl (Nat.le_of_ble_eq_true rfl) ?_
  refine z_iconst dX4_commonRings_9 (by decide) ?_
  refine z_istore dX4_commonRings_10 (Nat.le_of_ble_eq_true rfl) ?_
  refine z_iconst dX4_commonRings_12 (by decide) ?_
  refine z_istore dX4_commonRings_13 (Nat.le_of_ble_eq_true rfl) ?_
  try dsimp only [zs0, zsI, zsP, zsN, zsJ, zsS, zst2, Nat.reduceAdd]
  have g := l_commonRings_out d p a cap sp sa sb a0 q0 q1 n hn q4 k k0 k1 D hD hk hn_ ko ko0 ko1 Do hDo hko hno (P := fun r m' => r = some (zI ((sRiG (fun x => 2 ^ x ||| 2 ^ D x) (fun x => Do (D x)) n n 0 0 : Nat) : Int)) ∧ m = m') (fun x hx => hno _ (hn_ x hx)) (fun x hx => by show (2 ^ x ||| 2 ^ D x).testBit x = true; rw [Nat.testBit_or, two_at, Bool.true_or]) 12 0 0 0 (by omega) (by have := sUn_le 0 n; omega) (by omega) ⟨by rw [Nat.zero_add], rfl⟩
  exact g
