theorem f512 : ∀ f : Nat, f < 512 → zand (f : Int) 15 = ((f % 16 : Nat) : Int) ∧ zand (f : Int) 16 = ((16 * (f / 16 % 2) : Nat) : Int) ∧ zshr (f : Int) 5 = ((f / 32 : Nat) : Int) ∧ zand (f : Int) 31 = ((f % 32 : Nat) : Int) := by decide +kernel
theorem zshl_2 {k : Nat} (hk : k < 12) : zshl 2 (k : Int) = ((2 ^ (k + 1) : Nat) : Int) := by
  have h : 2 ^ k ≤ 2 ^ 12 := Nat.pow_le_pow_right (by decide) (by omega)
  have e := zshl_N (a := 2) (k := k) (by omega) (by omega)
  rw [show ((2 : Nat) : Int) = 2 from rfl] at e
  rw [e, Nat.pow_succ, Nat.mul_comm]
theorem zx16 {x : Int} (h0 : 0 ≤ x) (h1 : x < 32) : zxor x 16 = if x < 16 then x + 16 else x - 16 := by
  obtain ⟨k, rfl⟩ := Int.eq_ofNat_of_zero_le h0
  have : ∀ k : Nat, k < 32 → zxor (k : Int) 16 = if (k : Int) < 16 then (k : Int) + 16 else (k : Int) - 16 := by decide +kernel
  exact this k (by omega)
theorem c_mateOf (d : Nat) {E : zE} {m : zM} (p a cap : Int) (sp : E.1 p = (10, 7)) (sa : E.1 a = (2, cap)) (sb : E.1 (a + 1) = (1, cap)) (a0 : 0 < a) (q0 : m p 0 = a) (q1 : m p 1 = a + 1) (k : Int) (k0 : 0 ≤ k) (k1 : k < cap) (D : Nat → Nat) (hD : ∀ x, x < 12 → D x < 16) (hk : m a k = ((pkN D 12 : Nat) : Int)) (i : Nat) (hi : i < 12) : zR zX4_mateOf (d) [zP p, zI k, zI (i : Nat)] m E E (fun r m' => r = some (zI ((D i : Nat))) ∧ m = m') := by
  refine zR_go [zP p, zI k, zI (i : Nat)] (by decide +kernel) (Nat.le_of_ble_eq_true rfl) rfl rfl ?_
  refine z_aload_n dX4_mateOf_0 rfl ?_
  refine z_gP 0 rfl (r := a) flX4_9 dX4_mateOf_1 sp rfl q0 (by omega) ?_
  refine z_iload_n dX4_mateOf_4 rfl ?_
  refine z_lalv dX4_mateOf_5 sa (by omega) (by omega) hk ?_
  refine z_bipush dX4_mateOf_6 rfl (by decide) ?_
  refine z_iconst dX4_mateOf_8 (by decide) ?_
  refine z_iload_n dX4_mateOf_9 rfl ?_
  refine z_mul dX4_mateOf_10 (by omega) ?_
  refine z_sub dX4_mateOf_11 (by omega) ?_
  refine z_lushr dX4_mateOf_12 ?_
  refine z_l2i dX4_mateOf_13 ?_
  refine z_bipush dX4_mateOf_14 rfl (by decide) ?_
  refine z_iand dX4_mateOf_16 ?_
  rw [pk_mate hD hi]
  refine z_iret dX4_mateOf_17 rfl rfl ?_
  exact ⟨rfl, rfl⟩

theorem c_crossings (d : Nat) {E : zE} {m : zM} (p a cap : Int) (sp : E.1 p = (10, 7)) (sa : E.1 a = (2, cap)) (sb : E.1 (a + 1) = (1, cap)) (a0 : 0 < a) (q0 : m p 0 = a) (q1 : m p 1 = a + 1) (k : Int) (k0 : 0 ≤ k) (k1 : k < cap) (f : Nat) (hf : f < 512) (hk : m (a + 1) k = (f : Int)) : zR zX4_crossings (d) [zP p, zI k] m E E (fun r m' => r = some (zI ((f % 16 : Nat))) ∧ m = m') := by
  refine zR_go [zP p, zI k] (by decide +kernel) (Nat.le_of_ble_eq_true rfl) rfl rfl ?_
  refine z_aload_n dX4_crossings_0 rfl ?_
  refine z_gP 1 rfl (r := a + 1) flX4_15 dX4_crossings_1 sp rfl q1 (by omega) ?_
  refine z_iload_n dX4_crossings_4 rfl ?_
  refine z_ialv dX4_crossings_5 sb (by omega) (by omega) hk ?_
  refine z_bipush dX4_crossings_6 rfl (by decide) ?_
  refine z_iand dX4_crossings_8 ?_
  rw [(f512 f hf).1]
  refine z_iret dX4_crossings_9 rfl rfl ?_
  exact ⟨rfl, rfl⟩

theorem c_sign (d : Nat) {E : zE} {m : zM} (p a cap : Int) (sp : E.1 p = (10, 7)) (sa : E.1 a = (2, cap)) (sb : E.1 (a + 1) = (1, cap)) (a0 : 0 < a) (q0 : m p 0 = a) (q1 : m p 1 = a + 1) (k : Int) (k0 : 0 ≤ k) (k1 : k < cap) (f : Nat) (hf : f < 512) (hk : m (a + 1) k = (f : Int)) : zR zX4_sign (d) [zP p, zI k] m E E (fun r m' => r = some (zI (if f / 16 % 2 = 0 then 1 else -1)) ∧ m = m') := by
  refine zR_go [zP p, zI k] (by decide +kernel) (Nat.le_of_ble_eq_true rfl) rfl rfl ?_
  refine z_aload_n dX4_sign_0 rfl ?_
  refine z_gP 1 rfl (r := a + 1) flX4_15 dX4_sign_1 sp rfl q1 (by omega) ?_
  refine z_iload_n dX4_sign_4 rfl ?_
  refine z_ialv dX4_sign_5 sb (by omega) (by omega) hk ?_
  refine z_bipush dX4_sign_6 rfl (by decide) ?_
  refine z_iand dX4_sign_8 ?_
  rw [(f512 f hf).2.1]
  refine z_if_ne (tgt := 16) dX4_sign_9 rfl (fun h9 => ?_) (fun h9 => ?_)
  · refine z_iconst dX4_sign_16 (by decide) ?_
    refine z_iret dX4_sign_17 rfl rfl ?_
    exact ⟨by rw [if_neg (by omega)], rfl⟩
  · refine z_iconst dX4_sign_12 (by decide) ?_
    refine z_goto (tgt := 17) dX4_sign_13 rfl ?_
    refine z_iret dX4_sign_17 rfl rfl ?_
    exact ⟨by rw [if_pos (by omega)], rfl⟩

theorem c_rounds (d : Nat) {E : zE} {m : zM} (p a cap : Int) (sp : E.1 p = (10, 7)) (sa : E.1 a = (2, cap)) (sb : E.1 (a + 1) = (1, cap)) (a0 : 0 < a) (q0 : m p 0 = a) (q1 : m p 1 = a + 1) (k : Int) (k0 : 0 ≤ k) (k1 : k < cap) (f : Nat) (hf : f < 512) (hk : m (a + 1) k = (f : Int)) : zR zX4_rounds (d) [zP p, zI k] m E E (fun r m' => r = some (zI ((f / 32 : Nat))) ∧ m = m') := by
  refine zR_go [zP p, zI k] (by decide +kernel) (Nat.le_of_ble_eq_true rfl) rfl rfl ?_
  refine z_aload_n dX4_rounds_0 rfl ?_
  refine z_gP 1 rfl (r := a + 1) flX4_15 dX4_rounds_1 sp rfl q1 (by omega) ?_
  refine z_iload_n dX4_rounds_4 rfl ?_
  refine z_ialv dX4_rounds_5 sb (by omega) (by omega) hk ?_
  refine z_iconst dX4_rounds_6 (by decide) ?_
  refine z_ishr dX4_rounds_7 ?_
  rw [(f512 f hf).2.2.1]
  refine z_iret dX4_rounds_8 rfl rfl ?_
  exact ⟨rfl, rfl⟩

theorem c_holesOf (d : Nat) {E : zE} {m : zM} (p a cap : Int) (sp : E.1 p = (10, 7)) (sa : E.1 a = (2, cap)) (sb : E.1 (a + 1) = (1, cap)) (a0 : 0 < a) (q0 : m p 0 = a) (q1 : m p 1 = a + 1) (n : Int) (q4 : m p 4 = n) (hn : 0 ≤ n ∧ n ≤ 12) (k : Int) (k0 : 0 ≤ k) (k1 : k < cap) (f : Nat) (hf : f < 512) (hk : m (a + 1) k = (f : Int)) : zR zX4_holesOf (d + 1) [zP p, zI k] m E E (fun r m' => r = some (zI (sHoles n (f / 32 : Nat))) ∧ m = m') := by
  refine zR_go [zP p, zI k] (by decide +kernel) (Nat.le_of_ble_eq_true rfl) rfl rfl ?_
  refine z_aload_n dX4_holesOf_0 rfl ?_
  refine z_gIv 4 rfl flX4_40 dX4_holesOf_1 sp rfl q4 ?_
  refine z_if_ne (tgt := 11) dX4_holesOf_4 rfl (fun h4 => ?_) (fun h4 => ?_)
  · refine z_aload_n dX4_holesOf_11 rfl ?_
    refine z_gIv 4 rfl flX4_40 dX4_holesOf_12 sp rfl q4 ?_
    refine z_iconst dX4_holesOf_15 (by decide) ?_
    refine z_div dX4_holesOf_16 (by omega) (by omega) ?_
    refine z_iconst dX4_holesOf_17 (by decide) ?_
    refine z_add dX4_holesOf_18 (by omega) ?_
    refine z_aload_n dX4_holesOf_19 rfl ?_
    refine z_iload_n dX4_holesOf_20 rfl ?_
    refine z_callV mlX4_88 dX4_holesOf_21 sp (av := [_]) rfl rfl (Nat.le_of_ble_eq_true rfl) (c_rounds _ p a cap sp sa sb a0 q0 q1 k k0 k1 f hf hk) (Nat.le_refl _) (Nat.le_refl _) (Nat.le_refl _) (Nat.le_refl _) ?_
    rintro _ _ ⟨rfl, rfl⟩
    refine z_sub dX4_holesOf_24 (by omega) ?_
    refine z_iconst dX4_holesOf_25 (by decide) ?_
    refine z_idiv dX4_holesOf_26 (by omega) ?_
    refine z_iret dX4_holesOf_27 rfl rfl ?_
    exact ⟨by rw [sHoles, if_neg (by omega)], rfl⟩
  · refine z_iconst dX4_holesOf_7 (by decide) ?_
    refine z_goto (tgt := 27) dX4_holesOf_8 rfl ?_
    refine z_iret dX4_holesOf_27 rfl rfl ?_
    exact ⟨by rw [sHoles, if_pos (by omega)], rfl⟩

theorem c_store (d : Nat) {E : zE} {m : zM} (p a cap : Int) (sp : E.1 p = (10, 7)) (sa : E.1 a = (2, cap)) (sb : E.1 (a + 1) = (1, cap)) (a0 : 0 < a) (q0 : m p 0 = a) (q1 : m p 1 = a + 1) (pa : p ≠ a) (pb : p ≠ a + 1) (k : Int) (k0 : 0 ≤ k) (k1 : k < cap) (kb : cap ≤ 10395) (q2 : m p 2 = k) (row : Int) (f : Int) : zR zX4_store (d) [zP p, zJ row, zI f] m E E (fun r m' => r = none ∧ m' = zu (zu (zu m a k row) (a + 1) k f) p 2 (k + 1)) := by
  refine zR_go [zP p, zJ row, zN, zI f] (by decide +kernel) (Nat.le_of_ble_eq_true rfl) rfl rfl ?_
  refine z_aload_n dX4_store_0 rfl ?_
  refine z_gIv 2 rfl flX4_28 dX4_store_1 sp rfl q2 ?_
  refine z_aload_n dX4_store_4 rfl ?_
  refine z_gP 0 rfl (r := a) flX4_9 dX4_store_5 sp rfl q0 (by omega) ?_
  refine z_alen dX4_store_8 sa (by decide) ?_
  refine z_icmp_ge (tgt := 42) dX4_store_9 rfl (fun h => absurd h (by omega)) (fun h9 => ?_)
  refine z_aload_n dX4_store_12 rfl ?_
  refine z_gP 0 rfl (r := a) flX4_9 dX4_store_13 sp rfl q0 (by omega) ?_
  refine z_aload_n dX4_store_16 rfl ?_
  refine z_gIv 2 rfl flX4_28 dX4_store_17 sp rfl q2 ?_
  refine z_lload_n dX4_store_20 rfl ?_
  refine z_last dX4_store_21 sa (by omega) (by omega) ?_
  refine z_aload_n dX4_store_22 rfl ?_
  refine z_gP 1 rfl (r := a + 1) flX4_15 dX4_store_23 sp rfl ((zu_a pa).trans q1) (by omega) ?_
  refine z_aload_n dX4_store_26 rfl ?_
  refine z_gIv 2 rfl flX4_28 dX4_store_27 sp rfl ((zu_a pa).trans q2) ?_
  refine z_iload_n dX4_store_30 rfl ?_
  refine z_iast dX4_store_31 sb (by omega) (by omega) ?_
  refine z_aload_n dX4_store_32 rfl ?_
  refine z_dup dX4_store_33 rfl ?_
  refine z_gIv 2 rfl flX4_28 dX4_store_34 sp rfl ((zu_a pb).trans ((zu_a pa).trans q2)) ?_
  refine z_iconst dX4_store_37 (by decide) ?_
  refine z_add dX4_store_38 (by omega) ?_
  refine z_pI 2 rfl (fpX4_28 _) dX4_store_39 sp rfl ?_
  refine z_vret dX4_store_42 rfl rfl ?_
  exact ⟨rfl, rfl⟩

theorem c_withLine (d : Nat) {E : zE} {m : zM} (t : Int) (t7 : 7 < t) (sT : shT E t) (pT : ptT m t) (c w q : Int → Int) (n : Int) (hw : wfD c) (hl : wfL c w q n) (hF : cFl m t c w q n) (hev : ∀ x, 0 ≤ x → x < n → w x % 2 = 1 → c (4 + 3 * (w x / 2) + 1) = 1) (A S i j : Nat) (hA : A < 2 ^ n.toNat) (hij : i < j) (hj : (j : Int) < n) (cr tr : Int) (hcr : 0 ≤ cr) (htr : 0 ≤ tr) (hs : cr + (sPop 12 (btw A S i j) : Nat) ≤ 15) : zR zX4_withLine (d + 1) [zP t, zI (A ^^^ (A &&& S) : Nat), zI (i : Nat), zI (j : Nat), zI (cr + 16 * (tr % 2))] m E E (fun r m' => r = some (zI (cr + (sPop 12 (btw A S i j) : Nat) + 16 * ((tr + (if cOd c w (i : Int) = true then zb (cBr c w (i : Int) = true) + ((sPop 12 ((btw A S i j) &&& zmask (fun x => cOd c w (x : Int)) n.toNat) : Nat) : Int) else 0)) % 2))) ∧ m = m') := by
  have hn := hl.1
  have h12 : 2 ^ n.toNat ≤ 2 ^ 12 := Nat.pow_le_pow_right (by decide) (by omega)
  have hj2 : 2 ^ j ≤ 2 ^ 12 := Nat.pow_le_pow_right (by decide) (by omega)
  have hj1 := Nat.two_pow_pos j
  have hi2 : 2 ^ (i + 1) ≤ 2 ^ 12 := Nat.pow_le_pow_right (by decide) (by omega)
  have hi1 := Nat.two_pow_pos (i + 1)
  have hB := btw_lt (S := S) (i := i) (j := j) hA
  have hK : A ^^^ (A &&& S) < 2 ^ n.toNat := Nat.xor_lt_two_pow hA (Nat.lt_of_le_of_lt Nat.and_le_left hA)
  have hO := zmask_lt (fun x => cOd c w (x : Int)) n.toNat
  have hwi := (hl.2 (i : Int) (by omega) (by omega)).1
  have hs2 := sPop_le 12 (btw A S i j &&& zmask (fun x => cOd c w (x : Int)) n.toNat)
  have hbr : zb (cBr c w (i : Int) = true) = w (i : Int) % 2 := by
    unfold cBr
    have := hev (i : Int) (by omega) (by omega)
    by_cases e : w (i : Int) % 2 = 1
    · rw [zb_t (by rw [decide_eq_true_eq]; exact ⟨this e, e⟩)]; omega
    · rw [zb_f (by rw [decide_eq_true_eq]; exact fun g => e g.2)]; omega
  refine zR_go [zP t, zI (A ^^^ (A &&& S) : Nat), zI (i : Nat), zI (j : Nat), zI (cr + 16 * (tr % 2)), zN, zN, zN] (by decide +kernel) (Nat.le_of_ble_eq_true rfl) rfl rfl ?_
  refine z_iload_n dX4_withLine_0 rfl ?_
  refine z_iconst dX4_withLine_1 (by decide) ?_
  refine z_iload_n dX4_withLine_2 rfl ?_
  refine z_ishl dX4_withLine_3 ?_
  rw [zshl_1 (by omega)]
  refine z_iconst dX4_withLine_4 (by decide) ?_
  refine z_sub dX4_withLine_5 (by omega) ?_
  rw [show ((2 ^ j : Nat) : Int) - 1 = ((2 ^ j - 1 : Nat) : Int) by omega]
  refine z_iand dX4_withLine_6 ?_
  rw [zand_N (by omega)]
  refine z_iconst dX4_withLine_7 (by decide) ?_
  refine z_iload_n dX4_withLine_8 rfl ?_
  refine z_ishl dX4_withLine_9 ?_
  rw [zshl_2 (by omega)]
  refine z_iconst dX4_withLine_10 (by decide) ?_
  refine z_sub dX4_withLine_11 (by omega) ?_
  rw [show ((2 ^ (i + 1) : Nat) : Int) - 1 = ((2 ^ (i + 1) - 1 : Nat) : Int) by omega]
  refine z_iconst dX4_withLine_12 (by decide) ?_
  refine z_ixor dX4_withLine_13 ?_
  refine z_iand dX4_withLine_14 ?_
  rw [zandn_N (Nat.lt_of_le_of_lt Nat.and_le_left (by omega)) (by omega), show ((A ^^^ (A &&& S)) &&& (2 ^ j - 1)) ^^^ (((A ^^^ (A &&& S)) &&& (2 ^ j - 1)) &&& (2 ^ (i + 1) - 1)) = btw A S i j from rfl]
  refine z_istore dX4_withLine_15 (Nat.le_of_ble_eq_true rfl) ?_
  refine z_iload dX4_withLine_17 rfl ?_
  refine z_iload dX4_withLine_19 rfl ?_
  try dsimp only [zs0, zsI, zsP, zsN, zsJ, zsS, zst2, Nat.reduceAdd]
  refine z_callS mlX4_70 dX4_withLine_21 (av := [_]) rfl rfl (Nat.le_of_ble_eq_true rfl) (c_bitCount _ (btw A S i j) (by omega)) (Nat.le_refl _) (Nat.le_refl _) (Nat.le_refl _) (Nat.le_refl _) ?_
  rintro _ _ ⟨rfl, rfl⟩
  refine z_add dX4_withLine_24 (by omega) ?_
  refine z_istore dX4_withLine_25 (Nat.le_of_ble_eq_true rfl) ?_
  refine z_aload_n dX4_withLine_27 rfl ?_
  refine z_gIv 15 rfl flX4_75 dX4_withLine_28 (sT0 sT) rfl hF.2.2.2 ?_
  refine z_iload_n dX4_withLine_31 rfl ?_
  refine z_ishr dX4_withLine_32 ?_
  refine z_iconst dX4_withLine_33 (by decide) ?_
  refine z_iand dX4_withLine_34 ?_
  rw [zbit (by omega) (by omega), zmask_bit, decide_eq_true (show i < n.toNat by omega), Bool.true_and]
  try dsimp only [zs0, zsI, zsP, zsN, zsJ, zsS, zst2, Nat.reduceAdd]
  refine z_if_ne (tgt := 41) dX4_withLine_35 rfl (fun h35 => ?_) (fun h35 => ?_)
  · have hod : cOd c w (i : Int) = true := by
      by_cases e : cOd c w (i : Int) = true
      · exact e
      · rw [zb_f e] at h35; exact absurd rfl h35
    refine z_iload dX4_withLine_41 rfl ?_
    refine z_aload_n dX4_withLine_43 rfl ?_
    refine z_gIv 15 rfl flX4_75 dX4_withLine_44 (sT0 sT) rfl hF.2.2.2 ?_
    refine z_iand dX4_withLine_47 ?_
    rw [zand_N (by omega)]
    refine z_callS mlX4_70 dX4_withLine_48 (av := [_]) rfl rfl (Nat.le_of_ble_eq_true rfl) (c_bitCount _ ((btw A S i j) &&& zmask (fun x => cOd c w (x : Int)) n.toNat) (Nat.lt_of_le_of_lt Nat.and_le_left (by omega))) (Nat.le_refl _) (Nat.le_refl _) (Nat.le_refl _) (Nat.le_refl _) ?_
    rintro _ _ ⟨rfl, rfl⟩
    refine z_aload_n dX4_withLine_51 rfl ?_
    refine z_gP 6 rfl (r := t + 7) flX4_78 dX4_withLine_52 (sT0 sT) rfl (pT6 pT) (by omega) ?_
    refine z_iload_n dX4_withLine_55 rfl ?_
    refine z_ialv dX4_withLine_56 (sT7 sT) (by omega) (by omega) (hF.2.1 (i : Int) (by omega) (by omega)).1 ?_
    refine z_iconst dX4_withLine_57 (by decide) ?_
    refine z_rem dX4_withLine_58 (by omega) (by omega) ?_
    refine z_add dX4_withLine_59 (by omega) ?_
    refine z_istore dX4_withLine_60 (Nat.le_of_ble_eq_true rfl) ?_
    refine z_iload dX4_withLine_62 rfl ?_
    refine z_iconst dX4_withLine_64 (by decide) ?_
    refine z_rem dX4_withLine_65 (by omega) (by omega) ?_
    try dsimp only [zs0, zsI, zsP, zsN, zsJ, zsS, zst2, Nat.reduceAdd]
    refine z_if_ne (tgt := 74) dX4_withLine_66 rfl (fun h66 => ?_) (fun h66 => ?_)
    · refine z_iload dX4_withLine_74 rfl ?_
      refine z_bipush dX4_withLine_76 rfl (by decide) ?_
      refine z_ixor dX4_withLine_78 ?_
      rw [zx16 (by omega) (by omega)]
      refine z_iret dX4_withLine_79 rfl rfl ?_
      exact ⟨by rw [if_pos hod, hbr]; congr 2; split <;> omega, rfl⟩
    · refine z_iload dX4_withLine_69 rfl ?_
      refine z_goto (tgt := 79) dX4_withLine_71 rfl ?_
      refine z_iret dX4_withLine_79 rfl rfl ?_
      exact ⟨by rw [if_pos hod, hbr]; congr 2; omega, rfl⟩
  · have hod : ¬ cOd c w (i : Int) = true := fun e => by
      rw [zb_t e] at h35; exact absurd h35 (by decide)
    refine z_iload dX4_withLine_38 rfl ?_
    refine z_iret dX4_withLine_40 rfl rfl ?_
    exact ⟨by rw [if_neg hod]; congr 2; omega, rfl⟩
