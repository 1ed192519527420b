def fWy : List (Int × Option Int) := [(7, none), (6, some 1)]
def fWr : List (Int × Option Int) := [(7, none), (6, some 1), (6, some 2)]
/-- the table of ways holds -/
def wT (m : zM) (n : Nat) (may : Int → Int → Bool) : Prop := m 6 1 = ((2 ^ n - 1 : Nat) : Int) ∧ ∀ x : Nat, x < 2 ^ n → m 7 (x : Int) = tb n may x
theorem bsum_nn {F : Nat → Int} {S : Nat} (h : ∀ j, 0 ≤ F j) : 0 ≤ bsum F S := zsum_nn (fun i _ _ => by split; exact h _; exact Int.le_refl _)
theorem andn_le (a b : Nat) : a ^^^ (a &&& b) ≤ a := by
  have e : a ^^^ (a &&& b) = a &&& (a ^^^ (a &&& b)) := zset_ext (fun i => by rw [Nat.testBit_and, andn_bit]; cases a.testBit i <;> simp)
  rw [e]
  exact Nat.and_le_left
theorem pop12_s : ∀ s, s < 4096 → 0 < s → sPop 12 (s &&& (s - 1)) + 1 = sPop 12 s := by64 (by decide +kernel)
theorem pop12_0 : ∀ s, s < 4096 → sPop 12 s = 0 → s = 0 := by64 (by decide +kernel)
theorem l_wayIn (d : Nat) {E : zE} {m : zM} {P : Option zV → zM → Prop} (s6 : E.1 6 = (16, 3)) (s7 : E.1 7 = (1, 4096)) (t : Int) (t7 : 7 < t) (sT : shT E t) (c w q : Int → Int) (n : Int) (hw : wfD c) (hl : wfL c w q n) (S : Nat) (hS : S < 4096) (hS0 : S ≠ 0) (pt : m 6 0 = 7) (ht : ∀ x : Nat, x < S → m 7 (x : Int) = tb n.toNat (cMay c w q) x) : ∀ (j : Nat) (C k : Nat) (cnt : Int), (k + j = 12) → (C < 4096) → (sPop 12 C + k ≤ 12) → (0 ≤ cnt) → (cnt + bsum (fun j => tb n.toNat (cMay c w q) ((S &&& (S - 1)) ^^^ ((S &&& (S - 1)) &&& 2 ^ j))) C = tb n.toNat (cMay c w q) S) → (zA zX10_fill (d + 2) E E P 102 [zP 6, zP t, zI (S : Nat), zN, zN, zN, zI (tb n.toNat (cMay c w q) S), zN] [] m E) → zA zX10_fill (d + 2) E E P 54 [zP 6, zP t, zI (S : Nat), zI (lo S : Nat), zI ((S &&& (S - 1)) : Nat), zI (C : Nat), zI cnt, zI (k : Nat)] [] m E := by
  intro j
  induction j with
  | zero =>
    intro C k cnt hk hC hp h0 hs hP
    have hn := hl.1
    have hOS : (S &&& (S - 1)) < S := by have : (S &&& (S - 1)) ≤ S - 1 := Nat.and_le_right; omega
    have hcn := bsum_nn (F := (fun j => tb n.toNat (cMay c w q) ((S &&& (S - 1)) ^^^ ((S &&& (S - 1)) &&& 2 ^ j)))) (S := C) (fun j => (tb_rg (by omega) _).1)
    have htr := tb_rg (n := n.toNat) (may := (cMay c w q)) (by omega) S
    refine z_iload dX10_fill_54 rfl ?_
    refine z_bipush dX10_fill_56 rfl (by decide) ?_
    refine z_icmp_ge (tgt := 102) dX10_fill_58 rfl (fun h58 => ?_) (fun h => absurd (by omega) h)
    refine zA_wk [_, _, _, zN, zN, zN, _, zN] (by exact ⟨Or.inr rfl, Or.inr rfl, Or.inr rfl, Or.inl rfl, Or.inl rfl, Or.inl rfl, Or.inr rfl, Or.inl rfl, trivial⟩) ?_
    rw [pop12_0 C hC (by omega), bsum_0, Int.add_zero] at hs
    rw [hs]
    exact hP
  | succ j ih =>
    intro C k cnt hk hC hp h0 hs hP
    have hn := hl.1
    have hOS : (S &&& (S - 1)) < S := by have : (S &&& (S - 1)) ≤ S - 1 := Nat.and_le_right; omega
    have hcn := bsum_nn (F := (fun j => tb n.toNat (cMay c w q) ((S &&& (S - 1)) ^^^ ((S &&& (S - 1)) &&& 2 ^ j)))) (S := C) (fun j => (tb_rg (by omega) _).1)
    have htr := tb_rg (n := n.toNat) (may := (cMay c w q)) (by omega) S
    refine z_iload dX10_fill_54 rfl ?_
    refine z_bipush dX10_fill_56 rfl (by decide) ?_
    refine z_icmp_ge (tgt := 102) dX10_fill_58 rfl (fun h => absurd h (by omega)) (fun h58 => ?_)
    refine z_iload dX10_fill_61 rfl ?_
    refine z_if_eq (tgt := 102) dX10_fill_63 rfl (fun h63 => ?_) (fun h63 => ?_)
    · refine zA_wk [_, _, _, zN, zN, zN, _, zN] (by exact ⟨Or.inr rfl, Or.inr rfl, Or.inr rfl, Or.inl rfl, Or.inl rfl, Or.inl rfl, Or.inr rfl, Or.inl rfl, trivial⟩) ?_
      rw [show C = 0 by omega, bsum_0, Int.add_zero] at hs
      rw [hs]
      exact hP
    · have hlx := (lb_12 C hC (by omega)).2.1
      have h63 : C ≠ 0 := by omega
      have hx : (S &&& (S - 1)) ^^^ ((S &&& (S - 1)) &&& 2 ^ lo C) < S := Nat.lt_of_le_of_lt (andn_le _ _) hOS
      refine z_iload dX10_fill_66 rfl ?_
      refine z_aload_n dX10_fill_68 rfl ?_
      refine z_gP 0 rfl (r := 7) flX10_9 dX10_fill_69 s6 rfl pt (by decide) ?_
      refine z_iload dX10_fill_72 rfl ?_
      refine z_iload dX10_fill_74 rfl ?_
      refine z_iload dX10_fill_76 rfl ?_
      refine z_neg dX10_fill_78 (by omega) ?_
      refine z_iand dX10_fill_79 ?_
      rw [(lb_12 C hC h63).1]
      refine z_iconst dX10_fill_80 (by decide) ?_
      refine z_ixor dX10_fill_81 ?_
      refine z_iand dX10_fill_82 ?_
      rw [zandn_N (by omega) (by have := (lb_12 C hC h63).2.1; omega)]
      refine z_ialv dX10_fill_83 s7 (by omega) (by omega) (ht _ hx) ?_
      have hbl := bsum_lo (fun j => tb n.toNat (cMay c w q) ((S &&& (S - 1)) ^^^ ((S &&& (S - 1)) &&& 2 ^ j))) hC h63
      have hcn2 := bsum_nn (F := (fun j => tb n.toNat (cMay c w q) ((S &&& (S - 1)) ^^^ ((S &&& (S - 1)) &&& 2 ^ j)))) (S := C &&& (C - 1)) (fun j => (tb_rg (by omega) _).1)
      have htx := tb_rg (n := n.toNat) (may := (cMay c w q)) (by omega) ((S &&& (S - 1)) ^^^ ((S &&& (S - 1)) &&& 2 ^ lo C))
      refine z_add dX10_fill_84 (by omega) ?_
      refine z_istore dX10_fill_85 (Nat.le_of_ble_eq_true rfl) ?_
      refine z_iload dX10_fill_87 rfl ?_
      refine z_iload dX10_fill_89 rfl ?_
      refine z_iconst dX10_fill_91 (by decide) ?_
      refine z_sub dX10_fill_92 (by omega) ?_
      rw [show ((C : Nat) : Int) - 1 = ((C - 1 : Nat) : Int) by omega]
      refine z_iand dX10_fill_93 ?_
      rw [zand_N (by omega)]
      refine z_istore dX10_fill_94 (Nat.le_of_ble_eq_true rfl) ?_
      refine z_inc dX10_fill_96 rfl (by omega) ?_
      refine z_goto (tgt := 54) dX10_fill_99 rfl ?_
      try dsimp only [zs0, zsI, zsP, zsN, zsJ, zsS, zst2, Nat.reduceAdd]
      rw [show (k : Int) + 1 = ((k + 1 : Nat) : Int) by omega]
      refine ih (C &&& (C - 1)) (k + 1) _ (by omega) (Nat.lt_of_le_of_lt Nat.and_le_left hC) (by have := pop12_s C hC (by omega); omega) (by omega) (by rw [← hs, hbl, Int.add_assoc]) hP

theorem l_wayOut (d : Nat) {E : zE} {m : zM} {P : Option zV → zM → Prop} (s6 : E.1 6 = (16, 3)) (s7 : E.1 7 = (1, 4096)) (t : Int) (t7 : 7 < t) (sT : shT E t) (c w q : Int → Int) (n : Int) (hw : wfD c) (hl : wfL c w q n) : ∀ (j : Nat) (S : Nat) (m1 : zM), (S + j = 2 ^ n.toNat) → (1 ≤ S) → (zfr fWy m m1) → (m1 6 1 = ((2 ^ n.toNat - 1 : Nat) : Int)) → (m1 6 0 = 7) → (ptT m1 t ∧ cTh m1 t c ∧ cFl m1 t c w q n) → (∀ x : Nat, x < S → m1 7 (x : Int) = tb n.toNat (cMay c w q) x) → (∀ m2, zfr fWy m m2 → wT m2 n.toNat (cMay c w q) → m2 6 0 = 7 → P none (zu m2 6 2 1)) → zA zX10_fill (d + 2) E E P 17 [zP 6, zP t, zI (S : Nat), zN, zN, zN, zN, zN] [] m1 E := by
  intro j
  induction j with
  | zero =>
    intro S m1 hS hS1 hf hL pt hT ht hP
    have hn := hl.1
    have h12 : 2 ^ n.toNat ≤ 2 ^ 12 := Nat.pow_le_pow_right (by decide) (by omega)
    refine z_iload_n dX10_fill_17 rfl ?_
    refine z_aload_n dX10_fill_18 rfl ?_
    refine z_gIv 1 rfl flX10_21 dX10_fill_19 s6 rfl hL ?_
    refine z_icmp_gt (tgt := 116) dX10_fill_22 rfl (fun h22 => ?_) (fun h => absurd (by omega) h)
    refine z_aload_n dX10_fill_116 rfl ?_
    refine z_iconst dX10_fill_117 (by decide) ?_
    refine z_pZ 2 rfl (fpX10_32 _) dX10_fill_118 s6 rfl (by first | omega | exact zb01 _) ?_
    refine z_vret dX10_fill_121 rfl rfl ?_
    exact hP m1 hf ⟨hL, fun x hx => ht x (by omega)⟩ pt
  | succ j ih =>
    intro S m1 hS hS1 hf hL pt hT ht hP
    have hn := hl.1
    have h12 : 2 ^ n.toNat ≤ 2 ^ 12 := Nat.pow_le_pow_right (by decide) (by omega)
    have hlo := lo_n (n := n.toNat) (by omega) (show S < 2 ^ n.toNat by omega) (by omega)
    have hmk := mk_lt c w q ((lo S : Nat) : Int) hn
    refine z_iload_n dX10_fill_17 rfl ?_
    refine z_aload_n dX10_fill_18 rfl ?_
    refine z_gIv 1 rfl flX10_21 dX10_fill_19 s6 rfl hL ?_
    refine z_icmp_gt (tgt := 116) dX10_fill_22 rfl (fun h => absurd h (by omega)) (fun h22 => ?_)
    refine z_iload_n dX10_fill_25 rfl ?_
    refine z_callS mlX10_25 dX10_fill_26 (av := [_]) rfl rfl (Nat.le_of_ble_eq_true rfl) (c_leastOf _ S (by omega) (by omega)) (Nat.le_refl _) (Nat.le_refl _) (Nat.le_refl _) (Nat.le_refl _) ?_
    rintro _ _ ⟨rfl, rfl⟩
    refine z_ist 3 dX10_fill_29 rfl (Nat.le_of_ble_eq_true rfl) ?_
    refine z_iload_n dX10_fill_30 rfl ?_
    refine z_iload_n dX10_fill_31 rfl ?_
    refine z_iconst dX10_fill_32 (by decide) ?_
    refine z_sub dX10_fill_33 (by omega) ?_
    refine z_iand dX10_fill_34 ?_
    rw [show ((S : Nat) : Int) - 1 = ((S - 1 : Nat) : Int) by omega, zand_N (by omega)]
    refine z_istore dX10_fill_35 (Nat.le_of_ble_eq_true rfl) ?_
    refine z_aload_n dX10_fill_37 rfl ?_
    refine z_gP 8 rfl (r := t + 9) flX10_29 dX10_fill_38 (sT0 sT) rfl (pT8 hT.1) (by omega) ?_
    refine z_iload_n dX10_fill_41 rfl ?_
    refine z_ialv dX10_fill_42 (sT9 sT) (by omega) (by omega) (hT.2.2.2.1 ((lo S : Nat) : Int) (by omega) (by omega)).2.2 ?_
    refine z_iload dX10_fill_43 rfl ?_
    refine z_iand dX10_fill_45 ?_
    rw [zand_N (by omega)]
    refine z_istore dX10_fill_46 (Nat.le_of_ble_eq_true rfl) ?_
    refine z_iconst dX10_fill_48 (by decide) ?_
    refine z_istore dX10_fill_49 (Nat.le_of_ble_eq_true rfl) ?_
    refine z_iconst dX10_fill_51 (by decide) ?_
    refine z_istore dX10_fill_52 (Nat.le_of_ble_eq_true rfl) ?_
    try dsimp only [zs0, zsI, zsP, zsN, zsJ, zsS, zst2, Nat.reduceAdd]
    refine l_wayIn d s6 s7 t t7 sT c w q n hw hl S (by omega) (by omega) pt ht 12 ((zmask (fun j => cMay c w q ((lo S : Nat) : Int) (j : Int)) n.toNat) &&& (S &&& (S - 1))) 0 0 (by omega) (Nat.lt_of_le_of_lt Nat.and_le_left hmk) (by have := sPop_le 12 ((zmask (fun j => cMay c w q ((lo S : Nat) : Int) (j : Int)) n.toNat) &&& (S &&& (S - 1))); omega) (by omega) ?_ ?_
    · rw [Int.zero_add]
      exact (tb_ch (by omega) (by omega) (by omega) (fun x => by rw [zmask_bit, Bool.and_eq_true, decide_eq_true_eq])).symm
    · refine z_aload_n dX10_fill_102 rfl ?_
      refine z_gP 0 rfl (r := 7) flX10_9 dX10_fill_103 s6 rfl pt (by decide) ?_
      refine z_iload_n dX10_fill_106 rfl ?_
      refine z_iload dX10_fill_107 rfl ?_
      refine z_iast dX10_fill_109 s7 (by omega) (by omega) ?_
      refine z_inc dX10_fill_110 rfl (by omega) ?_
      refine z_goto (tgt := 17) dX10_fill_113 rfl ?_
      try dsimp only [zs0, zsI, zsP, zsN, zsJ, zsS, zst2, Nat.reduceAdd]
      refine zA_wk [_, _, _, zN, zN, zN, zN, zN] ⟨Or.inr rfl, Or.inr rfl, Or.inr rfl, Or.inl rfl, Or.inl rfl, Or.inl rfl, Or.inl rfl, Or.inl rfl, trivial⟩ ?_
      rw [show (S : Int) + 1 = ((S + 1 : Nat) : Int) by omega]
      refine ih (S + 1) _ (by omega) (by omega) (zfr_ua hf (by simp [fWy])) ((zu_a (by decide)).trans hL) ((zu_a (by decide)).trans pt) ⟨ptT_of hT.1 (fun a j ha => zu_a (by omega)), cTh_of hT.1 hw hT.2.1 (fun a j ha => zu_a (by omega)), cFl_of hT.2.2 (fun a j ha => zu_a (by omega))⟩ (fun x hx => ?_) hP
      by_cases e : x = S
      · rw [e, zu_s]
      · rw [zu_j (by omega)]; exact ht x (by omega)

theorem c_wfill (d : Nat) {E : zE} {m : zM} (s6 : E.1 6 = (16, 3)) (s7 : E.1 7 = (1, 4096)) (t : Int) (t7 : 7 < t) (sT : shT E t) (c w q : Int → Int) (n : Int) (hw : wfD c) (hl : wfL c w q n) (pT : ptT m t) (hc : cTh m t c) (hF : cFl m t c w q n) (pt : m 6 0 = 7) : zR zX10_fill (d + 2) [zP 6, zP t] m E E (fun r m' => r = none ∧ zfr fWr m m' ∧ wT m' n.toNat (cMay c w q) ∧ m' 6 0 = 7 ∧ m' 6 2 = 1) := by
  have hn := hl.1
  refine zR_go [zP 6, zP t, zN, zN, zN, zN, zN, zN] (by decide +kernel) (Nat.le_of_ble_eq_true rfl) rfl rfl ?_
  refine z_aload_n dX10_fill_0 rfl ?_
  refine z_aload_n dX10_fill_1 rfl ?_
  refine z_callV mlX10_15 dX10_fill_2 (sT0 sT) (av := _) rfl rfl (Nat.le_of_ble_eq_true rfl) (c_allLetters _ t (by omega) sT pT n hl.1 hF.1) (Nat.le_refl _) (Nat.le_refl _) (Nat.le_refl _) (Nat.le_refl _) ?_
  rintro _ _ ⟨rfl, rfl⟩
  refine z_pI 1 rfl (fpX10_21 _) dX10_fill_5 s6 rfl ?_
  refine z_aload_n dX10_fill_8 rfl ?_
  refine z_gP 0 rfl (r := 7) flX10_9 dX10_fill_9 s6 rfl ((zu_j (by decide)).trans pt) (by decide) ?_
  refine z_iconst dX10_fill_12 (by decide) ?_
  refine z_iconst dX10_fill_13 (by decide) ?_
  refine z_iast dX10_fill_14 s7 (by omega) (by omega) ?_
  obtain ⟨m1, em1⟩ : ∃ x, x = zu (zu m 6 1 ((2 ^ n.toNat - 1 : Nat) : Int)) 7 0 1 := ⟨_, rfl⟩
  rw [← em1]
  have a1 : ∀ a j, t ≤ a → m1 a j = m a j := fun a j ha => by rw [em1, zu_a (by omega), zu_a (by omega)]
  refine z_iconst dX10_fill_15 (by decide) ?_
  refine z_ist 2 dX10_fill_16 rfl (Nat.le_of_ble_eq_true rfl) ?_
  try dsimp only [zs0, zsI, zsP, zsN, zsJ, zsS, zst2, Nat.reduceAdd]
  refine l_wayOut d s6 s7 t t7 sT c w q n hw hl (2 ^ n.toNat - 1) 1 m1 (by have := Nat.two_pow_pos n.toNat; omega) (by omega) (by rw [em1]; exact zfr_ua (zfr_uj zfr_rf (by simp [fWy])) (by simp [fWy])) (by rw [em1, zu_a (by decide), zu_s]) (by rw [em1, zu_a (by decide), zu_j (by decide)]; exact pt) ⟨ptT_of pT a1, cTh_of pT hw hc a1, cFl_of hF a1⟩ (fun x hx => ?_) (fun m2 f2 w2 p2 => ⟨rfl, zfr_uj (zfr_sub f2 (by simp [fWy, fWr])) (by simp [fWr]), ⟨(zu_j (by decide)).trans w2.1, fun x hx => (zu_a (by decide)).trans (w2.2 x hx)⟩, (zu_j (by decide)).trans p2, zu_s⟩)
  rw [show x = 0 by omega, em1]
  rw [show ((0 : Nat) : Int) = 0 from rfl, zu_s, tb_0]

theorem c_of (d : Nat) {E : zE} {m : zM} (s6 : E.1 6 = (16, 3)) (s7 : E.1 7 = (1, 4096)) (pt : m 6 0 = 7) (n : Nat) (hn : n ≤ 12) (may : Int → Int → Bool) (hT : wT m n may) (S : Nat) (hS : S < 2 ^ n) : zR zX10_of (d) [zP 6, zI (S : Nat)] m E E (fun r m' => r = some (zI (tb n may S)) ∧ m = m') := by
  have h12 : 2 ^ n ≤ 2 ^ 12 := Nat.pow_le_pow_right (by decide) (by omega)
  refine zR_go [zP 6, zI (S : Nat)] (by decide +kernel) (Nat.le_of_ble_eq_true rfl) rfl rfl ?_
  refine z_iload_n dX10_of_0 rfl ?_
  refine z_if_lt (tgt := 21) dX10_of_1 rfl (fun h => absurd h (by omega)) (fun h1 => ?_)
  refine z_iload_n dX10_of_4 rfl ?_
  refine z_aload_n dX10_of_5 rfl ?_
  refine z_gIv 1 rfl flX10_21 dX10_of_6 s6 rfl hT.1 ?_
  refine z_icmp_gt (tgt := 21) dX10_of_9 rfl (fun h => absurd h (by omega)) (fun h9 => ?_)
  refine z_aload_n dX10_of_12 rfl ?_
  refine z_gP 0 rfl (r := 7) flX10_9 dX10_of_13 s6 rfl pt (by decide) ?_
  refine z_iload_n dX10_of_16 rfl ?_
  refine z_ialv dX10_of_17 s7 (by omega) (by omega) (hT.2 S hS) ?_
  refine z_goto (tgt := 22) dX10_of_18 rfl ?_
  refine z_iret dX10_of_22 rfl rfl ?_
  exact ⟨rfl, rfl⟩

theorem l_withLines (d : Nat) {E : zE} {m : zM} {P : Option zV → zM → Prop} (s6 : E.1 6 = (16, 3)) (s7 : E.1 7 = (1, 4096)) (pt : m 6 0 = 7) (n : Nat) (hn : n ≤ 12) (may : Int → Int → Bool) (hT : wT m n may) (k : Int) (hk : 0 ≤ k ∧ k ≤ 6) : ∀ (j : Nat) (S : Nat) (a : Int), (S + j = 2 ^ n) → (0 ≤ a ∧ a ≤ 10395 * S) → (P (some (zI (a + zsum (fun S => if ((sPop 12 S.toNat : Nat) : Int) = 2 * k then tb n may S.toNat else 0) j (S : Int)))) m) → zA zX10_withLines (d + 1) E E P 4 [zP 6, zI k, zI a, zI (S : Nat)] [] m E := by
  intro j
  induction j with
  | zero =>
    intro S a hS ha hP
    have h12 : 2 ^ n ≤ 2 ^ 12 := Nat.pow_le_pow_right (by decide) (by omega)
    have htr := tb_rg (may := may) hn S
    refine z_iload_n dX10_withLines_4 rfl ?_
    refine z_aload_n dX10_withLines_5 rfl ?_
    refine z_gIv 1 rfl flX10_21 dX10_withLines_6 s6 rfl hT.1 ?_
    refine z_icmp_gt (tgt := 37) dX10_withLines_9 rfl (fun h9 => ?_) (fun h => absurd (by have h3 : S = 2 ^ n := hS; have h4 := Nat.two_pow_pos n; show ((S : Nat) : Int) > ((2 ^ n - 1 : Nat) : Int); omega) h)
    refine z_iload_n dX10_withLines_37 rfl ?_
    refine z_iret dX10_withLines_38 rfl rfl ?_
    rw [zsum_0, Int.add_zero] at hP
    exact hP
  | succ j ih =>
    intro S a hS ha hP
    have h12 : 2 ^ n ≤ 2 ^ 12 := Nat.pow_le_pow_right (by decide) (by omega)
    have htr := tb_rg (may := may) hn S
    refine z_iload_n dX10_withLines_4 rfl ?_
    refine z_aload_n dX10_withLines_5 rfl ?_
    refine z_gIv 1 rfl flX10_21 dX10_withLines_6 s6 rfl hT.1 ?_
    refine z_icmp_gt (tgt := 37) dX10_withLines_9 rfl (fun h => absurd h (by omega)) (fun h9 => ?_)
    refine z_iload_n dX10_withLines_12 rfl ?_
    refine z_callS mlX10_36 dX10_withLines_13 (av := [_]) rfl rfl (Nat.le_of_ble_eq_true rfl) (c_bitCount _ S (by omega)) (Nat.le_refl _) (Nat.le_refl _) (Nat.le_refl _) (Nat.le_refl _) ?_
    rintro _ _ ⟨rfl, rfl⟩
    refine z_iconst dX10_withLines_16 (by decide) ?_
    refine z_iload_n dX10_withLines_17 rfl ?_
    refine z_mul dX10_withLines_18 (by omega) ?_
    refine z_icmp_ne (tgt := 31) dX10_withLines_19 rfl (fun h19 => ?_) (fun h19 => ?_)
    · refine z_inc dX10_withLines_31 rfl (by omega) ?_
      refine z_goto (tgt := 4) dX10_withLines_34 rfl ?_
      try dsimp only [zs0, zsI, zsP, zsN, zsJ, zsS, zst2, Nat.reduceAdd]
      rw [zsum_s, ← Int.add_assoc, Int.toNat_natCast, if_neg (by omega), show (S : Int) + 1 = ((S + 1 : Nat) : Int) by omega] at hP
      rw [show (S : Int) + 1 = ((S + 1 : Nat) : Int) by omega]
      rw [Int.add_zero] at hP
      exact ih (S + 1) _ (by omega) (by omega) hP
    · refine z_iload_n dX10_withLines_22 rfl ?_
      refine z_aload_n dX10_withLines_23 rfl ?_
      refine z_gP 0 rfl (r := 7) flX10_9 dX10_withLines_24 s6 rfl pt (by decide) ?_
      refine z_iload_n dX10_withLines_27 rfl ?_
      refine z_ialv dX10_withLines_28 s7 (by omega) (by omega) (hT.2 S (by omega)) ?_
      refine z_add dX10_withLines_29 (by omega) ?_
      refine z_ist 2 dX10_withLines_30 rfl (Nat.le_of_ble_eq_true rfl) ?_
      refine z_inc dX10_withLines_31 rfl (by omega) ?_
      refine z_goto (tgt := 4) dX10_withLines_34 rfl ?_
      try dsimp only [zs0, zsI, zsP, zsN, zsJ, zsS, zst2, Nat.reduceAdd]
      rw [zsum_s, ← Int.add_assoc, Int.toNat_natCast, if_pos (by omega), show (S : Int) + 1 = ((S + 1 : Nat) : Int) by omega] at hP
      rw [show (S : Int) + 1 = ((S + 1 : Nat) : Int) by omega]
      exact ih (S + 1) _ (by omega) (by omega) hP

theorem c_withLines (d : Nat) {E : zE} {m : zM} (s6 : E.1 6 = (16, 3)) (s7 : E.1 7 = (1, 4096)) (pt : m 6 0 = 7) (n : Nat) (hn : n ≤ 12) (may : Int → Int → Bool) (hT : wT m n may) (k : Int) (hk : 0 ≤ k ∧ k ≤ 6) : zR zX10_withLines (d + 1) [zP 6, zI k] m E E (fun r m' => r = some (zI (zsum (fun S => if ((sPop 12 S.toNat : Nat) : Int) = 2 * k then tb n may S.toNat else 0) (2 ^ n) 0)) ∧ m = m') := by
  refine zR_go [zP 6, zI k, zN, zN] (by decide +kernel) (Nat.le_of_ble_eq_true rfl) rfl rfl ?_
  refine z_iconst dX10_withLines_0 (by decide) ?_
  refine z_ist 2 dX10_withLines_1 rfl (Nat.le_of_ble_eq_true rfl) ?_
  refine z_iconst dX10_withLines_2 (by decide) ?_
  refine z_ist 3 dX10_withLines_3 rfl (Nat.le_of_ble_eq_true rfl) ?_
  try dsimp only [zs0, zsI, zsP, zsN, zsJ, zsS, zst2, Nat.reduceAdd]
  exact l_withLines d s6 s7 pt n hn may hT k hk (2 ^ n) 0 0 (by omega) (by omega) ⟨by rw [Int.zero_add]; rfl, rfl⟩
