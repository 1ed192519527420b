theorem pO {E : zE} {m : zM} {t p : Int} (sT : shT E t) (pT : ptT m t) (h0 : 0 ≤ p) (h1 : p < 8) : E.1 (m (t + 6) p) = (11, 4) ∧ E.1 (m (t + 6) p + 1) = (1, 6) ∧ m (m (t + 6) p) 0 = m (t + 6) p + 1 ∧ t + 12 ≤ m (t + 6) p ∧ m (t + 6) p ≤ t + 26 := by
  obtain ⟨i, i0, i1, i2⟩ := pT.2.2.1 p h0 h1
  have hs := sT.2.2.2.2.2.2.2.2.2.2.2.2 i i0 i1
  have hp := pT.2.1 i i0 i1
  rw [i2]
  refine ⟨hs.1, ?_, ?_, by omega, by omega⟩
  · rw [show t + 12 + 2 * i + 1 = t + 13 + 2 * i by omega]; exact hs.2
  · rw [hp]; omega
theorem mk_lt {n : Int} (c w q : Int → Int) (i : Int) (hn : 0 ≤ n ∧ n ≤ 12) : zmask (fun j => cMay c w q i (j : Int)) n.toNat < 4096 := by
  have h := zmask_lt (fun j => cMay c w q i (j : Int)) n.toNat
  have : 2 ^ n.toNat ≤ 2 ^ 12 := Nat.pow_le_pow_right (by decide) (by omega)
  omega
theorem tOut_lt {c : Int → Int} (hw : wfD c) : tOut c < 256 := by
  have h := zmask_lt (fun p => decide (c (32 + 9 * (p : Int) + 1) ≠ 1)) (c 2).toNat
  have : 2 ^ (c 2).toNat ≤ 2 ^ 8 := Nat.pow_le_pow_right (by decide) (by have := hw.2.2.1; omega)
  unfold tOut
  omega
theorem sPop_z {s : Nat} : ∀ {n k : Nat}, s < 2 ^ n → sPop (n + k) s = sPop n s
  | n, 0, _ => rfl
  | n, k + 1, h => by
    show sPop (n + k) s + (if s.testBit (n + k) then 1 else 0) = sPop n s
    rw [sPop_z h, Nat.testBit_lt_two_pow (Nat.lt_of_lt_of_le h (Nat.pow_le_pow_right (by decide) (by omega)))]
    rfl
theorem zmask_pop (f : Nat → Bool) : ∀ n : Nat, ((sPop n (zmask f n) : Nat) : Int) = zsum (fun i => zb (f i.toNat = true)) n 0
  | 0 => rfl
  | n + 1 => by
    have ih := zmask_pop f n
    have hb : ∀ i, i < n → (zmask f (n + 1)).testBit i = (zmask f n).testBit i := fun i hi => by rw [zmask_bit, zmask_bit, decide_eq_true (show i < n + 1 by omega), decide_eq_true hi]
    have hs : ∀ k, k ≤ n → sPop k (zmask f (n + 1)) = sPop k (zmask f n) := by
      intro k
      induction k with
      | zero => intro _; rfl
      | succ k ih2 => intro hk; show sPop k _ + _ = sPop k _ + _; rw [ih2 (by omega), hb k (by omega)]
    show ((sPop n (zmask f (n + 1)) + (if (zmask f (n + 1)).testBit n then 1 else 0) : Nat) : Int) = _
    rw [hs n (Nat.le_refl _), show n + 1 = n + 1 from rfl, zsum_app, ← ih, zmask_bit, decide_eq_true (show n < n + 1 by omega), Bool.true_and]
    rw [zsum_s, zsum_0]
    rw [show (0 + (n : Int)).toNat = n by omega]
    cases f n <;> simp [zb]
theorem zsum_neg {f : Int → Int} : ∀ {j : Nat} {k : Int}, (∀ i, k ≤ i → i < k + j → f i = 0 ∨ f i = 1) → zsum (fun i => zb (f i ≠ 1)) j k = j - zsum f j k
  | 0, _, _ => by simp [zsum]
  | j + 1, k, h => by
    rw [zsum_s, zsum_s, zsum_neg (fun i h1 h2 => h i (by omega) (by omega))]
    rcases h k (by omega) (by omega) with e | e
    · rw [zb_t (by omega), e]; omega
    · rw [zb_f (by omega), e]; omega
theorem tOut_pop {c : Int → Int} (hw : wfD c) : c 2 - ((sPop 12 (tOut c) : Nat) : Int) = cVx c := by
  have b3 := hw.2.2.1
  have h := zmask_lt (fun p => decide (c (32 + 9 * (p : Int) + 1) ≠ 1)) (c 2).toNat
  unfold tOut cVx
  rw [show (12 : Nat) = (c 2).toNat + (12 - (c 2).toNat) by omega, sPop_z h, zmask_pop]
  rw [show zsum (fun i => zb (decide (c (32 + 9 * ((i.toNat : Nat) : Int) + 1) ≠ 1) = true)) (c 2).toNat 0 = zsum (fun i => zb (c (32 + 9 * i + 1) ≠ 1)) (c 2).toNat 0 from zsum_congr (fun i q0 q1 => by rw [show ((i.toNat : Nat) : Int) = i by omega]; unfold zb; simp only [decide_eq_true_eq])]
  rw [zsum_neg (fun i q0 q1 => (hw.2.2.2.2.2 i q0 (by omega)).2.1)]
  omega
theorem zb_congr {p q : Prop} [Decidable p] [Decidable q] (h : p ↔ q) : zb p = zb q := by
  unfold zb
  by_cases hp : p
  · rw [if_pos hp, if_pos (h.mp hp)]
  · rw [if_neg hp, if_neg (fun hq => hp (h.mpr hq))]
theorem cAlike_iff {c : Int → Int} {p q : Int} : cAlike c p q = true ↔ (c (32 + 9 * p + 1) = 1 ∧ c (32 + 9 * q + 1) = 1 ∧ c (32 + 9 * p) = c (32 + 9 * q) ∧ (c (32 + 9 * p + 2) = 1 ↔ c (32 + 9 * q + 2) = 1)) ∧ zfst (fun k => decide (c (32 + 9 * p + 3 + k) ≠ c (32 + 9 * q + 3 + k))) (c (32 + 9 * p)).toNat 0 = -1 := by
  unfold cAlike
  rw [Bool.and_eq_true, decide_eq_true_eq, decide_eq_true_eq]
theorem l_outer (d : Nat) {E : zE} {m : zM} {P : Option zV → zM → Prop} (t : Int) (t0 : 0 < t) (sT : shT E t) (pT : ptT m t) (c : Int → Int) (hw : wfD c) (hc : cTh m t c) : ∀ (j : Nat) (p : Nat), (p + j = (c 2).toNat) → (P (some (zI (tOut c : Nat))) m) → zA zX7_outerPoints (d) E E P 4 [zP t, zI (zmask (fun p => decide (c (32 + 9 * (p : Int) + 1) ≠ 1)) p : Nat), zI (p : Nat)] [] m E := by
  intro j
  induction j with
  | zero =>
    intro p hp hP
    have b1 := hw.1
    have b2 := hw.2.1
    have b3 := hw.2.2.1
    have hml := zmask_lt (fun p => decide (c (32 + 9 * (p : Int) + 1) ≠ 1)) p
    have hm2 : (2 : Nat) ^ p ≤ 2 ^ 8 := Nat.pow_le_pow_right (by omega) (by omega)
    refine z_iload_n dX7_outerPoints_4 rfl ?_
    refine z_aload_n dX7_outerPoints_5 rfl ?_
    refine z_gIv 13 rfl flX7_57 dX7_outerPoints_6 (sT0 sT) rfl hc.2.2.1 ?_
    refine z_icmp_ge (tgt := 36) dX7_outerPoints_9 rfl (fun h9 => ?_) (fun h => absurd (by omega) h)
    refine z_iload_n dX7_outerPoints_36 rfl ?_
    refine z_iret dX7_outerPoints_37 rfl rfl ?_
    unfold tOut at hP
    rw [show (c 2).toNat = p by omega] at hP
    exact hP
  | succ j ih =>
    intro p hp hP
    have b1 := hw.1
    have b2 := hw.2.1
    have b3 := hw.2.2.1
    have hml := zmask_lt (fun p => decide (c (32 + 9 * (p : Int) + 1) ≠ 1)) p
    have hm2 : (2 : Nat) ^ p ≤ 2 ^ 8 := Nat.pow_le_pow_right (by omega) (by omega)
    refine z_iload_n dX7_outerPoints_4 rfl ?_
    refine z_aload_n dX7_outerPoints_5 rfl ?_
    refine z_gIv 13 rfl flX7_57 dX7_outerPoints_6 (sT0 sT) rfl hc.2.2.1 ?_
    refine z_icmp_ge (tgt := 36) dX7_outerPoints_9 rfl (fun h => absurd h (by omega)) (fun h9 => ?_)
    refine z_aload_n dX7_outerPoints_12 rfl ?_
    refine z_gP 5 rfl (r := (t + 6)) flX7_30 dX7_outerPoints_13 (sT0 sT) rfl (pT5 pT) (by omega) ?_
    refine z_iload_n dX7_outerPoints_16 rfl ?_
    have hO := pO sT pT (p := (p : Int)) (by omega) (by omega)
    have hPt := hc.2.2.2.2.2 (p : Int) (by omega) (by omega)
    have hPw := hw.2.2.2.2.2 (p : Int) (by omega) (by omega)
    refine z_aald dX7_outerPoints_17 (sT6 sT) (by omega) (by omega) rfl (by omega) ?_
    refine z_gIv 2 rfl flX7_101 dX7_outerPoints_18 hO.1 rfl hPt.2.1 ?_
    refine z_if_ne (tgt := 30) dX7_outerPoints_21 rfl (fun h21 => ?_) (fun h21 => ?_)
    · refine z_inc dX7_outerPoints_30 rfl (by omega) ?_
      refine z_goto (tgt := 4) dX7_outerPoints_33 rfl ?_
      try dsimp only [zs0, zsI, zsP, zsN, zsJ, zsS, zst2, Nat.reduceAdd]
      rw [show (p : Int) + 1 = ((p + 1 : Nat) : Int) by omega]
      rw [← zmask_n (show (fun p => decide (c (32 + 9 * (p : Int) + 1) ≠ 1)) p = false by rw [decide_eq_false_iff_not]; omega)]
      exact ih (p + 1) (by omega) hP
    · refine z_iload_n dX7_outerPoints_24 rfl ?_
      refine z_iconst dX7_outerPoints_25 (by decide) ?_
      refine z_iload_n dX7_outerPoints_26 rfl ?_
      refine z_ishl dX7_outerPoints_27 ?_
      refine z_ior dX7_outerPoints_28 ?_
      rw [zor_b (by omega) (by omega)]
      refine z_ist 1 dX7_outerPoints_29 rfl (Nat.le_of_ble_eq_true rfl) ?_
      refine z_inc dX7_outerPoints_30 rfl (by omega) ?_
      refine z_goto (tgt := 4) dX7_outerPoints_33 rfl ?_
      try dsimp only [zs0, zsI, zsP, zsN, zsJ, zsS, zst2, Nat.reduceAdd]
      rw [show (p : Int) + 1 = ((p + 1 : Nat) : Int) by omega]
      rw [← zmask_s (show (fun p => decide (c (32 + 9 * (p : Int) + 1) ≠ 1)) p = true by rw [decide_eq_true_eq]; omega)]
      exact ih (p + 1) (by omega) hP

theorem c_outerPoints (d : Nat) {E : zE} {m : zM} (t : Int) (t0 : 0 < t) (sT : shT E t) (pT : ptT m t) (c : Int → Int) (hw : wfD c) (hc : cTh m t c)  : zR zX7_outerPoints (d) [zP t] m E E (fun r m' => r = some (zI ((tOut c : Nat))) ∧ m = m') := by
  have b1 := hw.1
  have b2 := hw.2.1
  have b3 := hw.2.2.1
  refine zR_go [zP t, zN, zN] (by decide +kernel) (Nat.le_of_ble_eq_true rfl) rfl rfl ?_
  refine z_iconst dX7_outerPoints_0 (by decide) ?_
  refine z_ist 1 dX7_outerPoints_1 rfl (Nat.le_of_ble_eq_true rfl) ?_
  refine z_iconst dX7_outerPoints_2 (by decide) ?_
  refine z_ist 2 dX7_outerPoints_3 rfl (Nat.le_of_ble_eq_true rfl) ?_
  try dsimp only [zs0, zsI, zsP, zsN, zsJ, zsS, zst2, Nat.reduceAdd]
  exact l_outer d t t0 sT pT c hw hc (c 2).toNat 0 (by omega) ⟨rfl, rfl⟩

theorem c_vertexCount (d : Nat) {E : zE} {m : zM} (t : Int) (t0 : 0 < t) (sT : shT E t) (pT : ptT m t) (c : Int → Int) (hw : wfD c) (hc : cTh m t c)  : zR zX7_vertexCount (d + 1) [zP t] m E E (fun r m' => r = some (zI (cVx c)) ∧ m = m') := by
  have b1 := hw.1
  have b2 := hw.2.1
  have b3 := hw.2.2.1
  refine zR_go [zP t] (by decide +kernel) (Nat.le_of_ble_eq_true rfl) rfl rfl ?_
  refine z_aload_n dX7_vertexCount_0 rfl ?_
  refine z_gIv 13 rfl flX7_57 dX7_vertexCount_1 (sT0 sT) rfl hc.2.2.1 ?_
  refine z_aload_n dX7_vertexCount_4 rfl ?_
  refine z_callV mlX7_104 dX7_vertexCount_5 (sT0 sT) (av := _) rfl rfl (Nat.le_of_ble_eq_true rfl) (c_outerPoints _ t t0 sT pT c hw hc) (Nat.le_refl _) (Nat.le_refl _) (Nat.le_refl _) (Nat.le_refl _) ?_
  rintro _ _ ⟨rfl, rfl⟩
  refine z_callS mlX7_108 dX7_vertexCount_8 (av := [_]) rfl rfl (Nat.le_of_ble_eq_true rfl) (c_bitCount _ (tOut c) (by have := tOut_lt hw; omega)) (Nat.le_refl _) (Nat.le_refl _) (Nat.le_refl _) (Nat.le_refl _) ?_
  rintro _ _ ⟨rfl, rfl⟩
  have hpo := tOut_pop hw
  have hpl := sPop_le 12 (tOut c)
  refine z_sub dX7_vertexCount_11 (by omega) ?_
  rw [hpo]
  refine z_iret dX7_vertexCount_12 rfl rfl ?_
  exact ⟨rfl, rfl⟩

theorem l_lettersOf (d : Nat) {E : zE} {m : zM} {P : Option zV → zM → Prop} (t : Int) (t0 : 0 < t) (sT : shT E t) (pT : ptT m t) (c : Int → Int) (hw : wfD c) (hc : cTh m t c) (w q : Int → Int) (n : Int) (hl : wfL c w q n) (hf : cFl m t c w q n) (S : Nat) (hS : S < 256) : ∀ (j : Nat) (i : Nat), (i + j = n.toNat) → (P (some (zI (zmask (fun i : Nat => S.testBit (q (i : Int)).toNat) n.toNat : Nat))) m) → zA zX7_lettersOf (d) E E P 4 [zP t, zI (S : Nat), zI (zmask (fun i : Nat => S.testBit (q (i : Int)).toNat) i : Nat), zI (i : Nat)] [] m E := by
  intro j
  induction j with
  | zero =>
    intro i hi hP
    have b1 := hw.1
    have b2 := hw.2.1
    have b3 := hw.2.2.1
    have hn := hl.1
    have hml := zmask_lt (fun i : Nat => S.testBit (q (i : Int)).toNat) i
    have hm2 : (2 : Nat) ^ i ≤ 2 ^ 12 := Nat.pow_le_pow_right (by omega) (by omega)
    refine z_iload_n dX7_lettersOf_4 rfl ?_
    refine z_aload_n dX7_lettersOf_5 rfl ?_
    refine z_gIv 14 rfl flX7_69 dX7_lettersOf_6 (sT0 sT) rfl hf.1 ?_
    refine z_icmp_ge (tgt := 37) dX7_lettersOf_9 rfl (fun h9 => ?_) (fun h => absurd (by omega) h)
    refine z_iload_n dX7_lettersOf_37 rfl ?_
    refine z_iret dX7_lettersOf_38 rfl rfl ?_
    rw [show n.toNat = i by omega] at hP
    exact hP
  | succ j ih =>
    intro i hi hP
    have b1 := hw.1
    have b2 := hw.2.1
    have b3 := hw.2.2.1
    have hn := hl.1
    have hml := zmask_lt (fun i : Nat => S.testBit (q (i : Int)).toNat) i
    have hm2 : (2 : Nat) ^ i ≤ 2 ^ 12 := Nat.pow_le_pow_right (by omega) (by omega)
    refine z_iload_n dX7_lettersOf_4 rfl ?_
    refine z_aload_n dX7_lettersOf_5 rfl ?_
    refine z_gIv 14 rfl flX7_69 dX7_lettersOf_6 (sT0 sT) rfl hf.1 ?_
    refine z_icmp_ge (tgt := 37) dX7_lettersOf_9 rfl (fun h => absurd h (by omega)) (fun h9 => ?_)
    refine z_iload_n dX7_lettersOf_12 rfl ?_
    refine z_aload_n dX7_lettersOf_13 rfl ?_
    refine z_gP 7 rfl (r := (t + 8)) flX7_37 dX7_lettersOf_14 (sT0 sT) rfl (pT7 pT) (by omega) ?_
    refine z_iload_n dX7_lettersOf_17 rfl ?_
    have hq := (hl.2 (i : Int) (by omega) (by omega)).2
    refine z_ialv dX7_lettersOf_18 (sT8 sT) (by omega) (by omega) (hf.2.1 (i : Int) (by omega) (by omega)).2.1 ?_
    rw [show q (i : Int) = (((q (i : Int)).toNat : Nat) : Int) by omega]
    refine z_ishr dX7_lettersOf_19 ?_
    refine z_iconst dX7_lettersOf_20 (by decide) ?_
    refine z_iand dX7_lettersOf_21 ?_
    rw [zbit (by omega) (by omega)]
    refine z_if_eq (tgt := 31) dX7_lettersOf_22 rfl (fun h22 => ?_) (fun h22 => ?_)
    · refine z_inc dX7_lettersOf_31 rfl (by omega) ?_
      refine z_goto (tgt := 4) dX7_lettersOf_34 rfl ?_
      try dsimp only [zs0, zsI, zsP, zsN, zsJ, zsS, zst2, Nat.reduceAdd]
      rw [show (i : Int) + 1 = ((i + 1 : Nat) : Int) by omega]
      rw [← zmask_n (f := (fun i : Nat => S.testBit (q (i : Int)).toNat)) (show (fun i : Nat => S.testBit (q (i : Int)).toNat) i = false by have := zb_0.mp h22; simpa using this)]
      exact ih (i + 1) (by omega) hP
    · refine z_iload_n dX7_lettersOf_25 rfl ?_
      refine z_iconst dX7_lettersOf_26 (by decide) ?_
      refine z_iload_n dX7_lettersOf_27 rfl ?_
      refine z_ishl dX7_lettersOf_28 ?_
      refine z_ior dX7_lettersOf_29 ?_
      rw [zor_b (by omega) (by omega)]
      refine z_ist 2 dX7_lettersOf_30 rfl (Nat.le_of_ble_eq_true rfl) ?_
      refine z_inc dX7_lettersOf_31 rfl (by omega) ?_
      refine z_goto (tgt := 4) dX7_lettersOf_34 rfl ?_
      try dsimp only [zs0, zsI, zsP, zsN, zsJ, zsS, zst2, Nat.reduceAdd]
      rw [show (i : Int) + 1 = ((i + 1 : Nat) : Int) by omega]
      rw [← zmask_s (f := (fun i : Nat => S.testBit (q (i : Int)).toNat)) (show (fun i : Nat => S.testBit (q (i : Int)).toNat) i = true from Classical.byContradiction (fun h => h22 (zb_f h)))]
      exact ih (i + 1) (by omega) hP

theorem c_lettersOf (d : Nat) {E : zE} {m : zM} (t : Int) (t0 : 0 < t) (sT : shT E t) (pT : ptT m t) (c : Int → Int) (hw : wfD c) (hc : cTh m t c) (w q : Int → Int) (n : Int) (hl : wfL c w q n) (hf : cFl m t c w q n) (S : Nat) (hS : S < 256) : zR zX7_lettersOf (d) [zP t, zI (S : Nat)] m E E (fun r m' => r = some (zI ((tLet (c, w, q, n) S : Nat))) ∧ m = m') := by
  have b1 := hw.1
  have b2 := hw.2.1
  have b3 := hw.2.2.1
  refine zR_go [zP t, zI (S : Nat), zN, zN] (by decide +kernel) (Nat.le_of_ble_eq_true rfl) rfl rfl ?_
  refine z_iconst dX7_lettersOf_0 (by decide) ?_
  refine z_ist 2 dX7_lettersOf_1 rfl (Nat.le_of_ble_eq_true rfl) ?_
  refine z_iconst dX7_lettersOf_2 (by decide) ?_
  refine z_ist 3 dX7_lettersOf_3 rfl (Nat.le_of_ble_eq_true rfl) ?_
  try dsimp only [zs0, zsI, zsP, zsN, zsJ, zsS, zst2, Nat.reduceAdd]
  exact l_lettersOf d t t0 sT pT c hw hc w q n hl hf S hS n.toNat 0 (by omega) ⟨rfl, rfl⟩

theorem c_letterFact (d : Nat) {E : zE} {m : zM} (t : Int) (t0 : 0 < t) (sT : shT E t) (pT : ptT m t) (c : Int → Int) (hw : wfD c) (hc : cTh m t c) (w q : Int → Int) (n : Int) (hl : wfL c w q n) (hf : cFl m t c w q n) (i v : Int) (h0 : 0 ≤ i) (h1 : i < n) (v0 : 0 ≤ v) (v3 : v ≤ 3) : zR zX7_letterFact (d + 1) [zP t, zI i, zI v] m E E (fun r m' => r = some (zI (if v = 0 then w i / 2 else if v = 1 then w i % 2 else if v = 2 then q i else (sPop 12 (zmask (fun j => cMay c w q i (j : Int)) n.toNat) : Nat))) ∧ m = m') := by
  have b1 := hw.1
  have b2 := hw.2.1
  have b3 := hw.2.2.1
  have hn := hl.1
  have hwi := (hl.2 i h0 h1).1
  have hmk := mk_lt c w q i hn
  refine zR_go [zP t, zI i, zI v] (by decide +kernel) (Nat.le_of_ble_eq_true rfl) rfl rfl ?_
  refine z_iload_n dX7_letterFact_0 rfl ?_
  by_cases hs0 : v = 0
  · refine z_tabIn (tgt := 28) dX7_letterFact_1 (by omega) (by omega) (by rw [hs0]; rfl) rfl ?_
    refine z_aload_n dX7_letterFact_28 rfl ?_
    refine z_gP 6 rfl (r := (t + 7)) flX7_34 dX7_letterFact_29 (sT0 sT) rfl (pT6 pT) (by omega) ?_
    refine z_iload_n dX7_letterFact_32 rfl ?_
    refine z_ialv dX7_letterFact_33 (sT7 sT) (by omega) (by omega) (hf.2.1 i h0 h1).1 ?_
    refine z_iconst dX7_letterFact_34 (by decide) ?_
    refine z_div dX7_letterFact_35 (by omega) (by omega) ?_
    refine z_iret dX7_letterFact_36 rfl rfl ?_
    exact ⟨by rw [if_pos hs0], rfl⟩
  by_cases hs1 : v = 1
  · refine z_tabIn (tgt := 37) dX7_letterFact_1 (by omega) (by omega) (by rw [hs1]; rfl) rfl ?_
    refine z_aload_n dX7_letterFact_37 rfl ?_
    refine z_gP 6 rfl (r := (t + 7)) flX7_34 dX7_letterFact_38 (sT0 sT) rfl (pT6 pT) (by omega) ?_
    refine z_iload_n dX7_letterFact_41 rfl ?_
    refine z_ialv dX7_letterFact_42 (sT7 sT) (by omega) (by omega) (hf.2.1 i h0 h1).1 ?_
    refine z_iconst dX7_letterFact_43 (by decide) ?_
    refine z_rem dX7_letterFact_44 (by omega) (by omega) ?_
    refine z_iret dX7_letterFact_45 rfl rfl ?_
    exact ⟨by rw [if_neg (by omega), if_pos hs1], rfl⟩
  by_cases hs2 : v = 2
  · refine z_tabIn (tgt := 46) dX7_letterFact_1 (by omega) (by omega) (by rw [hs2]; rfl) rfl ?_
    refine z_aload_n dX7_letterFact_46 rfl ?_
    refine z_gP 7 rfl (r := (t + 8)) flX7_37 dX7_letterFact_47 (sT0 sT) rfl (pT7 pT) (by omega) ?_
    refine z_iload_n dX7_letterFact_50 rfl ?_
    refine z_ialv dX7_letterFact_51 (sT8 sT) (by omega) (by omega) (hf.2.1 i h0 h1).2.1 ?_
    refine z_iret dX7_letterFact_52 rfl rfl ?_
    exact ⟨by rw [if_neg (by omega), if_neg (by omega), if_pos hs2], rfl⟩
  refine z_tabOut (tgt := 53) dX7_letterFact_1 (by omega) rfl ?_
  refine z_aload_n dX7_letterFact_53 rfl ?_
  refine z_gP 8 rfl (r := (t + 9)) flX7_40 dX7_letterFact_54 (sT0 sT) rfl (pT8 pT) (by omega) ?_
  refine z_iload_n dX7_letterFact_57 rfl ?_
  refine z_ialv dX7_letterFact_58 (sT9 sT) (by omega) (by omega) (hf.2.1 i h0 h1).2.2 ?_
  refine z_callS mlX7_108 dX7_letterFact_59 (av := [_]) rfl rfl (Nat.le_of_ble_eq_true rfl) (c_bitCount _ (zmask (fun j => cMay c w q i (j : Int)) n.toNat) hmk) (Nat.le_refl _) (Nat.le_refl _) (Nat.le_refl _) (Nat.le_refl _) ?_
  rintro _ _ ⟨rfl, rfl⟩
  refine z_iret dX7_letterFact_62 rfl rfl ?_
  exact ⟨by rw [if_neg (by omega), if_neg (by omega), if_neg (by omega)], rfl⟩

theorem c_fieldFact (d : Nat) {E : zE} {m : zM} (t : Int) (t0 : 0 < t) (sT : shT E t) (pT : ptT m t) (c : Int → Int) (hw : wfD c) (hc : cTh m t c) (k v : Int) (h0 : 0 ≤ k) (h1 : k < c 0) (v0 : 0 ≤ v) (v2 : v ≤ 2) : zR zX7_fieldFact (d) [zP t, zI k, zI v] m E E (fun r m' => r = some (zI (c (4 + 3 * k + v))) ∧ m = m') := by
  have b1 := hw.1
  have b2 := hw.2.1
  have b3 := hw.2.2.1
  have hv := hw.2.2.2.1 k h0 h1
  have hd := hc.2.2.2.1 k h0 h1
  refine zR_go [zP t, zI k, zI v, zN] (by decide +kernel) (Nat.le_of_ble_eq_true rfl) rfl rfl ?_
  refine z_iload_n dX7_fieldFact_0 rfl ?_
  refine z_if_ne (tgt := 11) dX7_fieldFact_1 rfl (fun h1 => ?_) (fun h1 => ?_)
  · refine z_iload_n dX7_fieldFact_11 rfl ?_
    refine z_iconst dX7_fieldFact_12 (by decide) ?_
    refine z_icmp_ne (tgt := 25) dX7_fieldFact_13 rfl (fun h13 => ?_) (fun h13 => ?_)
    · refine z_aload_n dX7_fieldFact_25 rfl ?_
      refine z_gP 2 rfl (r := (t + 3)) flX7_19 dX7_fieldFact_26 (sT0 sT) rfl (pT2 pT) (by omega) ?_
      refine z_iload_n dX7_fieldFact_29 rfl ?_
      refine z_zald dX7_fieldFact_30 (sT3 sT) (by omega) (by omega) ?_
      rw [hd.2.2]
      refine z_ist 3 dX7_fieldFact_31 rfl (Nat.le_of_ble_eq_true rfl) ?_
      refine z_iload_n dX7_fieldFact_32 rfl ?_
      try dsimp only [zs0, zsI, zsP, zsN, zsJ, zsS, zst2, Nat.reduceAdd]
      refine z_if_eq (tgt := 40) dX7_fieldFact_33 rfl (fun h33 => ?_) (fun h33 => ?_)
      · refine z_iconst dX7_fieldFact_40 (by decide) ?_
        refine z_iret dX7_fieldFact_41 rfl rfl ?_
        refine ⟨?_, rfl⟩
        rw [show v = 2 by omega]
        rw [show c (4 + 3 * k + 2) = 0 by omega]
      · refine z_iconst dX7_fieldFact_36 (by decide) ?_
        refine z_goto (tgt := 41) dX7_fieldFact_37 rfl ?_
        refine z_iret dX7_fieldFact_41 rfl rfl ?_
        refine ⟨?_, rfl⟩
        rw [show v = 2 by omega]
        rw [show c (4 + 3 * k + 2) = 1 by omega]
    · refine z_aload_n dX7_fieldFact_16 rfl ?_
      refine z_gP 1 rfl (r := (t + 2)) flX7_15 dX7_fieldFact_17 (sT0 sT) rfl (pT1 pT) (by omega) ?_
      refine z_iload_n dX7_fieldFact_20 rfl ?_
      refine z_zald dX7_fieldFact_21 (sT2 sT) (by omega) (by omega) ?_
      rw [hd.2.1]
      refine z_goto (tgt := 31) dX7_fieldFact_22 rfl ?_
      refine z_ist 3 dX7_fieldFact_31 rfl (Nat.le_of_ble_eq_true rfl) ?_
      refine z_iload_n dX7_fieldFact_32 rfl ?_
      try dsimp only [zs0, zsI, zsP, zsN, zsJ, zsS, zst2, Nat.reduceAdd]
      refine z_if_eq (tgt := 40) dX7_fieldFact_33 rfl (fun h33 => ?_) (fun h33 => ?_)
      · refine z_iconst dX7_fieldFact_40 (by decide) ?_
        refine z_iret dX7_fieldFact_41 rfl rfl ?_
        refine ⟨?_, rfl⟩
        rw [show v = 1 by omega]
        rw [show c (4 + 3 * k + 1) = 0 by omega]
      · refine z_iconst dX7_fieldFact_36 (by decide) ?_
        refine z_goto (tgt := 41) dX7_fieldFact_37 rfl ?_
        refine z_iret dX7_fieldFact_41 rfl rfl ?_
        refine ⟨?_, rfl⟩
        rw [show v = 1 by omega]
        rw [show c (4 + 3 * k + 1) = 1 by omega]
  · refine z_aload_n dX7_fieldFact_4 rfl ?_
    refine z_gP 0 rfl (r := (t + 1)) flX7_9 dX7_fieldFact_5 (sT0 sT) rfl (pT0 pT) (by omega) ?_
    refine z_iload_n dX7_fieldFact_8 rfl ?_
    refine z_ialv dX7_fieldFact_9 (sT1 sT) (by omega) (by omega) hd.1 ?_
    refine z_iret dX7_fieldFact_10 rfl rfl ?_
    refine ⟨?_, rfl⟩
    rw [show v = 0 by omega, Int.add_zero]

theorem l_firstLetter (d : Nat) {E : zE} {m : zM} {P : Option zV → zM → Prop} (t : Int) (t0 : 0 < t) (sT : shT E t) (pT : ptT m t) (c : Int → Int) (hw : wfD c) (hc : cTh m t c) (p : Int) (hp : p ≤ c 2) : ∀ (j : Nat) (k a : Int), (0 ≤ k) → (k + j = p) → (0 ≤ a ∧ a ≤ 6 * k) → (P (some (zI (a + zsum (fun q => c (32 + 9 * q)) j k))) m) → zA zX7_firstLetter (d) E E P 4 [zP t, zI p, zI a, zI k] [] m E := by
  intro j
  induction j with
  | zero =>
    intro k a k0 hk ha hP
    have b1 := hw.1
    have b2 := hw.2.1
    have b3 := hw.2.2.1
    refine z_iload_n dX7_firstLetter_4 rfl ?_
    refine z_iload_n dX7_firstLetter_5 rfl ?_
    refine z_icmp_ge (tgt := 27) dX7_firstLetter_6 rfl (fun h6 => ?_) (fun h => absurd (by omega) h)
    refine z_iload_n dX7_firstLetter_27 rfl ?_
    refine z_iret dX7_firstLetter_28 rfl rfl ?_
    rw [zsum_0, Int.add_zero] at hP
    exact hP
  | succ j ih =>
    intro k a k0 hk ha hP
    have b1 := hw.1
    have b2 := hw.2.1
    have b3 := hw.2.2.1
    refine z_iload_n dX7_firstLetter_4 rfl ?_
    refine z_iload_n dX7_firstLetter_5 rfl ?_
    refine z_icmp_ge (tgt := 27) dX7_firstLetter_6 rfl (fun h => absurd h (by omega)) (fun h6 => ?_)
    refine z_iload_n dX7_firstLetter_9 rfl ?_
    refine z_aload_n dX7_firstLetter_10 rfl ?_
    refine z_gP 5 rfl (r := (t + 6)) flX7_30 dX7_firstLetter_11 (sT0 sT) rfl (pT5 pT) (by omega) ?_
    refine z_iload_n dX7_firstLetter_14 rfl ?_
    have hO := pO sT pT (p := k) (by omega) (by omega)
    have hPt := hc.2.2.2.2.2 k (by omega) (by omega)
    have hPw := hw.2.2.2.2.2 k (by omega) (by omega)
    refine z_aald dX7_firstLetter_15 (sT6 sT) (by omega) (by omega) rfl (by omega) ?_
    refine z_gIv 1 rfl flX7_75 dX7_firstLetter_16 hO.1 rfl hPt.1 ?_
    refine z_add dX7_firstLetter_19 (by omega) ?_
    refine z_ist 2 dX7_firstLetter_20 rfl (Nat.le_of_ble_eq_true rfl) ?_
    refine z_inc dX7_firstLetter_21 rfl (by omega) ?_
    refine z_goto (tgt := 4) dX7_firstLetter_24 rfl ?_
    try dsimp only [zs0, zsI, zsP, zsN, zsJ, zsS, zst2, Nat.reduceAdd]
    rw [zsum_s, ← Int.add_assoc] at hP
    exact ih (k + 1) _ (by omega) (by omega) (by omega) hP

theorem c_firstLetter (d : Nat) {E : zE} {m : zM} (t : Int) (t0 : 0 < t) (sT : shT E t) (pT : ptT m t) (c : Int → Int) (hw : wfD c) (hc : cTh m t c) (p : Int) (p0 : 0 ≤ p) (hp : p ≤ c 2) : zR zX7_firstLetter (d) [zP t, zI p] m E E (fun r m' => r = some (zI (cPre c p.toNat)) ∧ m = m') := by
  have b1 := hw.1
  have b2 := hw.2.1
  have b3 := hw.2.2.1
  refine zR_go [zP t, zI p, zN, zN] (by decide +kernel) (Nat.le_of_ble_eq_true rfl) rfl rfl ?_
  refine z_iconst dX7_firstLetter_0 (by decide) ?_
  refine z_ist 2 dX7_firstLetter_1 rfl (Nat.le_of_ble_eq_true rfl) ?_
  refine z_iconst dX7_firstLetter_2 (by decide) ?_
  refine z_ist 3 dX7_firstLetter_3 rfl (Nat.le_of_ble_eq_true rfl) ?_
  try dsimp only [zs0, zsI, zsP, zsN, zsJ, zsS, zst2, Nat.reduceAdd]
  exact l_firstLetter d t t0 sT pT c hw hc p hp p.toNat 0 0 (by omega) (by omega) (by omega) ⟨by rw [Int.zero_add]; rfl, rfl⟩

theorem l_mixOfLetters (d : Nat) {E : zE} {m : zM} {P : Option zV → zM → Prop} (t : Int) (t0 : 0 < t) (sT : shT E t) (pT : ptT m t) (c : Int → Int) (hw : wfD c) (hc : cTh m t c) (a b : Int) : ∀ (j : Nat) (k : Int), (0 ≤ k) → (k + j = c 1) → (P (some (zI (zfst (fun k => decide (c (4 + 3 * c (24 + 2 * k)) = a ∧ c (4 + 3 * c (24 + 2 * k + 1)) = b)) j k))) m) → zA zX7_mixOfLetters (d) E E P 2 [zP t, zI a, zI b, zI k] [] m E := by
  intro j
  induction j with
  | zero =>
    intro k h0 hk hP
    have b1 := hw.1
    have b2 := hw.2.1
    have b3 := hw.2.2.1
    refine z_iload_n dX7_mixOfLetters_2 rfl ?_
    refine z_aload_n dX7_mixOfLetters_3 rfl ?_
    refine z_gIv 12 rfl flX7_54 dX7_mixOfLetters_4 (sT0 sT) rfl hc.2.1 ?_
    refine z_icmp_ge (tgt := 48) dX7_mixOfLetters_7 rfl (fun h7 => ?_) (fun h => absurd (by omega) h)
    refine z_iconst dX7_mixOfLetters_48 (by decide) ?_
    refine z_iret dX7_mixOfLetters_49 rfl rfl ?_
    exact hP
  | succ j ih =>
    intro k h0 hk hP
    have b1 := hw.1
    have b2 := hw.2.1
    have b3 := hw.2.2.1
    have hm := hc.2.2.2.2.1 k h0 (by omega)
    have hx := hw.2.2.2.2.1 k h0 (by omega)
    refine z_iload_n dX7_mixOfLetters_2 rfl ?_
    refine z_aload_n dX7_mixOfLetters_3 rfl ?_
    refine z_gIv 12 rfl flX7_54 dX7_mixOfLetters_4 (sT0 sT) rfl hc.2.1 ?_
    refine z_icmp_ge (tgt := 48) dX7_mixOfLetters_7 rfl (fun h => absurd h (by omega)) (fun h7 => ?_)
    refine z_aload_n dX7_mixOfLetters_10 rfl ?_
    refine z_gP 0 rfl (r := (t + 1)) flX7_9 dX7_mixOfLetters_11 (sT0 sT) rfl (pT0 pT) (by omega) ?_
    refine z_aload_n dX7_mixOfLetters_14 rfl ?_
    refine z_gP 3 rfl (r := (t + 4)) flX7_22 dX7_mixOfLetters_15 (sT0 sT) rfl (pT3 pT) (by omega) ?_
    refine z_iload_n dX7_mixOfLetters_18 rfl ?_
    refine z_ialv dX7_mixOfLetters_19 (sT4 sT) (by omega) (by omega) hm.1 ?_
    refine z_ialv dX7_mixOfLetters_20 (sT1 sT) (by omega) (by omega) (hc.2.2.2.1 (c (24 + 2 * k)) hx.1.1 hx.1.2).1 ?_
    refine z_iload_n dX7_mixOfLetters_21 rfl ?_
    refine z_icmp_ne (tgt := 42) dX7_mixOfLetters_22 rfl (fun h22 => ?_) (fun h22 => ?_)
    · refine z_inc dX7_mixOfLetters_42 rfl (by omega) ?_
      refine z_goto (tgt := 2) dX7_mixOfLetters_45 rfl ?_
      try dsimp only [zs0, zsI, zsP, zsN, zsJ, zsS, zst2, Nat.reduceAdd]
      rw [zfst_f (by rw [decide_eq_false_iff_not]; omega)] at hP
      exact ih (k + 1) (by omega) (by omega) hP
    · refine z_aload_n dX7_mixOfLetters_25 rfl ?_
      refine z_gP 0 rfl (r := (t + 1)) flX7_9 dX7_mixOfLetters_26 (sT0 sT) rfl (pT0 pT) (by omega) ?_
      refine z_aload_n dX7_mixOfLetters_29 rfl ?_
      refine z_gP 4 rfl (r := (t + 5)) flX7_25 dX7_mixOfLetters_30 (sT0 sT) rfl (pT4 pT) (by omega) ?_
      refine z_iload_n dX7_mixOfLetters_33 rfl ?_
      refine z_ialv dX7_mixOfLetters_34 (sT5 sT) (by omega) (by omega) hm.2 ?_
      refine z_ialv dX7_mixOfLetters_35 (sT1 sT) (by omega) (by omega) (hc.2.2.2.1 (c (24 + 2 * k + 1)) hx.2.1 hx.2.2).1 ?_
      refine z_iload_n dX7_mixOfLetters_36 rfl ?_
      refine z_icmp_ne (tgt := 42) dX7_mixOfLetters_37 rfl (fun h37 => ?_) (fun h37 => ?_)
      · refine z_inc dX7_mixOfLetters_42 rfl (by omega) ?_
        refine z_goto (tgt := 2) dX7_mixOfLetters_45 rfl ?_
        try dsimp only [zs0, zsI, zsP, zsN, zsJ, zsS, zst2, Nat.reduceAdd]
        rw [zfst_f (by rw [decide_eq_false_iff_not]; omega)] at hP
        exact ih (k + 1) (by omega) (by omega) hP
      · refine z_iload_n dX7_mixOfLetters_40 rfl ?_
        refine z_iret dX7_mixOfLetters_41 rfl rfl ?_
        rw [zfst_t (by rw [decide_eq_true_eq]; omega)] at hP
        exact hP

theorem c_mixOfLetters (d : Nat) {E : zE} {m : zM} (t : Int) (t0 : 0 < t) (sT : shT E t) (pT : ptT m t) (c : Int → Int) (hw : wfD c) (hc : cTh m t c) (a b : Int) : zR zX7_mixOfLetters (d) [zP t, zI a, zI b] m E E (fun r m' => r = some (zI (zfst (fun k => decide (c (4 + 3 * c (24 + 2 * k)) = a ∧ c (4 + 3 * c (24 + 2 * k + 1)) = b)) (c 1).toNat 0)) ∧ m = m') := by
  have b1 := hw.1
  have b2 := hw.2.1
  have b3 := hw.2.2.1
  refine zR_go [zP t, zI a, zI b, zN] (by decide +kernel) (Nat.le_of_ble_eq_true rfl) rfl rfl ?_
  refine z_iconst dX7_mixOfLetters_0 (by decide) ?_
  refine z_ist 3 dX7_mixOfLetters_1 rfl (Nat.le_of_ble_eq_true rfl) ?_
  try dsimp only [zs0, zsI, zsP, zsN, zsJ, zsS, zst2, Nat.reduceAdd]
  exact l_mixOfLetters d t t0 sT pT c hw hc a b (c 1).toNat 0 (by omega) (by omega) ⟨rfl, rfl⟩

theorem c_codeOf (d : Nat) {E : zE} {m : zM} (t : Int) (t0 : 0 < t) (sT : shT E t) (pT : ptT m t) (c : Int → Int) (hw : wfD c) (hc : cTh m t c) (w q : Int → Int) (n : Int) (hl : wfL c w q n) (hf : cFl m t c w q n) (i j : Int) (i0 : 0 ≤ i) (i1 : i < n) (j0 : 0 ≤ j) (j1 : j < n) (hm : cMay c w q i j = true) : zR zX7_codeOf (d) [zP t, zI i, zI j] m E E (fun r m' => r = some (zI (cCode c w q i j)) ∧ m = m') := by
  have b1 := hw.1
  have b2 := hw.2.1
  have b3 := hw.2.2.1
  have hn := hl.1
  refine zR_go [zP t, zI i, zI j] (by decide +kernel) (Nat.le_of_ble_eq_true rfl) rfl rfl ?_
  refine z_aload_n dX7_codeOf_0 rfl ?_
  refine z_gP 9 rfl (r := (t + 10)) flX7_43 dX7_codeOf_1 (sT0 sT) rfl (pT9 pT) (by omega) ?_
  refine z_iload_n dX7_codeOf_4 rfl ?_
  refine z_bipush dX7_codeOf_5 rfl (by decide) ?_
  refine z_mul dX7_codeOf_7 (by omega) ?_
  refine z_iload_n dX7_codeOf_8 rfl ?_
  refine z_add dX7_codeOf_9 (by omega) ?_
  rw [show i * 12 + j = 12 * i + j by omega]
  refine z_ialv dX7_codeOf_10 (sT10 sT) (by omega) (by omega) (hf.2.2.1 i j i0 i1 j0 j1 hm) ?_
  refine z_iret dX7_codeOf_11 rfl rfl ?_
  exact ⟨rfl, rfl⟩

theorem c_mayPair (d : Nat) {E : zE} {m : zM} (t : Int) (t0 : 0 < t) (sT : shT E t) (pT : ptT m t) (c : Int → Int) (hw : wfD c) (hc : cTh m t c) (w q : Int → Int) (n : Int) (hl : wfL c w q n) (hf : cFl m t c w q n) (i : Int) (j : Nat) (i0 : 0 ≤ i) (i1 : i < n) (j1 : (j : Int) < n) : zR zX7_mayPair (d) [zP t, zI i, zI (j : Nat)] m E E (fun r m' => r = some (zI (zb (cMay c w q i (j : Int) = true))) ∧ m = m') := by
  have b1 := hw.1
  have b2 := hw.2.1
  have b3 := hw.2.2.1
  have hn := hl.1
  have hmk := mk_lt c w q i hn
  refine zR_go [zP t, zI i, zI (j : Nat)] (by decide +kernel) (Nat.le_of_ble_eq_true rfl) rfl rfl ?_
  refine z_aload_n dX7_mayPair_0 rfl ?_
  refine z_gP 8 rfl (r := (t + 9)) flX7_40 dX7_mayPair_1 (sT0 sT) rfl (pT8 pT) (by omega) ?_
  refine z_iload_n dX7_mayPair_4 rfl ?_
  refine z_ialv dX7_mayPair_5 (sT9 sT) (by omega) (by omega) (hf.2.1 i i0 i1).2.2 ?_
  refine z_iload_n dX7_mayPair_6 rfl ?_
  refine z_ishr dX7_mayPair_7 ?_
  refine z_iconst dX7_mayPair_8 (by decide) ?_
  refine z_iand dX7_mayPair_9 ?_
  rw [zbit (by omega) (by omega)]
  refine z_if_eq (tgt := 17) dX7_mayPair_10 rfl (fun h10 => ?_) (fun h10 => ?_)
  · refine z_iconst dX7_mayPair_17 (by decide) ?_
    refine z_zret dX7_mayPair_18 rfl (by first | omega | exact zb01 _) rfl ?_
    refine ⟨?_, rfl⟩
    rw [zb_f (by rw [zmask_bit, decide_eq_true (show j < n.toNat by omega), Bool.true_and] at h10; exact zb_0.mp h10)]
  · refine z_iconst dX7_mayPair_13 (by decide) ?_
    refine z_goto (tgt := 18) dX7_mayPair_14 rfl ?_
    refine z_zret dX7_mayPair_18 rfl (by first | omega | exact zb01 _) rfl ?_
    refine ⟨?_, rfl⟩
    rw [zb_t (by rw [zmask_bit, decide_eq_true (show j < n.toNat by omega), Bool.true_and] at h10; exact Classical.byContradiction (fun h => h10 (zb_f h)))]

theorem c_allLetters (d : Nat) {E : zE} {m : zM} (t : Int) (t0 : 0 < t) (sT : shT E t) (pT : ptT m t) (n : Int) (hb : 0 ≤ n ∧ n ≤ 12) (hn : m t 14 = n) : zR zX7_allLetters (d) [zP t] m E E (fun r m' => r = some (zI ((2 ^ n.toNat - 1 : Nat))) ∧ m = m') := by
  refine zR_go [zP t] (by decide +kernel) (Nat.le_of_ble_eq_true rfl) rfl rfl ?_
  refine z_iconst dX7_allLetters_0 (by decide) ?_
  refine z_aload_n dX7_allLetters_1 rfl ?_
  refine z_gIv 14 rfl flX7_69 dX7_allLetters_2 (sT0 sT) rfl hn ?_
  refine z_ishl dX7_allLetters_5 ?_
  refine z_iconst dX7_allLetters_6 (by decide) ?_
  have ha : zshl 1 n - 1 = ((2 ^ n.toNat - 1 : Nat) : Int) := by rw [show n = ((n.toNat : Nat) : Int) by omega]; exact zall (by omega)
  have hl2 : 2 ^ n.toNat ≤ 2 ^ 12 := Nat.pow_le_pow_right (by decide) (by omega)
  refine z_sub dX7_allLetters_7 (by omega) ?_
  rw [ha]
  refine z_iret dX7_allLetters_8 rfl rfl ?_
  exact ⟨rfl, rfl⟩

theorem l_isAlike (d : Nat) {E : zE} {m : zM} {P : Option zV → zM → Prop} (t : Int) (t0 : 0 < t) (sT : shT E t) (pT : ptT m t) (c : Int → Int) (hw : wfD c) (hc : cTh m t c) (p q : Int) (p0 : 0 ≤ p) (p1 : p < c 2) (q0 : 0 ≤ q) (q1 : q < c 2) (hs : c (32 + 9 * p) = c (32 + 9 * q)) : ∀ (j : Nat) (k : Int), (0 ≤ k) → (k + j = c (32 + 9 * p)) → (P (some (zI (zb (zfst (fun k => decide (c (32 + 9 * p + 3 + k) ≠ c (32 + 9 * q + 3 + k))) j k = -1)))) m) → zA zX5_isAlike (d) E E P 40 [zP (m (t + 6) p), zP (m (t + 6) q), zI k] [] m E := by
  intro j
  induction j with
  | zero =>
    intro k h0 hk hP
    have b1 := hw.1
    have b2 := hw.2.1
    have b3 := hw.2.2.1
    have hO := pO sT pT (p := p) (by omega) (by omega)
    have hPt := hc.2.2.2.2.2 p (by omega) (by omega)
    have hPw := hw.2.2.2.2.2 p (by omega) (by omega)
    have hO2 := pO sT pT (p := q) (by omega) (by omega)
    have hPt2 := hc.2.2.2.2.2 q (by omega) (by omega)
    have hPw2 := hw.2.2.2.2.2 q (by omega) (by omega)
    refine z_iload_n dX5_isAlike_40 rfl ?_
    refine z_aload_n dX5_isAlike_41 rfl ?_
    refine z_gIv 1 rfl flX5_15 dX5_isAlike_42 hO.1 rfl hPt.1 ?_
    refine z_icmp_ge (tgt := 71) dX5_isAlike_45 rfl (fun h45 => ?_) (fun h => absurd (by omega) h)
    refine z_iconst dX5_isAlike_71 (by decide) ?_
    refine z_zret dX5_isAlike_72 rfl (by first | omega | exact zb01 _) rfl ?_
    rw [zfst_0, zb_t rfl] at hP
    exact hP
  | succ j ih =>
    intro k h0 hk hP
    have b1 := hw.1
    have b2 := hw.2.1
    have b3 := hw.2.2.1
    have hO := pO sT pT (p := p) (by omega) (by omega)
    have hPt := hc.2.2.2.2.2 p (by omega) (by omega)
    have hPw := hw.2.2.2.2.2 p (by omega) (by omega)
    have hO2 := pO sT pT (p := q) (by omega) (by omega)
    have hPt2 := hc.2.2.2.2.2 q (by omega) (by omega)
    have hPw2 := hw.2.2.2.2.2 q (by omega) (by omega)
    refine z_iload_n dX5_isAlike_40 rfl ?_
    refine z_aload_n dX5_isAlike_41 rfl ?_
    refine z_gIv 1 rfl flX5_15 dX5_isAlike_42 hO.1 rfl hPt.1 ?_
    refine z_icmp_ge (tgt := 71) dX5_isAlike_45 rfl (fun h => absurd h (by omega)) (fun h45 => ?_)
    refine z_aload_n dX5_isAlike_48 rfl ?_
    refine z_gP 0 rfl (r := m (t + 6) p + 1) flX5_9 dX5_isAlike_49 hO.1 rfl hO.2.2.1 (by omega) ?_
    refine z_iload_n dX5_isAlike_52 rfl ?_
    refine z_ialv dX5_isAlike_53 hO.2.1 (by omega) (by omega) (hPt.2.2.2 k h0 (by omega)) ?_
    refine z_aload_n dX5_isAlike_54 rfl ?_
    refine z_gP 0 rfl (r := m (t + 6) q + 1) flX5_9 dX5_isAlike_55 hO2.1 rfl hO2.2.2.1 (by omega) ?_
    refine z_iload_n dX5_isAlike_58 rfl ?_
    refine z_ialv dX5_isAlike_59 hO2.2.1 (by omega) (by omega) (hPt2.2.2.2 k h0 (by omega)) ?_
    refine z_icmp_eq (tgt := 65) dX5_isAlike_60 rfl (fun h60 => ?_) (fun h60 => ?_)
    · refine z_inc dX5_isAlike_65 rfl (by omega) ?_
      refine z_goto (tgt := 40) dX5_isAlike_68 rfl ?_
      try dsimp only [zs0, zsI, zsP, zsN, zsJ, zsS, zst2, Nat.reduceAdd]
      rw [zfst_f (by rw [decide_eq_false_iff_not]; omega)] at hP
      exact ih (k + 1) (by omega) (by omega) hP
    · refine z_iconst dX5_isAlike_63 (by decide) ?_
      refine z_zret dX5_isAlike_64 rfl (by first | omega | exact zb01 _) rfl ?_
      rw [zfst_t (by rw [decide_eq_true_eq]; omega), zb_f (by omega)] at hP
      exact hP

theorem c_isAlike (d : Nat) {E : zE} {m : zM} (t : Int) (t0 : 0 < t) (sT : shT E t) (pT : ptT m t) (c : Int → Int) (hw : wfD c) (hc : cTh m t c) (p q : Int) (p0 : 0 ≤ p) (p1 : p < c 2) (q0 : 0 ≤ q) (q1 : q < c 2) : zR zX5_isAlike (d) [zP (m (t + 6) p), zP (m (t + 6) q)] m E E (fun r m' => r = some (zI (zb (cAlike c p q = true))) ∧ m = m') := by
  have b1 := hw.1
  have b2 := hw.2.1
  have b3 := hw.2.2.1
  have hO := pO sT pT (p := p) (by omega) (by omega)
  have hPt := hc.2.2.2.2.2 p (by omega) (by omega)
  have hPw := hw.2.2.2.2.2 p (by omega) (by omega)
  have hO2 := pO sT pT (p := q) (by omega) (by omega)
  have hPt2 := hc.2.2.2.2.2 q (by omega) (by omega)
  have hPw2 := hw.2.2.2.2.2 q (by omega) (by omega)
  refine zR_go [zP (m (t + 6) p), zP (m (t + 6) q), zN] (by decide +kernel) (Nat.le_of_ble_eq_true rfl) rfl rfl ?_
  refine z_aload_n dX5_isAlike_0 rfl ?_
  refine z_gIv 2 rfl flX5_19 dX5_isAlike_1 hO.1 rfl hPt.2.1 ?_
  refine z_if_eq (tgt := 36) dX5_isAlike_4 rfl (fun h4 => ?_) (fun h4 => ?_)
  · refine z_iconst dX5_isAlike_36 (by decide) ?_
    refine z_zret dX5_isAlike_37 rfl (by first | omega | exact zb01 _) rfl ?_
    refine ⟨?_, rfl⟩
    rw [zb_f (fun h => by have := cAlike_iff.mp h; omega)]
  · refine z_aload_n dX5_isAlike_7 rfl ?_
    refine z_gIv 2 rfl flX5_19 dX5_isAlike_8 hO2.1 rfl hPt2.2.1 ?_
    refine z_if_eq (tgt := 36) dX5_isAlike_11 rfl (fun h11 => ?_) (fun h11 => ?_)
    · refine z_iconst dX5_isAlike_36 (by decide) ?_
      refine z_zret dX5_isAlike_37 rfl (by first | omega | exact zb01 _) rfl ?_
      refine ⟨?_, rfl⟩
      rw [zb_f (fun h => by have := cAlike_iff.mp h; omega)]
    · refine z_aload_n dX5_isAlike_14 rfl ?_
      refine z_gIv 3 rfl flX5_23 dX5_isAlike_15 hO.1 rfl hPt.2.2.1 ?_
      refine z_aload_n dX5_isAlike_18 rfl ?_
      refine z_gIv 3 rfl flX5_23 dX5_isAlike_19 hO2.1 rfl hPt2.2.2.1 ?_
      refine z_icmp_ne (tgt := 36) dX5_isAlike_22 rfl (fun h22 => ?_) (fun h22 => ?_)
      · refine z_iconst dX5_isAlike_36 (by decide) ?_
        refine z_zret dX5_isAlike_37 rfl (by first | omega | exact zb01 _) rfl ?_
        refine ⟨?_, rfl⟩
        rw [zb_f (fun h => by have := cAlike_iff.mp h; omega)]
      · refine z_aload_n dX5_isAlike_25 rfl ?_
        refine z_gIv 1 rfl flX5_15 dX5_isAlike_26 hO.1 rfl hPt.1 ?_
        refine z_aload_n dX5_isAlike_29 rfl ?_
        refine z_gIv 1 rfl flX5_15 dX5_isAlike_30 hO2.1 rfl hPt2.1 ?_
        refine z_icmp_eq (tgt := 38) dX5_isAlike_33 rfl (fun h33 => ?_) (fun h33 => ?_)
        · refine z_iconst dX5_isAlike_38 (by decide) ?_
          refine z_ist 2 dX5_isAlike_39 rfl (Nat.le_of_ble_eq_true rfl) ?_
          try dsimp only [zs0, zsI, zsP, zsN, zsJ, zsS, zst2, Nat.reduceAdd]
          refine l_isAlike d t t0 sT pT c hw hc p q p0 p1 q0 q1 (by omega) (c (32 + 9 * p)).toNat 0 (by omega) (by omega) ⟨?_, rfl⟩
          rw [zb_congr (cAlike_iff.trans ⟨fun h => h.2, fun h => ⟨⟨by omega, by omega, by omega, by omega⟩, h⟩⟩)]
        · refine z_iconst dX5_isAlike_36 (by decide) ?_
          refine z_zret dX5_isAlike_37 rfl (by first | omega | exact zb01 _) rfl ?_
          refine ⟨?_, rfl⟩
          rw [zb_f (fun h => by have := cAlike_iff.mp h; omega)]

theorem l_alikeUpTo (d : Nat) {E : zE} {m : zM} {P : Option zV → zM → Prop} (t : Int) (t0 : 0 < t) (sT : shT E t) (pT : ptT m t) (c : Int → Int) (hw : wfD c) (hc : cTh m t c) (p : Int) (p0 : 0 ≤ p) (p1 : p < c 2) (e : Int) (e0 : 0 ≤ e) (he : e ≤ c 2) : ∀ (j : Nat) (k a : Int), (0 ≤ k) → (k + j = e) → (0 ≤ a ∧ a ≤ k) → (P (some (zI (a + zsum (fun q => zb (cAlike c p q = true)) j k))) m) → zA zX7_alikeUpTo (d + 1) E E P 5 [zP t, zI p, zI e, zI a, zI k] [] m E := by
  intro j
  induction j with
  | zero =>
    intro k a k0 hk ha hP
    have b1 := hw.1
    have b2 := hw.2.1
    have b3 := hw.2.2.1
    have hO := pO sT pT (p := p) (by omega) (by omega)
    have hPt := hc.2.2.2.2.2 p (by omega) (by omega)
    have hPw := hw.2.2.2.2.2 p (by omega) (by omega)
    refine z_iload dX7_alikeUpTo_5 rfl ?_
    refine z_iload_n dX7_alikeUpTo_7 rfl ?_
    refine z_icmp_ge (tgt := 39) dX7_alikeUpTo_8 rfl (fun h8 => ?_) (fun h => absurd (by omega) h)
    refine z_iload_n dX7_alikeUpTo_39 rfl ?_
    refine z_iret dX7_alikeUpTo_40 rfl rfl ?_
    rw [zsum_0, Int.add_zero] at hP
    exact hP
  | succ j ih =>
    intro k a k0 hk ha hP
    have b1 := hw.1
    have b2 := hw.2.1
    have b3 := hw.2.2.1
    have hO := pO sT pT (p := p) (by omega) (by omega)
    have hPt := hc.2.2.2.2.2 p (by omega) (by omega)
    have hPw := hw.2.2.2.2.2 p (by omega) (by omega)
    refine z_iload dX7_alikeUpTo_5 rfl ?_
    refine z_iload_n dX7_alikeUpTo_7 rfl ?_
    refine z_icmp_ge (tgt := 39) dX7_alikeUpTo_8 rfl (fun h => absurd h (by omega)) (fun h8 => ?_)
    refine z_aload_n dX7_alikeUpTo_11 rfl ?_
    refine z_gP 5 rfl (r := (t + 6)) flX7_30 dX7_alikeUpTo_12 (sT0 sT) rfl (pT5 pT) (by omega) ?_
    refine z_iload_n dX7_alikeUpTo_15 rfl ?_
    refine z_aald dX7_alikeUpTo_16 (sT6 sT) (by omega) (by omega) rfl (by omega) ?_
    refine z_aload_n dX7_alikeUpTo_17 rfl ?_
    refine z_gP 5 rfl (r := (t + 6)) flX7_30 dX7_alikeUpTo_18 (sT0 sT) rfl (pT5 pT) (by omega) ?_
    refine z_iload dX7_alikeUpTo_21 rfl ?_
    have hO2 := pO sT pT (p := k) (by omega) (by omega)
    have hPt2 := hc.2.2.2.2.2 k (by omega) (by omega)
    have hPw2 := hw.2.2.2.2.2 k (by omega) (by omega)
    refine z_aald dX7_alikeUpTo_23 (sT6 sT) (by omega) (by omega) rfl (by omega) ?_
    refine z_callV mlX7_120 dX7_alikeUpTo_24 hO.1 (av := [_]) rfl rfl (Nat.le_of_ble_eq_true rfl) (c_isAlike _ t t0 sT pT c hw hc p k p0 p1 (by omega) (by omega)) (Nat.le_refl _) (Nat.le_refl _) (Nat.le_refl _) (Nat.le_refl _) ?_
    rintro _ _ ⟨rfl, rfl⟩
    refine z_ifz_eq (tgt := 33) dX7_alikeUpTo_27 rfl (fun h27 => ?_) (fun h27 => ?_)
    · refine z_inc dX7_alikeUpTo_33 rfl (by omega) ?_
      refine z_goto (tgt := 5) dX7_alikeUpTo_36 rfl ?_
      try dsimp only [zs0, zsI, zsP, zsN, zsJ, zsS, zst2, Nat.reduceAdd]
      rw [zsum_s, ← Int.add_assoc, zb_f h27] at hP
      rw [Int.add_zero] at hP
      exact ih (k + 1) _ (by omega) (by omega) (by omega) hP
    · refine z_inc dX7_alikeUpTo_30 rfl (by omega) ?_
      refine z_inc dX7_alikeUpTo_33 rfl (by omega) ?_
      refine z_goto (tgt := 5) dX7_alikeUpTo_36 rfl ?_
      try dsimp only [zs0, zsI, zsP, zsN, zsJ, zsS, zst2, Nat.reduceAdd]
      rw [zsum_s, ← Int.add_assoc, zb_t h27] at hP
      exact ih (k + 1) _ (by omega) (by omega) (by omega) hP

theorem c_alikeUpTo (d : Nat) {E : zE} {m : zM} (t : Int) (t0 : 0 < t) (sT : shT E t) (pT : ptT m t) (c : Int → Int) (hw : wfD c) (hc : cTh m t c) (p : Int) (p0 : 0 ≤ p) (p1 : p < c 2) (e : Int) (e0 : 0 ≤ e) (he : e ≤ c 2) : zR zX7_alikeUpTo (d + 1) [zP t, zI p, zI e] m E E (fun r m' => r = some (zI (zsum (fun q => zb (cAlike c p q = true)) e.toNat 0)) ∧ m = m') := by
  have b1 := hw.1
  have b2 := hw.2.1
  have b3 := hw.2.2.1
  refine zR_go [zP t, zI p, zI e, zN, zN] (by decide +kernel) (Nat.le_of_ble_eq_true rfl) rfl rfl ?_
  refine z_iconst dX7_alikeUpTo_0 (by decide) ?_
  refine z_ist 3 dX7_alikeUpTo_1 rfl (Nat.le_of_ble_eq_true rfl) ?_
  refine z_iconst dX7_alikeUpTo_2 (by decide) ?_
  refine z_istore dX7_alikeUpTo_3 (Nat.le_of_ble_eq_true rfl) ?_
  try dsimp only [zs0, zsI, zsP, zsN, zsJ, zsS, zst2, Nat.reduceAdd]
  exact l_alikeUpTo d t t0 sT pT c hw hc p p0 p1 e e0 he e.toNat 0 0 (by omega) (by omega) (by omega) ⟨by rw [Int.zero_add], rfl⟩

theorem c_pointFact (d : Nat) {E : zE} {m : zM} (t : Int) (t0 : 0 < t) (sT : shT E t) (pT : ptT m t) (c : Int → Int) (hw : wfD c) (hc : cTh m t c) (p v : Int) (p0 : 0 ≤ p) (p1 : p < c 2) (v0 : 0 ≤ v) (v4 : v ≤ 4) : zR zX7_pointFact (d + 2) [zP t, zI p, zI v] m E E (fun r m' => r = some (zI (if v < 3 then c (32 + 9 * p + v) else if v = 3 then zsum (fun q => c (32 + 9 * q)) p.toNat 0 else zsum (fun q => zb (cAlike c p q = true)) (c 2).toNat 0)) ∧ m = m') := by
  have b1 := hw.1
  have b2 := hw.2.1
  have b3 := hw.2.2.1
  have hO := pO sT pT (p := p) (by omega) (by omega)
  have hPt := hc.2.2.2.2.2 p (by omega) (by omega)
  have hPw := hw.2.2.2.2.2 p (by omega) (by omega)
  refine zR_go [zP t, zI p, zI v] (by decide +kernel) (Nat.le_of_ble_eq_true rfl) rfl rfl ?_
  refine z_iload_n dX7_pointFact_0 rfl ?_
  by_cases hs0 : v = 0
  · refine z_tabIn (tgt := 32) dX7_pointFact_1 (by omega) (by omega) (by rw [hs0]; rfl) rfl ?_
    refine z_aload_n dX7_pointFact_32 rfl ?_
    refine z_gP 5 rfl (r := (t + 6)) flX7_30 dX7_pointFact_33 (sT0 sT) rfl (pT5 pT) (by omega) ?_
    refine z_iload_n dX7_pointFact_36 rfl ?_
    refine z_aald dX7_pointFact_37 (sT6 sT) (by omega) (by omega) rfl (by omega) ?_
    refine z_gIv 1 rfl flX7_75 dX7_pointFact_38 hO.1 rfl hPt.1 ?_
    refine z_iret dX7_pointFact_41 rfl rfl ?_
    exact ⟨by rw [if_pos (by omega), hs0, Int.add_zero], rfl⟩
  by_cases hs1 : v = 1
  · refine z_tabIn (tgt := 42) dX7_pointFact_1 (by omega) (by omega) (by rw [hs1]; rfl) rfl ?_
    refine z_aload_n dX7_pointFact_42 rfl ?_
    refine z_gP 5 rfl (r := (t + 6)) flX7_30 dX7_pointFact_43 (sT0 sT) rfl (pT5 pT) (by omega) ?_
    refine z_iload_n dX7_pointFact_46 rfl ?_
    refine z_aald dX7_pointFact_47 (sT6 sT) (by omega) (by omega) rfl (by omega) ?_
    refine z_gIv 2 rfl flX7_101 dX7_pointFact_48 hO.1 rfl hPt.2.1 ?_
    refine z_if_eq (tgt := 58) dX7_pointFact_51 rfl (fun h51 => ?_) (fun h51 => ?_)
    · refine z_iconst dX7_pointFact_58 (by decide) ?_
      refine z_iret dX7_pointFact_59 rfl rfl ?_
      refine ⟨?_, rfl⟩
      rw [if_pos (by omega), hs1, show c (32 + 9 * p + 1) = 0 by omega]
    · refine z_iconst dX7_pointFact_54 (by decide) ?_
      refine z_goto (tgt := 59) dX7_pointFact_55 rfl ?_
      refine z_iret dX7_pointFact_59 rfl rfl ?_
      refine ⟨?_, rfl⟩
      rw [if_pos (by omega), hs1, show c (32 + 9 * p + 1) = 1 by omega]
  by_cases hs2 : v = 2
  · refine z_tabIn (tgt := 60) dX7_pointFact_1 (by omega) (by omega) (by rw [hs2]; rfl) rfl ?_
    refine z_aload_n dX7_pointFact_60 rfl ?_
    refine z_gP 5 rfl (r := (t + 6)) flX7_30 dX7_pointFact_61 (sT0 sT) rfl (pT5 pT) (by omega) ?_
    refine z_iload_n dX7_pointFact_64 rfl ?_
    refine z_aald dX7_pointFact_65 (sT6 sT) (by omega) (by omega) rfl (by omega) ?_
    refine z_gIv 3 rfl flX7_85 dX7_pointFact_66 hO.1 rfl hPt.2.2.1 ?_
    refine z_if_eq (tgt := 76) dX7_pointFact_69 rfl (fun h69 => ?_) (fun h69 => ?_)
    · refine z_iconst dX7_pointFact_76 (by decide) ?_
      refine z_iret dX7_pointFact_77 rfl rfl ?_
      refine ⟨?_, rfl⟩
      rw [if_pos (by omega), hs2, show c (32 + 9 * p + 2) = 0 by omega]
    · refine z_iconst dX7_pointFact_72 (by decide) ?_
      refine z_goto (tgt := 77) dX7_pointFact_73 rfl ?_
      refine z_iret dX7_pointFact_77 rfl rfl ?_
      refine ⟨?_, rfl⟩
      rw [if_pos (by omega), hs2, show c (32 + 9 * p + 2) = 1 by omega]
  by_cases hs3 : v = 3
  · refine z_tabIn (tgt := 78) dX7_pointFact_1 (by omega) (by omega) (by rw [hs3]; rfl) rfl ?_
    refine z_aload_n dX7_pointFact_78 rfl ?_
    refine z_iload_n dX7_pointFact_79 rfl ?_
    refine z_callV mlX7_114 dX7_pointFact_80 (sT0 sT) (av := [_]) rfl rfl (Nat.le_of_ble_eq_true rfl) (c_firstLetter _ t t0 sT pT c hw hc p p0 (by omega)) (Nat.le_refl _) (Nat.le_refl _) (Nat.le_refl _) (Nat.le_refl _) ?_
    rintro _ _ ⟨rfl, rfl⟩
    refine z_iret dX7_pointFact_83 rfl rfl ?_
    exact ⟨by rw [if_neg (by omega), if_pos hs3]; rfl, rfl⟩
  refine z_tabOut (tgt := 84) dX7_pointFact_1 (by omega) rfl ?_
  refine z_aload_n dX7_pointFact_84 rfl ?_
  refine z_iload_n dX7_pointFact_85 rfl ?_
  refine z_aload_n dX7_pointFact_86 rfl ?_
  refine z_gIv 13 rfl flX7_57 dX7_pointFact_87 (sT0 sT) rfl hc.2.2.1 ?_
  refine z_callV mlX7_117 dX7_pointFact_90 (sT0 sT) (av := [_, _]) rfl rfl (Nat.le_of_ble_eq_true rfl) (c_alikeUpTo _ t t0 sT pT c hw hc p p0 p1 (c 2) (by omega) (by omega)) (Nat.le_refl _) (Nat.le_refl _) (Nat.le_refl _) (Nat.le_refl _) ?_
  rintro _ _ ⟨rfl, rfl⟩
  refine z_iret dX7_pointFact_93 rfl rfl ?_
  exact ⟨by rw [if_neg (by omega), if_neg (by omega)], rfl⟩
