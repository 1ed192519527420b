/-- orders of like letters of a point -/
def oPt (c : Int → Int) (p : Int) : Nat → Int
  | 0 => 1
  | i + 1 => oPt c p i * (1 + zsum (fun j => zb (c (32 + 9 * p + 3 + j) = c (32 + 9 * p + 3 + (i : Int)))) i 0)
theorem oPt_bd (c : Int → Int) (p : Int) : ∀ i, 1 ≤ oPt c p i ∧ oPt c p i ≤ fac i
  | 0 => ⟨Int.le_refl _, Int.le_refl _⟩
  | i + 1 => by
    have ih := oPt_bd c p i
    have h1 : 0 ≤ zsum (fun j => zb (c (32 + 9 * p + 3 + j) = c (32 + 9 * p + 3 + (i : Int)))) i 0 := zsum_nn (fun j _ _ => by have := zb01 (c (32 + 9 * p + 3 + j) = c (32 + 9 * p + 3 + (i : Int))); omega)
    have h2 : zsum (fun j => zb (c (32 + 9 * p + 3 + j) = c (32 + 9 * p + 3 + (i : Int)))) i 0 ≤ zsum (fun _ => 1) i 0 := zsum_le (fun j _ _ => by have := zb01 (c (32 + 9 * p + 3 + j) = c (32 + 9 * p + 3 + (i : Int))); omega)
    rw [zsum_k1] at h2
    show 1 ≤ oPt c p i * (1 + _) ∧ oPt c p i * (1 + _) ≤ ((i : Int) + 1) * fac i
    generalize zsum (fun j => zb (c (32 + 9 * p + 3 + j) = c (32 + 9 * p + 3 + (i : Int)))) i 0 = z at *
    have a := Int.mul_le_mul ih.2 (show 1 + z ≤ (i : Int) + 1 by omega) (by omega) (by have := fac_1 i; omega)
    have b := Int.mul_le_mul ih.1 (show (1 : Int) ≤ 1 + z by omega) (by omega) (by omega)
    rw [Int.mul_comm (fac i)] at a
    omega
/-- and of like vertices -/
def oTh (c : Int → Int) : Nat → Int
  | 0 => 1
  | p + 1 => oTh c p * oPt c (p : Int) (c (32 + 9 * (p : Int))).toNat * (if c (32 + 9 * (p : Int) + 1) = 1 then zsum (fun q => zb (cAlike c (p : Int) q = true)) (p + 1) 0 else 1)
def pw4 : Nat → Int
  | 0 => 1
  | k + 1 => 4 * pw4 k
theorem pw4_1 : ∀ k, 1 ≤ pw4 k
  | 0 => by decide
  | k + 1 => by have := pw4_1 k; show 1 ≤ 4 * pw4 k; omega
theorem pw4_a : ∀ a b, pw4 (a + b) = pw4 a * pw4 b
  | a, 0 => by show pw4 a = pw4 a * 1; omega
  | a, b + 1 => by
    show 4 * pw4 (a + b) = pw4 a * (4 * pw4 b)
    rw [pw4_a a b, Int.mul_left_comm]
theorem pw4_m {a b : Nat} (h : a ≤ b) : pw4 a ≤ pw4 b := by
  obtain ⟨k, rfl⟩ := Nat.le.dest h
  rw [pw4_a]
  have h1 := pw4_1 a
  have h2 := pw4_1 k
  have := Int.mul_le_mul_of_nonneg_left h2 (show 0 ≤ pw4 a by omega)
  omega
theorem fac_4 : ∀ s, s < 7 → fac s ≤ pw4 s := by decide
def vcn (c : Int → Int) (p : Nat) : Nat := (zsum (fun q => zb (c (32 + 9 * q + 1) = 1)) p 0).toNat
theorem vcn_nn (c : Int → Int) (p : Nat) : 0 ≤ zsum (fun q => zb (c (32 + 9 * q + 1) = 1)) p 0 := zsum_nn (fun q _ _ => by have := zb01 (c (32 + 9 * q + 1) = 1); omega)
theorem vcn_s (c : Int → Int) (p : Nat) : ((vcn c (p + 1) : Nat) : Int) = (vcn c p : Int) + zb (c (32 + 9 * (p : Int) + 1) = 1) := by
  have h1 := vcn_nn c p
  have h2 := zb01 (c (32 + 9 * (p : Int) + 1) = 1)
  unfold vcn
  rw [zsum_app, zsum_s, zsum_0, Int.zero_add, Int.add_zero]
  omega
theorem oTh_rg {c : Int → Int} (hw : wfC c) : ∀ p : Nat, (p : Int) ≤ c 2 → (0 ≤ oTh c p ∧ oTh c p ≤ pw4 (cPre c p).toNat * fac (vcn c p)) ∧ ((p : Int) < c 2 → 0 ≤ oTh c p * oPt c (p : Int) (c (32 + 9 * (p : Int))).toNat ∧ oTh c p * oPt c (p : Int) (c (32 + 9 * (p : Int))).toNat ≤ pw4 (cPre c (p + 1)).toNat * fac (vcn c p)) := by
  have mid : ∀ p : Nat, (p : Int) < c 2 → (0 ≤ oTh c p ∧ oTh c p ≤ pw4 (cPre c p).toNat * fac (vcn c p)) → 0 ≤ oTh c p * oPt c (p : Int) (c (32 + 9 * (p : Int))).toNat ∧ oTh c p * oPt c (p : Int) (c (32 + 9 * (p : Int))).toNat ≤ pw4 (cPre c (p + 1)).toNat * fac (vcn c p) := fun p hp h => by
    have hs := (hw.2.2.2.2.2 (p : Int) (by omega) hp).1
    have ho := oPt_bd c (p : Int) (c (32 + 9 * (p : Int))).toNat
    have hf := fac_4 (c (32 + 9 * (p : Int))).toNat (by omega)
    have f1 := fac_1 (vcn c p)
    have g1 := pw4_1 (cPre c p).toNat
    have hp0 := cPre_mono hw (a := 0) (b := p) (by omega) (by omega)
    have e0 : cPre c 0 = 0 := rfl
    have e : (cPre c (p + 1)).toNat = (cPre c p).toNat + (c (32 + 9 * (p : Int))).toNat := by rw [cPre_s]; omega
    have m1 := Int.mul_le_mul h.2 (show oPt c (p : Int) (c (32 + 9 * (p : Int))).toNat ≤ pw4 (c (32 + 9 * (p : Int))).toNat by omega) (by omega) (Int.mul_nonneg (by omega) (by omega))
    refine ⟨Int.mul_nonneg h.1 (by omega), Int.le_trans m1 (Int.le_of_eq ?_)⟩
    rw [e, pw4_a, Int.mul_assoc, Int.mul_comm (fac (vcn c p)), ← Int.mul_assoc]
  intro p
  induction p with
  | zero =>
    intro hp
    have h : 0 ≤ oTh c 0 ∧ oTh c 0 ≤ pw4 (cPre c 0).toNat * fac (vcn c 0) := ⟨by show (0 : Int) ≤ 1; decide, by show (1 : Int) ≤ 1 * 1; decide⟩
    exact ⟨h, fun z => mid 0 z h⟩
  | succ p ih =>
    intro hp
    have a := (ih (by omega)).2 (by omega)
    have f1 := fac_1 (vcn c p)
    have g1 := pw4_1 (cPre c (p + 1)).toNat
    have h : 0 ≤ oTh c (p + 1) ∧ oTh c (p + 1) ≤ pw4 (cPre c (p + 1)).toNat * fac (vcn c (p + 1)) := by
      show 0 ≤ oTh c p * oPt c (p : Int) (c (32 + 9 * (p : Int))).toNat * (if c (32 + 9 * (p : Int) + 1) = 1 then zsum (fun q => zb (cAlike c (p : Int) q = true)) (p + 1) 0 else 1) ∧ oTh c p * oPt c (p : Int) (c (32 + 9 * (p : Int))).toNat * (if c (32 + 9 * (p : Int) + 1) = 1 then zsum (fun q => zb (cAlike c (p : Int) q = true)) (p + 1) 0 else 1) ≤ _
      have vs := vcn_s c p
      by_cases e : c (32 + 9 * (p : Int) + 1) = 1
      · rw [if_pos e]
        rw [zb_t e] at vs
        have z0 : 0 ≤ zsum (fun q => zb (cAlike c (p : Int) q = true)) (p + 1) 0 := zsum_nn (fun q _ _ => by have := zb01 (cAlike c (p : Int) q = true); omega)
        have z1 : zsum (fun q => zb (cAlike c (p : Int) q = true)) (p + 1) 0 ≤ zsum (fun q => zb (c (32 + 9 * q + 1) = 1)) (p + 1) 0 := zsum_le (fun q _ _ => by
          by_cases y : cAlike c (p : Int) q = true
          · rw [zb_t y, zb_t (cAlike_iff.mp y).1.2.1]; exact Int.le_refl _
          · rw [zb_f y]; have := zb01 (c (32 + 9 * q + 1) = 1); omega)
        have z2 : zsum (fun q => zb (c (32 + 9 * q + 1) = 1)) (p + 1) 0 = (vcn c (p + 1) : Int) := by unfold vcn; have := vcn_nn c (p + 1); omega
        have ef : fac (vcn c (p + 1)) = ((vcn c p : Int) + 1) * fac (vcn c p) := by rw [show vcn c (p + 1) = vcn c p + 1 by omega]; rfl
        have m1 := Int.mul_le_mul a.2 (show zsum (fun q => zb (cAlike c (p : Int) q = true)) (p + 1) 0 ≤ (vcn c p : Int) + 1 by omega) z0 (Int.mul_nonneg (by omega) (by omega))
        refine ⟨Int.mul_nonneg a.1 z0, Int.le_trans m1 (Int.le_of_eq ?_)⟩
        rw [ef, Int.mul_assoc, Int.mul_comm (fac (vcn c p))]
      · rw [if_neg e, Int.mul_one]
        rw [zb_f e, Int.add_zero] at vs
        rw [show vcn c (p + 1) = vcn c p by omega]
        exact a
    exact ⟨h, fun z => mid (p + 1) z h⟩
theorem cap_bd {c : Int → Int} {p q : Nat} (hw : wfC c) (hp : (p : Int) ≤ c 2) (hq : (q : Int) ≤ c 2) (hT : cPre c (c 2).toNat ≤ 12) (hV : zsum (fun p => zb (c (32 + 9 * p + 1) = 1)) (c 2).toNat 0 ≤ 5) : pw4 (cPre c p).toNat * fac (vcn c q) ≤ 2013265920 := by
  have h1 := cPre_mono hw (a := p) (b := (c 2).toNat) (by omega) (by omega)
  have h2 : vcn c q ≤ 5 := by
    have : zsum (fun p => zb (c (32 + 9 * p + 1) = 1)) (c 2).toNat 0 = zsum (fun p => zb (c (32 + 9 * p + 1) = 1)) (q + ((c 2).toNat - q)) 0 := by rw [show q + ((c 2).toNat - q) = (c 2).toNat by omega]
    rw [zsum_app] at this
    have h3 : 0 ≤ zsum (fun p => zb (c (32 + 9 * p + 1) = 1)) ((c 2).toNat - q) (0 + (q : Int)) := zsum_nn (fun q _ _ => by have := zb01 (c (32 + 9 * q + 1) = 1); omega)
    unfold vcn
    omega
  have a := pw4_m (show (cPre c p).toNat ≤ 12 by omega)
  have b := fac_m h2
  have e1 : pw4 12 = 16777216 := by decide
  have e2 : fac 5 = 120 := by decide
  have := Int.mul_le_mul a b (by have := fac_1 (vcn c q); omega) (by omega)
  rw [e1, e2] at this
  omega
theorem oTh_bd {c : Int → Int} (hw : wfC c) (p : Nat) (hp : (p : Int) ≤ c 2) (hT : cPre c (c 2).toNat ≤ 12) (hV : zsum (fun p => zb (c (32 + 9 * p + 1) = 1)) (c 2).toNat 0 ≤ 5) : 0 ≤ oTh c p ∧ oTh c p ≤ 2013265920 := by
  have h := (oTh_rg hw p hp).1
  have := cap_bd hw hp hp hT hV
  omega
theorem oTh_mid {c : Int → Int} (hw : wfC c) (p : Nat) (hp : (p : Int) < c 2) (hT : cPre c (c 2).toNat ≤ 12) (hV : zsum (fun p => zb (c (32 + 9 * p + 1) = 1)) (c 2).toNat 0 ≤ 5) : 0 ≤ oTh c p * oPt c (p : Int) (c (32 + 9 * (p : Int))).toNat ∧ oTh c p * oPt c (p : Int) (c (32 + 9 * (p : Int))).toNat ≤ 2013265920 := by
  have h := (oTh_rg hw p (by omega)).2 hp
  have := cap_bd hw (p := p + 1) (q := p) (by omega) (by omega) hT hV
  omega
theorem l_pOrdIn (d : Nat) {E : zE} {m : zM} {P : Option zV → zM → Prop} (t : Int) (t0 : 0 < t) (sT : shT E t) (pT : ptT m t) (c : Int → Int) (hw : wfC c) (hc : cTh m t c) (p : Int) (p0 : 0 ≤ p) (p1 : p < c 2) (i : Nat) (hi : (i : Int) < c (32 + 9 * p)) (pr : Int) : ∀ (j : Nat) (k : Nat) (sm : Int), (k + j = i) → (1 ≤ sm ∧ sm ≤ 1 + k) → (zA zX5_orders d E E P 48 [zP (m (t + 6) p), zI pr, zI (i : Nat), zI (sm + zsum (fun j => zb (c (32 + 9 * p + 3 + j) = c (32 + 9 * p + 3 + (i : Int)))) j (k : Int)), zN] [] m E) → zA zX5_orders (d) E E P 17 [zP (m (t + 6) p), zI pr, zI (i : Nat), zI sm, zI (k : Nat)] [] m E := by
  intro j
  induction j with
  | zero =>
    intro k sm hj hs hP
    have hc2 := hw.2.2.1
    have hO := pO sT pT p0 (by omega : p < 8)
    have hPt := hc.2.2.2.2.2 p p0 p1
    have hsz := (hw.2.2.2.2.2 p p0 p1).1
    refine z_iload dX5_orders_17 rfl ?_
    refine z_iload_n dX5_orders_19 rfl ?_
    refine z_icmp_ge (tgt := 48) dX5_orders_20 rfl (fun h20 => ?_) (fun h => absurd (by omega) h)
    refine zA_wk [_, _, _, _, zN] (by exact ⟨Or.inr rfl, Or.inr rfl, Or.inr rfl, Or.inr rfl, Or.inl rfl, trivial⟩) ?_
    rw [zsum_0, Int.add_zero] at hP
    exact hP
  | succ j ih =>
    intro k sm hj hs hP
    have hc2 := hw.2.2.1
    have hO := pO sT pT p0 (by omega : p < 8)
    have hPt := hc.2.2.2.2.2 p p0 p1
    have hsz := (hw.2.2.2.2.2 p p0 p1).1
    refine z_iload dX5_orders_17 rfl ?_
    refine z_iload_n dX5_orders_19 rfl ?_
    refine z_icmp_ge (tgt := 48) dX5_orders_20 rfl (fun h => absurd h (by omega)) (fun h20 => ?_)
    refine z_aload_n dX5_orders_23 rfl ?_
    refine z_gP 0 rfl (r := m (t + 6) p + 1) flX5_9 dX5_orders_24 hO.1 rfl hO.2.2.1 (by omega) ?_
    refine z_iload dX5_orders_27 rfl ?_
    refine z_ialv (v := c (32 + 9 * p + 3 + (k : Int))) dX5_orders_29 hO.2.1 (by omega) (by omega) (hPt.2.2.2 (k : Int) (by omega) (by omega)) ?_
    refine z_aload_n dX5_orders_30 rfl ?_
    refine z_gP 0 rfl (r := m (t + 6) p + 1) flX5_9 dX5_orders_31 hO.1 rfl hO.2.2.1 (by omega) ?_
    refine z_iload_n dX5_orders_34 rfl ?_
    refine z_ialv (v := c (32 + 9 * p + 3 + (i : Int))) dX5_orders_35 hO.2.1 (by omega) (by omega) (hPt.2.2.2 (i : Int) (by omega) (by omega)) ?_
    refine z_icmp_ne (tgt := 42) dX5_orders_36 rfl (fun h36 => ?_) (fun h36 => ?_)
    · refine z_inc dX5_orders_42 rfl (by omega) ?_
      refine z_goto (tgt := 17) dX5_orders_45 rfl ?_
      try dsimp only [zs0, zsI, zsP, zsN, zsJ, zsS, zst2, Nat.reduceAdd]
      rw [zsum_s, ← Int.add_assoc, zb_f (by omega), show (k : Int) + 1 = ((k + 1 : Nat) : Int) by omega, Int.add_zero] at hP
      rw [show (k : Int) + 1 = ((k + 1 : Nat) : Int) by omega]
      exact ih (k + 1) _ (by omega) (by omega) hP
    · refine z_inc dX5_orders_39 rfl (by omega) ?_
      refine z_inc dX5_orders_42 rfl (by omega) ?_
      refine z_goto (tgt := 17) dX5_orders_45 rfl ?_
      try dsimp only [zs0, zsI, zsP, zsN, zsJ, zsS, zst2, Nat.reduceAdd]
      rw [zsum_s, ← Int.add_assoc, zb_t (by omega), show (k : Int) + 1 = ((k + 1 : Nat) : Int) by omega] at hP
      rw [show (k : Int) + 1 = ((k + 1 : Nat) : Int) by omega]
      exact ih (k + 1) _ (by omega) (by omega) hP

theorem l_pOrd (d : Nat) {E : zE} {m : zM} {P : Option zV → zM → Prop} (t : Int) (t0 : 0 < t) (sT : shT E t) (pT : ptT m t) (c : Int → Int) (hw : wfC c) (hc : cTh m t c) (p : Int) (p0 : 0 ≤ p) (p1 : p < c 2) : ∀ (j : Nat) (i : Nat), (i + j = (c (32 + 9 * p)).toNat) → (P (some (zI (oPt c p (c (32 + 9 * p)).toNat))) m) → zA zX5_orders (d) E E P 4 [zP (m (t + 6) p), zI (oPt c p i), zI (i : Nat), zN, zN] [] m E := by
  intro j
  induction j with
  | zero =>
    intro i hj hP
    have hc2 := hw.2.2.1
    have hO := pO sT pT p0 (by omega : p < 8)
    have hPt := hc.2.2.2.2.2 p p0 p1
    have hsz := (hw.2.2.2.2.2 p p0 p1).1
    refine z_iload_n dX5_orders_4 rfl ?_
    refine z_aload_n dX5_orders_5 rfl ?_
    refine z_gIv 1 rfl flX5_15 dX5_orders_6 hO.1 rfl hPt.1 ?_
    refine z_icmp_ge (tgt := 58) dX5_orders_9 rfl (fun h9 => ?_) (fun h => absurd (by omega) h)
    refine z_iload_n dX5_orders_58 rfl ?_
    refine z_iret dX5_orders_59 rfl rfl ?_
    rw [show (c (32 + 9 * p)).toNat = i by omega] at hP
    exact hP
  | succ j ih =>
    intro i hj hP
    have hc2 := hw.2.2.1
    have hO := pO sT pT p0 (by omega : p < 8)
    have hPt := hc.2.2.2.2.2 p p0 p1
    have hsz := (hw.2.2.2.2.2 p p0 p1).1
    refine z_iload_n dX5_orders_4 rfl ?_
    refine z_aload_n dX5_orders_5 rfl ?_
    refine z_gIv 1 rfl flX5_15 dX5_orders_6 hO.1 rfl hPt.1 ?_
    refine z_icmp_ge (tgt := 58) dX5_orders_9 rfl (fun h => absurd h (by omega)) (fun h9 => ?_)
    refine z_iconst dX5_orders_12 (by decide) ?_
    refine z_ist 3 dX5_orders_13 rfl (Nat.le_of_ble_eq_true rfl) ?_
    refine z_iconst dX5_orders_14 (by decide) ?_
    refine z_istore dX5_orders_15 (Nat.le_of_ble_eq_true rfl) ?_
    try dsimp only [zs0, zsI, zsP, zsN, zsJ, zsS, zst2, Nat.reduceAdd]
    refine l_pOrdIn d t t0 sT pT c hw hc p p0 p1 i (by omega) (oPt c p i) i 0 1 (by omega) (by omega) ?_
    have hb := oPt_bd c p (i + 1)
    have h6 := fac_m (show i + 1 ≤ 6 by omega)
    have e6 : fac 6 = 720 := by decide
    have es : oPt c p (i + 1) = oPt c p i * (1 + zsum (fun j => zb (c (32 + 9 * p + 3 + j) = c (32 + 9 * p + 3 + (i : Int)))) i ((0 : Nat) : Int)) := rfl
    refine z_iload_n dX5_orders_48 rfl ?_
    refine z_iload_n dX5_orders_49 rfl ?_
    refine z_mul dX5_orders_50 (by rw [← es]; omega) ?_
    rw [← es]
    refine z_ist 1 dX5_orders_51 rfl (Nat.le_of_ble_eq_true rfl) ?_
    refine z_inc dX5_orders_52 rfl (by omega) ?_
    refine z_goto (tgt := 4) dX5_orders_55 rfl ?_
    try dsimp only [zs0, zsI, zsP, zsN, zsJ, zsS, zst2, Nat.reduceAdd]
    refine zA_wk [_, _, _, zN, zN] ⟨Or.inr rfl, Or.inr rfl, Or.inr rfl, Or.inl rfl, Or.inl rfl, trivial⟩ ?_
    rw [show (i : Int) + 1 = ((i + 1 : Nat) : Int) by omega]
    exact ih (i + 1) (by omega) hP

theorem c_pOrders (d : Nat) {E : zE} {m : zM} (t : Int) (t0 : 0 < t) (sT : shT E t) (pT : ptT m t) (c : Int → Int) (hw : wfC c) (hc : cTh m t c) (p : Int) (p0 : 0 ≤ p) (p1 : p < c 2) : zR zX5_orders (d) [zP (m (t + 6) p)] m E E (fun r m' => r = some (zI (oPt c p (c (32 + 9 * p)).toNat)) ∧ m = m') := by
  refine zR_go [zP (m (t + 6) p), zN, zN, zN, zN] (by decide +kernel) (Nat.le_of_ble_eq_true rfl) rfl rfl ?_
  refine z_iconst dX5_orders_0 (by decide) ?_
  refine z_ist 1 dX5_orders_1 rfl (Nat.le_of_ble_eq_true rfl) ?_
  refine z_iconst dX5_orders_2 (by decide) ?_
  refine z_ist 2 dX5_orders_3 rfl (Nat.le_of_ble_eq_true rfl) ?_
  try dsimp only [zs0, zsI, zsP, zsN, zsJ, zsS, zst2, Nat.reduceAdd]
  refine zA_wk [_, _, _, zN, zN] (by exact ⟨Or.inr rfl, Or.inr rfl, Or.inr rfl, Or.inl rfl, Or.inl rfl, trivial⟩) ?_
  exact l_pOrd d t t0 sT pT c hw hc p p0 p1 (c (32 + 9 * p)).toNat 0 (by omega) ⟨rfl, rfl⟩

theorem l_tOrd (d : Nat) {E : zE} {m : zM} {P : Option zV → zM → Prop} (t : Int) (t0 : 0 < t) (sT : shT E t) (pT : ptT m t) (c : Int → Int) (hw : wfC c) (hc : cTh m t c) (hT : cPre c (c 2).toNat ≤ 12) (hV : zsum (fun p => zb (c (32 + 9 * p + 1) = 1)) (c 2).toNat 0 ≤ 5) : ∀ (j : Nat) (p : Nat), (p + j = (c 2).toNat) → (P (some (zI (oTh c (c 2).toNat))) m) → zA zX7_orders (d + 2) E E P 4 [zP t, zI (oTh c p), zI (p : Nat)] [] m E := by
  intro j
  induction j with
  | zero =>
    intro p hj hP
    have hc2 := hw.2.2.1
    refine z_iload_n dX7_orders_4 rfl ?_
    refine z_aload_n dX7_orders_5 rfl ?_
    refine z_gIv 13 rfl flX7_57 dX7_orders_6 (sT0 sT) rfl hc.2.2.1 ?_
    refine z_icmp_ge (tgt := 53) dX7_orders_9 rfl (fun h9 => ?_) (fun h => absurd (by omega) h)
    refine z_iload_n dX7_orders_53 rfl ?_
    refine z_iret dX7_orders_54 rfl rfl ?_
    rw [show (c 2).toNat = p by omega] at hP
    exact hP
  | succ j ih =>
    intro p hj hP
    have hc2 := hw.2.2.1
    have hO := pO sT pT (show (0 : Int) ≤ (p : Int) by omega) (by omega : (p : Int) < 8)
    have hPt := hc.2.2.2.2.2 (p : Int) (by omega) (by omega)
    have hb := oTh_bd hw (p + 1) (by omega) hT hV
    have hvx := (hw.2.2.2.2.2 (p : Int) (by omega) (by omega)).2
    have hb2 := oTh_mid hw p (by omega) hT hV
    refine z_iload_n dX7_orders_4 rfl ?_
    refine z_aload_n dX7_orders_5 rfl ?_
    refine z_gIv 13 rfl flX7_57 dX7_orders_6 (sT0 sT) rfl hc.2.2.1 ?_
    refine z_icmp_ge (tgt := 53) dX7_orders_9 rfl (fun h => absurd h (by omega)) (fun h9 => ?_)
    refine z_iload_n dX7_orders_12 rfl ?_
    refine z_aload_n dX7_orders_13 rfl ?_
    refine z_gP 5 rfl (r := t + 6) flX7_30 dX7_orders_14 (sT0 sT) rfl (pT5 pT) (by omega) ?_
    refine z_iload_n dX7_orders_17 rfl ?_
    refine z_aald dX7_orders_18 (sT6 sT) (by omega) (by omega) (r := m (t + 6) (p : Int)) rfl (by have := hO.2.2.2; omega) ?_
    refine z_callV mlX7_124 dX7_orders_19 hO.1 (av := _) rfl rfl (Nat.le_of_ble_eq_true rfl) (c_pOrders _ t t0 sT pT c hw hc (p : Int) (by omega) (by omega)) (Nat.le_refl _) (Nat.le_refl _) (Nat.le_refl _) (Nat.le_refl _) ?_
    rintro _ _ ⟨rfl, rfl⟩
    refine z_mul dX7_orders_22 (by omega) ?_
    refine z_ist 1 dX7_orders_23 rfl (Nat.le_of_ble_eq_true rfl) ?_
    refine z_aload_n dX7_orders_24 rfl ?_
    refine z_gP 5 rfl (r := t + 6) flX7_30 dX7_orders_25 (sT0 sT) rfl (pT5 pT) (by omega) ?_
    refine z_iload_n dX7_orders_28 rfl ?_
    refine z_aald dX7_orders_29 (sT6 sT) (by omega) (by omega) (r := m (t + 6) (p : Int)) rfl (by have := hO.2.2.2; omega) ?_
    refine z_gIv 2 rfl flX7_101 dX7_orders_30 hO.1 rfl hPt.2.1 ?_
    try dsimp only [zs0, zsI, zsP, zsN, zsJ, zsS, zst2, Nat.reduceAdd]
    refine z_if_eq (tgt := 47) dX7_orders_33 rfl (fun h33 => ?_) (fun h33 => ?_)
    · refine z_inc dX7_orders_47 rfl (by omega) ?_
      refine z_goto (tgt := 4) dX7_orders_50 rfl ?_
      try dsimp only [zs0, zsI, zsP, zsN, zsJ, zsS, zst2, Nat.reduceAdd]
      have hih := ih (p + 1) (by omega) hP
      rw [show oTh c (p + 1) = oTh c p * oPt c (p : Int) (c (32 + 9 * (p : Int))).toNat * (if c (32 + 9 * (p : Int) + 1) = 1 then zsum (fun q => zb (cAlike c (p : Int) q = true)) (p + 1) 0 else 1) from rfl, if_neg (by omega), Int.mul_one] at hih
      rw [show (p : Int) + 1 = ((p + 1 : Nat) : Int) by omega]
      exact hih
    · refine z_iload_n dX7_orders_36 rfl ?_
      refine z_aload_n dX7_orders_37 rfl ?_
      refine z_iload_n dX7_orders_38 rfl ?_
      refine z_iload_n dX7_orders_39 rfl ?_
      refine z_iconst dX7_orders_40 (by decide) ?_
      refine z_add dX7_orders_41 (by omega) ?_
      refine z_callV mlX7_117 dX7_orders_42 (sT0 sT) (av := [_, _]) rfl rfl (Nat.le_of_ble_eq_true rfl) (c_alikeUpTo _ t t0 sT pT c (wfD_of hw) hc (p : Int) (by omega) (by omega) ((p : Int) + 1) (by omega) (by omega)) (Nat.le_refl _) (Nat.le_refl _) (Nat.le_refl _) (Nat.le_refl _) ?_
      rintro _ _ ⟨rfl, rfl⟩
      rw [show ((p : Int) + 1).toNat = p + 1 by omega]
      rw [show oTh c (p + 1) = oTh c p * oPt c (p : Int) (c (32 + 9 * (p : Int))).toNat * (if c (32 + 9 * (p : Int) + 1) = 1 then zsum (fun q => zb (cAlike c (p : Int) q = true)) (p + 1) 0 else 1) from rfl, if_pos (by omega)] at hb
      refine z_mul dX7_orders_45 (by omega) ?_
      refine z_ist 1 dX7_orders_46 rfl (Nat.le_of_ble_eq_true rfl) ?_
      refine z_inc dX7_orders_47 rfl (by omega) ?_
      refine z_goto (tgt := 4) dX7_orders_50 rfl ?_
      try dsimp only [zs0, zsI, zsP, zsN, zsJ, zsS, zst2, Nat.reduceAdd]
      have hih := ih (p + 1) (by omega) hP
      rw [show oTh c (p + 1) = oTh c p * oPt c (p : Int) (c (32 + 9 * (p : Int))).toNat * (if c (32 + 9 * (p : Int) + 1) = 1 then zsum (fun q => zb (cAlike c (p : Int) q = true)) (p + 1) 0 else 1) from rfl, if_pos (by omega)] at hih
      rw [show (p : Int) + 1 = ((p + 1 : Nat) : Int) by omega]
      exact hih

theorem c_tOrders (d : Nat) {E : zE} {m : zM} (t : Int) (t0 : 0 < t) (sT : shT E t) (pT : ptT m t) (c : Int → Int) (hw : wfC c) (hc : cTh m t c) (hT : cPre c (c 2).toNat ≤ 12) (hV : zsum (fun p => zb (c (32 + 9 * p + 1) = 1)) (c 2).toNat 0 ≤ 5) : zR zX7_orders (d + 2) [zP t] m E E (fun r m' => r = some (zI (oTh c (c 2).toNat)) ∧ m = m') := by
  refine zR_go [zP t, zN, zN] (by decide +kernel) (Nat.le_of_ble_eq_true rfl) rfl rfl ?_
  refine z_iconst dX7_orders_0 (by decide) ?_
  refine z_ist 1 dX7_orders_1 rfl (Nat.le_of_ble_eq_true rfl) ?_
  refine z_iconst dX7_orders_2 (by decide) ?_
  refine z_ist 2 dX7_orders_3 rfl (Nat.le_of_ble_eq_true rfl) ?_
  try dsimp only [zs0, zsI, zsP, zsN, zsJ, zsS, zst2, Nat.reduceAdd]
  exact l_tOrd d t t0 sT pT c hw hc hT hV (c 2).toNat 0 (by omega) ⟨rfl, rfl⟩
