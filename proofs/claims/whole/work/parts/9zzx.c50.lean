theorem cJ_g33 {m m' : zM} {E : zE} {T : zT} {X : Int → Int} {t s a cap a2 cap2 ka kcap b bcap : Int} (h : cJ m E T X t s a cap a2 cap2 ka kcap b bcap) (f : zfr (fG 33) m m') : cJ m' E T X t s a cap a2 cap2 ka kcap b bcap ∧ qFr m m' ∧ m' 14 19 = m 14 19 := by
  have ff : ∀ x k : Int, (x < 33 ∨ 36 < x ∨ (x = 33 ∧ k < 3)) → m' x k = m x k := fun x k q => f x k (by simp [fG]; omega) (by simp [fG]; omega)
  exact ⟨cJ_loc h (fun x k q => ff x k (by omega)), fun x k q => ff x k (by omega), ff 14 19 (by omega)⟩
theorem gNb_lg {m : zM} {g : Int} {L : Nat} {fr to' : Nat → Nat} {W : Nat} (h : gGr m g L fr to' W) : ∀ p, p < 8 → gNb fr to' L p < 256 := fun p _ => gNb_lt (fun k hk => (h.1.2.2 k hk).2.2) p
theorem p8_lt {p : Int} (h : p.toNat < 8) : 2 ^ p.toNat < 256 := Nat.pow_lt_pow_right (by omega) h
theorem dgs_is {T : zT} {wh nu : Int} (h : (0 ≤ wh ∧ wh ≤ 4) ∧ 0 ≤ nu) : aDgs T wh nu = (0, zsum (fun k => zb (tOf T k (ffr wh) = nu)) (tD T).length 0) := by
  unfold aDgs
  rw [if_neg (not_not_intro h)]
  have e : (if wh = 0 then (3 : Int) else if wh = 1 then 5 else if wh = 2 then 6 else if wh = 3 then 7 else 2) = ffr wh := by
    unfold ffr
    split
    · rfl
    · split
      · rw [if_neg (by omega)]; omega
      · split
        · rw [if_neg (by omega)]; omega
        · split
          · rw [if_neg (by omega)]; omega
          · rw [if_pos (by omega)]
  rw [e]
theorem all_bit {c : Int → Int} {p : Int} (h0 : 0 ≤ p) (h1 : p ≤ c 2 - 1) : (tAll c).testBit p.toNat = true := by
  unfold tAll
  rw [Nat.testBit_two_pow_sub_one]
  exact decide_eq_true (by omega)
theorem c_distI (d : Nat) {E : zE} {m : zM} (g : Int) (g0 : 0 < g) (sG : shG E g) (pG : ptG m g) (N : Nat → Nat) (hN : ∀ p, p < 8 → N p < 256) (hn : ∀ p : Nat, p < 8 → m (g + 1) (p : Int) = ((N p : Nat) : Int)) (W : Nat) (hW : W < 256) (hpw : m g 4 = ((W : Nat) : Int)) (p q : Int) (p0 : 0 ≤ p) (hp : p < 8) (q0 : 0 ≤ q) (hq : q < 8) : zR zX1_distance (d + 1) [zP g, zI p, zI q] m E E (fun r m' => r = some (zI (zfst (fun i => (dIt N W p.toNat i.toNat).testBit q.toNat) 8 0)) ∧ m = m') := by
  obtain ⟨pn, rfl⟩ := Int.eq_ofNat_of_zero_le p0
  obtain ⟨qn, rfl⟩ := Int.eq_ofNat_of_zero_le q0
  exact c_distance d g g0 sG pG N hN hn W hW hpw pn qn (by omega) (by omega)
theorem far_is {L : Nat} {co : Int → Int} {W p q : Nat} (hg : gOn L (gFr co) (gTo co) W) : zfst (fun i => (dIt (gNb (gFr co) (gTo co) L) W p i.toNat).testBit q) 8 0 = tFar L co p q := by
  unfold tFar
  simp only [dIt_is hg]
theorem far_neg {L : Nat} {co : Int → Int} {p q : Nat} (h : tFar L co p q < 0) : tFar L co p q = -1 := by
  unfold tFar at h ⊢
  have := zfst_rg (p := fun i => (gIt L co p i.toNat).testBit q) 8
  omega
theorem cut_is {c : Int → Int} {L : Nat} {co : Int → Int} (hw : wfC c) (hg : gOn L (gFr co) (gTo co) (tAll c)) : zmask (fun p => (tAll c).testBit p && decide (gCut (gNb (gFr co) (gTo co) L) (tAll c) p = 1)) 8 = zmask (tHf L co) (c 2).toNat := by
  have h3 := hw.2.2.1
  refine zset_ext (fun i => ?_)
  rw [zmask_bit, zmask_bit]
  by_cases hi : i < (c 2).toNat
  · have hb := all_bit (c := c) (p := (i : Int)) (by omega) (by omega)
    rw [Int.toNat_natCast] at hb
    rw [decide_eq_true (show i < 8 by omega), decide_eq_true hi, Bool.true_and, Bool.true_and, hb, Bool.true_and, gCut_is hg hb]
    by_cases z : tHf L co i = true
    · rw [zb_t z, z]; rfl
    · rw [zb_f z, Bool.eq_false_iff.mpr z]; rfl
  · rw [decide_eq_false hi, Bool.false_and]
    have hb : (tAll c).testBit i = false := by
      unfold tAll
      rw [Nat.testBit_two_pow_sub_one]
      exact decide_eq_false hi
    rw [hb, Bool.false_and, Bool.and_false]
theorem c_hDn (d : Nat) {E : zE} {m : zM} (T : zT) (dd : Int) (h : dd < 0) : zR zX11_hasDiagram d [zP 0, zI dd] m E E (fun r m' => r = some (zI (zb (0 ≤ dd ∧ dd < ((tD T).length : Int)))) ∧ m = m') := by
  refine zR_imp (c_hD0 d dd h) ?_
  rintro r m' ⟨rfl, rfl⟩
  exact ⟨by rw [zb_f (by omega)], rfl⟩
theorem zshl_1i {p : Int} (h0 : 0 ≤ p) (h1 : p < 31) : zshl 1 p = ((2 ^ p.toNat : Nat) : Int) := by
  have h := zshl_1 (k := p.toNat) (by omega)
  rw [Int.toNat_of_nonneg h0] at h
  exact h
theorem tH_i {T : zT} {X : Int → Int} (h : tA T X) : T.2.2.2 / 2 = ((tH T : Nat) : Int) ∧ tH T ≤ 6 := by
  have := (tA_l h).1
  unfold tH
  omega
theorem x_fact (d : Nat) {E : zE} {m : zM} (T : zT) (X : Int → Int) (t s a cap a2 cap2 ka kcap b bcap : Int) (hJ : cJ m E T X t s a cap a2 cap2 ka kcap b bcap) (h9 : m 14 19 = 1) (dd : Int) (d0 : 0 ≤ dd) (d1 : dd < ((tD T).length : Int)) (w : Int) (hw : 0 ≤ w ∧ w ≤ 10) : zR zX0_fact (d + 4) [zP 14, zI dd, zI w] m E E (fun r m' => r = some (zI (tOf T dd w)) ∧ cJ m' E T X t s a cap a2 cap2 ka kcap b bcap ∧ m' 14 19 = 1 ∧ qFr m m') := by
  have hP := hJ.2.2.2.2.2.2.2.2.1
  obtain ⟨⟨D, F, cc, z1, z2, z3⟩, z4⟩ := hJ.2.2.2.2.2.1.2.2.2.2.2.2 h9
  have ed := (dG_ord z1.1).1
  obtain ⟨dn, rfl⟩ := Int.eq_ofNat_of_zero_le d0
  have hc := prs_cap hP z4.2.2
  have hl := z1.1.2.2.2.2.1
  have ho := bE_pos hJ.2.2.2.2.2.2.2.1
  obtain ⟨i, i1, i2, i3, i4⟩ := (dG_ord z1.1).2 dn (by omega)
  have iq := (z1.1.2.1 i _ i3).1
  have hm := (z1.1.1.2 (tNm T (dn : Int))).mp (List.mem_of_getElem? i3)
  have hrow := nm_row (tA_w hP) (tA_l hP) hm
  refine zR_imp (c_fact d (sx_14 hJ.2.2.2.2.2.2.2.1.1) T (tA_w hP) (tA_l hP) (tA_v hP) b bcap hJ.2.2.2.2.2.2.2.1.2.2.2.2.1 (by omega) hc (prs_len hP) (sx_G18 hJ.2.2.2.2.2.2.2.1.1) D z1 dn (by omega) w hw (or_1 hP) (or_2 hP)) ?_
  rintro r m' ⟨rfl, f, y⟩
  obtain ⟨j1, q1, e9⟩ := cJ_sh hJ h9 z2 z3 f y
  exact ⟨rfl, j1, e9, q1⟩
theorem x_codeAt (d : Nat) {E : zE} {m : zM} (T : zT) (X : Int → Int) (t s a cap a2 cap2 ka kcap b bcap : Int) (hJ : cJ m E T X t s a cap a2 cap2 ka kcap b bcap) (h9 : m 14 19 = 1) (dd : Int) (d0 : 0 ≤ dd) (d1 : dd < ((tD T).length : Int)) (k : Int) (k0 : 0 ≤ k) (k1 : k < ((tH T : Nat) : Int)) : zR zX0_codeAt (d + 1) [zP 14, zI dd, zI k] m E E (fun r m' => r = some (zI (tCo T dd k)) ∧ m = m') := by
  have hP := hJ.2.2.2.2.2.2.2.2.1
  obtain ⟨⟨D, F, cc, z1, z2, z3⟩, z4⟩ := hJ.2.2.2.2.2.1.2.2.2.2.2.2 h9
  have ed := (dG_ord z1.1).1
  obtain ⟨dn, rfl⟩ := Int.eq_ofNat_of_zero_le d0
  have hc := prs_cap hP z4.2.2
  have hl := z1.1.2.2.2.2.1
  have ho := bE_pos hJ.2.2.2.2.2.2.2.1
  obtain ⟨i, i1, i2, i3, i4⟩ := (dG_ord z1.1).2 dn (by omega)
  have iq := (z1.1.2.1 i _ i3).1
  have hm := (z1.1.1.2 (tNm T (dn : Int))).mp (List.mem_of_getElem? i3)
  have hrow := nm_row (tA_w hP) (tA_l hP) hm
  obtain ⟨kn, rfl⟩ := Int.eq_ofNat_of_zero_le k0
  exact c_codeAt d 14 b bcap (sx_14 hJ.2.2.2.2.2.2.2.1.1) hJ.2.2.2.2.2.2.2.1.2.2.2.2.1 (by omega) z1.2.1 (dn : Int) (i : Int) (tNm T (dn : Int)) (by omega) (by omega) i1 (by omega) (by omega) iq (tH T) (tH_i hP).2 z1.2.2.2.2.1 (tCo T (dn : Int)) (cRow_rg (tA_w hP) hrow.2.1) hrow.1 kn (by omega)
theorem x_name (d : Nat) {E : zE} {m : zM} (T : zT) (X : Int → Int) (t s a cap a2 cap2 ka kcap b bcap : Int) (hJ : cJ m E T X t s a cap a2 cap2 ka kcap b bcap) (h9 : m 14 19 = 1) (dd : Int) (d0 : 0 ≤ dd) (d1 : dd < ((tD T).length : Int)) : zR zX0_nameOf (d) [zP 14, zI dd] m E E (fun r m' => r = some (zJ (sPk (tCo T dd) (tH T))) ∧ m = m') := by
  have hP := hJ.2.2.2.2.2.2.2.2.1
  obtain ⟨⟨D, F, cc, z1, z2, z3⟩, z4⟩ := hJ.2.2.2.2.2.1.2.2.2.2.2.2 h9
  have ed := (dG_ord z1.1).1
  obtain ⟨dn, rfl⟩ := Int.eq_ofNat_of_zero_le d0
  have hc := prs_cap hP z4.2.2
  have hl := z1.1.2.2.2.2.1
  have ho := bE_pos hJ.2.2.2.2.2.2.2.1
  obtain ⟨i, i1, i2, i3, i4⟩ := (dG_ord z1.1).2 dn (by omega)
  have iq := (z1.1.2.1 i _ i3).1
  have hm := (z1.1.1.2 (tNm T (dn : Int))).mp (List.mem_of_getElem? i3)
  have hrow := nm_row (tA_w hP) (tA_l hP) hm
  refine zR_imp (c_nameOf d 14 b bcap (sx_14 hJ.2.2.2.2.2.2.2.1.1) hJ.2.2.2.2.2.2.2.1.2.2.2.2.1 (by omega) z1.2.1 (dn : Int) (i : Int) (tNm T (dn : Int)) (by omega) (by omega) i1 (by omega) (by omega) iq) ?_
  rintro r m' ⟨rfl, rfl⟩
  exact ⟨congrArg (fun z => some (zJ z)) hrow.1, rfl⟩
theorem co_row {m : zM} {E : zE} {T : zT} {X : Int → Int} {t s a cap a2 cap2 ka kcap b bcap : Int} (hJ : cJ m E T X t s a cap a2 cap2 ka kcap b bcap) (h9 : m 14 19 = 1) {dd : Int} (d0 : 0 ≤ dd) (d1 : dd < ((tD T).length : Int)) : cRow T.1 (tCo T dd) (tH T) ∧ gOn (tH T) (gFr (tCo T dd)) (gTo (tCo T dd)) (tAll T.1) := by
  have hP := hJ.2.2.2.2.2.2.2.2.1
  obtain ⟨⟨D, F, cc, z1, z2, z3⟩, z4⟩ := hJ.2.2.2.2.2.1.2.2.2.2.2.2 h9
  have ed := (dG_ord z1.1).1
  obtain ⟨dn, rfl⟩ := Int.eq_ofNat_of_zero_le d0
  have hc := prs_cap hP z4.2.2
  have hl := z1.1.2.2.2.2.1
  have ho := bE_pos hJ.2.2.2.2.2.2.2.1
  obtain ⟨i, i1, i2, i3, i4⟩ := (dG_ord z1.1).2 dn (by omega)
  have iq := (z1.1.2.1 i _ i3).1
  have hm := (z1.1.1.2 (tNm T (dn : Int))).mp (List.mem_of_getElem? i3)
  have hrow := nm_row (tA_w hP) (tA_l hP) hm
  exact ⟨hrow.2.1, hrow.2.2⟩

theorem c_graphOf (d : Nat) {E : zE} {m : zM} (T : zT) (X : Int → Int) (t s a cap a2 cap2 ka kcap b bcap : Int) (hJ : cJ m E T X t s a cap a2 cap2 ka kcap b bcap) (h9 : m 14 19 = 1) (dd : Int) (d0 : 0 ≤ dd) (d1 : dd < ((tD T).length : Int)) : zR zX11_graphOf (d + 3) [zP 0, zI dd] m E E (fun r m' => r = some (zP 33) ∧ cJ m' E T X t s a cap a2 cap2 ka kcap b bcap ∧ m' 14 19 = 1 ∧ qFr m m' ∧ gGr m' 33 (tH T) (gFr (tCo T dd)) (gTo (tCo T dd)) (tAll T.1) ∧ gOn (tH T) (gFr (tCo T dd)) (gTo (tCo T dd)) (tAll T.1)) := by
  have htt := cJ_t hJ
  have hln := (tA_l hJ.2.2.2.2.2.2.2.2.1).1
  have hcr := co_row hJ h9 d0 d1
  have hrg : ∀ i : Int, 0 ≤ i → i < ((tH T : Nat) : Int) → (0 ≤ tCo T dd i ∧ tCo T dd i < 1024) ∧ tCo T dd i / 100 < 8 ∧ tCo T dd i / 10 % 10 < 8 := fun i i0 i1 => by
    have h := cCodeOk_rgD (wfD_of (tA_w hJ.2.2.2.2.2.2.2.2.1)) (hcr.1.1 i i0 i1)
    have h2 := (tA_w hJ.2.2.2.2.2.2.2.2.1).2.2.1
    exact ⟨⟨by omega, by omega⟩, by omega, by omega⟩
  refine zR_go [zP 0, zI dd] (by decide +kernel) (Nat.le_of_ble_eq_true rfl) rfl rfl ?_
  refine z_aload_n dX11_graphOf_0 rfl ?_
  refine z_gP 7 rfl (r := 33) flX11_57 dX11_graphOf_1 (sx_0 hJ.2.2.2.2.2.2.2.1.1) rfl (hJ.1.1.2.2.2.2.2.2.2.1) (by omega) ?_
  refine z_aload_n dX11_graphOf_4 rfl ?_
  refine z_callV mlX11_142 dX11_graphOf_5 (sx_0 hJ.2.2.2.2.2.2.2.1.1) (av := _) rfl rfl (Nat.le_of_ble_eq_true rfl) (c_kD1 _ T X t s a cap a2 cap2 ka kcap b bcap hJ h9) (Nat.le_refl _) (Nat.le_refl _) (Nat.le_refl _) (Nat.le_refl _) ?_
  rintro _ _ ⟨rfl, rfl⟩
  refine z_iload_n dX11_graphOf_8 rfl ?_
  refine z_callV mlX11_396 dX11_graphOf_9 (sx_14 hJ.2.2.2.2.2.2.2.1.1) (av := [_]) rfl rfl (Nat.le_of_ble_eq_true rfl) (x_name _ T X t s a cap a2 cap2 ka kcap b bcap hJ h9 dd d0 d1) (Nat.le_refl _) (Nat.le_refl _) (Nat.le_refl _) (Nat.le_refl _) ?_
  rintro _ _ ⟨rfl, rfl⟩
  refine z_aload_n dX11_graphOf_12 rfl ?_
  refine z_gP 9 rfl (r := t) flX11_71 dX11_graphOf_13 (sx_0 hJ.2.2.2.2.2.2.2.1.1) rfl (hJ.1.1.2.2.2.2.2.2.2.2.2.1) (by omega) ?_
  refine z_gIv 14 rfl flX11_108 dX11_graphOf_16 (sx_T hJ.2.2.2.2.2.2.2.1.1 (cJ_t hJ)).1 rfl (hJ.2.1.2.1.1) ?_
  refine z_iconst dX11_graphOf_19 (by decide) ?_
  refine z_div dX11_graphOf_20 (by omega) (by omega) ?_
  rw [(tH_i hJ.2.2.2.2.2.2.2.2.1).1]
  refine z_aload_n dX11_graphOf_21 rfl ?_
  refine z_gP 9 rfl (r := t) flX11_71 dX11_graphOf_22 (sx_0 hJ.2.2.2.2.2.2.2.1.1) rfl (hJ.1.1.2.2.2.2.2.2.2.2.2.1) (by omega) ?_
  refine z_callV mlX11_303 dX11_graphOf_25 (sx_T hJ.2.2.2.2.2.2.2.1.1 (cJ_t hJ)).1 (av := _) rfl rfl (Nat.le_of_ble_eq_true rfl) (c_allPoints _ t (cJ_t0 hJ) (sx_T hJ.2.2.2.2.2.2.2.1.1 (cJ_t hJ)) (hJ.1.2.2.2.2.1) T.1 (wfD_of (tA_w hJ.2.2.2.2.2.2.2.2.1)) (hJ.2.1.1)) (Nat.le_refl _) (Nat.le_refl _) (Nat.le_refl _) (Nat.le_refl _) ?_
  rintro _ _ ⟨rfl, rfl⟩
  refine z_callV mlX11_400 dX11_graphOf_28 (sx_G33 hJ.2.2.2.2.2.2.2.1.1).1 (av := [_, _, _]) rfl rfl (Nat.le_of_ble_eq_true rfl) (c_readName _ 33 (by omega) (sx_G33 hJ.2.2.2.2.2.2.2.1.1) hJ.2.2.2.2.2.2.1 (tCo T dd) (tH T) (tH_i hJ.2.2.2.2.2.2.2.2.1).2 hrg (tAll T.1)) (Nat.le_refl _) (Nat.le_refl _) (Nat.le_refl _) (Nat.le_refl _) ?_
  rintro _ m1 ⟨rfl, f1, g1, p1⟩
  obtain ⟨j1, q1, e1⟩ := cJ_g33 hJ f1
  refine z_aload_n dX11_graphOf_31 rfl ?_
  refine z_gP 7 rfl (r := 33) flX11_57 dX11_graphOf_32 (sx_0 j1.2.2.2.2.2.2.2.1.1) rfl (j1.1.1.2.2.2.2.2.2.2.1) (by omega) ?_
  refine z_aret dX11_graphOf_35 rfl rfl ?_
  exact ⟨rfl, j1, e1.trans h9, q1, g1, hcr.2⟩

theorem p_diagram (d : Nat) {E : zE} {m : zM} (T : zT) (X : Int → Int) (t s a cap a2 cap2 ka kcap b bcap : Int) (hJ : cJ m E T X t s a cap a2 cap2 ka kcap b bcap) (dd w : Int) : ∃ E1 : zE, (E.2.1 ≤ E1.2.1 ∧ E.2.2 ≤ E1.2.2) ∧ EB E1 ∧ zR zX11_diagram (d + 16) [zP 0, zI dd, zI w] m E E1 (fun r m' => r = some (zI (aDiagram T dd w).2) ∧ cQ m m' E1 T X (aDiagram T dd w).1) := by
  have htt := cJ_t hJ
  have hln := (tA_l hJ.2.2.2.2.2.2.2.2.1).1
  have hni := nT_i hJ.2.2.2.2.2.2.2.2.1
  by_cases hc0 : (0 ≤ w ∧ w ≤ 10) ∧ 0 ≤ dd
  · have le := dE_le E T cap kcap bcap
    refine ⟨dE E T cap kcap bcap, le, EB_d hJ, ?_⟩
    refine zR_go [zP 0, zI dd, zI w] (by decide +kernel) (Nat.le_of_ble_eq_true rfl) rfl rfl ?_
    refine z_iload_n dX11_diagram_0 rfl ?_
    refine z_if_lt (tgt := 10) dX11_diagram_1 rfl (fun h => absurd h (by omega)) (fun h1 => ?_)
    refine z_iload_n dX11_diagram_4 rfl ?_
    refine z_bipush dX11_diagram_5 rfl (by decide) ?_
    refine z_icmp_le (tgt := 16) dX11_diagram_7 rfl (fun h7 => ?_) (fun h => absurd (by omega) h)
    refine z_aload_n dX11_diagram_16 rfl ?_
    refine z_iload_n dX11_diagram_17 rfl ?_
    refine z_callV mlX11_325 dX11_diagram_18 (sx_0 hJ.2.2.2.2.2.2.2.1.1) (av := [_]) rfl rfl (Nat.le_of_ble_eq_true rfl) (c_hDx _ T X _ _ _ _ _ _ _ _ _ _ hJ dd (by omega)) (by first | exact Nat.le_refl _ | exact le.1) (by first | exact Nat.le_refl _ | exact le.2) (Nat.le_refl _) (Nat.le_refl _) ?_
    rintro _ m1 ⟨rfl, ka1, kc1, b1, bc1, j1, h9, q1⟩
    refine z_ifz_ne (tgt := 30) dX11_diagram_21 rfl (fun h21 => ?_) (fun h21 => ?_)
    · refine z_aload_n dX11_diagram_30 rfl ?_
      refine z_aload_n dX11_diagram_31 rfl ?_
      refine z_callV mlX11_142 dX11_diagram_32 (sx_0 j1.2.2.2.2.2.2.2.1.1) (av := _) rfl rfl (Nat.le_of_ble_eq_true rfl) (c_kD1 _ T X _ _ _ _ _ _ _ _ _ _ j1 h9) (Nat.le_refl _) (Nat.le_refl _) (by first | exact Nat.le_refl _ | exact le.1) (by first | exact Nat.le_refl _ | exact le.2) ?_
      rintro _ _ ⟨rfl, rfl⟩
      refine z_iload_n dX11_diagram_35 rfl ?_
      refine z_iload_n dX11_diagram_36 rfl ?_
      refine z_callV mlX11_328 dX11_diagram_37 (sx_14 j1.2.2.2.2.2.2.2.1.1) (av := [_, _]) rfl rfl (Nat.le_of_ble_eq_true rfl) (x_fact _ T X _ _ _ _ _ _ _ _ _ _ j1 h9 dd (by omega) (by omega) w (by omega)) (Nat.le_refl _) (Nat.le_refl _) (by first | exact Nat.le_refl _ | exact le.1) (by first | exact Nat.le_refl _ | exact le.2) ?_
      rintro _ m2 ⟨rfl, j2, _, q2⟩
      refine z_callV mlX11_111 dX11_diagram_40 (sx_0 j2.2.2.2.2.2.2.2.1.1) (av := [_]) rfl rfl (Nat.le_of_ble_eq_true rfl) (c_answer _ (sx_0 j2.2.2.2.2.2.2.2.1.1) _) (Nat.le_refl _) (Nat.le_refl _) (by first | exact Nat.le_refl _ | exact le.1) (by first | exact Nat.le_refl _ | exact le.2) ?_
      rintro _ _ ⟨rfl, rfl⟩
      refine z_iret dX11_diagram_43 rfl rfl ?_
      rw [show aDiagram T dd w = (0, tOf T dd w) from by unfold aDiagram; rw [if_neg (by omega), if_neg (not_not_intro h21)]]
      exact ⟨rfl, cQ_st j2 (qFr_tr q1 q2) _⟩
    · refine z_aload_n dX11_diagram_24 rfl ?_
      refine z_iconst dX11_diagram_25 (by decide) ?_
      refine z_callV mlX11_93 dX11_diagram_26 (sx_0 j1.2.2.2.2.2.2.2.1.1) (av := [_]) rfl rfl (Nat.le_of_ble_eq_true rfl) (c_refuse _ (sx_0 j1.2.2.2.2.2.2.2.1.1) _) (Nat.le_refl _) (Nat.le_refl _) (by first | exact Nat.le_refl _ | exact le.1) (by first | exact Nat.le_refl _ | exact le.2) ?_
      rintro _ _ ⟨rfl, rfl⟩
      refine z_iret dX11_diagram_29 rfl rfl ?_
      rw [show aDiagram T dd w = (2, -1) from by unfold aDiagram; rw [if_neg (by omega), if_pos h21]]
      exact ⟨rfl, cQ_st j1 q1 _⟩
  refine ⟨E, ⟨Nat.le_refl _, Nat.le_refl _⟩, EB_e hJ, ?_⟩
  refine zR_go [zP 0, zI dd, zI w] (by decide +kernel) (Nat.le_of_ble_eq_true rfl) rfl rfl ?_
  refine z_iload_n dX11_diagram_0 rfl ?_
  refine z_if_lt (tgt := 10) dX11_diagram_1 rfl (fun h1 => ?_) (fun h1 => ?_)
  · refine z_aload_n dX11_diagram_10 rfl ?_
    refine z_iconst dX11_diagram_11 (by decide) ?_
    refine z_callV mlX11_93 dX11_diagram_12 (sx_0 hJ.2.2.2.2.2.2.2.1.1) (av := [_]) rfl rfl (Nat.le_of_ble_eq_true rfl) (c_refuse _ (sx_0 hJ.2.2.2.2.2.2.2.1.1) _) (Nat.le_refl _) (Nat.le_refl _) (by first | exact Nat.le_refl _ | exact le.1) (by first | exact Nat.le_refl _ | exact le.2) ?_
    rintro _ _ ⟨rfl, rfl⟩
    refine z_iret dX11_diagram_15 rfl rfl ?_
    rw [show aDiagram T dd w = (1, -1) from by unfold aDiagram; rw [if_pos (by omega)]]
    exact ⟨rfl, cQ_st hJ qFr_rf _⟩
  · refine z_iload_n dX11_diagram_4 rfl ?_
    refine z_bipush dX11_diagram_5 rfl (by decide) ?_
    refine z_icmp_le (tgt := 16) dX11_diagram_7 rfl (fun h7 => ?_) (fun h7 => ?_)
    · refine z_aload_n dX11_diagram_16 rfl ?_
      refine z_iload_n dX11_diagram_17 rfl ?_
      refine z_callV mlX11_325 dX11_diagram_18 (sx_0 hJ.2.2.2.2.2.2.2.1.1) (av := [_]) rfl rfl (Nat.le_of_ble_eq_true rfl) (c_hDn _ T dd (by omega)) (Nat.le_refl _) (Nat.le_refl _) (by first | exact Nat.le_refl _ | exact le.1) (by first | exact Nat.le_refl _ | exact le.2) ?_
      rintro _ _ ⟨rfl, rfl⟩
      refine z_ifz_ne (tgt := 30) dX11_diagram_21 rfl (fun h => absurd h (by omega)) (fun h21 => ?_)
      refine z_aload_n dX11_diagram_24 rfl ?_
      refine z_iconst dX11_diagram_25 (by decide) ?_
      refine z_callV mlX11_93 dX11_diagram_26 (sx_0 hJ.2.2.2.2.2.2.2.1.1) (av := [_]) rfl rfl (Nat.le_of_ble_eq_true rfl) (c_refuse _ (sx_0 hJ.2.2.2.2.2.2.2.1.1) _) (Nat.le_refl _) (Nat.le_refl _) (by first | exact Nat.le_refl _ | exact le.1) (by first | exact Nat.le_refl _ | exact le.2) ?_
      rintro _ _ ⟨rfl, rfl⟩
      refine z_iret dX11_diagram_29 rfl rfl ?_
      rw [show aDiagram T dd w = (2, -1) from by unfold aDiagram; rw [if_neg (by omega), if_pos (by omega)]]
      exact ⟨rfl, cQ_st hJ qFr_rf _⟩
    · refine z_aload_n dX11_diagram_10 rfl ?_
      refine z_iconst dX11_diagram_11 (by decide) ?_
      refine z_callV mlX11_93 dX11_diagram_12 (sx_0 hJ.2.2.2.2.2.2.2.1.1) (av := [_]) rfl rfl (Nat.le_of_ble_eq_true rfl) (c_refuse _ (sx_0 hJ.2.2.2.2.2.2.2.1.1) _) (Nat.le_refl _) (Nat.le_refl _) (by first | exact Nat.le_refl _ | exact le.1) (by first | exact Nat.le_refl _ | exact le.2) ?_
      rintro _ _ ⟨rfl, rfl⟩
      refine z_iret dX11_diagram_15 rfl rfl ?_
      rw [show aDiagram T dd w = (1, -1) from by unfold aDiagram; rw [if_pos (by omega)]]
      exact ⟨rfl, cQ_st hJ qFr_rf _⟩

theorem p_name (d : Nat) {E : zE} {m : zM} (T : zT) (X : Int → Int) (t s a cap a2 cap2 ka kcap b bcap : Int) (hJ : cJ m E T X t s a cap a2 cap2 ka kcap b bcap) (dd k : Int) : ∃ E1 : zE, (E.2.1 ≤ E1.2.1 ∧ E.2.2 ≤ E1.2.2) ∧ EB E1 ∧ zR zX11_name (d + 16) [zP 0, zI dd, zI k] m E E1 (fun r m' => r = some (zI (aName T dd k).2) ∧ cQ m m' E1 T X (aName T dd k).1) := by
  have htt := cJ_t hJ
  have hln := (tA_l hJ.2.2.2.2.2.2.2.2.1).1
  have hni := nT_i hJ.2.2.2.2.2.2.2.2.1
  have hth := tH_i hJ.2.2.2.2.2.2.2.2.1
  by_cases hc0 : 0 ≤ k ∧ 0 ≤ dd
  · have le := dE_le E T cap kcap bcap
    refine ⟨dE E T cap kcap bcap, le, EB_d hJ, ?_⟩
    refine zR_go [zP 0, zI dd, zI k] (by decide +kernel) (Nat.le_of_ble_eq_true rfl) rfl rfl ?_
    refine z_iload_n dX11_name_0 rfl ?_
    refine z_if_ge (tgt := 10) dX11_name_1 rfl (fun h1 => ?_) (fun h => absurd (by omega) h)
    refine z_aload_n dX11_name_10 rfl ?_
    refine z_iload_n dX11_name_11 rfl ?_
    refine z_callV mlX11_325 dX11_name_12 (sx_0 hJ.2.2.2.2.2.2.2.1.1) (av := [_]) rfl rfl (Nat.le_of_ble_eq_true rfl) (c_hDx _ T X _ _ _ _ _ _ _ _ _ _ hJ dd (by omega)) (by first | exact Nat.le_refl _ | exact le.1) (by first | exact Nat.le_refl _ | exact le.2) (Nat.le_refl _) (Nat.le_refl _) ?_
    rintro _ m1 ⟨rfl, ka1, kc1, b1, bc1, j1, h9, q1⟩
    refine z_ifz_ne (tgt := 24) dX11_name_15 rfl (fun h15 => ?_) (fun h15 => ?_)
    · refine z_iload_n dX11_name_24 rfl ?_
      refine z_aload_n dX11_name_25 rfl ?_
      refine z_gP 9 rfl (r := t) flX11_71 dX11_name_26 (sx_0 j1.2.2.2.2.2.2.2.1.1) rfl (j1.1.1.2.2.2.2.2.2.2.2.2.1) (by omega) ?_
      refine z_gIv 14 rfl flX11_108 dX11_name_29 (sx_T j1.2.2.2.2.2.2.2.1.1 (cJ_t j1)).1 rfl (j1.2.1.2.1.1) ?_
      refine z_iconst dX11_name_32 (by decide) ?_
      refine z_div dX11_name_33 (by omega) (by omega) ?_
      refine z_icmp_lt (tgt := 43) dX11_name_34 rfl (fun h34 => ?_) (fun h34 => ?_)
      · refine z_aload_n dX11_name_43 rfl ?_
        refine z_aload_n dX11_name_44 rfl ?_
        refine z_callV mlX11_142 dX11_name_45 (sx_0 j1.2.2.2.2.2.2.2.1.1) (av := _) rfl rfl (Nat.le_of_ble_eq_true rfl) (c_kD1 _ T X _ _ _ _ _ _ _ _ _ _ j1 h9) (Nat.le_refl _) (Nat.le_refl _) (by first | exact Nat.le_refl _ | exact le.1) (by first | exact Nat.le_refl _ | exact le.2) ?_
        rintro _ _ ⟨rfl, rfl⟩
        refine z_iload_n dX11_name_48 rfl ?_
        refine z_iload_n dX11_name_49 rfl ?_
        refine z_callV mlX11_331 dX11_name_50 (sx_14 j1.2.2.2.2.2.2.2.1.1) (av := [_, _]) rfl rfl (Nat.le_of_ble_eq_true rfl) (x_codeAt _ T X _ _ _ _ _ _ _ _ _ _ j1 h9 dd (by omega) (by omega) k (by omega) (by omega)) (Nat.le_refl _) (Nat.le_refl _) (by first | exact Nat.le_refl _ | exact le.1) (by first | exact Nat.le_refl _ | exact le.2) ?_
        rintro _ _ ⟨rfl, rfl⟩
        refine z_callV mlX11_111 dX11_name_53 (sx_0 j1.2.2.2.2.2.2.2.1.1) (av := [_]) rfl rfl (Nat.le_of_ble_eq_true rfl) (c_answer _ (sx_0 j1.2.2.2.2.2.2.2.1.1) _) (Nat.le_refl _) (Nat.le_refl _) (by first | exact Nat.le_refl _ | exact le.1) (by first | exact Nat.le_refl _ | exact le.2) ?_
        rintro _ _ ⟨rfl, rfl⟩
        refine z_iret dX11_name_56 rfl rfl ?_
        rw [show aName T dd k = (0, tCo T dd k) from by unfold aName; rw [if_neg (by omega), if_neg (not_not_intro h15), if_neg (by omega)]]
        exact ⟨rfl, cQ_st j1 q1 _⟩
      · refine z_aload_n dX11_name_37 rfl ?_
        refine z_iconst dX11_name_38 (by decide) ?_
        refine z_callV mlX11_93 dX11_name_39 (sx_0 j1.2.2.2.2.2.2.2.1.1) (av := [_]) rfl rfl (Nat.le_of_ble_eq_true rfl) (c_refuse _ (sx_0 j1.2.2.2.2.2.2.2.1.1) _) (Nat.le_refl _) (Nat.le_refl _) (by first | exact Nat.le_refl _ | exact le.1) (by first | exact Nat.le_refl _ | exact le.2) ?_
        rintro _ _ ⟨rfl, rfl⟩
        refine z_iret dX11_name_42 rfl rfl ?_
        rw [show aName T dd k = (5, -1) from by unfold aName; rw [if_neg (by omega), if_neg (not_not_intro h15), if_pos (by omega)]]
        exact ⟨rfl, cQ_st j1 q1 _⟩
    · refine z_aload_n dX11_name_18 rfl ?_
      refine z_iconst dX11_name_19 (by decide) ?_
      refine z_callV mlX11_93 dX11_name_20 (sx_0 j1.2.2.2.2.2.2.2.1.1) (av := [_]) rfl rfl (Nat.le_of_ble_eq_true rfl) (c_refuse _ (sx_0 j1.2.2.2.2.2.2.2.1.1) _) (Nat.le_refl _) (Nat.le_refl _) (by first | exact Nat.le_refl _ | exact le.1) (by first | exact Nat.le_refl _ | exact le.2) ?_
      rintro _ _ ⟨rfl, rfl⟩
      refine z_iret dX11_name_23 rfl rfl ?_
      rw [show aName T dd k = (2, -1) from by unfold aName; rw [if_neg (by omega), if_pos h15]]
      exact ⟨rfl, cQ_st j1 q1 _⟩
  refine ⟨E, ⟨Nat.le_refl _, Nat.le_refl _⟩, EB_e hJ, ?_⟩
  refine zR_go [zP 0, zI dd, zI k] (by decide +kernel) (Nat.le_of_ble_eq_true rfl) rfl rfl ?_
  refine z_iload_n dX11_name_0 rfl ?_
  refine z_if_ge (tgt := 10) dX11_name_1 rfl (fun h1 => ?_) (fun h1 => ?_)
  · refine z_aload_n dX11_name_10 rfl ?_
    refine z_iload_n dX11_name_11 rfl ?_
    refine z_callV mlX11_325 dX11_name_12 (sx_0 hJ.2.2.2.2.2.2.2.1.1) (av := [_]) rfl rfl (Nat.le_of_ble_eq_true rfl) (c_hDn _ T dd (by omega)) (Nat.le_refl _) (Nat.le_refl _) (by first | exact Nat.le_refl _ | exact le.1) (by first | exact Nat.le_refl _ | exact le.2) ?_
    rintro _ _ ⟨rfl, rfl⟩
    refine z_ifz_ne (tgt := 24) dX11_name_15 rfl (fun h => absurd h (by omega)) (fun h15 => ?_)
    refine z_aload_n dX11_name_18 rfl ?_
    refine z_iconst dX11_name_19 (by decide) ?_
    refine z_callV mlX11_93 dX11_name_20 (sx_0 hJ.2.2.2.2.2.2.2.1.1) (av := [_]) rfl rfl (Nat.le_of_ble_eq_true rfl) (c_refuse _ (sx_0 hJ.2.2.2.2.2.2.2.1.1) _) (Nat.le_refl _) (Nat.le_refl _) (by first | exact Nat.le_refl _ | exact le.1) (by first | exact Nat.le_refl _ | exact le.2) ?_
    rintro _ _ ⟨rfl, rfl⟩
    refine z_iret dX11_name_23 rfl rfl ?_
    rw [show aName T dd k = (2, -1) from by unfold aName; rw [if_neg (by omega), if_pos (by omega)]]
    exact ⟨rfl, cQ_st hJ qFr_rf _⟩
  · refine z_aload_n dX11_name_4 rfl ?_
    refine z_iconst dX11_name_5 (by decide) ?_
    refine z_callV mlX11_93 dX11_name_6 (sx_0 hJ.2.2.2.2.2.2.2.1.1) (av := [_]) rfl rfl (Nat.le_of_ble_eq_true rfl) (c_refuse _ (sx_0 hJ.2.2.2.2.2.2.2.1.1) _) (Nat.le_refl _) (Nat.le_refl _) (by first | exact Nat.le_refl _ | exact le.1) (by first | exact Nat.le_refl _ | exact le.2) ?_
    rintro _ _ ⟨rfl, rfl⟩
    refine z_iret dX11_name_9 rfl rfl ?_
    rw [show aName T dd k = (1, -1) from by unfold aName; rw [if_pos (by omega)]]
    exact ⟨rfl, cQ_st hJ qFr_rf _⟩

theorem p_diagrams (d : Nat) {E : zE} {m : zM} (T : zT) (X : Int → Int) (t s a cap a2 cap2 ka kcap b bcap : Int) (hJ : cJ m E T X t s a cap a2 cap2 ka kcap b bcap) (wh nu : Int) : ∃ E1 : zE, (E.2.1 ≤ E1.2.1 ∧ E.2.2 ≤ E1.2.2) ∧ EB E1 ∧ zR zX11_diagrams (d + 16) [zP 0, zI wh, zI nu] m E E1 (fun r m' => r = some (zI (aDgs T wh nu).2) ∧ cQ m m' E1 T X (aDgs T wh nu).1) := by
  have htt := cJ_t hJ
  have hln := (tA_l hJ.2.2.2.2.2.2.2.2.1).1
  have hni := nT_i hJ.2.2.2.2.2.2.2.2.1
  by_cases hc0 : (0 ≤ wh ∧ wh ≤ 4) ∧ 0 ≤ nu
  · have le := dE_le E T cap kcap bcap
    refine ⟨dE E T cap kcap bcap, le, EB_d hJ, ?_⟩
    refine zR_go [zP 0, zI wh, zI nu] (by decide +kernel) (Nat.le_of_ble_eq_true rfl) rfl rfl ?_
    refine z_iload_n dX11_diagrams_0 rfl ?_
    refine z_if_lt (tgt := 13) dX11_diagrams_1 rfl (fun h => absurd h (by omega)) (fun h1 => ?_)
    refine z_iload_n dX11_diagrams_4 rfl ?_
    refine z_iconst dX11_diagrams_5 (by decide) ?_
    refine z_icmp_gt (tgt := 13) dX11_diagrams_6 rfl (fun h => absurd h (by omega)) (fun h6 => ?_)
    refine z_iload_n dX11_diagrams_9 rfl ?_
    refine z_if_ge (tgt := 19) dX11_diagrams_10 rfl (fun h10 => ?_) (fun h => absurd (by omega) h)
    refine z_aload_n dX11_diagrams_19 rfl ?_
    refine z_aload_n dX11_diagrams_20 rfl ?_
    refine z_callV mlX11_142 dX11_diagrams_21 (sx_0 hJ.2.2.2.2.2.2.2.1.1) (av := _) rfl rfl (Nat.le_of_ble_eq_true rfl) (c_kDx _ T X _ _ _ _ _ _ _ _ _ _ hJ) (by first | exact Nat.le_refl _ | exact le.1) (by first | exact Nat.le_refl _ | exact le.2) (Nat.le_refl _) (Nat.le_refl _) ?_
    rintro _ m1 ⟨rfl, ka1, kc1, b1, bc1, j1, h9, q1⟩
    obtain ⟨⟨D, F, cc, z1, z2, z3⟩, z4⟩ := j1.2.2.2.2.2.1.2.2.2.2.2.2 h9
    refine z_iload_n dX11_diagrams_24 rfl ?_
    refine z_iload_n dX11_diagrams_25 rfl ?_
    refine z_callV mlX11_191 dX11_diagrams_26 (sx_14 j1.2.2.2.2.2.2.2.1.1) (av := [_, _]) rfl rfl (Nat.le_of_ble_eq_true rfl) (c_countWith _ (sx_14 j1.2.2.2.2.2.2.2.1.1) T (tA_w j1.2.2.2.2.2.2.2.2.1) (tA_l j1.2.2.2.2.2.2.2.2.1) (tA_v j1.2.2.2.2.2.2.2.2.1) b1 bc1 j1.2.2.2.2.2.2.2.1.2.2.2.2.1 (by have := bE_pos j1.2.2.2.2.2.2.2.1; omega) (prs_cap j1.2.2.2.2.2.2.2.2.1 z4.2.2) (prs_len j1.2.2.2.2.2.2.2.2.1) (sx_G18 j1.2.2.2.2.2.2.2.1.1) D z1 (or_1 j1.2.2.2.2.2.2.2.2.1) (or_2 j1.2.2.2.2.2.2.2.2.1) wh nu (by omega)) (Nat.le_refl _) (Nat.le_refl _) (by first | exact Nat.le_refl _ | exact le.1) (by first | exact Nat.le_refl _ | exact le.2) ?_
    rintro _ m2 ⟨rfl, f2, y2⟩
    obtain ⟨j2, q2, h9_⟩ := cJ_sh j1 h9 z2 z3 f2 y2
    refine z_callV mlX11_111 dX11_diagrams_29 (sx_0 j2.2.2.2.2.2.2.2.1.1) (av := [_]) rfl rfl (Nat.le_of_ble_eq_true rfl) (c_answer _ (sx_0 j2.2.2.2.2.2.2.2.1.1) _) (Nat.le_refl _) (Nat.le_refl _) (by first | exact Nat.le_refl _ | exact le.1) (by first | exact Nat.le_refl _ | exact le.2) ?_
    rintro _ _ ⟨rfl, rfl⟩
    refine z_iret dX11_diagrams_32 rfl rfl ?_
    rw [dgs_is hc0]
    exact ⟨rfl, cQ_st j2 (qFr_tr q1 q2) _⟩
  refine ⟨E, ⟨Nat.le_refl _, Nat.le_refl _⟩, EB_e hJ, ?_⟩
  refine zR_go [zP 0, zI wh, zI nu] (by decide +kernel) (Nat.le_of_ble_eq_true rfl) rfl rfl ?_
  refine z_iload_n dX11_diagrams_0 rfl ?_
  refine z_if_lt (tgt := 13) dX11_diagrams_1 rfl (fun h1 => ?_) (fun h1 => ?_)
  · refine z_aload_n dX11_diagrams_13 rfl ?_
    refine z_iconst dX11_diagrams_14 (by decide) ?_
    refine z_callV mlX11_93 dX11_diagrams_15 (sx_0 hJ.2.2.2.2.2.2.2.1.1) (av := [_]) rfl rfl (Nat.le_of_ble_eq_true rfl) (c_refuse _ (sx_0 hJ.2.2.2.2.2.2.2.1.1) _) (Nat.le_refl _) (Nat.le_refl _) (by first | exact Nat.le_refl _ | exact le.1) (by first | exact Nat.le_refl _ | exact le.2) ?_
    rintro _ _ ⟨rfl, rfl⟩
    refine z_iret dX11_diagrams_18 rfl rfl ?_
    rw [show aDgs T wh nu = (1, -1) from by unfold aDgs; rw [if_pos hc0]]
    exact ⟨rfl, cQ_st hJ qFr_rf _⟩
  · refine z_iload_n dX11_diagrams_4 rfl ?_
    refine z_iconst dX11_diagrams_5 (by decide) ?_
    refine z_icmp_gt (tgt := 13) dX11_diagrams_6 rfl (fun h6 => ?_) (fun h6 => ?_)
    · refine z_aload_n dX11_diagrams_13 rfl ?_
      refine z_iconst dX11_diagrams_14 (by decide) ?_
      refine z_callV mlX11_93 dX11_diagrams_15 (sx_0 hJ.2.2.2.2.2.2.2.1.1) (av := [_]) rfl rfl (Nat.le_of_ble_eq_true rfl) (c_refuse _ (sx_0 hJ.2.2.2.2.2.2.2.1.1) _) (Nat.le_refl _) (Nat.le_refl _) (by first | exact Nat.le_refl _ | exact le.1) (by first | exact Nat.le_refl _ | exact le.2) ?_
      rintro _ _ ⟨rfl, rfl⟩
      refine z_iret dX11_diagrams_18 rfl rfl ?_
      rw [show aDgs T wh nu = (1, -1) from by unfold aDgs; rw [if_pos hc0]]
      exact ⟨rfl, cQ_st hJ qFr_rf _⟩
    · refine z_iload_n dX11_diagrams_9 rfl ?_
      refine z_if_ge (tgt := 19) dX11_diagrams_10 rfl (fun h => absurd h (by omega)) (fun h10 => ?_)
      refine z_aload_n dX11_diagrams_13 rfl ?_
      refine z_iconst dX11_diagrams_14 (by decide) ?_
      refine z_callV mlX11_93 dX11_diagrams_15 (sx_0 hJ.2.2.2.2.2.2.2.1.1) (av := [_]) rfl rfl (Nat.le_of_ble_eq_true rfl) (c_refuse _ (sx_0 hJ.2.2.2.2.2.2.2.1.1) _) (Nat.le_refl _) (Nat.le_refl _) (by first | exact Nat.le_refl _ | exact le.1) (by first | exact Nat.le_refl _ | exact le.2) ?_
      rintro _ _ ⟨rfl, rfl⟩
      refine z_iret dX11_diagrams_18 rfl rfl ?_
      rw [show aDgs T wh nu = (1, -1) from by unfold aDgs; rw [if_pos hc0]]
      exact ⟨rfl, cQ_st hJ qFr_rf _⟩

theorem p_part (d : Nat) {E : zE} {m : zM} (T : zT) (X : Int → Int) (t s a cap a2 cap2 ka kcap b bcap : Int) (hJ : cJ m E T X t s a cap a2 cap2 ka kcap b bcap) (dd p : Int) : ∃ E1 : zE, (E.2.1 ≤ E1.2.1 ∧ E.2.2 ≤ E1.2.2) ∧ EB E1 ∧ zR zX11_part (d + 16) [zP 0, zI dd, zI p] m E E1 (fun r m' => r = some (zI (aPart T dd p).2) ∧ cQ m m' E1 T X (aPart T dd p).1) := by
  have htt := cJ_t hJ
  have hln := (tA_l hJ.2.2.2.2.2.2.2.2.1).1
  have hni := nT_i hJ.2.2.2.2.2.2.2.2.1
  have hw3 := (tA_w hJ.2.2.2.2.2.2.2.2.1).2.2.1
  by_cases hc0 : 0 ≤ dd
  · have le := dE_le E T cap kcap bcap
    refine ⟨dE E T cap kcap bcap, le, EB_d hJ, ?_⟩
    refine zR_go [zP 0, zI dd, zI p] (by decide +kernel) (Nat.le_of_ble_eq_true rfl) rfl rfl ?_
    refine z_aload_n dX11_part_0 rfl ?_
    refine z_iload_n dX11_part_1 rfl ?_
    refine z_callV mlX11_325 dX11_part_2 (sx_0 hJ.2.2.2.2.2.2.2.1.1) (av := [_]) rfl rfl (Nat.le_of_ble_eq_true rfl) (c_hDx _ T X _ _ _ _ _ _ _ _ _ _ hJ dd (by omega)) (by first | exact Nat.le_refl _ | exact le.1) (by first | exact Nat.le_refl _ | exact le.2) (Nat.le_refl _) (Nat.le_refl _) ?_
    rintro _ m1 ⟨rfl, ka1, kc1, b1, bc1, j1, h9, q1⟩
    refine z_ifz_eq (tgt := 19) dX11_part_5 rfl (fun h5 => ?_) (fun h5 => ?_)
    · refine z_aload_n dX11_part_19 rfl ?_
      refine z_iconst dX11_part_20 (by decide) ?_
      refine z_callV mlX11_93 dX11_part_21 (sx_0 j1.2.2.2.2.2.2.2.1.1) (av := [_]) rfl rfl (Nat.le_of_ble_eq_true rfl) (c_refuse _ (sx_0 j1.2.2.2.2.2.2.2.1.1) _) (Nat.le_refl _) (Nat.le_refl _) (by first | exact Nat.le_refl _ | exact le.1) (by first | exact Nat.le_refl _ | exact le.2) ?_
      rintro _ _ ⟨rfl, rfl⟩
      refine z_iret dX11_part_24 rfl rfl ?_
      rw [show aPart T dd p = (2, -1) from by unfold aPart; rw [if_pos (fun h => h5 h.1)]]
      exact ⟨rfl, cQ_st j1 q1 _⟩
    · refine z_aload_n dX11_part_8 rfl ?_
      refine z_gP 9 rfl (r := t) flX11_71 dX11_part_9 (sx_0 j1.2.2.2.2.2.2.2.1.1) rfl (j1.1.1.2.2.2.2.2.2.2.2.2.1) (by omega) ?_
      refine z_iload_n dX11_part_12 rfl ?_
      refine z_callV mlX11_204 dX11_part_13 (sx_T j1.2.2.2.2.2.2.2.1.1 (cJ_t j1)).1 (av := [_]) rfl rfl (Nat.le_of_ble_eq_true rfl) (c_hasPoint _ t (cJ_t0 j1) (sx_T j1.2.2.2.2.2.2.2.1.1 (cJ_t j1)) (j1.1.2.2.2.2.1) T.1 (wfD_of (tA_w j1.2.2.2.2.2.2.2.2.1)) (j1.2.1.1) _) (Nat.le_refl _) (Nat.le_refl _) (by first | exact Nat.le_refl _ | exact le.1) (by first | exact Nat.le_refl _ | exact le.2) ?_
      rintro _ _ ⟨rfl, rfl⟩
      refine z_ifz_ne (tgt := 25) dX11_part_16 rfl (fun h16 => ?_) (fun h16 => ?_)
      · refine z_aload_n dX11_part_25 rfl ?_
        refine z_aload_n dX11_part_26 rfl ?_
        refine z_iload_n dX11_part_27 rfl ?_
        refine z_callV mlX11_334 dX11_part_28 (sx_0 j1.2.2.2.2.2.2.2.1.1) (av := [_]) rfl rfl (Nat.le_of_ble_eq_true rfl) (c_graphOf _ T X _ _ _ _ _ _ _ _ _ _ j1 h9 dd (by omega) (by omega)) (Nat.le_refl _) (Nat.le_refl _) (by first | exact Nat.le_refl _ | exact le.1) (by first | exact Nat.le_refl _ | exact le.2) ?_
        rintro _ m2 ⟨rfl, j2, h9, q2, hg, hon⟩
        refine z_iconst dX11_part_31 (by decide) ?_
        refine z_iload_n dX11_part_32 rfl ?_
        refine z_ishl dX11_part_33 ?_
        rw [zshl_1i (by omega) (by omega)]
        refine z_aload_n dX11_part_34 rfl ?_
        refine z_gP 9 rfl (r := t) flX11_71 dX11_part_35 (sx_0 j2.2.2.2.2.2.2.2.1.1) rfl (j2.1.1.2.2.2.2.2.2.2.2.2.1) (by omega) ?_
        refine z_callV mlX11_303 dX11_part_38 (sx_T j2.2.2.2.2.2.2.2.1.1 (cJ_t j2)).1 (av := _) rfl rfl (Nat.le_of_ble_eq_true rfl) (c_allPoints _ t (cJ_t0 j2) (sx_T j2.2.2.2.2.2.2.2.1.1 (cJ_t j2)) (j2.1.2.2.2.2.1) T.1 (wfD_of (tA_w j2.2.2.2.2.2.2.2.2.1)) (j2.2.1.1)) (Nat.le_refl _) (Nat.le_refl _) (by first | exact Nat.le_refl _ | exact le.1) (by first | exact Nat.le_refl _ | exact le.2) ?_
        rintro _ _ ⟨rfl, rfl⟩
        refine z_callV mlX11_338 dX11_part_41 (sx_G33 j2.2.2.2.2.2.2.2.1.1).1 (av := [_, _]) rfl rfl (Nat.le_of_ble_eq_true rfl) (c_reach _ 33 (by omega) (sx_G33 j2.2.2.2.2.2.2.2.1.1) j2.2.2.2.2.2.2.1 _ (gNb_lg hg) hg.2.2 (2 ^ p.toNat) (tAll T.1) (p8_lt (by omega)) (tAll_lt (tA_w j2.2.2.2.2.2.2.2.2.1))) (Nat.le_refl _) (Nat.le_refl _) (by first | exact Nat.le_refl _ | exact le.1) (by first | exact Nat.le_refl _ | exact le.2) ?_
        rintro _ _ ⟨rfl, rfl⟩
        refine z_callV mlX11_111 dX11_part_44 (sx_0 j2.2.2.2.2.2.2.2.1.1) (av := [_]) rfl rfl (Nat.le_of_ble_eq_true rfl) (c_answer _ (sx_0 j2.2.2.2.2.2.2.2.1.1) _) (Nat.le_refl _) (Nat.le_refl _) (by first | exact Nat.le_refl _ | exact le.1) (by first | exact Nat.le_refl _ | exact le.2) ?_
        rintro _ _ ⟨rfl, rfl⟩
        refine z_iret dX11_part_47 rfl rfl ?_
        rw [← tR_cls hon (all_bit (by omega) (by omega))]
        rw [show aPart T dd p = (0, ((tR (tH T) (tCo T dd) (-1) (-1) p.toNat : Nat) : Int)) from by unfold aPart; rw [if_neg (not_not_intro ⟨h5, h16⟩)]]
        exact ⟨rfl, cQ_st j2 (qFr_tr q1 q2) _⟩
      · refine z_aload_n dX11_part_19 rfl ?_
        refine z_iconst dX11_part_20 (by decide) ?_
        refine z_callV mlX11_93 dX11_part_21 (sx_0 j1.2.2.2.2.2.2.2.1.1) (av := [_]) rfl rfl (Nat.le_of_ble_eq_true rfl) (c_refuse _ (sx_0 j1.2.2.2.2.2.2.2.1.1) _) (Nat.le_refl _) (Nat.le_refl _) (by first | exact Nat.le_refl _ | exact le.1) (by first | exact Nat.le_refl _ | exact le.2) ?_
        rintro _ _ ⟨rfl, rfl⟩
        refine z_iret dX11_part_24 rfl rfl ?_
        rw [show aPart T dd p = (2, -1) from by unfold aPart; rw [if_pos (by omega)]]
        exact ⟨rfl, cQ_st j1 q1 _⟩
  refine ⟨E, ⟨Nat.le_refl _, Nat.le_refl _⟩, EB_e hJ, ?_⟩
  refine zR_go [zP 0, zI dd, zI p] (by decide +kernel) (Nat.le_of_ble_eq_true rfl) rfl rfl ?_
  refine z_aload_n dX11_part_0 rfl ?_
  refine z_iload_n dX11_part_1 rfl ?_
  refine z_callV mlX11_325 dX11_part_2 (sx_0 hJ.2.2.2.2.2.2.2.1.1) (av := [_]) rfl rfl (Nat.le_of_ble_eq_true rfl) (c_hDn _ T dd (by omega)) (Nat.le_refl _) (Nat.le_refl _) (by first | exact Nat.le_refl _ | exact le.1) (by first | exact Nat.le_refl _ | exact le.2) ?_
  rintro _ _ ⟨rfl, rfl⟩
  refine z_ifz_eq (tgt := 19) dX11_part_5 rfl (fun h5 => ?_) (fun h => absurd h (by omega))
  refine z_aload_n dX11_part_19 rfl ?_
  refine z_iconst dX11_part_20 (by decide) ?_
  refine z_callV mlX11_93 dX11_part_21 (sx_0 hJ.2.2.2.2.2.2.2.1.1) (av := [_]) rfl rfl (Nat.le_of_ble_eq_true rfl) (c_refuse _ (sx_0 hJ.2.2.2.2.2.2.2.1.1) _) (Nat.le_refl _) (Nat.le_refl _) (by first | exact Nat.le_refl _ | exact le.1) (by first | exact Nat.le_refl _ | exact le.2) ?_
  rintro _ _ ⟨rfl, rfl⟩
  refine z_iret dX11_part_24 rfl rfl ?_
  rw [show aPart T dd p = (2, -1) from by unfold aPart; rw [if_pos (by omega)]]
  exact ⟨rfl, cQ_st hJ qFr_rf _⟩

theorem p_far (d : Nat) {E : zE} {m : zM} (T : zT) (X : Int → Int) (t s a cap a2 cap2 ka kcap b bcap : Int) (hJ : cJ m E T X t s a cap a2 cap2 ka kcap b bcap) (dd p q : Int) : ∃ E1 : zE, (E.2.1 ≤ E1.2.1 ∧ E.2.2 ≤ E1.2.2) ∧ EB E1 ∧ zR zX11_far (d + 16) [zP 0, zI dd, zI p, zI q] m E E1 (fun r m' => r = some (zI (aFar T dd p q).2) ∧ cQ m m' E1 T X (aFar T dd p q).1) := by
  have htt := cJ_t hJ
  have hln := (tA_l hJ.2.2.2.2.2.2.2.2.1).1
  have hni := nT_i hJ.2.2.2.2.2.2.2.2.1
  have hw3 := (tA_w hJ.2.2.2.2.2.2.2.2.1).2.2.1
  by_cases hc0 : 0 ≤ dd
  · have le := dE_le E T cap kcap bcap
    refine ⟨dE E T cap kcap bcap, le, EB_d hJ, ?_⟩
    refine zR_go [zP 0, zI dd, zI p, zI q, zN] (by decide +kernel) (Nat.le_of_ble_eq_true rfl) rfl rfl ?_
    refine z_aload_n dX11_far_0 rfl ?_
    refine z_iload_n dX11_far_1 rfl ?_
    refine z_callV mlX11_325 dX11_far_2 (sx_0 hJ.2.2.2.2.2.2.2.1.1) (av := [_]) rfl rfl (Nat.le_of_ble_eq_true rfl) (c_hDx _ T X _ _ _ _ _ _ _ _ _ _ hJ dd (by omega)) (by first | exact Nat.le_refl _ | exact le.1) (by first | exact Nat.le_refl _ | exact le.2) (Nat.le_refl _) (Nat.le_refl _) ?_
    rintro _ m1 ⟨rfl, ka1, kc1, b1, bc1, j1, h9, q1⟩
    refine z_ifz_eq (tgt := 30) dX11_far_5 rfl (fun h5 => ?_) (fun h5 => ?_)
    · refine z_aload_n dX11_far_30 rfl ?_
      refine z_iconst dX11_far_31 (by decide) ?_
      refine z_callV mlX11_93 dX11_far_32 (sx_0 j1.2.2.2.2.2.2.2.1.1) (av := [_]) rfl rfl (Nat.le_of_ble_eq_true rfl) (c_refuse _ (sx_0 j1.2.2.2.2.2.2.2.1.1) _) (Nat.le_refl _) (Nat.le_refl _) (by first | exact Nat.le_refl _ | exact le.1) (by first | exact Nat.le_refl _ | exact le.2) ?_
      rintro _ _ ⟨rfl, rfl⟩
      refine z_iret dX11_far_35 rfl rfl ?_
      rw [show aFar T dd p q = (2, -1) from by unfold aFar; rw [if_pos (fun h => h5 h.1)]]
      exact ⟨rfl, cQ_st j1 q1 _⟩
    · refine z_aload_n dX11_far_8 rfl ?_
      refine z_gP 9 rfl (r := t) flX11_71 dX11_far_9 (sx_0 j1.2.2.2.2.2.2.2.1.1) rfl (j1.1.1.2.2.2.2.2.2.2.2.2.1) (by omega) ?_
      refine z_iload_n dX11_far_12 rfl ?_
      refine z_callV mlX11_204 dX11_far_13 (sx_T j1.2.2.2.2.2.2.2.1.1 (cJ_t j1)).1 (av := [_]) rfl rfl (Nat.le_of_ble_eq_true rfl) (c_hasPoint _ t (cJ_t0 j1) (sx_T j1.2.2.2.2.2.2.2.1.1 (cJ_t j1)) (j1.1.2.2.2.2.1) T.1 (wfD_of (tA_w j1.2.2.2.2.2.2.2.2.1)) (j1.2.1.1) _) (Nat.le_refl _) (Nat.le_refl _) (by first | exact Nat.le_refl _ | exact le.1) (by first | exact Nat.le_refl _ | exact le.2) ?_
      rintro _ _ ⟨rfl, rfl⟩
      refine z_ifz_eq (tgt := 30) dX11_far_16 rfl (fun h16 => ?_) (fun h16 => ?_)
      · refine z_aload_n dX11_far_30 rfl ?_
        refine z_iconst dX11_far_31 (by decide) ?_
        refine z_callV mlX11_93 dX11_far_32 (sx_0 j1.2.2.2.2.2.2.2.1.1) (av := [_]) rfl rfl (Nat.le_of_ble_eq_true rfl) (c_refuse _ (sx_0 j1.2.2.2.2.2.2.2.1.1) _) (Nat.le_refl _) (Nat.le_refl _) (by first | exact Nat.le_refl _ | exact le.1) (by first | exact Nat.le_refl _ | exact le.2) ?_
        rintro _ _ ⟨rfl, rfl⟩
        refine z_iret dX11_far_35 rfl rfl ?_
        rw [show aFar T dd p q = (2, -1) from by unfold aFar; rw [if_pos (by omega)]]
        exact ⟨rfl, cQ_st j1 q1 _⟩
      · refine z_aload_n dX11_far_19 rfl ?_
        refine z_gP 9 rfl (r := t) flX11_71 dX11_far_20 (sx_0 j1.2.2.2.2.2.2.2.1.1) rfl (j1.1.1.2.2.2.2.2.2.2.2.2.1) (by omega) ?_
        refine z_iload_n dX11_far_23 rfl ?_
        refine z_callV mlX11_204 dX11_far_24 (sx_T j1.2.2.2.2.2.2.2.1.1 (cJ_t j1)).1 (av := [_]) rfl rfl (Nat.le_of_ble_eq_true rfl) (c_hasPoint _ t (cJ_t0 j1) (sx_T j1.2.2.2.2.2.2.2.1.1 (cJ_t j1)) (j1.1.2.2.2.2.1) T.1 (wfD_of (tA_w j1.2.2.2.2.2.2.2.2.1)) (j1.2.1.1) _) (Nat.le_refl _) (Nat.le_refl _) (by first | exact Nat.le_refl _ | exact le.1) (by first | exact Nat.le_refl _ | exact le.2) ?_
        rintro _ _ ⟨rfl, rfl⟩
        refine z_ifz_ne (tgt := 36) dX11_far_27 rfl (fun h27 => ?_) (fun h27 => ?_)
        · refine z_aload_n dX11_far_36 rfl ?_
          refine z_iload_n dX11_far_37 rfl ?_
          refine z_callV mlX11_334 dX11_far_38 (sx_0 j1.2.2.2.2.2.2.2.1.1) (av := [_]) rfl rfl (Nat.le_of_ble_eq_true rfl) (c_graphOf _ T X _ _ _ _ _ _ _ _ _ _ j1 h9 dd (by omega) (by omega)) (Nat.le_refl _) (Nat.le_refl _) (by first | exact Nat.le_refl _ | exact le.1) (by first | exact Nat.le_refl _ | exact le.2) ?_
          rintro _ m2 ⟨rfl, j2, h9, q2, hg, hon⟩
          refine z_iload_n dX11_far_41 rfl ?_
          refine z_iload_n dX11_far_42 rfl ?_
          refine z_callV mlX11_341 dX11_far_43 (sx_G33 j2.2.2.2.2.2.2.2.1.1).1 (av := [_, _]) rfl rfl (Nat.le_of_ble_eq_true rfl) (c_distI _ 33 (by omega) (sx_G33 j2.2.2.2.2.2.2.2.1.1) j2.2.2.2.2.2.2.1 _ (gNb_lg hg) hg.2.2 (tAll T.1) (tAll_lt (tA_w j2.2.2.2.2.2.2.2.2.1)) hg.2.1 p q (by omega) (by omega) (by omega) (by omega)) (Nat.le_refl _) (Nat.le_refl _) (by first | exact Nat.le_refl _ | exact le.1) (by first | exact Nat.le_refl _ | exact le.2) ?_
          rintro _ _ ⟨rfl, rfl⟩
          rw [far_is hon]
          refine z_istore dX11_far_46 (Nat.le_of_ble_eq_true rfl) ?_
          refine z_iload dX11_far_48 rfl ?_
          try dsimp only [zs0, zsI, zsP, zsN, zsJ, zsS, zst2, Nat.reduceAdd]
          refine z_if_ge (tgt := 61) dX11_far_50 rfl (fun h50 => ?_) (fun h50 => ?_)
          · refine z_aload_n dX11_far_61 rfl ?_
            refine z_iload dX11_far_62 rfl ?_
            refine z_callV mlX11_111 dX11_far_64 (sx_0 j2.2.2.2.2.2.2.2.1.1) (av := [_]) rfl rfl (Nat.le_of_ble_eq_true rfl) (c_answer _ (sx_0 j2.2.2.2.2.2.2.2.1.1) _) (Nat.le_refl _) (Nat.le_refl _) (by first | exact Nat.le_refl _ | exact le.1) (by first | exact Nat.le_refl _ | exact le.2) ?_
            rintro _ _ ⟨rfl, rfl⟩
            refine z_iret dX11_far_67 rfl rfl ?_
            rw [show aFar T dd p q = (0, tFar (tH T) (tCo T dd) p.toNat q.toNat) from by unfold aFar; rw [if_neg (not_not_intro ⟨h5, h16, h27⟩), if_neg (by omega)]]
            exact ⟨rfl, cQ_st j2 (qFr_tr q1 q2) _⟩
          · refine z_aload_n dX11_far_53 rfl ?_
            refine z_iconst dX11_far_54 (by decide) ?_
            refine z_callV mlX11_93 dX11_far_55 (sx_0 j2.2.2.2.2.2.2.2.1.1) (av := [_]) rfl rfl (Nat.le_of_ble_eq_true rfl) (c_refuse _ (sx_0 j2.2.2.2.2.2.2.2.1.1) _) (Nat.le_refl _) (Nat.le_refl _) (by first | exact Nat.le_refl _ | exact le.1) (by first | exact Nat.le_refl _ | exact le.2) ?_
            rintro _ _ ⟨rfl, rfl⟩
            refine z_goto (tgt := 67) dX11_far_58 rfl ?_
            refine z_iret dX11_far_67 rfl rfl ?_
            rw [show aFar T dd p q = (5, -1) from by unfold aFar; rw [if_neg (not_not_intro ⟨h5, h16, h27⟩), if_pos (far_neg (by omega))]]
            exact ⟨rfl, cQ_st j2 (qFr_tr q1 q2) _⟩
        · refine z_aload_n dX11_far_30 rfl ?_
          refine z_iconst dX11_far_31 (by decide) ?_
          refine z_callV mlX11_93 dX11_far_32 (sx_0 j1.2.2.2.2.2.2.2.1.1) (av := [_]) rfl rfl (Nat.le_of_ble_eq_true rfl) (c_refuse _ (sx_0 j1.2.2.2.2.2.2.2.1.1) _) (Nat.le_refl _) (Nat.le_refl _) (by first | exact Nat.le_refl _ | exact le.1) (by first | exact Nat.le_refl _ | exact le.2) ?_
          rintro _ _ ⟨rfl, rfl⟩
          refine z_iret dX11_far_35 rfl rfl ?_
          rw [show aFar T dd p q = (2, -1) from by unfold aFar; rw [if_pos (by omega)]]
          exact ⟨rfl, cQ_st j1 q1 _⟩
  refine ⟨E, ⟨Nat.le_refl _, Nat.le_refl _⟩, EB_e hJ, ?_⟩
  refine zR_go [zP 0, zI dd, zI p, zI q, zN] (by decide +kernel) (Nat.le_of_ble_eq_true rfl) rfl rfl ?_
  refine z_aload_n dX11_far_0 rfl ?_
  refine z_iload_n dX11_far_1 rfl ?_
  refine z_callV mlX11_325 dX11_far_2 (sx_0 hJ.2.2.2.2.2.2.2.1.1) (av := [_]) rfl rfl (Nat.le_of_ble_eq_true rfl) (c_hDn _ T dd (by omega)) (Nat.le_refl _) (Nat.le_refl _) (by first | exact Nat.le_refl _ | exact le.1) (by first | exact Nat.le_refl _ | exact le.2) ?_
  rintro _ _ ⟨rfl, rfl⟩
  refine z_ifz_eq (tgt := 30) dX11_far_5 rfl (fun h5 => ?_) (fun h => absurd h (by omega))
  refine z_aload_n dX11_far_30 rfl ?_
  refine z_iconst dX11_far_31 (by decide) ?_
  refine z_callV mlX11_93 dX11_far_32 (sx_0 hJ.2.2.2.2.2.2.2.1.1) (av := [_]) rfl rfl (Nat.le_of_ble_eq_true rfl) (c_refuse _ (sx_0 hJ.2.2.2.2.2.2.2.1.1) _) (Nat.le_refl _) (Nat.le_refl _) (by first | exact Nat.le_refl _ | exact le.1) (by first | exact Nat.le_refl _ | exact le.2) ?_
  rintro _ _ ⟨rfl, rfl⟩
  refine z_iret dX11_far_35 rfl rfl ?_
  rw [show aFar T dd p q = (2, -1) from by unfold aFar; rw [if_pos (by omega)]]
  exact ⟨rfl, cQ_st hJ qFr_rf _⟩

theorem p_holds (d : Nat) {E : zE} {m : zM} (T : zT) (X : Int → Int) (t s a cap a2 cap2 ka kcap b bcap : Int) (hJ : cJ m E T X t s a cap a2 cap2 ka kcap b bcap) (dd : Int) : ∃ E1 : zE, (E.2.1 ≤ E1.2.1 ∧ E.2.2 ≤ E1.2.2) ∧ EB E1 ∧ zR zX11_holds (d + 16) [zP 0, zI dd] m E E1 (fun r m' => r = some (zI (aHolds T dd).2) ∧ cQ m m' E1 T X (aHolds T dd).1) := by
  have htt := cJ_t hJ
  have hln := (tA_l hJ.2.2.2.2.2.2.2.2.1).1
  have hni := nT_i hJ.2.2.2.2.2.2.2.2.1
  have hw3 := (tA_w hJ.2.2.2.2.2.2.2.2.1).2.2.1
  by_cases hc0 : 0 ≤ dd
  · have le := dE_le E T cap kcap bcap
    refine ⟨dE E T cap kcap bcap, le, EB_d hJ, ?_⟩
    refine zR_go [zP 0, zI dd] (by decide +kernel) (Nat.le_of_ble_eq_true rfl) rfl rfl ?_
    refine z_aload_n dX11_holds_0 rfl ?_
    refine z_iload_n dX11_holds_1 rfl ?_
    refine z_callV mlX11_325 dX11_holds_2 (sx_0 hJ.2.2.2.2.2.2.2.1.1) (av := [_]) rfl rfl (Nat.le_of_ble_eq_true rfl) (c_hDx _ T X _ _ _ _ _ _ _ _ _ _ hJ dd (by omega)) (by first | exact Nat.le_refl _ | exact le.1) (by first | exact Nat.le_refl _ | exact le.2) (Nat.le_refl _) (Nat.le_refl _) ?_
    rintro _ m1 ⟨rfl, ka1, kc1, b1, bc1, j1, h9, q1⟩
    refine z_ifz_ne (tgt := 14) dX11_holds_5 rfl (fun h5 => ?_) (fun h5 => ?_)
    · refine z_aload_n dX11_holds_14 rfl ?_
      refine z_aload_n dX11_holds_15 rfl ?_
      refine z_iload_n dX11_holds_16 rfl ?_
      refine z_callV mlX11_334 dX11_holds_17 (sx_0 j1.2.2.2.2.2.2.2.1.1) (av := [_]) rfl rfl (Nat.le_of_ble_eq_true rfl) (c_graphOf _ T X _ _ _ _ _ _ _ _ _ _ j1 h9 dd (by omega) (by omega)) (Nat.le_refl _) (Nat.le_refl _) (by first | exact Nat.le_refl _ | exact le.1) (by first | exact Nat.le_refl _ | exact le.2) ?_
      rintro _ m2 ⟨rfl, j2, h9, q2, hg, hon⟩
      refine z_callV mlX11_344 dX11_holds_20 (sx_G33 j2.2.2.2.2.2.2.2.1.1).1 (av := _) rfl rfl (Nat.le_of_ble_eq_true rfl) (c_cutPoints _ 33 (by omega) (sx_G33 j2.2.2.2.2.2.2.2.1.1) j2.2.2.2.2.2.2.1 _ (gNb_lg hg) hg.2.2 (tAll T.1) (tAll_lt (tA_w j2.2.2.2.2.2.2.2.2.1)) hg.2.1) (Nat.le_refl _) (Nat.le_refl _) (by first | exact Nat.le_refl _ | exact le.1) (by first | exact Nat.le_refl _ | exact le.2) ?_
      rintro _ _ ⟨rfl, rfl⟩
      rw [cut_is (tA_w hJ.2.2.2.2.2.2.2.2.1) hon]
      refine z_callV mlX11_111 dX11_holds_23 (sx_0 j2.2.2.2.2.2.2.2.1.1) (av := [_]) rfl rfl (Nat.le_of_ble_eq_true rfl) (c_answer _ (sx_0 j2.2.2.2.2.2.2.2.1.1) _) (Nat.le_refl _) (Nat.le_refl _) (by first | exact Nat.le_refl _ | exact le.1) (by first | exact Nat.le_refl _ | exact le.2) ?_
      rintro _ _ ⟨rfl, rfl⟩
      refine z_iret dX11_holds_26 rfl rfl ?_
      rw [show aHolds T dd = (0, ((zmask (tHf (tH T) (tCo T dd)) (T.1 2).toNat : Nat) : Int)) from by unfold aHolds; rw [if_neg (not_not_intro h5)]]
      exact ⟨rfl, cQ_st j2 (qFr_tr q1 q2) _⟩
    · refine z_aload_n dX11_holds_8 rfl ?_
      refine z_iconst dX11_holds_9 (by decide) ?_
      refine z_callV mlX11_93 dX11_holds_10 (sx_0 j1.2.2.2.2.2.2.2.1.1) (av := [_]) rfl rfl (Nat.le_of_ble_eq_true rfl) (c_refuse _ (sx_0 j1.2.2.2.2.2.2.2.1.1) _) (Nat.le_refl _) (Nat.le_refl _) (by first | exact Nat.le_refl _ | exact le.1) (by first | exact Nat.le_refl _ | exact le.2) ?_
      rintro _ _ ⟨rfl, rfl⟩
      refine z_iret dX11_holds_13 rfl rfl ?_
      rw [show aHolds T dd = (2, -1) from by unfold aHolds; rw [if_pos h5]]
      exact ⟨rfl, cQ_st j1 q1 _⟩
  refine ⟨E, ⟨Nat.le_refl _, Nat.le_refl _⟩, EB_e hJ, ?_⟩
  refine zR_go [zP 0, zI dd] (by decide +kernel) (Nat.le_of_ble_eq_true rfl) rfl rfl ?_
  refine z_aload_n dX11_holds_0 rfl ?_
  refine z_iload_n dX11_holds_1 rfl ?_
  refine z_callV mlX11_325 dX11_holds_2 (sx_0 hJ.2.2.2.2.2.2.2.1.1) (av := [_]) rfl rfl (Nat.le_of_ble_eq_true rfl) (c_hDn _ T dd (by omega)) (Nat.le_refl _) (Nat.le_refl _) (by first | exact Nat.le_refl _ | exact le.1) (by first | exact Nat.le_refl _ | exact le.2) ?_
  rintro _ _ ⟨rfl, rfl⟩
  refine z_ifz_ne (tgt := 14) dX11_holds_5 rfl (fun h => absurd h (by omega)) (fun h5 => ?_)
  refine z_aload_n dX11_holds_8 rfl ?_
  refine z_iconst dX11_holds_9 (by decide) ?_
  refine z_callV mlX11_93 dX11_holds_10 (sx_0 hJ.2.2.2.2.2.2.2.1.1) (av := [_]) rfl rfl (Nat.le_of_ble_eq_true rfl) (c_refuse _ (sx_0 hJ.2.2.2.2.2.2.2.1.1) _) (Nat.le_refl _) (Nat.le_refl _) (by first | exact Nat.le_refl _ | exact le.1) (by first | exact Nat.le_refl _ | exact le.2) ?_
  rintro _ _ ⟨rfl, rfl⟩
  refine z_iret dX11_holds_13 rfl rfl ?_
  rw [show aHolds T dd = (2, -1) from by unfold aHolds; rw [if_pos (by omega)]]
  exact ⟨rfl, cQ_st hJ qFr_rf _⟩
