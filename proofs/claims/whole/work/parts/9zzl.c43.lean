def fSh (b : Int) : List (Int × Option Int) := (b + 4, none) :: fG 18
theorem fG_o {m m' : zM} {c k : Int} (f : zfr (fG 18) m m') (h : c < 18 ∨ 21 < c) : m' c k = m c k := f c k (by simp [fG]; omega) (by simp [fG]; omega)
theorem fSh_o {m m' : zM} {b c k : Int} (f : zfr (fSh b) m m') (h : c ≠ b + 4 ∧ (c < 18 ∨ 21 < c)) : m' c k = m c k := f c k (by simp [fSh, fG]; omega) (by simp [fSh, fG]; omega)
/-- the table of diagrams and its own graph -/
def dM (m : zM) (b : Int) (T : zT) (D : List Int) : Prop := dG m b T D ∧ qDg m 14 b ∧ m 14 1 = 18 ∧ ptG m 18 ∧ m 14 14 = ((tH T : Nat) : Int) ∧ m 14 15 = ((tAll T.1 : Nat) : Int) ∧ m 14 16 = ((tOut T.1 : Nat) : Int) ∧ m 14 17 = oTh T.1 (T.1 2).toNat
theorem dM_sh {m m1 : zM} {b : Int} {T : zT} {D : List Int} {i : Nat} {v : Int} (h : dM m b T D) (hv : D[i]? = some v) (hb : 24 < b) (g : zfr (fG 18) m m1) (pG : ptG m1 18) : dM (zu m1 (b + 4) (i : Int) (fxV T v + (shV T v : Int))) b T D := by
  obtain ⟨h1, h2, h3, h4, h5, h6, h7, h8⟩ := h
  have o : ∀ k : Int, zu m1 (b + 4) (i : Int) (fxV T v + (shV T v : Int)) 14 k = m 14 k := fun k => (zu_a (by omega)).trans (fG_o g (by omega))
  refine ⟨dG_sh (dG_fr h1 (fun x j x0 x1 => fG_o g (by omega)) (fG_o g (by omega))) hv hb, ?_, (o 1).trans h3, ?_, (o 14).trans h5, (o 15).trans h6, (o 16).trans h7, (o 17).trans h8⟩
  · unfold qDg at *
    simp only [o]
    exact h2
  · exact ptG_a pG (by omega)
theorem kn_A {fx : Nat} (h : fx < 128) : zand (fx : Int) 128 = 0 := by
  rw [show (128 : Int) = ((2 ^ 7 : Nat) : Int) from rfl, zand_1b (by omega), if_neg]
  rw [Nat.testBit_lt_two_pow (by omega)]
  decide
theorem shV_lt {T : zT} {v : Int} (h1 : lkV T v ≤ 1) (h2 : paV T v ≤ 8) (h3 : loV T v ≤ 6) (h4 : brV T v ≤ 6) (h5 : riV T v ≤ 6) : shV T v ≤ 4000000 := by
  unfold shV shN
  omega
theorem kn_C {x : Nat} (h : x < 100000000) (h2 : x / 128 % 2 = 1) : zand (x : Int) 128 = 128 := by
  rw [show (128 : Int) = ((2 ^ 7 : Nat) : Int) from rfl, zand_1b (by omega), if_pos]
  rw [Nat.testBit_eq_decide_div_mod_eq, decide_eq_true_eq]
  exact h2
theorem kn_B {fx : Nat} {T : zT} {v : Int} (h : fx < 128 ∧ lkV T v ≤ 1 ∧ paV T v ≤ 8 ∧ loV T v ≤ 6 ∧ brV T v ≤ 6 ∧ riV T v ≤ 6) : zand ((fx + shV T v : Nat) : Int) 128 = 128 := by
  have := shV_lt h.2.1 h.2.2.1 h.2.2.2.1 h.2.2.2.2.1 h.2.2.2.2.2
  refine kn_C (by omega) ?_
  unfold shV shN
  omega
theorem sPop_all {c : Int → Int} (h : 0 ≤ c 2 ∧ c 2 ≤ 8) : ((sPop 12 (tAll c) : Nat) : Int) = c 2 := by
  have hl : tAll c < 2 ^ 8 := by
    unfold tAll
    have := Nat.pow_le_pow_right (n := 2) (by decide) (show (c 2).toNat ≤ 8 by omega)
    have := Nat.two_pow_pos (c 2).toNat
    omega
  rw [show (12 : Nat) = 8 + 4 from rfl, sPop_z hl, sPop_sum]
  exact tAll_pop h
theorem lo_is {T : zT} {v : Int} (h : 0 ≤ tLoops T.1 (tH T) (uF v (tH T))) : ((tH T : Nat) : Int) + ((paV T v : Nat) : Int) - T.1 2 = ((loV T v : Nat) : Int) := by
  unfold loV
  unfold tLoops at *
  unfold paV
  omega
theorem br_is {L : Nat} {co c : Int → Int} (hg : gOn L (gFr co) (gTo co) (tAll c)) : zsum (fun k => gBr L (gFr co) (gTo co) (tAll c) k.toNat) L 0 = tBridges c L co := by
  unfold tBridges
  refine zsum_congr (fun k k0 k1 => ?_)
  rw [gBr_is hg (by omega), show ((k.toNat : Nat) : Int) = k by omega]
theorem ri_is {L : Nat} {co : Int → Int} (h : ∀ x : Int, 0 ≤ x → x < L → 0 ≤ co x) : zsum (fun k => zb (gFr co k.toNat = gTo co k.toNat)) L 0 = tRings L co := by
  unfold tRings
  refine zsum_congr (fun k k0 k1 => zb_congr ?_)
  have := h k k0 (by omega)
  unfold gFr gTo
  rw [show ((k.toNat : Nat) : Int) = k by omega]
  omega
theorem ex_sh {x k p : Nat} (h : x < 100000000) (hk : k < 32) : zand (zshr (x : Int) (k : Int)) ((2 ^ p - 1 : Nat) : Int) = ((x / 2 ^ k % 2 ^ p : Nat) : Int) := by
  rw [zshr_N (by omega) hk, zand_p (Nat.lt_of_le_of_lt (Nat.div_le_self _ _) (by omega))]
theorem ex_pa {fx : Nat} {T : zT} {v : Int} (h : fx < 128) (h1 : lkV T v ≤ 1) (h2 : paV T v ≤ 8) (h3 : loV T v ≤ 6) (h4 : brV T v ≤ 6) (h5 : riV T v ≤ 6) : zand (zshr ((fx + shV T v : Nat) : Int) 9) 15 = ((paV T v : Nat) : Int) := by
  have := shV_lt h1 h2 h3 h4 h5
  have e := ex_sh (x := fx + shV T v) (k := 9) (p := 4) (by omega) (by decide)
  refine e.trans ?_
  have : (fx + shV T v) / 2 ^ 9 % 2 ^ 4 = paV T v := by unfold shV shN; omega
  rw [this]
theorem ex_lo {fx : Nat} {T : zT} {v : Int} (h : fx < 128) (h1 : lkV T v ≤ 1) (h2 : paV T v ≤ 8) (h3 : loV T v ≤ 6) (h4 : brV T v ≤ 6) (h5 : riV T v ≤ 6) : zand (zshr ((fx + shV T v : Nat) : Int) 13) 7 = ((loV T v : Nat) : Int) := by
  have := shV_lt h1 h2 h3 h4 h5
  refine (ex_sh (x := fx + shV T v) (k := 13) (p := 3) (by omega) (by decide)).trans ?_
  have : (fx + shV T v) / 2 ^ 13 % 2 ^ 3 = loV T v := by unfold shV shN; omega
  rw [this]
theorem ex_br {fx : Nat} {T : zT} {v : Int} (h : fx < 128) (h1 : lkV T v ≤ 1) (h2 : paV T v ≤ 8) (h3 : loV T v ≤ 6) (h4 : brV T v ≤ 6) (h5 : riV T v ≤ 6) : zand (zshr ((fx + shV T v : Nat) : Int) 16) 7 = ((brV T v : Nat) : Int) := by
  have := shV_lt h1 h2 h3 h4 h5
  refine (ex_sh (x := fx + shV T v) (k := 16) (p := 3) (by omega) (by decide)).trans ?_
  have : (fx + shV T v) / 2 ^ 16 % 2 ^ 3 = brV T v := by unfold shV shN; omega
  rw [this]
theorem ex_ri {fx : Nat} {T : zT} {v : Int} (h : fx < 128) (h1 : lkV T v ≤ 1) (h2 : paV T v ≤ 8) (h3 : loV T v ≤ 6) (h4 : brV T v ≤ 6) (h5 : riV T v ≤ 6) : zand (zshr ((fx + shV T v : Nat) : Int) 19) 7 = ((riV T v : Nat) : Int) := by
  have := shV_lt h1 h2 h3 h4 h5
  refine (ex_sh (x := fx + shV T v) (k := 19) (p := 3) (by omega) (by decide)).trans ?_
  have : (fx + shV T v) / 2 ^ 19 % 2 ^ 3 = riV T v := by unfold shV shN; omega
  rw [this]
theorem ex_lk {fx : Nat} {T : zT} {v : Int} (h : fx < 128) (h1 : lkV T v ≤ 1) (h2 : paV T v ≤ 8) (h3 : loV T v ≤ 6) (h4 : brV T v ≤ 6) (h5 : riV T v ≤ 6) : zand ((fx + shV T v : Nat) : Int) 256 = 256 * ((lkV T v : Nat) : Int) := by
  have := shV_lt h1 h2 h3 h4 h5
  rw [show (256 : Int) = ((2 ^ 8 : Nat) : Int) from rfl, zand_1b (by omega), Nat.testBit_eq_decide_div_mod_eq]
  have e : (fx + shV T v) / 2 ^ 8 % 2 = lkV T v := by unfold shV shN; omega
  rw [e]
  by_cases z : lkV T v = 1
  · rw [z, if_pos (by decide)]; rfl
  · rw [show lkV T v = 0 by omega, if_neg (by decide)]; rfl
theorem ex_l1 {T : zT} {v : Int} (h : lkV T v ≤ 1) (z : ¬ 256 * ((lkV T v : Nat) : Int) = 0) : lkV T v = 1 := by omega
theorem ex_l0 {T : zT} {v : Int} (z : 256 * ((lkV T v : Nat) : Int) = 0) : ¬ lkV T v = 1 := by omega
theorem ex_fx {fx : Nat} {T : zT} {v : Int} (h : fx < 128) (h1 : lkV T v ≤ 1) (h2 : paV T v ≤ 8) (h3 : loV T v ≤ 6) (h4 : brV T v ≤ 6) (h5 : riV T v ≤ 6) : zand ((fx + shV T v : Nat) : Int) 127 = (fx : Int) ∧ zand (fx : Int) 127 = (fx : Int) := by
  have := shV_lt h1 h2 h3 h4 h5
  refine ⟨(zand_p (k := 7) (by omega)).trans ?_, (zand_p (k := 7) (by omega)).trans ?_⟩
  · have : (fx + shV T v) % 2 ^ 7 = fx := by unfold shV shN; omega
    rw [this]
  · rw [Nat.mod_eq_of_lt (by omega)]
theorem c_shapeB (d : Nat) {E : zE} {m : zM} (s14 : E.1 14 = (6, 20)) (T : zT) (hw : wfC T.1) (hl : wfL T.1 T.2.1 T.2.2.1 T.2.2.2) (hV : zsum (fun p => zb (T.1 (32 + 9 * p + 1) = 1)) (T.1 2).toNat 0 ≤ 5) (b bcap : Int) (sB : shDg E b bcap) (b24 : 24 < b) (hLc : ((tPairs T).length : Int) ≤ bcap) (hLb : (tPairs T).length ≤ 10395) (sG : shG E 18) (D : List Int) (hM : dM m b T D) (i : Nat) (v : Int) (hv : D[i]? = some v) (h4 : m (b + 4) (i : Int) = fxV T v + (shV T v : Int)) : zR zX0_shapeOf (d + 3) [zP 14, zI (i : Nat)] m E E (fun r m' => r = some (zI (fxV T v + (shV T v : Int))) ∧ zfr (fSh b) m m' ∧ dM m' b T D) := by
  have hmem : ∃ r ∈ tPairs T, tName T r = v := (hM.1.1.2 v).mp (List.mem_of_getElem? hv)
  have hid : i < D.length := (List.getElem?_eq_some_iff.mp hv).1
  have hDl := hM.1.2.2.2.2.1
  have hfx := fxV_rg hw hl hV hmem
  obtain ⟨hr1, hr2, hr3, hr4, hr5, hr6, hr7, hr8⟩ := shV_rg hw hl hmem
  obtain ⟨fx, efx⟩ : ∃ fx : Nat, fxV T v = (fx : Int) := Int.eq_ofNat_of_zero_le hfx.1
  have hn := hl.1
  have hH6 : tH T ≤ 6 := by unfold tH; omega
  have hc2 := hw.2.2.1
  refine zR_go [zP 14, zI (i : Nat), zN, zN, zN] (by decide +kernel) (Nat.le_of_ble_eq_true rfl) rfl rfl ?_
  refine z_aload_n dX0_shapeOf_0 rfl ?_
  refine z_gP 9 rfl (r := b + 4) flX0_48 dX0_shapeOf_1 s14 rfl hM.2.1.2.2.2.2.1 (by omega) ?_
  refine z_iload_n dX0_shapeOf_4 rfl ?_
  refine z_ialv (v := ((fx + shV T v : Nat) : Int)) dX0_shapeOf_5 sB.2.2.2.2.1 (by omega) (by omega) (by rw [h4, efx]; rfl) ?_
  refine z_sipush dX0_shapeOf_6 rfl (by decide) ?_
  refine z_iand dX0_shapeOf_9 ?_
  rw [kn_B (by omega)]
  refine z_if_ne (tgt := 139) dX0_shapeOf_10 rfl (fun h10 => ?_) (fun h => absurd (by decide) h)
  refine z_aload_n dX0_shapeOf_139 rfl ?_
  refine z_gP 9 rfl (r := b + 4) flX0_48 dX0_shapeOf_140 s14 rfl hM.2.1.2.2.2.2.1 (by omega) ?_
  refine z_iload_n dX0_shapeOf_143 rfl ?_
  refine z_ialv (v := ((fx + shV T v : Nat) : Int)) dX0_shapeOf_144 sB.2.2.2.2.1 (by omega) (by omega) (by rw [h4, efx]; rfl) ?_
  refine z_iret dX0_shapeOf_145 rfl rfl ?_
  exact ⟨by rw [efx]; rfl, zfr_rf, hM⟩

theorem c_shapeA (d : Nat) {E : zE} {m : zM} (s14 : E.1 14 = (6, 20)) (T : zT) (hw : wfC T.1) (hl : wfL T.1 T.2.1 T.2.2.1 T.2.2.2) (hV : zsum (fun p => zb (T.1 (32 + 9 * p + 1) = 1)) (T.1 2).toNat 0 ≤ 5) (b bcap : Int) (sB : shDg E b bcap) (b24 : 24 < b) (hLc : ((tPairs T).length : Int) ≤ bcap) (hLb : (tPairs T).length ≤ 10395) (sG : shG E 18) (D : List Int) (hM : dM m b T D) (i : Nat) (v : Int) (hv : D[i]? = some v) (h4 : m (b + 4) (i : Int) = fxV T v) : zR zX0_shapeOf (d + 3) [zP 14, zI (i : Nat)] m E E (fun r m' => r = some (zI (fxV T v + (shV T v : Int))) ∧ zfr (fSh b) m m' ∧ dM m' b T D) := by
  have hmem : ∃ r ∈ tPairs T, tName T r = v := (hM.1.1.2 v).mp (List.mem_of_getElem? hv)
  have hid : i < D.length := (List.getElem?_eq_some_iff.mp hv).1
  have hDl := hM.1.2.2.2.2.1
  have hfx := fxV_rg hw hl hV hmem
  obtain ⟨hr1, hr2, hr3, hr4, hr5, hr6, hr7, hr8⟩ := shV_rg hw hl hmem
  obtain ⟨fx, efx⟩ : ∃ fx : Nat, fxV T v = (fx : Int) := Int.eq_ofNat_of_zero_le hfx.1
  have hn := hl.1
  have hH6 : tH T ≤ 6 := by unfold tH; omega
  have hc2 := hw.2.2.1
  obtain ⟨ev, hrow, hg⟩ := nm_row hw hl hmem
  have hW := tAll_lt hw
  have hO := tOut_lt (wfD_of hw)
  have hv0 : m b (i : Int) = sPk (uF v (tH T)) (tH T) := (hM.1.2.1 i v hv).1.trans ev
  refine zR_go [zP 14, zI (i : Nat), zN, zN, zN] (by decide +kernel) (Nat.le_of_ble_eq_true rfl) rfl rfl ?_
  refine z_aload_n dX0_shapeOf_0 rfl ?_
  refine z_gP 9 rfl (r := b + 4) flX0_48 dX0_shapeOf_1 s14 rfl hM.2.1.2.2.2.2.1 (by omega) ?_
  refine z_iload_n dX0_shapeOf_4 rfl ?_
  refine z_ialv (v := (fx : Int)) dX0_shapeOf_5 sB.2.2.2.2.1 (by omega) (by omega) (by rw [h4, efx]) ?_
  refine z_sipush dX0_shapeOf_6 rfl (by decide) ?_
  refine z_iand dX0_shapeOf_9 ?_
  rw [kn_A (by omega)]
  refine z_if_ne (tgt := 139) dX0_shapeOf_10 rfl (fun h => absurd h (fun z => z rfl)) (fun h10 => ?_)
  refine z_aload_n dX0_shapeOf_13 rfl ?_
  refine z_gP 1 rfl (r := 18) flX0_21 dX0_shapeOf_14 s14 rfl hM.2.2.1 (by omega) ?_
  refine z_aload_n dX0_shapeOf_17 rfl ?_
  refine z_gP 5 rfl (r := b) flX0_35 dX0_shapeOf_18 s14 rfl hM.2.1.1 (by omega) ?_
  refine z_iload_n dX0_shapeOf_21 rfl ?_
  refine z_lalv dX0_shapeOf_22 sB.1 (by omega) (by omega) hv0 ?_
  refine z_aload_n dX0_shapeOf_23 rfl ?_
  refine z_gIv 14 rfl flX0_79 dX0_shapeOf_24 s14 rfl hM.2.2.2.2.1 ?_
  refine z_aload_n dX0_shapeOf_27 rfl ?_
  refine z_gIv 15 rfl flX0_86 dX0_shapeOf_28 s14 rfl hM.2.2.2.2.2.1 ?_
  refine z_callV mlX0_190 dX0_shapeOf_31 sG.1 (av := [_, _, _]) rfl rfl (Nat.le_of_ble_eq_true rfl) (c_readName _ 18 (by decide) sG hM.2.2.2.1 (uF v (tH T)) (tH T) hH6 (fun x x0 x1 => ⟨cRow_rg hw hrow x x0 x1, by have := cCodeOk_rg hw (hrow.1 x x0 x1); omega, by have := cCodeOk_rg hw (hrow.1 x x0 x1); omega⟩) (tAll T.1)) (Nat.le_refl _) (Nat.le_refl _) (Nat.le_refl _) (Nat.le_refl _) ?_
  rintro _ m1 ⟨rfl, g1, hG, pG⟩
  refine z_aload_n dX0_shapeOf_34 rfl ?_
  refine z_gP 1 rfl (r := 18) flX0_21 dX0_shapeOf_35 s14 rfl ((fG_o g1 (by omega)).trans hM.2.2.1) (by omega) ?_
  refine z_callV mlX0_194 dX0_shapeOf_38 sG.1 (av := _) rfl rfl (Nat.le_of_ble_eq_true rfl) (c_partCount _ 18 (by decide) sG pG (gNb (gFr (uF v (tH T))) (gTo (uF v (tH T))) (tH T)) (fun p _ => gNb_lt (gOn_rg hg) p) hG.2.2 (tAll T.1) hW hG.2.1) (Nat.le_refl _) (Nat.le_refl _) (Nat.le_refl _) (Nat.le_refl _) ?_
  rintro _ _ ⟨rfl, rfl⟩
  rw [cPs_is hg, show tParts (tH T) (uF v (tH T)) (-1) (tAll T.1) = paV T v from rfl]
  refine z_ist 2 dX0_shapeOf_41 rfl (Nat.le_of_ble_eq_true rfl) ?_
  refine z_aload_n dX0_shapeOf_42 rfl ?_
  refine z_gIv 14 rfl flX0_79 dX0_shapeOf_43 s14 rfl ((fG_o g1 (by omega)).trans hM.2.2.2.2.1) ?_
  refine z_iload_n dX0_shapeOf_46 rfl ?_
  refine z_add dX0_shapeOf_47 (by omega) ?_
  refine z_aload_n dX0_shapeOf_48 rfl ?_
  refine z_gIv 15 rfl flX0_86 dX0_shapeOf_49 s14 rfl ((fG_o g1 (by omega)).trans hM.2.2.2.2.2.1) ?_
  try dsimp only [zs0, zsI, zsP, zsN, zsJ, zsS, zst2, Nat.reduceAdd]
  refine z_callS mlX0_197 dX0_shapeOf_52 (av := [_]) rfl rfl (Nat.le_of_ble_eq_true rfl) (c_bitCount _ (tAll T.1) (by omega)) (Nat.le_refl _) (Nat.le_refl _) (Nat.le_refl _) (Nat.le_refl _) ?_
  rintro _ _ ⟨rfl, rfl⟩
  rw [sPop_all hw.2.2.1]
  refine z_sub dX0_shapeOf_55 (by omega) ?_
  rw [show ((tH T : Nat) : Int) + ((paV T v : Nat) : Int) - T.1 2 = ((loV T v : Nat) : Int) from lo_is hr6]
  refine z_ist 3 dX0_shapeOf_56 rfl (Nat.le_of_ble_eq_true rfl) ?_
  refine z_sipush dX0_shapeOf_57 rfl (by decide) ?_
  refine z_iload_n dX0_shapeOf_60 rfl ?_
  refine z_bipush dX0_shapeOf_61 rfl (by decide) ?_
  refine z_ishl dX0_shapeOf_63 ?_
  refine z_ior dX0_shapeOf_64 ?_
  refine z_iload_n dX0_shapeOf_65 rfl ?_
  refine z_bipush dX0_shapeOf_66 rfl (by decide) ?_
  refine z_ishl dX0_shapeOf_68 ?_
  refine z_ior dX0_shapeOf_69 ?_
  rw [shN_1 (by omega) (by omega)]
  refine z_istore dX0_shapeOf_70 (Nat.le_of_ble_eq_true rfl) ?_
  refine z_iload dX0_shapeOf_72 rfl ?_
  refine z_aload_n dX0_shapeOf_74 rfl ?_
  refine z_gP 1 rfl (r := 18) flX0_21 dX0_shapeOf_75 s14 rfl ((fG_o g1 (by omega)).trans hM.2.2.1) (by omega) ?_
  try dsimp only [zs0, zsI, zsP, zsN, zsJ, zsS, zst2, Nat.reduceAdd]
  refine z_callV mlX0_202 dX0_shapeOf_78 sG.1 (av := _) rfl rfl (Nat.le_of_ble_eq_true rfl) (c_bridges _ 18 (by decide) sG pG (tH T) (gFr (uF v (tH T))) (gTo (uF v (tH T))) (tAll T.1) hG hW) (Nat.le_refl _) (Nat.le_refl _) (Nat.le_refl _) (Nat.le_refl _) ?_
  rintro _ _ ⟨rfl, rfl⟩
  rw [br_is hg, show tBridges T.1 (tH T) (uF v (tH T)) = ((brV T v : Nat) : Int) by unfold brV; omega]
  refine z_bipush dX0_shapeOf_81 rfl (by decide) ?_
  refine z_ishl dX0_shapeOf_83 ?_
  refine z_aload_n dX0_shapeOf_84 rfl ?_
  refine z_gP 1 rfl (r := 18) flX0_21 dX0_shapeOf_85 s14 rfl ((fG_o g1 (by omega)).trans hM.2.2.1) (by omega) ?_
  refine z_callV mlX0_205 dX0_shapeOf_88 sG.1 (av := _) rfl rfl (Nat.le_of_ble_eq_true rfl) (c_rings _ 18 (by decide) sG pG (tH T) (gFr (uF v (tH T))) (gTo (uF v (tH T))) hG.1) (Nat.le_refl _) (Nat.le_refl _) (Nat.le_refl _) (Nat.le_refl _) ?_
  rintro _ _ ⟨rfl, rfl⟩
  rw [ri_is (fun x x0 x1 => (cRow_rg hw hrow x x0 x1).1), show tRings (tH T) (uF v (tH T)) = ((riV T v : Nat) : Int) by unfold riV; omega]
  refine z_bipush dX0_shapeOf_91 rfl (by decide) ?_
  refine z_ishl dX0_shapeOf_93 ?_
  refine z_ior dX0_shapeOf_94 ?_
  refine z_ior dX0_shapeOf_95 ?_
  rw [shN_2 (by omega) (by omega) (by omega), show 128 + 512 * paV T v + 8192 * loV T v + 65536 * brV T v + 524288 * riV T v = 128 + 512 * (paV T v + 16 * loV T v + 128 * brV T v + 1024 * riV T v) by omega]
  refine z_istore dX0_shapeOf_96 (Nat.le_of_ble_eq_true rfl) ?_
  refine z_aload_n dX0_shapeOf_98 rfl ?_
  refine z_gP 1 rfl (r := 18) flX0_21 dX0_shapeOf_99 s14 rfl ((fG_o g1 (by omega)).trans hM.2.2.1) (by omega) ?_
  refine z_aload_n dX0_shapeOf_102 rfl ?_
  refine z_gIv 16 rfl flX0_91 dX0_shapeOf_103 s14 rfl ((fG_o g1 (by omega)).trans hM.2.2.2.2.2.2.1) ?_
  refine z_aload_n dX0_shapeOf_106 rfl ?_
  refine z_gIv 15 rfl flX0_86 dX0_shapeOf_107 s14 rfl ((fG_o g1 (by omega)).trans hM.2.2.2.2.2.1) ?_
  try dsimp only [zs0, zsI, zsP, zsN, zsJ, zsS, zst2, Nat.reduceAdd]
  refine z_callV mlX0_208 dX0_shapeOf_110 sG.1 (av := [_, _]) rfl rfl (Nat.le_of_ble_eq_true rfl) (c_reach _ 18 (by decide) sG pG (gNb (gFr (uF v (tH T))) (gTo (uF v (tH T))) (tH T)) (fun p _ => gNb_lt (gOn_rg hg) p) hG.2.2 (tOut T.1) (tAll T.1) hO hW) (Nat.le_refl _) (Nat.le_refl _) (Nat.le_refl _) (Nat.le_refl _) ?_
  rintro _ _ ⟨rfl, rfl⟩
  refine z_aload_n dX0_shapeOf_113 rfl ?_
  refine z_gIv 15 rfl flX0_86 dX0_shapeOf_114 s14 rfl ((fG_o g1 (by omega)).trans hM.2.2.2.2.2.1) ?_
  refine z_icmp_ne (tgt := 128) dX0_shapeOf_117 rfl (fun h117 => ?_) (fun h117 => ?_)
  · refine z_aload_n dX0_shapeOf_128 rfl ?_
    refine z_gP 9 rfl (r := b + 4) flX0_48 dX0_shapeOf_129 s14 rfl ((fG_o g1 (by omega)).trans hM.2.1.2.2.2.2.1) (by omega) ?_
    refine z_iload_n dX0_shapeOf_132 rfl ?_
    refine z_dup2 dX0_shapeOf_133 rfl rfl ?_
    refine z_ialv (v := (fx : Int)) dX0_shapeOf_134 sB.2.2.2.2.1 (by omega) (by omega) ((fG_o g1 (by omega)).trans (by rw [h4, efx])) ?_
    refine z_iload dX0_shapeOf_135 rfl ?_
    refine z_ior dX0_shapeOf_137 ?_
    have hlk : lkV T v = 0 := if_neg (fun z => h117 (by rw [(linked_iff hg).mpr z]))
    rw [show ((128 + 512 * (paV T v + 16 * loV T v + 128 * brV T v + 1024 * riV T v) : Nat) : Int) = ((shV T v : Nat) : Int) by unfold shV shN; rw [hlk]; omega, show shV T v = shN (lkV T v) (paV T v) (loV T v) (brV T v) (riV T v) from rfl, shN_4 (by omega) (by omega) (by omega) (by omega) (by omega) (by omega), show shN (lkV T v) (paV T v) (loV T v) (brV T v) (riV T v) = shV T v from rfl]
    refine z_iast dX0_shapeOf_138 sB.2.2.2.2.1 (by omega) (by omega) ?_
    refine z_aload_n dX0_shapeOf_139 rfl ?_
    refine z_gP 9 rfl (r := b + 4) flX0_48 dX0_shapeOf_140 s14 rfl ((zu_a (by omega)).trans ((fG_o g1 (by omega)).trans hM.2.1.2.2.2.2.1)) (by omega) ?_
    refine z_iload_n dX0_shapeOf_143 rfl ?_
    refine z_ialv dX0_shapeOf_144 sB.2.2.2.2.1 (by omega) (by omega) zu_s ?_
    refine z_iret dX0_shapeOf_145 rfl rfl ?_
    refine ⟨by rw [efx]; rfl, zfr_ua (zfr_sub g1 (fun q hq => List.mem_cons_of_mem _ hq)) (by simp [fSh]), ?_⟩
    rw [show ((fx + shV T v : Nat) : Int) = fxV T v + (shV T v : Int) by rw [efx]; rfl]
    exact dM_sh hM hv b24 g1 pG
  · refine z_iload dX0_shapeOf_120 rfl ?_
    refine z_sipush dX0_shapeOf_122 rfl (by decide) ?_
    refine z_ior dX0_shapeOf_125 ?_
    rw [shN_3 (by omega)]
    refine z_istore dX0_shapeOf_126 (Nat.le_of_ble_eq_true rfl) ?_
    refine z_aload_n dX0_shapeOf_128 rfl ?_
    refine z_gP 9 rfl (r := b + 4) flX0_48 dX0_shapeOf_129 s14 rfl ((fG_o g1 (by omega)).trans hM.2.1.2.2.2.2.1) (by omega) ?_
    refine z_iload_n dX0_shapeOf_132 rfl ?_
    refine z_dup2 dX0_shapeOf_133 rfl rfl ?_
    refine z_ialv (v := (fx : Int)) dX0_shapeOf_134 sB.2.2.2.2.1 (by omega) (by omega) ((fG_o g1 (by omega)).trans (by rw [h4, efx])) ?_
    refine z_iload dX0_shapeOf_135 rfl ?_
    refine z_ior dX0_shapeOf_137 ?_
    have hlk : lkV T v = 1 := if_pos ((linked_iff hg).mp (by omega))
    rw [show ((384 + 512 * (paV T v + 16 * loV T v + 128 * brV T v + 1024 * riV T v) : Nat) : Int) = ((shV T v : Nat) : Int) by unfold shV shN; rw [hlk]; omega, show shV T v = shN (lkV T v) (paV T v) (loV T v) (brV T v) (riV T v) from rfl, shN_4 (by omega) (by omega) (by omega) (by omega) (by omega) (by omega), show shN (lkV T v) (paV T v) (loV T v) (brV T v) (riV T v) = shV T v from rfl]
    refine z_iast dX0_shapeOf_138 sB.2.2.2.2.1 (by omega) (by omega) ?_
    refine z_aload_n dX0_shapeOf_139 rfl ?_
    refine z_gP 9 rfl (r := b + 4) flX0_48 dX0_shapeOf_140 s14 rfl ((zu_a (by omega)).trans ((fG_o g1 (by omega)).trans hM.2.1.2.2.2.2.1)) (by omega) ?_
    refine z_iload_n dX0_shapeOf_143 rfl ?_
    refine z_ialv dX0_shapeOf_144 sB.2.2.2.2.1 (by omega) (by omega) zu_s ?_
    try dsimp only [zs0, zsI, zsP, zsN, zsJ, zsS, zst2, Nat.reduceAdd]
    refine z_iret dX0_shapeOf_145 rfl rfl ?_
    refine ⟨by rw [efx]; rfl, zfr_ua (zfr_sub g1 (fun q hq => List.mem_cons_of_mem _ hq)) (by simp [fSh]), ?_⟩
    rw [show ((fx + shV T v : Nat) : Int) = fxV T v + (shV T v : Int) by rw [efx]; rfl]
    exact dM_sh hM hv b24 g1 pG

theorem c_shapeOf (d : Nat) {E : zE} {m : zM} (s14 : E.1 14 = (6, 20)) (T : zT) (hw : wfC T.1) (hl : wfL T.1 T.2.1 T.2.2.1 T.2.2.2) (hV : zsum (fun p => zb (T.1 (32 + 9 * p + 1) = 1)) (T.1 2).toNat 0 ≤ 5) (b bcap : Int) (sB : shDg E b bcap) (b24 : 24 < b) (hLc : ((tPairs T).length : Int) ≤ bcap) (hLb : (tPairs T).length ≤ 10395) (sG : shG E 18) (D : List Int) (hM : dM m b T D) (i : Nat) (v : Int) (hv : D[i]? = some v) : zR zX0_shapeOf (d + 3) [zP 14, zI (i : Nat)] m E E (fun r m' => r = some (zI (fxV T v + (shV T v : Int))) ∧ zfr (fSh b) m m' ∧ dM m' b T D) := by
  rcases (hM.1.2.1 i v hv).2.2.2.2 with z | z
  · exact c_shapeA d s14 T hw hl hV b bcap sB b24 hLc hLb sG D hM i v hv z
  · exact c_shapeB d s14 T hw hl hV b bcap sB b24 hLc hLb sG D hM i v hv z

theorem c_partsOf (d : Nat) {E : zE} {m : zM} (s14 : E.1 14 = (6, 20)) (T : zT) (hw : wfC T.1) (hl : wfL T.1 T.2.1 T.2.2.1 T.2.2.2) (hV : zsum (fun p => zb (T.1 (32 + 9 * p + 1) = 1)) (T.1 2).toNat 0 ≤ 5) (b bcap : Int) (sB : shDg E b bcap) (b24 : 24 < b) (hLc : ((tPairs T).length : Int) ≤ bcap) (hLb : (tPairs T).length ≤ 10395) (sG : shG E 18) (D : List Int) (hM : dM m b T D) (i : Nat) (v : Int) (hv : D[i]? = some v) : zR zX0_partsOf (d + 4) [zP 14, zI (i : Nat)] m E E (fun r m' => r = some (zI (paV T v : Nat)) ∧ zfr (fSh b) m m' ∧ dM m' b T D) := by
  have hmem : ∃ r ∈ tPairs T, tName T r = v := (hM.1.1.2 v).mp (List.mem_of_getElem? hv)
  have hid : i < D.length := (List.getElem?_eq_some_iff.mp hv).1
  have hDl := hM.1.2.2.2.2.1
  have hfx := fxV_rg hw hl hV hmem
  obtain ⟨hr1, hr2, hr3, hr4, hr5, hr6, hr7, hr8⟩ := shV_rg hw hl hmem
  obtain ⟨fx, efx⟩ : ∃ fx : Nat, fxV T v = (fx : Int) := Int.eq_ofNat_of_zero_le hfx.1
  have hn := hl.1
  have hH6 : tH T ≤ 6 := by unfold tH; omega
  have hc2 := hw.2.2.1
  refine zR_go [zP 14, zI (i : Nat)] (by decide +kernel) (Nat.le_of_ble_eq_true rfl) rfl rfl ?_
  refine z_aload_n dX0_partsOf_0 rfl ?_
  refine z_iload_n dX0_partsOf_1 rfl ?_
  refine z_callV mlX0_184 dX0_partsOf_2 s14 (av := [_]) rfl rfl (Nat.le_of_ble_eq_true rfl) (c_shapeOf d s14 T hw hl hV b bcap sB b24 hLc hLb sG D hM i v hv) (Nat.le_refl _) (Nat.le_refl _) (Nat.le_refl _) (Nat.le_refl _) ?_
  rintro _ m1 ⟨rfl, f1, hM1⟩
  rw [efx, show (fx : Int) + ((shV T v : Nat) : Int) = ((fx + shV T v : Nat) : Int) from rfl]
  refine z_bipush dX0_partsOf_5 rfl (by decide) ?_
  refine z_ishr dX0_partsOf_7 ?_
  refine z_bipush dX0_partsOf_8 rfl (by decide) ?_
  refine z_iand dX0_partsOf_10 ?_
  rw [ex_pa (by omega) hr1 hr2 hr3 hr4 hr5]
  refine z_iret dX0_partsOf_11 rfl rfl ?_
  exact ⟨rfl, f1, hM1⟩

theorem c_isLinked (d : Nat) {E : zE} {m : zM} (s14 : E.1 14 = (6, 20)) (T : zT) (hw : wfC T.1) (hl : wfL T.1 T.2.1 T.2.2.1 T.2.2.2) (hV : zsum (fun p => zb (T.1 (32 + 9 * p + 1) = 1)) (T.1 2).toNat 0 ≤ 5) (b bcap : Int) (sB : shDg E b bcap) (b24 : 24 < b) (hLc : ((tPairs T).length : Int) ≤ bcap) (hLb : (tPairs T).length ≤ 10395) (sG : shG E 18) (D : List Int) (hM : dM m b T D) (i : Nat) (v : Int) (hv : D[i]? = some v) : zR zX0_isLinked (d + 4) [zP 14, zI (i : Nat)] m E E (fun r m' => r = some (zI (zb (lkV T v = 1))) ∧ zfr (fSh b) m m' ∧ dM m' b T D) := by
  have hmem : ∃ r ∈ tPairs T, tName T r = v := (hM.1.1.2 v).mp (List.mem_of_getElem? hv)
  have hid : i < D.length := (List.getElem?_eq_some_iff.mp hv).1
  have hDl := hM.1.2.2.2.2.1
  have hfx := fxV_rg hw hl hV hmem
  obtain ⟨hr1, hr2, hr3, hr4, hr5, hr6, hr7, hr8⟩ := shV_rg hw hl hmem
  obtain ⟨fx, efx⟩ : ∃ fx : Nat, fxV T v = (fx : Int) := Int.eq_ofNat_of_zero_le hfx.1
  have hn := hl.1
  have hH6 : tH T ≤ 6 := by unfold tH; omega
  have hc2 := hw.2.2.1
  refine zR_go [zP 14, zI (i : Nat)] (by decide +kernel) (Nat.le_of_ble_eq_true rfl) rfl rfl ?_
  refine z_aload_n dX0_isLinked_0 rfl ?_
  refine z_iload_n dX0_isLinked_1 rfl ?_
  refine z_callV mlX0_184 dX0_isLinked_2 s14 (av := [_]) rfl rfl (Nat.le_of_ble_eq_true rfl) (c_shapeOf d s14 T hw hl hV b bcap sB b24 hLc hLb sG D hM i v hv) (Nat.le_refl _) (Nat.le_refl _) (Nat.le_refl _) (Nat.le_refl _) ?_
  rintro _ m1 ⟨rfl, f1, hM1⟩
  rw [efx, show (fx : Int) + ((shV T v : Nat) : Int) = ((fx + shV T v : Nat) : Int) from rfl]
  refine z_sipush dX0_isLinked_5 rfl (by decide) ?_
  refine z_iand dX0_isLinked_8 ?_
  rw [ex_lk (by omega) hr1 hr2 hr3 hr4 hr5]
  refine z_if_eq (tgt := 16) dX0_isLinked_9 rfl (fun h9 => ?_) (fun h9 => ?_)
  · refine z_iconst dX0_isLinked_16 (by decide) ?_
    refine z_zret dX0_isLinked_17 rfl (by first | omega | exact zb01 _) rfl ?_
    exact ⟨by rw [zb_f (ex_l0 h9)], f1, hM1⟩
  · refine z_iconst dX0_isLinked_12 (by decide) ?_
    refine z_goto (tgt := 17) dX0_isLinked_13 rfl ?_
    refine z_zret dX0_isLinked_17 rfl (by first | omega | exact zb01 _) rfl ?_
    exact ⟨by rw [zb_t (ex_l1 hr1 h9)], f1, hM1⟩
