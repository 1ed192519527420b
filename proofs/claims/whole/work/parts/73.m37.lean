def tMo (h : Nat) (co : Int → Int) : Int := zfd (fun k v => if v < zsum (fun i => zb (co i = co k)) h 0 then zsum (fun i => zb (co i = co k)) h 0 else v) h 0 0
noncomputable def tOf (T : zT) (dd w : Int) : Int := if w = 0 then tCnt T dd else if w = 1 then tSgn T dd else if w = 2 then zl2i (zldiv (sOrd T.1 (T.1 2).toNat 0 0 1) (tCnt T dd)) else if w = 3 then (tParts (tH T) (tCo T dd) (-1) (tAll T.1) : Nat) else if w = 4 then zb (tLost T.1 (tH T) (tCo T dd) (tAll T.1) = 0) else if w = 5 then tLoops T.1 (tH T) (tCo T dd) else if w = 6 then tBridges T.1 (tH T) (tCo T dd) else if w = 7 then tRings (tH T) (tCo T dd) else if w = 8 then zfst (fun k => decide (tName T (tMt T k) = tNm T dd)) (tPairs T).length 0 else if w = 9 then tMo (tH T) (tCo T dd) else tLv T dd
noncomputable def aDiagram (T : zT) (dd w : Int) : Int × Int := if ¬ (0 ≤ w ∧ w ≤ 10) then (1, -1) else if ¬ (0 ≤ dd ∧ dd < ((tD T).length : Int)) then (2, -1) else (0, tOf T dd w)
noncomputable def aName (T : zT) (dd k : Int) : Int × Int := if k < 0 then (1, -1) else if ¬ (0 ≤ dd ∧ dd < ((tD T).length : Int)) then (2, -1) else if T.2.2.2 / 2 ≤ k then (5, -1) else (0, tCo T dd k)
noncomputable def aPart (T : zT) (dd p : Int) : Int × Int := if ¬ ((0 ≤ dd ∧ dd < ((tD T).length : Int)) ∧ (0 ≤ p ∧ p ≤ T.1 2 - 1)) then (2, -1) else (0, (tR (tH T) (tCo T dd) (-1) (-1) p.toNat : Nat))
theorem q_ofDiagram0 (d : Nat) {E : zE} {m : zM} (hE : shM E) (hI : mI m) (hL : mL m) (hN : mN m) (dd : Int) (h0 : 0 ≤ dd) (h1 : dd < ((tD (mT m)).length : Int)) (w : Int)  : zR zX12_ofDiagram0 (d + 14) [zP aM, zI dd, zI w] m E E (fun r m' => r = some (zI (tOf (mT m) dd w)) ∧ zfr fW2 m m' ∧ mPl m') := by
  have hm := hI.1.1
  obtain ⟨hw, hl, hn0⟩ := mI_wl hI
  have b1 := hw.1
  have b2 := hw.2.1
  have b3 := hw.2.2.1
  refine zR_go [zP aM, zI dd, zI w] (by decide +kernel) (Nat.le_of_ble_eq_true rfl) rfl rfl ?_
  refine z_aload_n dX12_ofDiagram0_0 rfl ?_
  refine z_iload_n dX12_ofDiagram0_1 rfl ?_
  refine z_callV mlX12_289 dX12_ofDiagram0_2 (sh_M hE) (av := [_]) rfl rfl (Nat.le_of_ble_eq_true rfl) (q_opens _ hE hI dd hN h0 h1) (Nat.le_refl _) (Nat.le_refl _) (Nat.le_refl _) (Nat.le_refl _) ?_
  rintro _ m1 ⟨rfl, f1, o1⟩
  have hI1 := mI_fr hI (zfr_sub f1 (by decide))
  have hm1 : ptM m1 := hI1.1.1
  have ec : m1 a_c = m a_c := zfr_cell f1 (by decide)
  have hw1 : wfC (m1 a_c) := by rw [ec]; exact hw
  have hA := tAll_lt hw1
  have eT : mT m1 = mT m := mT_fr f1 (by decide)
  have hL1 := mL_kept f1 hL
  have hN1 := mN_keptW f1 hN
  have hd1 : dd < ((tD (mT m1)).length : Int) := by rw [eT]; exact h1
  have hp1 : mPl m1 := hI1.2.2.2.1
  have hfw : zfr fW2 m m1 := zfr_sub f1 (by decide)
  refine z_iload_n dX12_ofDiagram0_5 rfl ?_
  by_cases hs0 : w = 0
  · refine z_tabIn (tgt := 60) dX12_ofDiagram0_6 (by omega) (by omega) (by rw [hs0]; rfl) rfl ?_
    refine z_aload_n dX12_ofDiagram0_60 rfl ?_
    refine z_iload_n dX12_ofDiagram0_61 rfl ?_
    refine z_callV mlX12_307 dX12_ofDiagram0_62 (sh_M hE) (av := [_]) rfl rfl (Nat.le_of_ble_eq_true rfl) (q_countOf _ hE hm1 hI1.1 hL1 hN1 dd h0 hd1) (Nat.le_refl _) (Nat.le_refl _) (Nat.le_refl _) (Nat.le_refl _) ?_
    rintro _ _ ⟨rfl, rfl⟩
    refine z_iret dX12_ofDiagram0_65 rfl rfl ?_
    have eA : tOf (mT m) dd w = tCnt (mT m) dd := by unfold tOf; rw [if_pos (by omega)]
    rw [eA]
    rw [eT]
    exact ⟨rfl, hfw, hp1⟩
  by_cases hs1 : w = 1
  · refine z_tabIn (tgt := 66) dX12_ofDiagram0_6 (by omega) (by omega) (by rw [hs1]; rfl) rfl ?_
    refine z_aload_n dX12_ofDiagram0_66 rfl ?_
    refine z_iload_n dX12_ofDiagram0_67 rfl ?_
    refine z_callV mlX12_396 dX12_ofDiagram0_68 (sh_M hE) (av := [_]) rfl rfl (Nat.le_of_ble_eq_true rfl) (r_signedOf _ hE hm1 hI1.1 hL1 hN1 dd h0 hd1) (Nat.le_refl _) (Nat.le_refl _) (Nat.le_refl _) (Nat.le_refl _) ?_
    rintro _ _ ⟨rfl, rfl⟩
    refine z_iret dX12_ofDiagram0_71 rfl rfl ?_
    have eA : tOf (mT m) dd w = tSgn (mT m) dd := by unfold tOf; rw [if_neg (by omega), if_pos (by omega)]
    rw [eA]
    rw [eT]
    exact ⟨rfl, hfw, hp1⟩
  by_cases hs2 : w = 2
  · refine z_tabIn (tgt := 72) dX12_ofDiagram0_6 (by omega) (by omega) (by rw [hs2]; rfl) rfl ?_
    refine z_aload_n dX12_ofDiagram0_72 rfl ?_
    refine z_iload_n dX12_ofDiagram0_73 rfl ?_
    refine z_callV mlX12_399 dX12_ofDiagram0_74 (sh_M hE) (av := [_]) rfl rfl (Nat.le_of_ble_eq_true rfl) (r_symmetryOf _ hE hm1 hI1.1 hL1 hN1 dd h0 hd1 hw1) (Nat.le_refl _) (Nat.le_refl _) (Nat.le_refl _) (Nat.le_refl _) ?_
    rintro _ _ ⟨rfl, rfl⟩
    refine z_iret dX12_ofDiagram0_77 rfl rfl ?_
    have eA : tOf (mT m) dd w = zl2i (zldiv (sOrd (mT m).1 ((mT m).1 2).toNat 0 0 1) (tCnt (mT m) dd)) := by unfold tOf; rw [if_neg (by omega), if_neg (by omega), if_pos (by omega)]
    rw [eA]
    rw [eT, ec]
    exact ⟨rfl, hfw, hp1⟩
  by_cases hs3 : w = 3
  · refine z_tabIn (tgt := 78) dX12_ofDiagram0_6 (by omega) (by omega) (by rw [hs3]; rfl) rfl ?_
    refine z_aload_n dX12_ofDiagram0_78 rfl ?_
    refine z_aload_n dX12_ofDiagram0_79 rfl ?_
    refine z_callV mlX12_292 dX12_ofDiagram0_80 (sh_M hE) (av := _) rfl rfl (Nat.le_of_ble_eq_true rfl) (r_allPoints _ hE hm1 hw1) (Nat.le_refl _) (Nat.le_refl _) (Nat.le_refl _) (Nat.le_refl _) ?_
    rintro _ _ ⟨rfl, rfl⟩
    refine z_iconst dX12_ofDiagram0_83 (by decide) ?_
    refine z_callV mlX12_298 dX12_ofDiagram0_84 (sh_M hE) (av := [_, _]) rfl rfl (Nat.le_of_ble_eq_true rfl) (q_partsOf _ hE hm1 hw1 o1 (tAll (m1 a_c)) (-1) hA) (Nat.le_refl _) (Nat.le_refl _) (Nat.le_refl _) (Nat.le_refl _) ?_
    rintro _ _ ⟨rfl, rfl⟩
    refine z_iret dX12_ofDiagram0_87 rfl rfl ?_
    have eA : tOf (mT m) dd w = (tParts (tH (mT m)) (tCo (mT m) dd) (-1) (tAll (mT m).1) : Nat) := by unfold tOf; rw [if_neg (by omega), if_neg (by omega), if_neg (by omega), if_pos (by omega)]
    rw [eA]
    rw [ec]
    exact ⟨rfl, hfw, hp1⟩
  by_cases hs4 : w = 4
  · refine z_tabIn (tgt := 88) dX12_ofDiagram0_6 (by omega) (by omega) (by rw [hs4]; rfl) rfl ?_
    refine z_aload_n dX12_ofDiagram0_88 rfl ?_
    refine z_iload_n dX12_ofDiagram0_89 rfl ?_
    refine z_callV mlX12_304 dX12_ofDiagram0_90 (sh_M hE) (av := [_]) rfl rfl (Nat.le_of_ble_eq_true rfl) (q_isLinked _ hE hI1 dd hN1 h0 hd1) (Nat.le_refl _) (Nat.le_refl _) (Nat.le_refl _) (Nat.le_refl _) ?_
    rintro _ m2 ⟨rfl, f2⟩
    have hI2 := mI_fr hI1 (zfr_sub f2 (by decide))
    have hm2 := hI2.1.1
    refine z_ifz_eq (tgt := 100) dX12_ofDiagram0_93 rfl (fun h93 => ?_) (fun h93 => ?_)
    · refine z_iconst dX12_ofDiagram0_100 (by decide) ?_
      refine z_iret dX12_ofDiagram0_101 rfl rfl ?_
      have eA : tOf (mT m) dd w = zb (tLost (mT m).1 (tH (mT m)) (tCo (mT m) dd) (tAll (mT m).1) = 0) := by unfold tOf; rw [if_neg (by omega), if_neg (by omega), if_neg (by omega), if_neg (by omega), if_pos (by omega)]
      rw [eT, ec] at h93
      rw [eA]
      exact ⟨by rw [zb_f (by assumption)], zfr_sub (zfr_tr f1 f2) (by decide), hI2.2.2.2.1⟩
    · refine z_iconst dX12_ofDiagram0_96 (by decide) ?_
      refine z_goto (tgt := 101) dX12_ofDiagram0_97 rfl ?_
      refine z_iret dX12_ofDiagram0_101 rfl rfl ?_
      have eA : tOf (mT m) dd w = zb (tLost (mT m).1 (tH (mT m)) (tCo (mT m) dd) (tAll (mT m).1) = 0) := by unfold tOf; rw [if_neg (by omega), if_neg (by omega), if_neg (by omega), if_neg (by omega), if_pos (by omega)]
      rw [eT, ec] at h93
      rw [eA]
      exact ⟨by rw [zb_t (by assumption)], zfr_sub (zfr_tr f1 f2) (by decide), hI2.2.2.2.1⟩
  by_cases hs5 : w = 5
  · refine z_tabIn (tgt := 102) dX12_ofDiagram0_6 (by omega) (by omega) (by rw [hs5]; rfl) rfl ?_
    refine z_aload_n dX12_ofDiagram0_102 rfl ?_
    refine z_callV mlX12_402 dX12_ofDiagram0_103 (sh_M hE) (av := _) rfl rfl (Nat.le_of_ble_eq_true rfl) (q_loops _ hE hm1 hw1 o1) (Nat.le_refl _) (Nat.le_refl _) (Nat.le_refl _) (Nat.le_refl _) ?_
    rintro _ _ ⟨rfl, rfl⟩
    refine z_iret dX12_ofDiagram0_106 rfl rfl ?_
    have eA : tOf (mT m) dd w = tLoops (mT m).1 (tH (mT m)) (tCo (mT m) dd) := by unfold tOf; rw [if_neg (by omega), if_neg (by omega), if_neg (by omega), if_neg (by omega), if_neg (by omega), if_pos (by omega)]
    rw [eA]
    rw [ec]
    exact ⟨rfl, hfw, hp1⟩
  by_cases hs6 : w = 6
  · refine z_tabIn (tgt := 107) dX12_ofDiagram0_6 (by omega) (by omega) (by rw [hs6]; rfl) rfl ?_
    refine z_aload_n dX12_ofDiagram0_107 rfl ?_
    refine z_callV mlX12_405 dX12_ofDiagram0_108 (sh_M hE) (av := _) rfl rfl (Nat.le_of_ble_eq_true rfl) (q_bridges _ hE hm1 hw1 o1) (Nat.le_refl _) (Nat.le_refl _) (Nat.le_refl _) (Nat.le_refl _) ?_
    rintro _ _ ⟨rfl, rfl⟩
    refine z_iret dX12_ofDiagram0_111 rfl rfl ?_
    have eA : tOf (mT m) dd w = tBridges (mT m).1 (tH (mT m)) (tCo (mT m) dd) := by unfold tOf; rw [if_neg (by omega), if_neg (by omega), if_neg (by omega), if_neg (by omega), if_neg (by omega), if_neg (by omega), if_pos (by omega)]
    rw [eA]
    rw [ec]
    exact ⟨rfl, hfw, hp1⟩
  by_cases hs7 : w = 7
  · refine z_tabIn (tgt := 112) dX12_ofDiagram0_6 (by omega) (by omega) (by rw [hs7]; rfl) rfl ?_
    refine z_aload_n dX12_ofDiagram0_112 rfl ?_
    refine z_callV mlX12_408 dX12_ofDiagram0_113 (sh_M hE) (av := _) rfl rfl (Nat.le_of_ble_eq_true rfl) (q_rings _ hE hm1 hw1 o1) (Nat.le_refl _) (Nat.le_refl _) (Nat.le_refl _) (Nat.le_refl _) ?_
    rintro _ _ ⟨rfl, rfl⟩
    refine z_iret dX12_ofDiagram0_116 rfl rfl ?_
    have eA : tOf (mT m) dd w = tRings (tH (mT m)) (tCo (mT m) dd) := by unfold tOf; rw [if_neg (by omega), if_neg (by omega), if_neg (by omega), if_neg (by omega), if_neg (by omega), if_neg (by omega), if_neg (by omega), if_pos (by omega)]
    rw [eA]
    exact ⟨rfl, hfw, hp1⟩
  by_cases hs8 : w = 8
  · refine z_tabIn (tgt := 117) dX12_ofDiagram0_6 (by omega) (by omega) (by rw [hs8]; rfl) rfl ?_
    refine z_aload_n dX12_ofDiagram0_117 rfl ?_
    refine z_iload_n dX12_ofDiagram0_118 rfl ?_
    refine z_callV mlX12_411 dX12_ofDiagram0_119 (sh_M hE) (av := [_]) rfl rfl (Nat.le_of_ble_eq_true rfl) (r_firstPairing _ hE hm1 hI1.1 hL1 hN1 dd h0 hd1) (Nat.le_refl _) (Nat.le_refl _) (Nat.le_refl _) (Nat.le_refl _) ?_
    rintro _ _ ⟨rfl, rfl⟩
    refine z_iret dX12_ofDiagram0_122 rfl rfl ?_
    have eA : tOf (mT m) dd w = zfst (fun k => decide (tName (mT m) (tMt (mT m) k) = tNm (mT m) dd)) (tPairs (mT m)).length 0 := by unfold tOf; rw [if_neg (by omega), if_neg (by omega), if_neg (by omega), if_neg (by omega), if_neg (by omega), if_neg (by omega), if_neg (by omega), if_neg (by omega), if_pos (by omega)]
    rw [eA]
    rw [eT]
    exact ⟨rfl, hfw, hp1⟩
  by_cases hs9 : w = 9
  · refine z_tabIn (tgt := 123) dX12_ofDiagram0_6 (by omega) (by omega) (by rw [hs9]; rfl) rfl ?_
    refine z_aload_n dX12_ofDiagram0_123 rfl ?_
    refine z_callV mlX12_414 dX12_ofDiagram0_124 (sh_M hE) (av := _) rfl rfl (Nat.le_of_ble_eq_true rfl) (r_mostOfOne _ hE hm1 _ _ o1) (Nat.le_refl _) (Nat.le_refl _) (Nat.le_refl _) (Nat.le_refl _) ?_
    rintro _ _ ⟨rfl, rfl⟩
    refine z_iret dX12_ofDiagram0_127 rfl rfl ?_
    have eA : tOf (mT m) dd w = tMo (tH (mT m)) (tCo (mT m) dd) := by unfold tOf; rw [if_neg (by omega), if_neg (by omega), if_neg (by omega), if_neg (by omega), if_neg (by omega), if_neg (by omega), if_neg (by omega), if_neg (by omega), if_neg (by omega), if_pos (by omega)]
    rw [eA]
    exact ⟨rfl, hfw, hp1⟩
  refine z_tabOut (tgt := 128) dX12_ofDiagram0_6 (by omega) rfl ?_
  refine z_aload_n dX12_ofDiagram0_128 rfl ?_
  refine z_iload_n dX12_ofDiagram0_129 rfl ?_
  refine z_callV mlX12_417 dX12_ofDiagram0_130 (sh_M hE) (av := [_]) rfl rfl (Nat.le_of_ble_eq_true rfl) (r_leaving _ hE hm1 hI1.1 hL1 hN1 dd h0 hd1 hp1 (by rw [eT]; exact o1)) (Nat.le_refl _) (Nat.le_refl _) (Nat.le_refl _) (Nat.le_refl _) ?_
  rintro _ m2 ⟨rfl, f2, hp2⟩
  refine z_iret dX12_ofDiagram0_133 rfl rfl ?_
  have eA : tOf (mT m) dd w = tLv (mT m) dd := by unfold tOf; rw [if_neg (by omega), if_neg (by omega), if_neg (by omega), if_neg (by omega), if_neg (by omega), if_neg (by omega), if_neg (by omega), if_neg (by omega), if_neg (by omega), if_neg (by omega)]
  rw [eA, eT]
  exact ⟨rfl, zfr_tr hfw f2, hp2⟩

theorem q_diagram (d : Nat) {E : zE} {m : zM} (hE : shM E) (hI : mI m) (dd w : Int)  : zR zX12_diagram (d + 15) [zP aM, zI dd, zI w] m E E (fun r m' => r = some (zI (aDiagram (mT m) dd w).2) ∧ mQ m m' (aDiagram (mT m) dd w).1) := by
  have hm := hI.1.1
  obtain ⟨hw, hl, hn⟩ := mI_wl hI
  have hq0 := mQ_rf hI
  have eT0 : mT m = mT m := rfl
  have t4 : (mT m).2.2.2 = m aM f_letters := rfl
  have t0 : (mT m).1 0 = m a_c 0 := rfl
  have t1 : (mT m).1 1 = m a_c 1 := rfl
  have t2 : (mT m).1 2 = m a_c 2 := rfl
  have b1 := hw.1
  have b2 := hw.2.1
  have b3 := hw.2.2.1
  refine zR_go [zP aM, zI dd, zI w] (by decide +kernel) (Nat.le_of_ble_eq_true rfl) rfl rfl ?_
  refine z_aload_n dX12_diagram_0 rfl ?_
  refine z_iload_n dX12_diagram_1 rfl ?_
  refine z_iconst dX12_diagram_2 (by decide) ?_
  refine z_bipush dX12_diagram_3 rfl (by decide) ?_
  refine z_callS mlX12_140 dX12_diagram_5 (av := [_, _, _]) rfl rfl (Nat.le_of_ble_eq_true rfl) (r_isIn _ hE hm w 0 10) (Nat.le_refl _) (Nat.le_refl _) (Nat.le_refl _) (Nat.le_refl _) ?_
  rintro _ _ ⟨rfl, rfl⟩
  refine z_ifz_ne (tgt := 15) dX12_diagram_8 rfl (fun h8 => ?_) (fun h8 => ?_)
  · refine z_aload_n dX12_diagram_15 rfl ?_
    refine z_iload_n dX12_diagram_16 rfl ?_
    refine z_callV mlX12_420 dX12_diagram_17 (sh_M hE) (av := [_]) rfl rfl (Nat.le_of_ble_eq_true rfl) (q_isDiagram _ hE hI dd) (Nat.le_refl _) (Nat.le_refl _) (Nat.le_refl _) (Nat.le_refl _) ?_
    rintro _ m1 ⟨rfl, g1, f1, hL1, hN1⟩
    have hq1 := mQ_names hq0 g1 f1
    have hI1 := hq1.1
    have hm1 := hI1.1.1
    have eT1 := mQ_T hq1
    have ec1 : m1 a_c = m a_c := congrArg (fun q => q.1) eT1
    have ec21 : m1 a_c 2 = m a_c 2 := congrFun ec1 2
    have ew1 : m1 a_what = m a_what := congrArg (fun q => q.2.1) eT1
    have ep1 : m1 a_pointOf = m a_pointOf := congrArg (fun q => q.2.2.1) eT1
    have en1 : m1 aM f_letters = m aM f_letters := congrArg (fun q => q.2.2.2) eT1
    obtain ⟨hw1, hl1, hn1⟩ := mI_wl hI1
    have hlen1 := mL_len hI1.1 hL1
    have hsg1 := mL_sg hI1.1 hL1
    have nD1 := mN_D hN1
    refine z_ifz_eq (tgt := 27) dX12_diagram_20 rfl (fun h20 => ?_) (fun h20 => ?_)
    · refine z_iconst dX12_diagram_27 (by decide) ?_
      refine z_callV mlX12_310 dX12_diagram_28 (sh_M hE) (av := [_]) rfl rfl (Nat.le_of_ble_eq_true rfl) (r_is _ hE hm1 _) (Nat.le_refl _) (Nat.le_refl _) (Nat.le_refl _) (Nat.le_refl _) ?_
      rintro _ m2 ⟨rfl, e2⟩
      have hq2 : mQ m m2 2 := e2 ▸ mQ_is hq1
      have hI2 := hq2.1
      have hm2 := hI2.1.1
      have eT2 := mQ_T hq2
      have ec2 : m2 a_c = m a_c := congrArg (fun q => q.1) eT2
      have ec22 : m2 a_c 2 = m a_c 2 := congrFun ec2 2
      have ew2 : m2 a_what = m a_what := congrArg (fun q => q.2.1) eT2
      have ep2 : m2 a_pointOf = m a_pointOf := congrArg (fun q => q.2.2.1) eT2
      have en2 : m2 aM f_letters = m aM f_letters := congrArg (fun q => q.2.2.2) eT2
      obtain ⟨hw2, hl2, hn2⟩ := mI_wl hI2
      have hL2 : mL m2 := e2 ▸ mL_S hL1
      have hN2 : mN m2 := e2 ▸ mN_S hN1
      refine z_ifz_eq (tgt := 43) dX12_diagram_31 rfl (fun h31 => ?_) (fun h => absurd h (by decide))
      refine z_iconst dX12_diagram_43 (by decide) ?_
      refine z_iret dX12_diagram_44 rfl rfl ?_
      have eA : aDiagram (mT m) dd w = (2, -1) := by unfold aDiagram; rw [if_neg (by omega), if_pos (by omega)]
      rw [eA]
      exact ⟨rfl, hq2⟩
    · refine z_iconst dX12_diagram_23 (by decide) ?_
      refine z_goto (tgt := 28) dX12_diagram_24 rfl ?_
      refine z_callV mlX12_310 dX12_diagram_28 (sh_M hE) (av := [_]) rfl rfl (Nat.le_of_ble_eq_true rfl) (r_is _ hE hm1 _) (Nat.le_refl _) (Nat.le_refl _) (Nat.le_refl _) (Nat.le_refl _) ?_
      rintro _ m2 ⟨rfl, e2⟩
      have hq2 : mQ m m2 0 := e2 ▸ mQ_is hq1
      have hI2 := hq2.1
      have hm2 := hI2.1.1
      have eT2 := mQ_T hq2
      have ec2 : m2 a_c = m a_c := congrArg (fun q => q.1) eT2
      have ec22 : m2 a_c 2 = m a_c 2 := congrFun ec2 2
      have ew2 : m2 a_what = m a_what := congrArg (fun q => q.2.1) eT2
      have ep2 : m2 a_pointOf = m a_pointOf := congrArg (fun q => q.2.2.1) eT2
      have en2 : m2 aM f_letters = m aM f_letters := congrArg (fun q => q.2.2.2) eT2
      obtain ⟨hw2, hl2, hn2⟩ := mI_wl hI2
      have hL2 : mL m2 := e2 ▸ mL_S hL1
      have hN2 : mN m2 := e2 ▸ mN_S hN1
      refine z_ifz_eq (tgt := 43) dX12_diagram_31 rfl (fun h => absurd (by decide) h) (fun h31 => ?_)
      refine z_aload_n dX12_diagram_34 rfl ?_
      refine z_iload_n dX12_diagram_35 rfl ?_
      refine z_iload_n dX12_diagram_36 rfl ?_
      refine z_callV mlX12_423 dX12_diagram_37 (sh_M hE) (av := [_, _]) rfl rfl (Nat.le_of_ble_eq_true rfl) (q_ofDiagram0 _ hE hI2 hL2 hN2 dd (by omega) (by rw [eT2]; omega) w) (Nat.le_refl _) (Nat.le_refl _) (Nat.le_refl _) (Nat.le_refl _) ?_
      rintro _ m3 ⟨rfl, f3, p3⟩
      have hq3 := mQ_fr2 hq2 f3 p3
      rw [eT2]
      have hI3 := hq3.1
      have hm3 := hI3.1.1
      have eT3 := mQ_T hq3
      have ec3 : m3 a_c = m a_c := congrArg (fun q => q.1) eT3
      have ec23 : m3 a_c 2 = m a_c 2 := congrFun ec3 2
      have ew3 : m3 a_what = m a_what := congrArg (fun q => q.2.1) eT3
      have ep3 : m3 a_pointOf = m a_pointOf := congrArg (fun q => q.2.2.1) eT3
      have en3 : m3 aM f_letters = m aM f_letters := congrArg (fun q => q.2.2.2) eT3
      obtain ⟨hw3, hl3, hn3⟩ := mI_wl hI3
      have hL3 := mL_kept2 f3 hL2
      have hN3 := mN_kept2 f3 hN2
      refine z_goto (tgt := 44) dX12_diagram_40 rfl ?_
      refine z_iret dX12_diagram_44 rfl rfl ?_
      have eA : aDiagram (mT m) dd w = (0, tOf (mT m) dd w) := by unfold aDiagram; rw [if_neg (by omega), if_neg (by omega)]
      rw [eA]
      exact ⟨rfl, hq3⟩
  · refine z_iconst dX12_diagram_11 (by decide) ?_
    refine z_goto (tgt := 28) dX12_diagram_12 rfl ?_
    refine z_callV mlX12_310 dX12_diagram_28 (sh_M hE) (av := [_]) rfl rfl (Nat.le_of_ble_eq_true rfl) (r_is _ hE hm _) (Nat.le_refl _) (Nat.le_refl _) (Nat.le_refl _) (Nat.le_refl _) ?_
    rintro _ m1 ⟨rfl, e1⟩
    have hq1 : mQ m m1 1 := e1 ▸ mQ_is hq0
    have hI1 := hq1.1
    have hm1 := hI1.1.1
    have eT1 := mQ_T hq1
    have ec1 : m1 a_c = m a_c := congrArg (fun q => q.1) eT1
    have ec21 : m1 a_c 2 = m a_c 2 := congrFun ec1 2
    have ew1 : m1 a_what = m a_what := congrArg (fun q => q.2.1) eT1
    have ep1 : m1 a_pointOf = m a_pointOf := congrArg (fun q => q.2.2.1) eT1
    have en1 : m1 aM f_letters = m aM f_letters := congrArg (fun q => q.2.2.2) eT1
    obtain ⟨hw1, hl1, hn1⟩ := mI_wl hI1
    refine z_ifz_eq (tgt := 43) dX12_diagram_31 rfl (fun h31 => ?_) (fun h => absurd h (by decide))
    refine z_iconst dX12_diagram_43 (by decide) ?_
    refine z_iret dX12_diagram_44 rfl rfl ?_
    have eA : aDiagram (mT m) dd w = (1, -1) := by unfold aDiagram; rw [if_pos (by omega)]
    rw [eA]
    exact ⟨rfl, hq1⟩

theorem q_name (d : Nat) {E : zE} {m : zM} (hE : shM E) (hI : mI m) (dd k : Int)  : zR zX12_name (d + 15) [zP aM, zI dd, zI k] m E E (fun r m' => r = some (zI (aName (mT m) dd k).2) ∧ mQ m m' (aName (mT m) dd k).1) := by
  have hm := hI.1.1
  obtain ⟨hw, hl, hn⟩ := mI_wl hI
  have hq0 := mQ_rf hI
  have eT0 : mT m = mT m := rfl
  have t4 : (mT m).2.2.2 = m aM f_letters := rfl
  have t0 : (mT m).1 0 = m a_c 0 := rfl
  have t1 : (mT m).1 1 = m a_c 1 := rfl
  have t2 : (mT m).1 2 = m a_c 2 := rfl
  have b1 := hw.1
  have b2 := hw.2.1
  have b3 := hw.2.2.1
  refine zR_go [zP aM, zI dd, zI k] (by decide +kernel) (Nat.le_of_ble_eq_true rfl) rfl rfl ?_
  refine z_aload_n dX12_name_0 rfl ?_
  refine z_iload_n dX12_name_1 rfl ?_
  refine z_if_ge (tgt := 9) dX12_name_2 rfl (fun h2 => ?_) (fun h2 => ?_)
  · refine z_aload_n dX12_name_9 rfl ?_
    refine z_iload_n dX12_name_10 rfl ?_
    refine z_callV mlX12_420 dX12_name_11 (sh_M hE) (av := [_]) rfl rfl (Nat.le_of_ble_eq_true rfl) (q_isDiagram _ hE hI dd) (Nat.le_refl _) (Nat.le_refl _) (Nat.le_refl _) (Nat.le_refl _) ?_
    rintro _ m1 ⟨rfl, g1, f1, hL1, hN1⟩
    have hq1 := mQ_names hq0 g1 f1
    have hI1 := hq1.1
    have hm1 := hI1.1.1
    have eT1 := mQ_T hq1
    have ec1 : m1 a_c = m a_c := congrArg (fun q => q.1) eT1
    have ec21 : m1 a_c 2 = m a_c 2 := congrFun ec1 2
    have ew1 : m1 a_what = m a_what := congrArg (fun q => q.2.1) eT1
    have ep1 : m1 a_pointOf = m a_pointOf := congrArg (fun q => q.2.2.1) eT1
    have en1 : m1 aM f_letters = m aM f_letters := congrArg (fun q => q.2.2.2) eT1
    obtain ⟨hw1, hl1, hn1⟩ := mI_wl hI1
    have hlen1 := mL_len hI1.1 hL1
    have hsg1 := mL_sg hI1.1 hL1
    have nD1 := mN_D hN1
    refine z_ifz_ne (tgt := 21) dX12_name_14 rfl (fun h14 => ?_) (fun h14 => ?_)
    · refine z_iload_n dX12_name_21 rfl ?_
      refine z_aload_n dX12_name_22 rfl ?_
      refine z_gI f_letters rfl flX12_124 dX12_name_23 (sh_M hE) rfl ?_
      refine z_iconst dX12_name_26 (by decide) ?_
      refine z_div dX12_name_27 (by omega) (by omega) ?_
      refine z_icmp_lt (tgt := 35) dX12_name_28 rfl (fun h28 => ?_) (fun h28 => ?_)
      · refine z_iconst dX12_name_35 (by decide) ?_
        refine z_callV mlX12_310 dX12_name_36 (sh_M hE) (av := [_]) rfl rfl (Nat.le_of_ble_eq_true rfl) (r_is _ hE hm1 _) (Nat.le_refl _) (Nat.le_refl _) (Nat.le_refl _) (Nat.le_refl _) ?_
        rintro _ m2 ⟨rfl, e2⟩
        have hq2 : mQ m m2 0 := e2 ▸ mQ_is hq1
        have hI2 := hq2.1
        have hm2 := hI2.1.1
        have eT2 := mQ_T hq2
        have ec2 : m2 a_c = m a_c := congrArg (fun q => q.1) eT2
        have ec22 : m2 a_c 2 = m a_c 2 := congrFun ec2 2
        have ew2 : m2 a_what = m a_what := congrArg (fun q => q.2.1) eT2
        have ep2 : m2 a_pointOf = m a_pointOf := congrArg (fun q => q.2.2.1) eT2
        have en2 : m2 aM f_letters = m aM f_letters := congrArg (fun q => q.2.2.2) eT2
        obtain ⟨hw2, hl2, hn2⟩ := mI_wl hI2
        have hL2 : mL m2 := e2 ▸ mL_S hL1
        have hN2 : mN m2 := e2 ▸ mN_S hN1
        refine z_ifz_ne (tgt := 44) dX12_name_39 rfl (fun h39 => ?_) (fun h => absurd (by decide) h)
        refine z_aload_n dX12_name_44 rfl ?_
        refine z_iload_n dX12_name_45 rfl ?_
        refine z_callV mlX12_289 dX12_name_46 (sh_M hE) (av := [_]) rfl rfl (Nat.le_of_ble_eq_true rfl) (q_opens _ hE hI2 dd hN2 (by omega) (by rw [eT2]; omega)) (Nat.le_refl _) (Nat.le_refl _) (Nat.le_refl _) (Nat.le_refl _) ?_
        rintro _ m3 ⟨rfl, f3, o3⟩
        have hq3 := mQ_fr hq2 f3
        have hI3 := hq3.1
        have hm3 := hI3.1.1
        have eT3 := mQ_T hq3
        have ec3 : m3 a_c = m a_c := congrArg (fun q => q.1) eT3
        have ec23 : m3 a_c 2 = m a_c 2 := congrFun ec3 2
        have ew3 : m3 a_what = m a_what := congrArg (fun q => q.2.1) eT3
        have ep3 : m3 a_pointOf = m a_pointOf := congrArg (fun q => q.2.2.1) eT3
        have en3 : m3 aM f_letters = m aM f_letters := congrArg (fun q => q.2.2.2) eT3
        obtain ⟨hw3, hl3, hn3⟩ := mI_wl hI3
        rw [eT2] at o3
        have hL3 := mL_kept f3 hL2
        have hN3 := mN_keptW f3 hN2
        have hA3 := tAll_lt hw3
        have nD3 := mN_D hN3
        have hlen3 := mL_len hI3.1 hL3
        refine z_aload_n dX12_name_49 rfl ?_
        refine z_gP 18 rfl (r := a_codes) flX12_44 dX12_name_50 (sh_M hE) rfl (pt_codes hm3) (by decide) ?_
        refine z_iload_n dX12_name_53 rfl ?_
        refine z_ialv dX12_name_54 (sh_codes hE) (by omega) (by omega) (o3.2.2.1 k (by omega) (by unfold tH; omega)) ?_
        refine z_iret dX12_name_55 rfl rfl ?_
        have eA : aName (mT m) dd k = (0, tCo (mT m) dd k) := by unfold aName; rw [if_neg (by omega), if_neg (by omega), if_neg (by omega)]
        rw [eA]
        exact ⟨rfl, hq3⟩
      · refine z_iconst dX12_name_31 (by decide) ?_
        refine z_goto (tgt := 36) dX12_name_32 rfl ?_
        refine z_callV mlX12_310 dX12_name_36 (sh_M hE) (av := [_]) rfl rfl (Nat.le_of_ble_eq_true rfl) (r_is _ hE hm1 _) (Nat.le_refl _) (Nat.le_refl _) (Nat.le_refl _) (Nat.le_refl _) ?_
        rintro _ m2 ⟨rfl, e2⟩
        have hq2 : mQ m m2 5 := e2 ▸ mQ_is hq1
        have hI2 := hq2.1
        have hm2 := hI2.1.1
        have eT2 := mQ_T hq2
        have ec2 : m2 a_c = m a_c := congrArg (fun q => q.1) eT2
        have ec22 : m2 a_c 2 = m a_c 2 := congrFun ec2 2
        have ew2 : m2 a_what = m a_what := congrArg (fun q => q.2.1) eT2
        have ep2 : m2 a_pointOf = m a_pointOf := congrArg (fun q => q.2.2.1) eT2
        have en2 : m2 aM f_letters = m aM f_letters := congrArg (fun q => q.2.2.2) eT2
        obtain ⟨hw2, hl2, hn2⟩ := mI_wl hI2
        have hL2 : mL m2 := e2 ▸ mL_S hL1
        have hN2 : mN m2 := e2 ▸ mN_S hN1
        refine z_ifz_ne (tgt := 44) dX12_name_39 rfl (fun h => absurd h (by decide)) (fun h39 => ?_)
        refine z_iconst dX12_name_42 (by decide) ?_
        refine z_iret dX12_name_43 rfl rfl ?_
        have eA : aName (mT m) dd k = (5, -1) := by unfold aName; rw [if_neg (by omega), if_neg (by omega), if_pos (by omega)]
        rw [eA]
        exact ⟨rfl, hq2⟩
    · refine z_iconst dX12_name_17 (by decide) ?_
      refine z_goto (tgt := 36) dX12_name_18 rfl ?_
      refine z_callV mlX12_310 dX12_name_36 (sh_M hE) (av := [_]) rfl rfl (Nat.le_of_ble_eq_true rfl) (r_is _ hE hm1 _) (Nat.le_refl _) (Nat.le_refl _) (Nat.le_refl _) (Nat.le_refl _) ?_
      rintro _ m2 ⟨rfl, e2⟩
      have hq2 : mQ m m2 2 := e2 ▸ mQ_is hq1
      have hI2 := hq2.1
      have hm2 := hI2.1.1
      have eT2 := mQ_T hq2
      have ec2 : m2 a_c = m a_c := congrArg (fun q => q.1) eT2
      have ec22 : m2 a_c 2 = m a_c 2 := congrFun ec2 2
      have ew2 : m2 a_what = m a_what := congrArg (fun q => q.2.1) eT2
      have ep2 : m2 a_pointOf = m a_pointOf := congrArg (fun q => q.2.2.1) eT2
      have en2 : m2 aM f_letters = m aM f_letters := congrArg (fun q => q.2.2.2) eT2
      obtain ⟨hw2, hl2, hn2⟩ := mI_wl hI2
      have hL2 : mL m2 := e2 ▸ mL_S hL1
      have hN2 : mN m2 := e2 ▸ mN_S hN1
      refine z_ifz_ne (tgt := 44) dX12_name_39 rfl (fun h => absurd h (by decide)) (fun h39 => ?_)
      refine z_iconst dX12_name_42 (by decide) ?_
      refine z_iret dX12_name_43 rfl rfl ?_
      have eA : aName (mT m) dd k = (2, -1) := by unfold aName; rw [if_neg (by omega), if_pos (by omega)]
      rw [eA]
      exact ⟨rfl, hq2⟩
  · refine z_iconst dX12_name_5 (by decide) ?_
    refine z_goto (tgt := 36) dX12_name_6 rfl ?_
    refine z_callV mlX12_310 dX12_name_36 (sh_M hE) (av := [_]) rfl rfl (Nat.le_of_ble_eq_true rfl) (r_is _ hE hm _) (Nat.le_refl _) (Nat.le_refl _) (Nat.le_refl _) (Nat.le_refl _) ?_
    rintro _ m1 ⟨rfl, e1⟩
    have hq1 : mQ m m1 1 := e1 ▸ mQ_is hq0
    have hI1 := hq1.1
    have hm1 := hI1.1.1
    have eT1 := mQ_T hq1
    have ec1 : m1 a_c = m a_c := congrArg (fun q => q.1) eT1
    have ec21 : m1 a_c 2 = m a_c 2 := congrFun ec1 2
    have ew1 : m1 a_what = m a_what := congrArg (fun q => q.2.1) eT1
    have ep1 : m1 a_pointOf = m a_pointOf := congrArg (fun q => q.2.2.1) eT1
    have en1 : m1 aM f_letters = m aM f_letters := congrArg (fun q => q.2.2.2) eT1
    obtain ⟨hw1, hl1, hn1⟩ := mI_wl hI1
    refine z_ifz_ne (tgt := 44) dX12_name_39 rfl (fun h => absurd h (by decide)) (fun h39 => ?_)
    refine z_iconst dX12_name_42 (by decide) ?_
    refine z_iret dX12_name_43 rfl rfl ?_
    have eA : aName (mT m) dd k = (1, -1) := by unfold aName; rw [if_pos (by omega)]
    rw [eA]
    exact ⟨rfl, hq1⟩

theorem q_part (d : Nat) {E : zE} {m : zM} (hE : shM E) (hI : mI m) (dd p : Int)  : zR zX12_part (d + 15) [zP aM, zI dd, zI p] m E E (fun r m' => r = some (zI (aPart (mT m) dd p).2) ∧ mQ m m' (aPart (mT m) dd p).1) := by
  have hm := hI.1.1
  obtain ⟨hw, hl, hn⟩ := mI_wl hI
  have hq0 := mQ_rf hI
  have eT0 : mT m = mT m := rfl
  have t4 : (mT m).2.2.2 = m aM f_letters := rfl
  have t0 : (mT m).1 0 = m a_c 0 := rfl
  have t1 : (mT m).1 1 = m a_c 1 := rfl
  have t2 : (mT m).1 2 = m a_c 2 := rfl
  have b1 := hw.1
  have b2 := hw.2.1
  have b3 := hw.2.2.1
  refine zR_go [zP aM, zI dd, zI p] (by decide +kernel) (Nat.le_of_ble_eq_true rfl) rfl rfl ?_
  refine z_aload_n dX12_part_0 rfl ?_
  refine z_aload_n dX12_part_1 rfl ?_
  refine z_iload_n dX12_part_2 rfl ?_
  refine z_callV mlX12_420 dX12_part_3 (sh_M hE) (av := [_]) rfl rfl (Nat.le_of_ble_eq_true rfl) (q_isDiagram _ hE hI dd) (Nat.le_refl _) (Nat.le_refl _) (Nat.le_refl _) (Nat.le_refl _) ?_
  rintro _ m1 ⟨rfl, g1, f1, hL1, hN1⟩
  have hq1 := mQ_names hq0 g1 f1
  have hI1 := hq1.1
  have hm1 := hI1.1.1
  have eT1 := mQ_T hq1
  have ec1 : m1 a_c = m a_c := congrArg (fun q => q.1) eT1
  have ec21 : m1 a_c 2 = m a_c 2 := congrFun ec1 2
  have ew1 : m1 a_what = m a_what := congrArg (fun q => q.2.1) eT1
  have ep1 : m1 a_pointOf = m a_pointOf := congrArg (fun q => q.2.2.1) eT1
  have en1 : m1 aM f_letters = m aM f_letters := congrArg (fun q => q.2.2.2) eT1
  obtain ⟨hw1, hl1, hn1⟩ := mI_wl hI1
  have hlen1 := mL_len hI1.1 hL1
  have hsg1 := mL_sg hI1.1 hL1
  have nD1 := mN_D hN1
  refine z_ifz_eq (tgt := 21) dX12_part_6 rfl (fun h6 => ?_) (fun h6 => ?_)
  · refine z_iconst dX12_part_21 (by decide) ?_
    refine z_callV mlX12_310 dX12_part_22 (sh_M hE) (av := [_]) rfl rfl (Nat.le_of_ble_eq_true rfl) (r_is _ hE hm1 _) (Nat.le_refl _) (Nat.le_refl _) (Nat.le_refl _) (Nat.le_refl _) ?_
    rintro _ m2 ⟨rfl, e2⟩
    have hq2 : mQ m m2 2 := e2 ▸ mQ_is hq1
    have hI2 := hq2.1
    have hm2 := hI2.1.1
    have eT2 := mQ_T hq2
    have ec2 : m2 a_c = m a_c := congrArg (fun q => q.1) eT2
    have ec22 : m2 a_c 2 = m a_c 2 := congrFun ec2 2
    have ew2 : m2 a_what = m a_what := congrArg (fun q => q.2.1) eT2
    have ep2 : m2 a_pointOf = m a_pointOf := congrArg (fun q => q.2.2.1) eT2
    have en2 : m2 aM f_letters = m aM f_letters := congrArg (fun q => q.2.2.2) eT2
    obtain ⟨hw2, hl2, hn2⟩ := mI_wl hI2
    have hL2 : mL m2 := e2 ▸ mL_S hL1
    have hN2 : mN m2 := e2 ▸ mN_S hN1
    refine z_ifz_ne (tgt := 30) dX12_part_25 rfl (fun h => absurd h (by decide)) (fun h25 => ?_)
    refine z_iconst dX12_part_28 (by decide) ?_
    refine z_iret dX12_part_29 rfl rfl ?_
    have eA : aPart (mT m) dd p = (2, -1) := by unfold aPart; rw [if_pos (by omega)]
    rw [eA]
    exact ⟨rfl, hq2⟩
  · refine z_aload_n dX12_part_9 rfl ?_
    refine z_iload_n dX12_part_10 rfl ?_
    refine z_callV mlX12_332 dX12_part_11 (sh_M hE) (av := [_]) rfl rfl (Nat.le_of_ble_eq_true rfl) (r_isPoint _ hE hm1 p hw1) (Nat.le_refl _) (Nat.le_refl _) (Nat.le_refl _) (Nat.le_refl _) ?_
    rintro _ _ ⟨rfl, rfl⟩
    refine z_ifz_eq (tgt := 21) dX12_part_14 rfl (fun h14 => ?_) (fun h14 => ?_)
    · refine z_iconst dX12_part_21 (by decide) ?_
      refine z_callV mlX12_310 dX12_part_22 (sh_M hE) (av := [_]) rfl rfl (Nat.le_of_ble_eq_true rfl) (r_is _ hE hm1 _) (Nat.le_refl _) (Nat.le_refl _) (Nat.le_refl _) (Nat.le_refl _) ?_
      rintro _ m2 ⟨rfl, e2⟩
      have hq2 : mQ m m2 2 := e2 ▸ mQ_is hq1
      have hI2 := hq2.1
      have hm2 := hI2.1.1
      have eT2 := mQ_T hq2
      have ec2 : m2 a_c = m a_c := congrArg (fun q => q.1) eT2
      have ec22 : m2 a_c 2 = m a_c 2 := congrFun ec2 2
      have ew2 : m2 a_what = m a_what := congrArg (fun q => q.2.1) eT2
      have ep2 : m2 a_pointOf = m a_pointOf := congrArg (fun q => q.2.2.1) eT2
      have en2 : m2 aM f_letters = m aM f_letters := congrArg (fun q => q.2.2.2) eT2
      obtain ⟨hw2, hl2, hn2⟩ := mI_wl hI2
      have hL2 : mL m2 := e2 ▸ mL_S hL1
      have hN2 : mN m2 := e2 ▸ mN_S hN1
      refine z_ifz_ne (tgt := 30) dX12_part_25 rfl (fun h => absurd h (by decide)) (fun h25 => ?_)
      refine z_iconst dX12_part_28 (by decide) ?_
      refine z_iret dX12_part_29 rfl rfl ?_
      have eA : aPart (mT m) dd p = (2, -1) := by unfold aPart; rw [if_pos (by omega)]
      rw [eA]
      exact ⟨rfl, hq2⟩
    · refine z_iconst dX12_part_17 (by decide) ?_
      refine z_goto (tgt := 22) dX12_part_18 rfl ?_
      refine z_callV mlX12_310 dX12_part_22 (sh_M hE) (av := [_]) rfl rfl (Nat.le_of_ble_eq_true rfl) (r_is _ hE hm1 _) (Nat.le_refl _) (Nat.le_refl _) (Nat.le_refl _) (Nat.le_refl _) ?_
      rintro _ m2 ⟨rfl, e2⟩
      have hq2 : mQ m m2 0 := e2 ▸ mQ_is hq1
      have hI2 := hq2.1
      have hm2 := hI2.1.1
      have eT2 := mQ_T hq2
      have ec2 : m2 a_c = m a_c := congrArg (fun q => q.1) eT2
      have ec22 : m2 a_c 2 = m a_c 2 := congrFun ec2 2
      have ew2 : m2 a_what = m a_what := congrArg (fun q => q.2.1) eT2
      have ep2 : m2 a_pointOf = m a_pointOf := congrArg (fun q => q.2.2.1) eT2
      have en2 : m2 aM f_letters = m aM f_letters := congrArg (fun q => q.2.2.2) eT2
      obtain ⟨hw2, hl2, hn2⟩ := mI_wl hI2
      have hL2 : mL m2 := e2 ▸ mL_S hL1
      have hN2 : mN m2 := e2 ▸ mN_S hN1
      refine z_ifz_ne (tgt := 30) dX12_part_25 rfl (fun h25 => ?_) (fun h => absurd (by decide) h)
      refine z_aload_n dX12_part_30 rfl ?_
      refine z_iload_n dX12_part_31 rfl ?_
      refine z_callV mlX12_289 dX12_part_32 (sh_M hE) (av := [_]) rfl rfl (Nat.le_of_ble_eq_true rfl) (q_opens _ hE hI2 dd hN2 (by omega) (by rw [eT2]; omega)) (Nat.le_refl _) (Nat.le_refl _) (Nat.le_refl _) (Nat.le_refl _) ?_
      rintro _ m3 ⟨rfl, f3, o3⟩
      have hq3 := mQ_fr hq2 f3
      have hI3 := hq3.1
      have hm3 := hI3.1.1
      have eT3 := mQ_T hq3
      have ec3 : m3 a_c = m a_c := congrArg (fun q => q.1) eT3
      have ec23 : m3 a_c 2 = m a_c 2 := congrFun ec3 2
      have ew3 : m3 a_what = m a_what := congrArg (fun q => q.2.1) eT3
      have ep3 : m3 a_pointOf = m a_pointOf := congrArg (fun q => q.2.2.1) eT3
      have en3 : m3 aM f_letters = m aM f_letters := congrArg (fun q => q.2.2.2) eT3
      obtain ⟨hw3, hl3, hn3⟩ := mI_wl hI3
      rw [eT2] at o3
      have hL3 := mL_kept f3 hL2
      have hN3 := mN_keptW f3 hN2
      have hA3 := tAll_lt hw3
      have nD3 := mN_D hN3
      have hlen3 := mL_len hI3.1 hL3
      refine z_aload_n dX12_part_35 rfl ?_
      refine z_iload_n dX12_part_36 rfl ?_
      refine z_iconst dX12_part_37 (by decide) ?_
      refine z_iconst dX12_part_38 (by decide) ?_
      refine z_callV mlX12_282 dX12_part_39 (sh_M hE) (av := [_, _, _]) rfl rfl (Nat.le_of_ble_eq_true rfl) (by have h := q_reached (d + 13) hE hm3 hw3 o3 p.toNat (-1) (-1) (by omega); rw [show ((p.toNat : Nat) : Int) = p by omega] at h; exact h) (Nat.le_refl _) (Nat.le_refl _) (Nat.le_refl _) (Nat.le_refl _) ?_
      rintro _ _ ⟨rfl, rfl⟩
      refine z_iret dX12_part_42 rfl rfl ?_
      have eA : aPart (mT m) dd p = (0, ((tR (tH (mT m)) (tCo (mT m) dd) (-1) (-1) p.toNat : Nat) : Int)) := by unfold aPart; rw [if_neg (by omega)]
      rw [eA]
      exact ⟨rfl, hq3⟩
