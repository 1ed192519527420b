def fLnLX : List (Int × Option Int) := fPrX ++ fQ ++ fW2
theorem q_linesX (d : Nat) {E : zE} {m : zM} (hE : shM E) (hI : mI m) (n : Int) : zR zX12_lines (d + 14) [zP aM, zI n] m E E (fun r m' => r = some (zI (if sLns (m a_tape) (mT m) (m a_toldCodes) (m aM f_taped) n = 0 then tIx (mT m) (tLc (mT m) (tLns (m a_tape) (mT m) (m a_toldCodes) n).2.2.1 (tLns (m a_tape) (mT m) (m a_toldCodes) n).2.2.2.1.toNat) else -1)) ∧ mI m' ∧ zfr fLnLX m m' ∧ m' aM f_status = sLns (m a_tape) (mT m) (m a_toldCodes) (m aM f_taped) n ∧ mT m' = mT m ∧ (sLns (m a_tape) (mT m) (m a_toldCodes) (m aM f_taped) n = 1 → m' aM f_taped = m aM f_taped ∧ m' aM f_faultKind = m aM f_faultKind ∧ m' aM f_faultAt = m aM f_faultAt) ∧ (sLns (m a_tape) (mT m) (m a_toldCodes) (m aM f_taped) n ≠ 1 → m' aM f_taped = 0 ∧ m' aM f_faultKind = (tLns (m a_tape) (mT m) (m a_toldCodes) n).1 ∧ m' aM f_faultAt = (if (tLns (m a_tape) (mT m) (m a_toldCodes) n).1 ≠ 0 then (tLns (m a_tape) (mT m) (m a_toldCodes) n).2.1 else -1))) := by
  have hm := hI.1.1
  have htp := hI.2.2.2.2.2.1
  obtain ⟨hw, hl, hn⟩ := mI_wl hI
  have hq0 := mQ_rf hI
  have eT0 : mT m = mT m := rfl
  have t4 : (mT m).2.2.2 = m aM f_letters := rfl
  have t0 : (mT m).1 0 = m a_c 0 := rfl
  have t1 : (mT m).1 1 = m a_c 1 := rfl
  have t2 : (mT m).1 2 = m a_c 2 := rfl
  have b1 := hw.1
  have b2 := hw.2.1
  have b3 := hw.2.2.1
  refine zR_go [zP aM, zI n, zN] (by decide +kernel) (Nat.le_of_ble_eq_true rfl) rfl rfl ?_
  refine z_aload_n dX12_lines_0 rfl ?_
  refine z_iload_n dX12_lines_1 rfl ?_
  refine z_iconst dX12_lines_2 (by decide) ?_
  refine z_aload_n dX12_lines_3 rfl ?_
  refine z_gI f_taped rfl flX12_447 dX12_lines_4 (sh_M hE) rfl ?_
  refine z_callS mlX12_140 dX12_lines_7 (av := [_, _, _]) rfl rfl (Nat.le_of_ble_eq_true rfl) (r_isIn _ hE hm n 0 _) (Nat.le_refl _) (Nat.le_refl _) (Nat.le_refl _) (Nat.le_refl _) ?_
  rintro _ _ ⟨rfl, rfl⟩
  refine z_ifz_eq (tgt := 17) dX12_lines_10 rfl (fun h10 => ?_) (fun h10 => ?_)
  · refine z_iconst dX12_lines_17 (by decide) ?_
    refine z_callV mlX12_310 dX12_lines_18 (sh_M hE) (av := [_]) rfl rfl (Nat.le_of_ble_eq_true rfl) (r_is _ hE hm _) (Nat.le_refl _) (Nat.le_refl _) (Nat.le_refl _) (Nat.le_refl _) ?_
    rintro _ m1 ⟨rfl, e1⟩
    have hq1 : mQ m m1 1 := e1 ▸ mQ_is hq0
    have hI1 := hq1.1
    have hm1 := hI1.1.1
    have eT1 := mQ_T hq1
    have ec1 : m1 a_c = m a_c := congrArg (fun q => q.1) eT1
    have ec21 : m1 a_c 2 = m a_c 2 := congrFun ec1 2
    have ew1 : m1 a_what = m a_what := congrArg (fun q => q.2.1) eT1
    have ep1 : m1 a_pointOf = m a_pointOf := congrArg (fun q => q.2.2.1) eT1
    have en1 : m1 aM f_letters = m aM f_letters := congrArg (fun q => q.2.2.2) eT1
    obtain ⟨hw1, hl1, hn1⟩ := mI_wl hI1
    refine z_ifz_ne (tgt := 26) dX12_lines_21 rfl (fun h => absurd h (by decide)) (fun h21 => ?_)
    refine z_iconst dX12_lines_24 (by decide) ?_
    refine z_iret dX12_lines_25 rfl rfl ?_
    have eS : sLns (m a_tape) (mT m) (m a_toldCodes) (m aM f_taped) n = 1 := by unfold sLns; rw [if_pos (by omega)]
    rw [eS]
    exact ⟨rfl, hI1, zfr_sub hq1.2.1 (by decide), hq1.2.2, eT1, fun _ => ⟨zfr_at hq1.2.1 (by decide), zfr_at hq1.2.1 (by decide), zfr_at hq1.2.1 (by decide)⟩, fun h => absurd rfl h⟩
  · refine z_iconst dX12_lines_13 (by decide) ?_
    refine z_goto (tgt := 18) dX12_lines_14 rfl ?_
    refine z_callV mlX12_310 dX12_lines_18 (sh_M hE) (av := [_]) rfl rfl (Nat.le_of_ble_eq_true rfl) (r_is _ hE hm _) (Nat.le_refl _) (Nat.le_refl _) (Nat.le_refl _) (Nat.le_refl _) ?_
    rintro _ m1 ⟨rfl, e1⟩
    have hq1 : mQ m m1 0 := e1 ▸ mQ_is hq0
    have hI1 := hq1.1
    have hm1 := hI1.1.1
    have eT1 := mQ_T hq1
    have ec1 : m1 a_c = m a_c := congrArg (fun q => q.1) eT1
    have ec21 : m1 a_c 2 = m a_c 2 := congrFun ec1 2
    have ew1 : m1 a_what = m a_what := congrArg (fun q => q.2.1) eT1
    have ep1 : m1 a_pointOf = m a_pointOf := congrArg (fun q => q.2.2.1) eT1
    have en1 : m1 aM f_letters = m aM f_letters := congrArg (fun q => q.2.2.2) eT1
    obtain ⟨hw1, hl1, hn1⟩ := mI_wl hI1
    refine z_ifz_ne (tgt := 26) dX12_lines_21 rfl (fun h21 => ?_) (fun h => absurd (by decide) h)
    refine z_aload_n dX12_lines_26 rfl ?_
    refine z_iconst dX12_lines_27 (by decide) ?_
    refine z_pI f_wide rfl (fpX12_545 _) dX12_lines_28 (sh_M hE) rfl ?_
    obtain ⟨m3, em3⟩ : ∃ x, x = zu m1 aM f_wide 0 := ⟨_, rfl⟩
    rw [← em3]
    have y3 : zfr fPrX m m3 := by rw [em3, ← e1]; exact zfr_uj (zfr_uj (zfr_uj zfr_rf (by decide)) (by decide)) (by decide)
    have y3' : zfr fLq m m3 := by rw [em3, ← e1]; exact zfr_uj (zfr_uj (zfr_uj zfr_rf (by decide)) (by decide)) (by decide)
    have hm3 : ptM m3 := ptM_prX hm y3
    have gw3 : m3 aM f_wide = 0 := em3 ▸ zu_s
    have et3 : m3 a_tape = m a_tape := zfr_cell y3 (by decide)
    have hWd3 : mWd m3 := by unfold mWd; rw [zfr_cell (a := a_words) y3 (by decide)]; exact hI.2.2.2.2.2.2.2
    refine z_aload_n dX12_lines_31 rfl ?_
    refine z_iload_n dX12_lines_32 rfl ?_
    refine z_iconst dX12_lines_33 (by decide) ?_
    refine z_callV mlX12_532 dX12_lines_34 (sh_M hE) (av := [_, _]) rfl rfl (Nat.le_of_ble_eq_true rfl) (x_begins _ hE ⟨hm3, hWd3⟩ n 1 (by omega) (Or.inr rfl)) (Nat.le_refl _) (Nat.le_refl _) (Nat.le_refl _) (Nat.le_refl _) ?_
    rintro _ m4 ⟨rfl, z4, hB4, hw4, hK4, ht4⟩
    rw [et3] at hK4 ht4
    have hm4 : ptM m4 := hB4.1
    have y4 : zfr fPrX m m4 := zfr_tr y3 (zfr_sub z4 (by decide))
    have eT4 : mT m4 = mT m := mT_fr y4 (by decide)
    have c1 : m4 a_c = m a_c := congrArg (fun q => q.1) eT4
    have c4 : m4 aM f_letters = m aM f_letters := congrArg (fun q => q.2.2.2) eT4
    have gw4 : m4 aM f_wide = 0 := (zfr_at z4 (by decide)).trans gw3
    have hok : kOk (mV (m a_tape) n, n, (1 : Int)) := hK4 ▸ mK_ok hB4.2.1
    have hsk := (kSk_ge (K := (mV (m a_tape) n, n, (1 : Int))) (k := 0) hok).1
    refine l_lines_t d hE n 401 (kSk (mV (m a_tape) n, n, (1 : Int)) 0) m4 hB4 hw4 ht4 (by rw [c1]; exact hw) (by rw [c4]; exact hn) (by rw [gw4]; decide) (by omega) (fun m5 g => ?_)
    rw [hK4, c1, c4, gw4, show m4 a_toldCodes = m a_toldCodes from zfr_cell (zfr_tr y3' (zfr_sub z4 (by decide)) : zfr fLq m m4) (by decide)] at g
    obtain ⟨z5, hw5, g4, g5⟩ := g
    have eRR : pLins (mV (m a_tape) n, n, (1 : Int)) (m a_c) (m aM f_letters) 401 (m a_toldCodes) 0 (kSk (mV (m a_tape) n, n, (1 : Int)) 0) = (tLns (m a_tape) (mT m) (m a_toldCodes) n) := rfl
    rw [eRR] at hw5 g4 g5
    have hRn : 0 ≤ (tLns (m a_tape) (mT m) (m a_toldCodes) n).1 := (pLins_ok hok hw 401 _ _ _).1
    have y5 : zfr fPrX m m5 := zfr_tr y4 (zfr_sub z5 (by decide))
    have hm5 : ptM m5 := ptM_prX hm y5
    refine z_aload_n dX12_lines_58 rfl ?_
    refine z_callV mlX12_539 dX12_lines_59 (sh_M hE) (av := _) rfl rfl (Nat.le_of_ble_eq_true rfl) (x_ends _ hE ⟨hm5, trivial⟩) (Nat.le_refl _) (Nat.le_refl _) (Nat.le_refl _) (Nat.le_refl _) ?_
    rintro _ m6 ⟨rfl, q1, q2, q3, q4, q5⟩
    have y6 : zfr fPrX m m6 := zfr_tr y5 (zfr_sub q1 (by decide))
    have hm6 : ptM m6 := ptM_prX hm y6
    have hw6 : m6 aM f_wrong = (tLns (m a_tape) (mT m) (m a_toldCodes) n).1 := (zfr_at q1 (by decide)).trans hw5
    have hI6 : mI m6 := mI_prX hI y6 (fun x hx => by rw [zfr_cell (a := a_mate) q1 (by decide), zfr_cell (a := a_mate) z5 (by decide), zfr_cell (a := a_mate) z4 (by decide), em3, zu_fn (by decide)]; exact hI1.1.2.2.2.2 x hx) (by rw [q2]; decide)
    have eT6 : mT m6 = mT m := mT_fr y6 (by decide)
    refine z_aload_n dX12_lines_62 rfl ?_
    refine z_gIv f_wrong rfl flX12_487 dX12_lines_63 (sh_M hE) rfl hw6 ?_
    refine z_if_le (tgt := 71) dX12_lines_66 rfl (fun h66 => ?_) (fun h66 => ?_)
    · have eR : (tLns (m a_tape) (mT m) (m a_toldCodes) n).1 = 0 := by omega
      have gw6 : m6 aM f_wide = (tLns (m a_tape) (mT m) (m a_toldCodes) n).2.2.2.1 := (zfr_at q1 (by decide)).trans (g5 eR).2.1
      obtain ⟨hwr, htd⟩ := tLns_ok hok hw hn eR
      refine z_aload_n dX12_lines_71 rfl ?_
      refine z_callV mlX12_273 dX12_lines_72 (sh_M hE) (av := _) rfl rfl (Nat.le_of_ble_eq_true rfl) (q_names _ hE hI6) (Nat.le_refl _) (Nat.le_refl _) (Nat.le_refl _) (Nat.le_refl _) ?_
      rintro _ m7 ⟨rfl, hI7, f7, hL7, hN7⟩
      have hm7 := hI7.1.1
      have y7 : zfr (fPrX ++ fNames) m m7 := zfr_tr (zfr_sub y6 (by decide)) (zfr_sub f7 (by decide))
      have eT7 : mT m7 = mT m := (mT_fr f7 (by decide)).trans eT6
      have en7 : m7 aM f_letters = m aM f_letters := congrArg (fun q => q.2.2.2) eT7
      have gw7 : m7 aM f_wide = (tLns (m a_tape) (mT m) (m a_toldCodes) n).2.2.2.1 := (zfr_at f7 (by decide)).trans gw6
      have nD := mN_D hN7
      rw [eT7] at nD
      have hsi : sInc (m7 a_names) (tD (mT m)).length := by
        have hN7' := hN7
        obtain ⟨D, d1, d2, d3, _⟩ := hN7'
        have : D = (tD (mT m)).length := by have := nD.1; omega
        rw [← this]; exact d3
      have hnm : ∀ x : Int, 0 ≤ x → x < ((tD (mT m)).length : Int) → m7 a_names x = tNm (mT m) x := nD.2.2.1
      have gt7 : m7 a_toldCodes = (tLns (m a_tape) (mT m) (m a_toldCodes) n).2.2.1 := (zfr_cell f7 (by decide)).trans ((zfr_cell q1 (by decide)).trans (g5 eR).1)
      refine z_iconst dX12_lines_75 (by decide) ?_
      refine z_aload_n dX12_lines_76 rfl ?_
      refine z_gIv f_wide rfl flX12_545 dX12_lines_77 (sh_M hE) rfl gw7 ?_
      refine z_mul dX12_lines_80 (by omega) ?_
      refine z_aload_n dX12_lines_81 rfl ?_
      refine z_gIv f_letters rfl flX12_124 dX12_lines_82 (sh_M hE) rfl en7 ?_
      refine z_icmp_eq (tgt := 94) dX12_lines_85 rfl (fun h85 => ?_) (fun h85 => ?_)
      · have h2w : ¬ 2 * (tLns (m a_tape) (mT m) (m a_toldCodes) n).2.2.2.1 ≠ (mT m).2.2.2 := not_not_intro (by show _ = m aM f_letters; omega)
        refine z_aload_n dX12_lines_94 rfl ?_
        refine z_aload_n dX12_lines_95 rfl ?_
        refine z_gIv f_wide rfl flX12_545 dX12_lines_96 (sh_M hE) rfl gw7 ?_
        refine z_pI f_lines rfl (fpX12_197 _) dX12_lines_99 (sh_M hE) rfl ?_
        obtain ⟨m8, em8⟩ : ∃ x, x = zu m7 aM f_lines (tLns (m a_tape) (mT m) (m a_toldCodes) n).2.2.2.1 := ⟨_, rfl⟩
        rw [← em8]
        have f8 : zfr fW2 m7 m8 := em8 ▸ zfr_uj zfr_rf (by decide)
        have hm8 : ptM m8 := em8 ▸ ptM_j hm7 (by decide)
        have ln8 : m8 aM f_lines = (tLns (m a_tape) (mT m) (m a_toldCodes) n).2.2.2.1 := em8 ▸ zu_s
        have gw8 : m8 aM f_wide = (tLns (m a_tape) (mT m) (m a_toldCodes) n).2.2.2.1 := (zfr_at f8 (by decide)).trans gw7
        refine z_iconst dX12_lines_102 (by decide) ?_
        refine z_ist 2 dX12_lines_103 rfl (Nat.le_of_ble_eq_true rfl) ?_
        try dsimp only [zs0, zsI, zsP, zsN, zsJ, zsS, zst2, Nat.reduceAdd]
        refine l_lines_c d hE hm8 n (tLns (m a_tape) (mT m) (m a_toldCodes) n).2.2.2.1 hwr gw8 (tLns (m a_tape) (mT m) (m a_toldCodes) n).2.2.2.1.toNat 0 m8 (by omega) (by omega) zfr_rf (fun x q0 q1 => by omega) (fun m9 k1 k2 => ?_)
        have f9 : zfr fW2 m7 m9 := zfr_tr f8 (zfr_sub k1 (by decide))
        have hm9 : ptM m9 := ptM_prX hm8 (zfr_sub k1 (by decide))
        have ln9 : m9 aM f_lines = (tLns (m a_tape) (mT m) (m a_toldCodes) n).2.2.2.1 := (zfr_at k1 (by decide)).trans ln8
        have ec9 : m9 a_c = m a_c := (zfr_cell f9 (by decide)).trans (congrArg (fun q => q.1) eT7)
        have cd9 : ∀ x, 0 ≤ x → x < (tLns (m a_tape) (mT m) (m a_toldCodes) n).2.2.2.1 → m9 a_codes x = (tLns (m a_tape) (mT m) (m a_toldCodes) n).2.2.1 x := fun x q0 q1 => by rw [k2 x q0 q1, zfr_cell (a := a_toldCodes) f8 (by decide), gt7]
        have hpl9 : ∀ x : Int, 0 ≤ x → x < 8 → 0 ≤ m9 a_places x ∧ m9 a_places x < 8 := by rw [zfr_cell (a := a_places) k1 (by decide), em8, zu_fn (by decide)]; exact hI7.2.2.2.1
        have dg9 : m9 aM f_diagrams = ((tD (mT m)).length : Int) := (zfr_at f9 (by decide)).trans nD.1
        refine z_aload_n dX12_lines_130 rfl ?_
        refine z_gP 28 rfl (r := a_names) flX12_63 dX12_lines_131 (sh_M hE) rfl (pt_names hm9) (by decide) ?_
        refine z_aload_n dX12_lines_134 rfl ?_
        refine z_gIv f_diagrams rfl flX12_266 dX12_lines_135 (sh_M hE) rfl dg9 ?_
        refine z_aload_n dX12_lines_138 rfl ?_
        refine z_ldc2 dX12_lines_139 kcX12_241 (by decide) ?_
        refine z_callV mlX12_262 dX12_lines_142 (sh_M hE) (av := [_]) rfl rfl (Nat.le_of_ble_eq_true rfl) (by have h := r_leastOf (d + 1) hE hm9 (by rw [ec9]; exact hw) (by rw [ln9]; exact hwr) (fun k q0 q1 => by rw [ln9] at q1; rw [cd9 k q0 q1, ec9]; have hc := cCodeOk_rg hw (htd k q0 q1); omega) hpl9 (-1); rw [ec9, ln9, sV_co (co' := (tLns (m a_tape) (mT m) (m a_toldCodes) n).2.2.1) (fun i q0 q1 => cd9 i q0 (by omega))] at h; exact h) (Nat.le_refl _) (Nat.le_refl _) (Nat.le_refl _) (Nat.le_refl _) ?_
        rintro _ m10 ⟨rfl, l1, l2, l3⟩
        have f10 : zfr fW2 m7 m10 := zfr_tr f9 (zfr_sub l1 (by decide))
        have hI10 : mI m10 := mI_fr2 hI7 f10 l3
        have hm10 : ptM m10 := hI10.1.1
        have eT10 : mT m10 = mT m := (mT_fr f10 (by decide)).trans eT7
        have en10 : m10 a_names = m7 a_names := zfr_cell f10 (by decide)
        refine z_callS mlX12_269 dX12_lines_145 (av := [_, _, _]) rfl rfl (Nat.le_of_ble_eq_true rfl) (r_placeIn _ a_names 10395 (sh_names hE) (tD (mT m)).length (by omega) (by omega) (tLc (mT m) (tLns (m a_tape) (mT m) (m a_toldCodes) n).2.2.1 (tLns (m a_tape) (mT m) (m a_toldCodes) n).2.2.2.1.toNat) (by rw [en10]; exact fun i j q1 q2 q3 => sInc_le hsi q1 q2 q3)) (Nat.le_refl _) (Nat.le_refl _) (Nat.le_refl _) (Nat.le_refl _) ?_
        rintro _ _ ⟨x, rfl, rfl, hx⟩
        rw [en10] at hx
        have hxI : x = tIx (mT m) (tLc (mT m) (tLns (m a_tape) (mT m) (m a_toldCodes) n).2.2.1 (tLns (m a_tape) (mT m) (m a_toldCodes) n).2.2.2.1.toNat) := by
          unfold tIx
          rcases hx with ⟨x1, x2⟩ | ⟨x1, x2, x3⟩
          · rw [x1]
            exact (zfst_none (fun i hi => by rw [decide_eq_false_iff_not, ← hnm i (by omega) (by omega)]; exact x2 i (by omega) (by omega))).symm
          · obtain ⟨y, rfl⟩ : ∃ y : Nat, x = y := ⟨x.toNat, by omega⟩
            refine (zfst_at (fun i hi => ?_) (by rw [decide_eq_true_eq, ← hnm y (by omega) (by omega)]; exact x3) (by omega)).symm
            rw [decide_eq_false_iff_not]
            intro e
            rw [hnm y (by omega) (by omega)] at x3
            have := lf_inj (sSet_rise _) (show (0 : Int) ≤ i by omega) (show (i : Int) < ((tD (mT m)).length : Int) by omega) (show (0 : Int) ≤ y by omega) (show (y : Int) < ((tD (mT m)).length : Int) by omega) (e.trans x3.symm)
            omega
        have hxr : -1 ≤ x := by omega
        refine z_ist 2 dX12_lines_148 rfl (Nat.le_of_ble_eq_true rfl) ?_
        refine z_iload_n dX12_lines_149 rfl ?_
        try dsimp only [zs0, zsI, zsP, zsN, zsJ, zsS, zst2, Nat.reduceAdd]
        refine z_if_ge (tgt := 161) dX12_lines_150 rfl (fun h150 => ?_) (fun h150 => ?_)
        · refine z_iload_n dX12_lines_161 rfl ?_
          refine z_iret dX12_lines_162 rfl rfl ?_
          have eS : sLns (m a_tape) (mT m) (m a_toldCodes) (m aM f_taped) n = 0 := by unfold sLns; rw [if_neg (by omega), if_neg (not_not_intro eR), if_neg h2w, if_neg (by omega)]
          rw [eS]
          refine ⟨by rw [if_pos rfl, hxI], hI10, zfr_tr (zfr_sub y7 (by decide)) (zfr_sub f10 (by decide)), ?_, eT10, fun h => absurd h (by decide), fun _ => ⟨?_, ?_, ?_⟩⟩
          · rw [zfr_at (j := f_status) f10 (by decide), zfr_at (j := f_status) f7 (by decide), q5, if_neg (by omega)]
          · rw [zfr_at (j := f_taped) f10 (by decide), zfr_at (j := f_taped) f7 (by decide)]; exact q2
          · rw [zfr_at (j := f_faultKind) f10 (by decide), zfr_at (j := f_faultKind) f7 (by decide)]; exact q3.trans hw5
          · rw [zfr_at (j := f_faultAt) f10 (by decide), zfr_at (j := f_faultAt) f7 (by decide), q4, if_neg (by omega), if_neg (not_not_intro eR)]
        · refine z_aload_n dX12_lines_153 rfl ?_
          refine z_iconst dX12_lines_154 (by decide) ?_
          refine z_callV mlX12_426 dX12_lines_155 (sh_M hE) (av := [_]) rfl rfl (Nat.le_of_ble_eq_true rfl) (r_refuse _ hE hm10 5) (Nat.le_refl _) (Nat.le_refl _) (Nat.le_refl _) (Nat.le_refl _) ?_
          rintro _ _ ⟨rfl, rfl⟩
          refine z_goto (tgt := 162) dX12_lines_158 rfl ?_
          refine z_iret dX12_lines_162 rfl rfl ?_
          have e1 : x = -1 := by omega
          rw [e1] at hxI
          have eS : sLns (m a_tape) (mT m) (m a_toldCodes) (m aM f_taped) n = 5 := by unfold sLns; rw [if_neg (by omega), if_neg (not_not_intro eR), if_neg h2w, if_pos (by omega)]
          rw [eS]
          refine ⟨rfl, mI_fr hI10 (zfr_uj zfr_rf (by decide)), zfr_uj (zfr_tr (zfr_sub y7 (by decide)) (zfr_sub f10 (by decide))) (by decide), zu_s, (mT_fr (zfr_uj zfr_rf (by decide) : zfr fFree m10 _) (by decide)).trans eT10, fun h => absurd h (by decide), fun _ => ⟨?_, ?_, ?_⟩⟩
          · rw [zu_j (by decide), zfr_at (j := f_taped) f10 (by decide), zfr_at (j := f_taped) f7 (by decide)]; exact q2
          · rw [zu_j (by decide), zfr_at (j := f_faultKind) f10 (by decide), zfr_at (j := f_faultKind) f7 (by decide)]; exact q3.trans hw5
          · rw [zu_j (by decide), zfr_at (j := f_faultAt) f10 (by decide), zfr_at (j := f_faultAt) f7 (by decide), q4, if_neg (by omega), if_neg (not_not_intro eR)]
      · have h2w : 2 * (tLns (m a_tape) (mT m) (m a_toldCodes) n).2.2.2.1 ≠ (mT m).2.2.2 := by show _ ≠ m aM f_letters; omega
        refine z_aload_n dX12_lines_88 rfl ?_
        refine z_iconst dX12_lines_89 (by decide) ?_
        refine z_callV mlX12_426 dX12_lines_90 (sh_M hE) (av := [_]) rfl rfl (Nat.le_of_ble_eq_true rfl) (r_refuse _ hE hm7 5) (Nat.le_refl _) (Nat.le_refl _) (Nat.le_refl _) (Nat.le_refl _) ?_
        rintro _ _ ⟨rfl, rfl⟩
        refine z_iret dX12_lines_93 rfl rfl ?_
        have eS : sLns (m a_tape) (mT m) (m a_toldCodes) (m aM f_taped) n = 5 := by unfold sLns; rw [if_neg (by omega), if_neg (not_not_intro eR), if_pos h2w]
        rw [eS]
        refine ⟨rfl, mI_fr hI7 (zfr_uj zfr_rf (by decide)), zfr_uj (zfr_tr (zfr_sub y6 (by decide)) (zfr_sub f7 (by decide))) (by decide), zu_s, (mT_fr (zfr_uj zfr_rf (by decide) : zfr fFree m7 _) (by decide)).trans eT7, fun h => absurd h (by decide), fun _ => ⟨?_, ?_, ?_⟩⟩
        · rw [zu_j (by decide), zfr_at (j := f_taped) f7 (by decide)]; exact q2
        · rw [zu_j (by decide), zfr_at (j := f_faultKind) f7 (by decide)]; exact q3.trans hw5
        · rw [zu_j (by decide), zfr_at (j := f_faultAt) f7 (by decide), q4, if_neg (by omega), if_neg (not_not_intro eR)]
    · have eR : ¬ (tLns (m a_tape) (mT m) (m a_toldCodes) n).1 = 0 := by omega
      refine z_iconst dX12_lines_69 (by decide) ?_
      refine z_iret dX12_lines_70 rfl rfl ?_
      have eS : sLns (m a_tape) (mT m) (m a_toldCodes) (m aM f_taped) n = 9 := by unfold sLns; rw [if_neg (by omega), if_pos eR]
      rw [eS]
      exact ⟨rfl, hI6, zfr_sub y6 (by decide), by rw [q5, if_pos (by omega)], eT6, fun h => absurd h (by decide), fun _ => ⟨q2, q3.trans hw5, by rw [q4, if_pos (by omega), if_pos eR]; exact g4 eR⟩⟩
