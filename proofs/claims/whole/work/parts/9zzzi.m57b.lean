def fPrX : List (Int × Option Int) := (aM, some f_taped) :: fFreM0
def fPrLX : List (Int × Option Int) := fPrX ++ fLays
theorem ptM_prX {m m1 : zM} (h : ptM m) (b : zfr fPrX m m1) : ptM m1 := fun q hq => by
  have hq2 : ∀ q ∈ mPt, fPrX.all (fun r => r.1 != aM || (r.2 != none && r.2 != some q.1)) = true := by decide
  rw [zfr_at b (hq2 q hq)]
  exact h q hq
theorem mI_prX {m m' : zM} (h : mI m) (f : zfr fPrX m m') (hq : ∀ x, (x < 0 ∨ 12 ≤ x) → m' a_mate x = 0) (ht : 0 ≤ m' aM f_taped ∧ m' aM f_taped ≤ 400) : mI m' := by
  obtain ⟨h1, ⟨h2, h3⟩, ⟨h4, h5⟩, h6, h7, h8, h9, h10⟩ := h
  have e : mT m' = mT m := mT_fr f (by decide)
  refine ⟨mOK_of h1 e (ptM_prX h1.1 f) hq, ⟨?_, fun hl => ?_⟩, ⟨?_, fun hl => ?_⟩, ?_, ?_, ht, ?_, ?_⟩
  · rw [zfr_at (j := f_isLaid) f (by decide)]; exact h2
  · rw [zfr_at (j := f_isLaid) f (by decide)] at hl
    exact mL_of (h3 hl) e (zfr_at f (by decide)) (zfr_cell f (by decide)) (zfr_cell f (by decide)) (zfr_cell f (by decide)) (zfr_cell f (by decide))
  · rw [zfr_at (j := f_isNamed) f (by decide)]; exact h4
  · rw [zfr_at (j := f_isNamed) f (by decide)] at hl
    exact mN_of (h5 hl) e (zfr_at f (by decide)) (zfr_cell f (by decide)) (zfr_cell f (by decide))
  · unfold mPl; rw [zfr_cell (a := a_places) f (by decide)]; exact h6
  · rw [zfr_cell (a := a_worths) f (by decide)]; exact h7
  · rw [zfr_at (j := f_outMany) f (by decide)]; exact h9
  · unfold mWd; rw [zfr_cell (a := a_words) f (by decide)]; exact h10
theorem q_pairsX (d : Nat) {E : zE} {m : zM} (hE : shM E) (hI : mI m) (n : Int) : zR zX12_pairs (d + 12) [zP aM, zI n] m E E (fun r m' => r = some (zI (if sPrs (m a_tape) (mT m) (m aM f_taped) n = 0 then tWh (mT m) (tPrs (m a_tape) (mT m) n).2.2.1 else -1)) ∧ mI m' ∧ zfr fPrLX m m' ∧ m' aM f_status = sPrs (m a_tape) (mT m) (m aM f_taped) n ∧ mT m' = mT m ∧ (sPrs (m a_tape) (mT m) (m aM f_taped) n = 1 → m' aM f_taped = m aM f_taped ∧ m' aM f_faultKind = m aM f_faultKind ∧ m' aM f_faultAt = m aM f_faultAt) ∧ (sPrs (m a_tape) (mT m) (m aM f_taped) n ≠ 1 → m' aM f_taped = 0 ∧ m' aM f_faultKind = (tPrs (m a_tape) (mT m) n).1 ∧ m' aM f_faultAt = (if (tPrs (m a_tape) (mT m) n).1 ≠ 0 then (tPrs (m a_tape) (mT m) n).2.1 else -1))) := by
  have hm := hI.1.1
  have htp := hI.2.2.2.2.2.1
  obtain ⟨hw, hl, hn⟩ := mI_wl hI
  have hq0 := mQ_rf hI
  have eT0 : mT m = mT m := rfl
  have t4 : (mT m).2.2.2 = m aM f_letters := rfl
  have t0 : (mT m).1 0 = m a_c 0 := rfl
  have t1 : (mT m).1 1 = m a_c 1 := rfl
  have t2 : (mT m).1 2 = m a_c 2 := rfl
  have b1 := hw.1
  have b2 := hw.2.1
  have b3 := hw.2.2.1
  refine zR_go [zP aM, zI n, zN] (by decide +kernel) (Nat.le_of_ble_eq_true rfl) rfl rfl ?_
  refine z_aload_n dX12_pairs_0 rfl ?_
  refine z_iload_n dX12_pairs_1 rfl ?_
  refine z_iconst dX12_pairs_2 (by decide) ?_
  refine z_aload_n dX12_pairs_3 rfl ?_
  refine z_gI f_taped rfl flX12_447 dX12_pairs_4 (sh_M hE) rfl ?_
  refine z_callS mlX12_140 dX12_pairs_7 (av := [_, _, _]) rfl rfl (Nat.le_of_ble_eq_true rfl) (r_isIn _ hE hm n 0 _) (Nat.le_refl _) (Nat.le_refl _) (Nat.le_refl _) (Nat.le_refl _) ?_
  rintro _ _ ⟨rfl, rfl⟩
  refine z_ifz_eq (tgt := 17) dX12_pairs_10 rfl (fun h10 => ?_) (fun h10 => ?_)
  · refine z_iconst dX12_pairs_17 (by decide) ?_
    refine z_callV mlX12_310 dX12_pairs_18 (sh_M hE) (av := [_]) rfl rfl (Nat.le_of_ble_eq_true rfl) (r_is _ hE hm _) (Nat.le_refl _) (Nat.le_refl _) (Nat.le_refl _) (Nat.le_refl _) ?_
    rintro _ m1 ⟨rfl, e1⟩
    have hq1 : mQ m m1 1 := e1 ▸ mQ_is hq0
    have hI1 := hq1.1
    have hm1 := hI1.1.1
    have eT1 := mQ_T hq1
    have ec1 : m1 a_c = m a_c := congrArg (fun q => q.1) eT1
    have ec21 : m1 a_c 2 = m a_c 2 := congrFun ec1 2
    have ew1 : m1 a_what = m a_what := congrArg (fun q => q.2.1) eT1
    have ep1 : m1 a_pointOf = m a_pointOf := congrArg (fun q => q.2.2.1) eT1
    have en1 : m1 aM f_letters = m aM f_letters := congrArg (fun q => q.2.2.2) eT1
    obtain ⟨hw1, hl1, hn1⟩ := mI_wl hI1
    refine z_ifz_ne (tgt := 26) dX12_pairs_21 rfl (fun h => absurd h (by decide)) (fun h21 => ?_)
    refine z_iconst dX12_pairs_24 (by decide) ?_
    refine z_iret dX12_pairs_25 rfl rfl ?_
    have eS : sPrs (m a_tape) (mT m) (m aM f_taped) n = 1 := by unfold sPrs; rw [if_pos (by omega)]
    rw [eS]
    exact ⟨rfl, hI1, e1 ▸ zfr_uj (zfr_uj zfr_rf (by decide)) (by decide), hq1.2.2, eT1, fun _ => ⟨zfr_at hq1.2.1 (by decide), zfr_at hq1.2.1 (by decide), zfr_at hq1.2.1 (by decide)⟩, fun h => absurd rfl h⟩
  · refine z_iconst dX12_pairs_13 (by decide) ?_
    refine z_goto (tgt := 18) dX12_pairs_14 rfl ?_
    refine z_callV mlX12_310 dX12_pairs_18 (sh_M hE) (av := [_]) rfl rfl (Nat.le_of_ble_eq_true rfl) (r_is _ hE hm _) (Nat.le_refl _) (Nat.le_refl _) (Nat.le_refl _) (Nat.le_refl _) ?_
    rintro _ m1 ⟨rfl, e1⟩
    have hq1 : mQ m m1 0 := e1 ▸ mQ_is hq0
    have hI1 := hq1.1
    have hm1 := hI1.1.1
    have eT1 := mQ_T hq1
    have ec1 : m1 a_c = m a_c := congrArg (fun q => q.1) eT1
    have ec21 : m1 a_c 2 = m a_c 2 := congrFun ec1 2
    have ew1 : m1 a_what = m a_what := congrArg (fun q => q.2.1) eT1
    have ep1 : m1 a_pointOf = m a_pointOf := congrArg (fun q => q.2.2.1) eT1
    have en1 : m1 aM f_letters = m aM f_letters := congrArg (fun q => q.2.2.2) eT1
    obtain ⟨hw1, hl1, hn1⟩ := mI_wl hI1
    refine z_ifz_ne (tgt := 26) dX12_pairs_21 rfl (fun h21 => ?_) (fun h => absurd (by decide) h)
    refine z_aload_n dX12_pairs_26 rfl ?_
    refine z_iconst dX12_pairs_27 (by decide) ?_
    refine z_callV mlX12_190 dX12_pairs_28 (sh_M hE) (av := [_]) rfl rfl (Nat.le_of_ble_eq_true rfl) (r_begins _ hE hm1 0) (Nat.le_refl _) (Nat.le_refl _) (Nat.le_refl _) (Nat.le_refl _) ?_
    rintro _ m2 ⟨rfl, a2, b2, v2, o2⟩
    have y2 : zfr fPrX m m2 := zfr_tr (e1 ▸ zfr_uj (zfr_uj zfr_rf (by decide)) (by decide)) (zfr_sub a2 (by decide))
    have hm2 : ptM m2 := ptM_prX hm y2
    refine z_aload_n dX12_pairs_31 rfl ?_
    refine z_iconst dX12_pairs_32 (by decide) ?_
    refine z_pI f_wide rfl (fpX12_545 _) dX12_pairs_33 (sh_M hE) rfl ?_
    obtain ⟨m3, em3⟩ : ∃ x, x = zu m2 aM f_wide 0 := ⟨_, rfl⟩
    rw [← em3]
    have y3 : zfr fPrX m m3 := em3 ▸ zfr_uj y2 (by decide)
    have hm3 : ptM m3 := ptM_prX hm y3
    have gw3 : m3 aM f_wide = 0 := em3 ▸ zu_s
    have et3 : m3 a_tape = m a_tape := zfr_cell y3 (by decide)
    have hWd3 : mWd m3 := by unfold mWd; rw [zfr_cell (a := a_words) y3 (by decide)]; exact hI.2.2.2.2.2.2.2
    refine z_aload_n dX12_pairs_36 rfl ?_
    refine z_iload_n dX12_pairs_37 rfl ?_
    refine z_iconst dX12_pairs_38 (by decide) ?_
    refine z_callV mlX12_532 dX12_pairs_39 (sh_M hE) (av := [_, _]) rfl rfl (Nat.le_of_ble_eq_true rfl) (x_begins _ hE ⟨hm3, hWd3⟩ n 1 (by omega) (Or.inr rfl)) (Nat.le_refl _) (Nat.le_refl _) (Nat.le_refl _) (Nat.le_refl _) ?_
    rintro _ m4 ⟨rfl, z4, hB4, hw4, hK4, ht4⟩
    rw [et3] at hK4 ht4
    have hm4 : ptM m4 := hB4.1
    have y4 : zfr fPrX m m4 := zfr_tr y3 (zfr_sub z4 (by decide))
    have eT4 : mT m4 = mT m := mT_fr y4 (by decide)
    have c1 : m4 a_c = m a_c := congrArg (fun q => q.1) eT4
    have c2 : m4 a_what = m a_what := congrArg (fun q => q.2.1) eT4
    have c3 : m4 a_pointOf = m a_pointOf := congrArg (fun q => q.2.2.1) eT4
    have c4 : m4 aM f_letters = m aM f_letters := congrArg (fun q => q.2.2.2) eT4
    have gw4 : m4 aM f_wide = 0 := (zfr_at z4 (by decide)).trans gw3
    have gmm : m4 a_mate = mt0 := by
      rw [zfr_cell (a := a_mate) z4 (by decide), em3, zu_fn (by decide)]
      funext x
      unfold mt0
      by_cases e : 0 ≤ x ∧ x < 12
      · rw [if_pos e]; exact v2 x e.1 e.2
      · rw [if_neg e, o2 x (by omega)]; exact hI1.1.2.2.2.2 x (by omega)
    have gm4 : ∀ x, (x < 0 ∨ 12 ≤ x) → m4 a_mate x = 0 := fun x hx => by rw [gmm]; unfold mt0; rw [if_neg (by omega)]
    have hok : kOk (mV (m a_tape) n, n, (1 : Int)) := hK4 ▸ mK_ok hB4.2.1
    have hsk := (kSk_ge (K := (mV (m a_tape) n, n, (1 : Int))) (k := 0) hok).1
    refine l_pairs_t d hE n 401 (kSk (mV (m a_tape) n, n, (1 : Int)) 0) m4 hB4 hw4 ht4 (by rw [c1]; exact hw) (by rw [c1, c2, c3, c4]; exact hl) (by rw [gw4]; decide) (by omega) (fun m5 g => ?_)
    rw [hK4, c1, c2, c3, c4, gmm, gw4] at g
    obtain ⟨z5, hw5, g4, g5, g6⟩ := g
    have hw5 : m5 aM f_wrong = (tPrs (m a_tape) (mT m) n).1 := hw5
    have g4 : (tPrs (m a_tape) (mT m) n).1 ≠ 0 → m5 aM f_wrongAt = (tPrs (m a_tape) (mT m) n).2.1 := g4
    have g5 : (tPrs (m a_tape) (mT m) n).1 = 0 → m5 a_mate = (tPrs (m a_tape) (mT m) n).2.2.1 ∧ m5 aM f_wide = (tPrs (m a_tape) (mT m) n).2.2.2.1 ∧ mTk m5 (tPrs (m a_tape) (mT m) n).2.2.2.2 := g5
    have hRn : 0 ≤ (tPrs (m a_tape) (mT m) n).1 := tPrs_nn hok
    have y5 : zfr fPrX m m5 := zfr_tr y4 (zfr_sub z5 (by decide))
    have hm5 : ptM m5 := ptM_prX hm y5
    refine z_aload_n dX12_pairs_63 rfl ?_
    refine z_callV mlX12_539 dX12_pairs_64 (sh_M hE) (av := _) rfl rfl (Nat.le_of_ble_eq_true rfl) (x_ends _ hE ⟨hm5, trivial⟩) (Nat.le_refl _) (Nat.le_refl _) (Nat.le_refl _) (Nat.le_refl _) ?_
    rintro _ m6 ⟨rfl, q1, q2, q3, q4, q5⟩
    have y6 : zfr fPrX m m6 := zfr_tr y5 (zfr_sub q1 (by decide))
    have hm6 : ptM m6 := ptM_prX hm y6
    have hw6 : m6 aM f_wrong = (tPrs (m a_tape) (mT m) n).1 := (zfr_at q1 (by decide)).trans hw5
    have em6 : m6 a_mate = m5 a_mate := zfr_cell q1 (by decide)
    have hI6 : mI m6 := mI_prX hI y6 (fun x hx => by rw [em6, g6 x hx, gm4 x hx]) (by rw [q2]; decide)
    have eT6 : mT m6 = mT m := mT_fr y6 (by decide)
    have en6 : m6 aM f_letters = m aM f_letters := congrArg (fun q => q.2.2.2) eT6
    refine z_aload_n dX12_pairs_67 rfl ?_
    refine z_gIv f_wrong rfl flX12_487 dX12_pairs_68 (sh_M hE) rfl hw6 ?_
    refine z_if_le (tgt := 76) dX12_pairs_71 rfl (fun h71 => ?_) (fun h71 => ?_)
    · have eR : (tPrs (m a_tape) (mT m) n).1 = 0 := by omega
      have gw6 : m6 aM f_wide = (tPrs (m a_tape) (mT m) n).2.2.2.1 := (zfr_at q1 (by decide)).trans (g5 eR).2.1
      have hwr : 0 ≤ (tPrs (m a_tape) (mT m) n).2.2.2.1 ∧ (tPrs (m a_tape) (mT m) n).2.2.2.1 ≤ 6 := tPrs_w hok hn eR
      refine z_iconst dX12_pairs_76 (by decide) ?_
      refine z_aload_n dX12_pairs_77 rfl ?_
      refine z_gIv f_wide rfl flX12_545 dX12_pairs_78 (sh_M hE) rfl gw6 ?_
      refine z_mul dX12_pairs_81 (by omega) ?_
      refine z_aload_n dX12_pairs_82 rfl ?_
      refine z_gIv f_letters rfl flX12_124 dX12_pairs_83 (sh_M hE) rfl en6 ?_
      refine z_icmp_ge (tgt := 95) dX12_pairs_86 rfl (fun h86 => ?_) (fun h86 => ?_)
      · have h2w : ¬ 2 * (tPrs (m a_tape) (mT m) n).2.2.2.1 < (mT m).2.2.2 := by omega
        refine z_iconst dX12_pairs_95 (by decide) ?_
        refine z_ist 2 dX12_pairs_96 rfl (Nat.le_of_ble_eq_true rfl) ?_
        try dsimp only [zs0, zsI, zsP, zsN, zsJ, zsS, zst2, Nat.reduceAdd]
        refine l_pairs_w d hE hm6 n (by rw [en6]; exact hn) (m6 aM f_letters).toNat 0 m6 (by omega) (by omega) zfr_rf (fun x q0 q1 => by omega) (fun m7 k1 k2 => ?_)
        have y7 : zfr fPrX m m7 := zfr_tr y6 (zfr_sub k1 (by decide))
        have hm7 : ptM m7 := ptM_prX hm y7
        have hI7 : mI m7 := mI_fr hI6 (zfr_sub k1 (by decide))
        have eT7 : mT m7 = mT m := mT_fr y7 (by decide)
        have en7 : m7 aM f_letters = m6 aM f_letters := zfr_at k1 (by decide)
        refine z_aload_n dX12_pairs_123 rfl ?_
        refine z_callV mlX12_551 dX12_pairs_124 (sh_M hE) (av := _) rfl rfl (Nat.le_of_ble_eq_true rfl) (q_whichPairing _ hE hI7 (tPrs (m a_tape) (mT m) n).2.2.1 (fun i q0 q1 => by rw [k2 i q0 (by omega), em6, (g5 eR).1])) (Nat.le_refl _) (Nat.le_refl _) (Nat.le_refl _) (Nat.le_refl _) ?_
        rintro _ m8 ⟨rfl, hI8, f8⟩
        refine z_iret dX12_pairs_127 rfl rfl ?_
        have eS : sPrs (m a_tape) (mT m) (m aM f_taped) n = 0 := by unfold sPrs; rw [if_neg (by omega), if_neg (not_not_intro eR), if_neg h2w]
        rw [eS]
        refine ⟨by rw [if_pos rfl, eT7], hI8, zfr_tr (zfr_sub y7 (by decide)) (zfr_sub f8 (by decide)), ?_, (mT_fr f8 (by decide)).trans eT7, fun h => absurd h (by decide), fun _ => ⟨?_, ?_, ?_⟩⟩
        · rw [zfr_at (j := f_status) f8 (by decide), zfr_at (j := f_status) k1 (by decide), q5, if_neg (by omega)]
        · rw [zfr_at (j := f_taped) f8 (by decide), zfr_at (j := f_taped) k1 (by decide)]; exact q2
        · rw [zfr_at (j := f_faultKind) f8 (by decide), zfr_at (j := f_faultKind) k1 (by decide)]; exact q3.trans hw5
        · rw [zfr_at (j := f_faultAt) f8 (by decide), zfr_at (j := f_faultAt) k1 (by decide), q4, if_neg (by omega), if_neg (not_not_intro eR)]
      · have h2w : 2 * (tPrs (m a_tape) (mT m) n).2.2.2.1 < (mT m).2.2.2 := by omega
        refine z_aload_n dX12_pairs_89 rfl ?_
        refine z_iconst dX12_pairs_90 (by decide) ?_
        refine z_callV mlX12_426 dX12_pairs_91 (sh_M hE) (av := [_]) rfl rfl (Nat.le_of_ble_eq_true rfl) (r_refuse _ hE hm6 5) (Nat.le_refl _) (Nat.le_refl _) (Nat.le_refl _) (Nat.le_refl _) ?_
        rintro _ _ ⟨rfl, rfl⟩
        refine z_iret dX12_pairs_94 rfl rfl ?_
        have eS : sPrs (m a_tape) (mT m) (m aM f_taped) n = 5 := by unfold sPrs; rw [if_neg (by omega), if_neg (not_not_intro eR), if_pos h2w]
        rw [eS]
        refine ⟨rfl, mI_fr hI6 (zfr_uj zfr_rf (by decide)), zfr_uj (zfr_sub y6 (by decide)) (by decide), zu_s, (mT_fr (zfr_uj zfr_rf (by decide) : zfr fFree m6 _) (by decide)).trans eT6, fun h => absurd h (by decide), fun _ => ⟨?_, ?_, ?_⟩⟩
        · rw [zu_j (by decide)]; exact q2
        · rw [zu_j (by decide)]; exact q3.trans hw5
        · rw [zu_j (by decide), q4, if_neg (by omega), if_neg (not_not_intro eR)]
    · have eR : ¬ (tPrs (m a_tape) (mT m) n).1 = 0 := by omega
      refine z_iconst dX12_pairs_74 (by decide) ?_
      refine z_iret dX12_pairs_75 rfl rfl ?_
      have eS : sPrs (m a_tape) (mT m) (m aM f_taped) n = 9 := by unfold sPrs; rw [if_neg (by omega), if_pos eR]
      rw [eS]
      exact ⟨rfl, hI6, zfr_sub y6 (by decide), by rw [q5, if_pos (by omega)], eT6, fun h => absurd h (by decide), fun _ => ⟨q2, q3.trans hw5, by rw [q4, if_pos (by omega), if_pos eR]; exact g4 eR⟩⟩
