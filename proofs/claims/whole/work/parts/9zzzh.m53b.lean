def fFre0 : List (Int × Option Int) := [(aM, some f_status), (aM, some f_thrown), (a_codes, none), (aM, some f_lines), (a_moved, none), (aM, some f_leastName), (aM, some f_sameNames), (aM, some f_wantedName), (a_key, none), (a_sorted, none), (a_least, none), (aM, some f_keys), (a_held, none), (a_subs, none), (aM, some f_subPoints), (aM, some f_faultKind), (aM, some f_faultAt), (aM, some f_wrong), (aM, some f_wrongAt), (aM, some f_place), (aM, some f_next), (aM, some f_sort), (aM, some f_number), (aM, some f_size), (aM, some f_wide), (aM, some f_end), (aM, some f_withNumbers), (aM, some f_word), (a_wantedMate, none), (a_toldCodes, none), (a_whole, none)]
def fFreM0 : List (Int × Option Int) := (a_mate, none) :: (aM, some f_among) :: fFre0
def fLdDX : List (Int × Option Int) := (a_c, none) :: (aM, some f_taped) :: fFre0
def fLdLX : List (Int × Option Int) := fLdDX ++ fPoints
theorem ptM_ldX {m m1 : zM} (h : ptM m) (b : zfr fLdLX m m1) : ptM m1 := fun q hq => by
  have hq2 : ∀ q ∈ mPt, fLdLX.all (fun r => r.1 != aM || (r.2 != none && r.2 != some q.1)) = true := by decide
  rw [zfr_at b (hq2 q hq)]
  exact h q hq
theorem mI_ldX {m m' : zM} (h : mI m) (f : zfr fLdDX m m') (hc : m' a_c = m a_c) (ht : 0 ≤ m' aM f_taped ∧ m' aM f_taped ≤ 400) : mI m' := by
  obtain ⟨h1, ⟨h2, h3⟩, ⟨h4, h5⟩, h6, h7, h8, h9, h10⟩ := h
  have e : mT m' = mT m := mT_of hc (zfr_cell f (by decide)) (zfr_cell f (by decide)) (zfr_at f (by decide))
  refine ⟨mOK_of h1 e (ptM_ldX h1.1 (zfr_sub f (by decide))) ?_, ⟨?_, fun hl => ?_⟩, ⟨?_, fun hl => ?_⟩, ?_, ?_, ht, ?_, ?_⟩
  · rw [zfr_cell (a := a_mate) f (by decide)]; exact h1.2.2.2.2
  · rw [zfr_at (j := f_isLaid) f (by decide)]; exact h2
  · rw [zfr_at (j := f_isLaid) f (by decide)] at hl
    exact mL_of (h3 hl) e (zfr_at f (by decide)) (zfr_cell f (by decide)) (zfr_cell f (by decide)) (zfr_cell f (by decide)) (zfr_cell f (by decide))
  · rw [zfr_at (j := f_isNamed) f (by decide)]; exact h4
  · rw [zfr_at (j := f_isNamed) f (by decide)] at hl
    exact mN_of (h5 hl) e (zfr_at f (by decide)) (zfr_cell f (by decide)) (zfr_cell f (by decide))
  · unfold mPl; rw [zfr_cell (a := a_places) f (by decide)]; exact h6
  · rw [zfr_cell (a := a_worths) f (by decide)]; exact h7
  · rw [zfr_at (j := f_outMany) f (by decide)]; exact h9
  · unfold mWd; rw [zfr_cell (a := a_words) f (by decide)]; exact h10
theorem mI_ld2X {m m' : zM} (h : mI m) (f : zfr fLdLX m m') (hw : wfC (m' a_c)) (hfl : isFlat (m' a_c) (m' a_what) (m' a_pointOf) (m' aM f_letters)) (hl : m' aM f_letters ≤ 12) (i1 : m' aM f_isLaid = 0) (i2 : m' aM f_isNamed = 0) (hwo : ∀ i, 0 ≤ i → i < 800 → m' a_worths i = 1) (ht : 0 ≤ m' aM f_taped ∧ m' aM f_taped ≤ 400) : mI m' := by
  obtain ⟨h1, ⟨h2, h3⟩, ⟨h4, h5⟩, h6, h7, h8, h9, h10⟩ := h
  refine ⟨⟨ptM_ldX h1.1 f, hw, hfl, hl, ?_⟩, ⟨Or.inl i1, fun hl => absurd (i1.symm.trans hl) (by decide)⟩, ⟨Or.inl i2, fun hl => absurd (i2.symm.trans hl) (by decide)⟩, ?_, fun k q1 q2 => by rw [hwo k q1 q2]; decide, ht, ?_, ?_⟩
  · rw [zfr_cell (a := a_mate) f (by decide)]; exact h1.2.2.2.2
  · unfold mPl; rw [zfr_cell (a := a_places) f (by decide)]; exact h6
  · rw [zfr_at (j := f_outMany) f (by decide)]; exact h9
  · unfold mWd; rw [zfr_cell (a := a_words) f (by decide)]; exact h10
theorem q_loadX (d : Nat) {E : zE} {m : zM} (hE : shM E) (hI : mI m) (n : Int) : zR zX12_load (d + 6) [zP aM, zI n] m E E (fun r m' => r = some (zI (if sLoad (m a_tape) (m a_c) (m aM f_taped) n = 0 then m' aM f_letters else -1)) ∧ mI m' ∧ zfr fLdLX m m' ∧ m' aM f_status = sLoad (m a_tape) (m a_c) (m aM f_taped) n ∧ (sLoad (m a_tape) (m a_c) (m aM f_taped) n = 1 → mT m' = mT m ∧ m' a_worths = m a_worths ∧ m' aM f_taped = m aM f_taped ∧ m' aM f_faultKind = m aM f_faultKind ∧ m' aM f_faultAt = m aM f_faultAt) ∧ (sLoad (m a_tape) (m a_c) (m aM f_taped) n = 9 → mT m' = mT m ∧ m' a_worths = m a_worths ∧ m' aM f_taped = 0 ∧ m' aM f_faultKind = (tLoad (m a_tape) (m a_c) n).1 ∧ m' aM f_faultAt = (tLoad (m a_tape) (m a_c) n).2.1) ∧ (sLoad (m a_tape) (m a_c) (m aM f_taped) n = 0 → m' a_c = (tLoad (m a_tape) (m a_c) n).2.2.1 ∧ (∀ i, 0 ≤ i → i < 800 → m' a_worths i = 1) ∧ m' aM f_taped = 0 ∧ m' aM f_faultKind = 0 ∧ m' aM f_faultAt = -1)) := by
  have hm := hI.1.1
  have htp := hI.2.2.2.2.2.1
  obtain ⟨hw, hl, hn⟩ := mI_wl hI
  have hq0 := mQ_rf hI
  have eT0 : mT m = mT m := rfl
  have t4 : (mT m).2.2.2 = m aM f_letters := rfl
  have t0 : (mT m).1 0 = m a_c 0 := rfl
  have t1 : (mT m).1 1 = m a_c 1 := rfl
  have t2 : (mT m).1 2 = m a_c 2 := rfl
  have b1 := hw.1
  have b2 := hw.2.1
  have b3 := hw.2.2.1
  refine zR_go [zP aM, zI n, zN] (by decide +kernel) (Nat.le_of_ble_eq_true rfl) rfl rfl ?_
  refine z_aload_n dX12_load_0 rfl ?_
  refine z_iload_n dX12_load_1 rfl ?_
  refine z_iconst dX12_load_2 (by decide) ?_
  refine z_aload_n dX12_load_3 rfl ?_
  refine z_gI f_taped rfl flX12_447 dX12_load_4 (sh_M hE) rfl ?_
  refine z_callS mlX12_140 dX12_load_7 (av := [_, _, _]) rfl rfl (Nat.le_of_ble_eq_true rfl) (r_isIn _ hE hm n 0 _) (Nat.le_refl _) (Nat.le_refl _) (Nat.le_refl _) (Nat.le_refl _) ?_
  rintro _ _ ⟨rfl, rfl⟩
  refine z_ifz_eq (tgt := 17) dX12_load_10 rfl (fun h10 => ?_) (fun h10 => ?_)
  · refine z_iconst dX12_load_17 (by decide) ?_
    refine z_callV mlX12_310 dX12_load_18 (sh_M hE) (av := [_]) rfl rfl (Nat.le_of_ble_eq_true rfl) (r_is _ hE hm _) (Nat.le_refl _) (Nat.le_refl _) (Nat.le_refl _) (Nat.le_refl _) ?_
    rintro _ m1 ⟨rfl, e1⟩
    have hq1 : mQ m m1 1 := e1 ▸ mQ_is hq0
    have hI1 := hq1.1
    have hm1 := hI1.1.1
    have eT1 := mQ_T hq1
    have ec1 : m1 a_c = m a_c := congrArg (fun q => q.1) eT1
    have ec21 : m1 a_c 2 = m a_c 2 := congrFun ec1 2
    have ew1 : m1 a_what = m a_what := congrArg (fun q => q.2.1) eT1
    have ep1 : m1 a_pointOf = m a_pointOf := congrArg (fun q => q.2.2.1) eT1
    have en1 : m1 aM f_letters = m aM f_letters := congrArg (fun q => q.2.2.2) eT1
    obtain ⟨hw1, hl1, hn1⟩ := mI_wl hI1
    refine z_ifz_ne (tgt := 26) dX12_load_21 rfl (fun h => absurd h (by decide)) (fun h21 => ?_)
    refine z_iconst dX12_load_24 (by decide) ?_
    refine z_iret dX12_load_25 rfl rfl ?_
    have eS : sLoad (m a_tape) (m a_c) (m aM f_taped) n = 1 := by unfold sLoad; rw [if_pos (by omega)]
    rw [eS]
    exact ⟨rfl, hI1, e1 ▸ zfr_uj (zfr_uj zfr_rf (by decide)) (by decide), hq1.2.2, fun _ => ⟨eT1, zfr_cell hq1.2.1 (by decide), zfr_at hq1.2.1 (by decide), zfr_at hq1.2.1 (by decide), zfr_at hq1.2.1 (by decide)⟩, fun h => absurd h (by decide), fun h => absurd h (by decide)⟩
  · refine z_iconst dX12_load_13 (by decide) ?_
    refine z_goto (tgt := 18) dX12_load_14 rfl ?_
    refine z_callV mlX12_310 dX12_load_18 (sh_M hE) (av := [_]) rfl rfl (Nat.le_of_ble_eq_true rfl) (r_is _ hE hm _) (Nat.le_refl _) (Nat.le_refl _) (Nat.le_refl _) (Nat.le_refl _) ?_
    rintro _ m1 ⟨rfl, e1⟩
    have hq1 : mQ m m1 0 := e1 ▸ mQ_is hq0
    have hI1 := hq1.1
    have hm1 := hI1.1.1
    have eT1 := mQ_T hq1
    have ec1 : m1 a_c = m a_c := congrArg (fun q => q.1) eT1
    have ec21 : m1 a_c 2 = m a_c 2 := congrFun ec1 2
    have ew1 : m1 a_what = m a_what := congrArg (fun q => q.2.1) eT1
    have ep1 : m1 a_pointOf = m a_pointOf := congrArg (fun q => q.2.2.1) eT1
    have en1 : m1 aM f_letters = m aM f_letters := congrArg (fun q => q.2.2.2) eT1
    obtain ⟨hw1, hl1, hn1⟩ := mI_wl hI1
    refine z_ifz_ne (tgt := 26) dX12_load_21 rfl (fun h21 => ?_) (fun h => absurd (by decide) h)
    refine z_iconst dX12_load_26 (by decide) ?_
    refine z_ist 2 dX12_load_27 rfl (Nat.le_of_ble_eq_true rfl) ?_
    try dsimp only [zs0, zsI, zsP, zsN, zsJ, zsS, zst2, Nat.reduceAdd]
    refine l_load_a d hE hm1 n 104 0 m1 (by omega) (by omega) zfr_rf (fun x q0 q1 => by omega) (fun m2 a2 b2 => ?_)
    have hm2 : ptM m2 := ptM_wh hm1 a2
    refine z_iconst dX12_load_52 (by decide) ?_
    refine z_ist 2 dX12_load_53 rfl (Nat.le_of_ble_eq_true rfl) ?_
    try dsimp only [zs0, zsI, zsP, zsN, zsJ, zsS, zst2, Nat.reduceAdd]
    refine l_load_b d hE hm2 n 104 0 m2 (by omega) (by omega) zfr_rf (fun x => by rw [if_neg (by omega)]) (fun m3 a3 b3 => ?_)
    have hm3 : ptM m3 := ptM_ed hm2 (zfr_sub a3 (by decide))
    have y3 : zfr fLdDX m m3 := zfr_tr (e1 ▸ zfr_uj (zfr_uj zfr_rf (by decide)) (by decide)) (zfr_tr (zfr_sub a2 (by decide)) (zfr_sub a3 (by decide)))
    have et3 : m3 a_tape = m a_tape := zfr_cell y3 (by decide)
    have hWd3 : mWd m3 := by unfold mWd; rw [zfr_cell (a := a_words) y3 (by decide)]; exact hI.2.2.2.2.2.2.2
    refine z_aload_n dX12_load_73 rfl ?_
    refine z_iload_n dX12_load_74 rfl ?_
    refine z_iconst dX12_load_75 (by decide) ?_
    refine z_callV mlX12_532 dX12_load_76 (sh_M hE) (av := [_, _]) rfl rfl (Nat.le_of_ble_eq_true rfl) (x_begins _ hE ⟨hm3, hWd3⟩ n 0 (by omega) (Or.inl rfl)) (Nat.le_refl _) (Nat.le_refl _) (Nat.le_refl _) (Nat.le_refl _) ?_
    rintro _ m4 ⟨rfl, z4, hB4, hw4, hK4, ht4⟩
    rw [et3] at hK4 ht4
    have hm4 : ptM m4 := hB4.1
    have gc4 : m4 a_c = cZ (m a_c) := (zfr_cell z4 (by decide)).trans (b3.trans (by rw [zfr_cell (a := a_c) a2 (by decide), ec1]))
    have hok : kOk (mV (m a_tape) n, n, (0 : Int)) := hK4 ▸ mK_ok hB4.2.1
    have hsk := (kSk_ge (K := (mV (m a_tape) n, n, (0 : Int))) (k := 0) hok).1
    refine l_load_t d hE n 401 (kSk (mV (m a_tape) n, n, (0 : Int)) 0) m4 hB4 hw4 ht4 (by rw [gc4]; exact cZ_inv _) (by omega) (fun m5 g => ?_)
    rw [hK4, gc4] at g
    obtain ⟨z5, hw5, g4, g5, g6⟩ := g
    have hw5 : m5 aM f_wrong = (tLoad (m a_tape) (m a_c) n).1 := hw5
    have g4 : (tLoad (m a_tape) (m a_c) n).1 ≠ 0 → m5 aM f_wrongAt = (tLoad (m a_tape) (m a_c) n).2.1 := g4
    have g5 : (tLoad (m a_tape) (m a_c) n).1 = 0 → m5 a_c = (tLoad (m a_tape) (m a_c) n).2.2.1 ∧ mTk m5 (tLoad (m a_tape) (m a_c) n).2.2.2 := g5
    have hRn : 0 ≤ (tLoad (m a_tape) (m a_c) n).1 := pText_nn _ _ _ _
    have y4D : zfr fLdDX m m4 := zfr_tr (e1 ▸ zfr_uj (zfr_uj zfr_rf (by decide)) (by decide)) (zfr_tr (zfr_sub a2 (by decide)) (zfr_tr (zfr_sub a3 (by decide)) (zfr_sub z4 (by decide))))
    have y5D : zfr fLdDX m m5 := zfr_tr y4D (zfr_sub z5 (by decide))
    have y5 : zfr fLdLX m m5 := zfr_sub y5D (by decide)
    have hm5 : ptM m5 := ptM_ldX hm y5
    refine z_aload_n dX12_load_100 rfl ?_
    refine z_callV mlX12_539 dX12_load_101 (sh_M hE) (av := _) rfl rfl (Nat.le_of_ble_eq_true rfl) (x_ends _ hE ⟨hm5, trivial⟩) (Nat.le_refl _) (Nat.le_refl _) (Nat.le_refl _) (Nat.le_refl _) ?_
    rintro _ m6 ⟨rfl, q1, q2, q3, q4, q5⟩
    have y6 : zfr fLdLX m m6 := zfr_tr y5 (zfr_sub q1 (by decide))
    have hm6 : ptM m6 := ptM_ldX hm y6
    have hw6 : m6 aM f_wrong = (tLoad (m a_tape) (m a_c) n).1 := (zfr_at q1 (by decide)).trans hw5
    refine z_aload_n dX12_load_104 rfl ?_
    refine z_gIv f_wrong rfl flX12_487 dX12_load_105 (sh_M hE) rfl hw6 ?_
    refine z_if_le (tgt := 139) dX12_load_108 rfl (fun h108 => ?_) (fun h108 => ?_)
    · have eR : (tLoad (m a_tape) (m a_c) n).1 = 0 := by omega
      have gc6 : m6 a_c = (tLoad (m a_tape) (m a_c) n).2.2.1 := (zfr_cell q1 (by decide)).trans (g5 eR).1
      have hci : cInv (tLoad (m a_tape) (m a_c) n).2.2.1 := pText_ok hok 401 _ _ (cZ_inv _) eR
      refine z_aload_n dX12_load_139 rfl ?_
      refine z_callV mlX12_347 dX12_load_140 (sh_M hE) (av := _) rfl rfl (Nat.le_of_ble_eq_true rfl) (r_pointsChange _ hE hm6 (by rw [gc6]; exact hci.1) (by rw [gc6]; exact hci.2.1)) (Nat.le_refl _) (Nat.le_refl _) (Nat.le_refl _) (Nat.le_refl _) ?_
      rintro _ m7 ⟨rfl, k1, k2, k3, k4, k5⟩
      have y7 : zfr fLdLX m m7 := zfr_tr y6 (zfr_sub k1 (by decide))
      have hm7 : ptM m7 := ptM_ldX hm y7
      have gc7 : m7 a_c = (tLoad (m a_tape) (m a_c) n).2.2.1 := (zfr_cell k1 (by decide)).trans gc6
      refine z_aload_n dX12_load_143 rfl ?_
      refine z_gI f_letters rfl flX12_124 dX12_load_144 (sh_M hE) rfl ?_
      refine z_iret dX12_load_147 rfl rfl ?_
      have eS : sLoad (m a_tape) (m a_c) (m aM f_taped) n = 0 := by unfold sLoad; rw [if_neg (by omega), if_neg (not_not_intro eR)]
      rw [eS]
      refine ⟨rfl, ?_, zfr_sub y7 (by decide), ?_, fun h => absurd h (by decide), fun h => absurd h (by decide), fun _ => ⟨gc7, k5, ?_, ?_, ?_⟩⟩
      · exact mI_ld2X hI y7 (by rw [gc7]; exact hci.1) (by rw [show m7 a_c = m6 a_c from zfr_cell k1 (by decide)]; exact k2) (by rw [k2.1, gc6]; exact hci.2.1) k3 k4 k5 (by rw [zfr_at (j := f_taped) k1 (by decide), q2]; decide)
      · rw [zfr_at (j := f_status) k1 (by decide), q5, if_neg (by omega)]
      · rw [zfr_at (j := f_taped) k1 (by decide)]; exact q2
      · rw [zfr_at (j := f_faultKind) k1 (by decide), q3]; exact hw5.trans eR
      · rw [zfr_at (j := f_faultAt) k1 (by decide), q4, if_neg (by omega)]
    · have eR : ¬ (tLoad (m a_tape) (m a_c) n).1 = 0 := by omega
      refine z_iconst dX12_load_111 (by decide) ?_
      refine z_ist 2 dX12_load_112 rfl (Nat.le_of_ble_eq_true rfl) ?_
      try dsimp only [zs0, zsI, zsP, zsN, zsJ, zsS, zst2, Nat.reduceAdd]
      refine l_load_c d hE hm6 n 104 0 m6 (by omega) (by omega) zfr_rf (fun x => by rw [if_neg (by omega)]) (fun m7 k1 k2 => ?_)
      have eS : sLoad (m a_tape) (m a_c) (m aM f_taped) n = 9 := by unfold sLoad; rw [if_neg (by omega), if_pos eR]
      have gc7 : m7 a_c = m a_c := by
        funext x
        rw [k2 x]
        by_cases e : 0 ≤ x ∧ x < 104
        · rw [if_pos e]
          have e1 : m6 a_whole = m2 a_whole := (zfr_cell q1 (by decide)).trans ((zfr_cell z5 (by decide)).trans ((zfr_cell z4 (by decide)).trans (zfr_cell a3 (by decide))))
          rw [e1, b2 x e.1 e.2, ec1]
        · rw [if_neg e]
          have e1 : m6 a_c x = m5 a_c x := congrFun (zfr_cell q1 (by decide)) x
          have e2 : m4 a_c x = m3 a_c x := congrFun (zfr_cell z4 (by decide)) x
          rw [e1, g6 x (by omega), e2, b3]
          unfold cZ
          rw [if_neg e]
          exact congrFun ((zfr_cell a2 (by decide)).trans ec1) x
      have y7 : zfr fLdDX m m7 := zfr_tr (zfr_tr y5D (zfr_sub q1 (by decide))) (zfr_sub k1 (by decide))
      rw [eS]
      refine ⟨rfl, mI_ldX hI y7 gc7 (by rw [zfr_at (j := f_taped) k1 (by decide), q2]; decide), zfr_sub y7 (by decide), ?_, fun h => absurd h (by decide), fun _ => ⟨?_, zfr_cell y7 (by decide), ?_, ?_, ?_⟩, fun h => absurd h (by decide)⟩
      · rw [zfr_at (j := f_status) k1 (by decide), q5, if_pos (by omega)]
      · exact mT_of gc7 (zfr_cell y7 (by decide)) (zfr_cell y7 (by decide)) (zfr_at y7 (by decide))
      · rw [zfr_at (j := f_taped) k1 (by decide)]; exact q2
      · rw [zfr_at (j := f_faultKind) k1 (by decide), q3]; exact hw5
      · rw [zfr_at (j := f_faultAt) k1 (by decide), q4, if_pos (by omega)]; exact g4 eR
