def fX : List (Int × Option Int) := (a_subs, none) :: (aM, some f_subPoints) :: fNames
theorem mQ_X {m m1 m2 : zM} {st : Int} (h : mQ m m1 st) (hi : mI m2) (f : zfr fX m1 m2) : mQ m m2 st := ⟨hi, zfr_tr h.2.1 (zfr_sub f (by decide)), (zfr_at f (by decide)).trans h.2.2⟩
noncomputable def tGd (T : zT) (con dd : Int) : Bool := decide (if con = 0 then tLost T.1 (tH T) (tCo T dd) (tAll T.1) = 0 else tParts (tH T) (tCo T dd) (-1) (tAll T.1) = 1)
noncomputable def tMany (T : zT) (con dg : Int) : Int := zsum (fun dd => if tGd T con dd = true then (if dg = 0 then tCnt T dd else 1) else 0) (tD T).length 0
theorem l_manySuch (d : Nat) {E : zE} {m : zM} {P : Option zV → zM → Prop} (hE : shM E) (hm : ptM m) (con dg : Int) (hI : mI m) (hL : mL m) (hN : mN m)  : ∀ (j : Nat) (k n : Int) (m1 : zM), (ptM m1) → (0 ≤ k) → (k + j = ((tD (mT m)).length : Int)) → (0 ≤ n ∧ n ≤ 10395 * k) → (zfr fW m m1) → (∀ m2, zfr fW m m2 → P (some (zI (n + zsum (fun dd => if tGd (mT m) con dd = true then (if dg = 0 then tCnt (mT m) dd else 1) else 0) j k))) m2) → zA zX12_manySuch (d + 14) E E P 9 [zP aM, zI con, zI dg, zI n, zI k] [] m1 E := by
  intro j
  induction j with
  | zero =>
    intro k n m1 hm1 h0 hk hn hf hP
    have eT : mT m1 = mT m := mT_fr hf (by decide)
    have ec : m1 a_c = m a_c := zfr_cell hf (by decide)
    have hI1 := mI_fr hI (zfr_sub hf (by decide))
    have hL1 := mL_kept hf hL
    have hN1 := mN_keptW hf hN
    have nD := mN_D hN1
    rw [eT] at nD
    have hB := tCnt_bd (mT m) k
    have hlen := mL_len hI.1 hL
    refine z_iload dX12_manySuch_9 rfl ?_
    refine z_aload_n dX12_manySuch_11 rfl ?_
    refine z_gI f_diagrams rfl flX12_266 dX12_manySuch_12 (sh_M hE) rfl ?_
    refine z_icmp_ge (tgt := 66) dX12_manySuch_15 rfl (fun h15 => ?_) (fun h => absurd (by omega) h)
    refine z_iload_n dX12_manySuch_66 rfl ?_
    refine z_iret dX12_manySuch_67 rfl rfl ?_
    have hP := hP m1 hf
    rw [zsum_0, Int.add_zero] at hP
    exact hP
  | succ j ih =>
    intro k n m1 hm1 h0 hk hn hf hP
    have eT : mT m1 = mT m := mT_fr hf (by decide)
    have ec : m1 a_c = m a_c := zfr_cell hf (by decide)
    have hI1 := mI_fr hI (zfr_sub hf (by decide))
    have hL1 := mL_kept hf hL
    have hN1 := mN_keptW hf hN
    have nD := mN_D hN1
    rw [eT] at nD
    have hB := tCnt_bd (mT m) k
    have hlen := mL_len hI.1 hL
    have hc := q_isConnected (d + 8) hE hI1 k hN1 h0 (by rw [eT]; omega)
    rw [eT, ec] at hc
    have hi := q_isLinked (d + 8) hE hI1 k hN1 h0 (by rw [eT]; omega)
    rw [eT, ec] at hi
    have cnt : ∀ m2 : zM, zfr fW m1 m2 → zR zX12_countOf (d + 13) [zP aM, zI k] m2 E E (fun r m' => r = some (zI (tCnt (mT m) k)) ∧ m2 = m') := fun m2 f2 => by
      have e2 : mT m2 = mT m := (mT_fr f2 (by decide)).trans eT
      have hI2 := mI_fr hI1 (zfr_sub f2 (by decide))
      have := q_countOf (d + 13) hE hI2.1.1 hI2.1 (mL_kept f2 hL1) (mN_keptW f2 hN1) k h0 (by rw [e2]; omega)
      rw [e2] at this
      exact this
    refine z_iload dX12_manySuch_9 rfl ?_
    refine z_aload_n dX12_manySuch_11 rfl ?_
    refine z_gI f_diagrams rfl flX12_266 dX12_manySuch_12 (sh_M hE) rfl ?_
    refine z_icmp_ge (tgt := 66) dX12_manySuch_15 rfl (fun h => absurd h (by omega)) (fun h15 => ?_)
    refine z_iload_n dX12_manySuch_18 rfl ?_
    refine z_if_eq (tgt := 34) dX12_manySuch_19 rfl (fun h19 => ?_) (fun h19 => ?_)
    · refine z_aload_n dX12_manySuch_34 rfl ?_
      refine z_iload dX12_manySuch_35 rfl ?_
      refine z_callV mlX12_304 dX12_manySuch_37 (sh_M hE) (av := [_]) rfl rfl (Nat.le_of_ble_eq_true rfl) hi (Nat.le_refl _) (Nat.le_refl _) (Nat.le_refl _) (Nat.le_refl _) ?_
      rintro _ m2 ⟨rfl, f2⟩
      have hm2 : ptM m2 := (mI_fr hI1 (zfr_sub f2 (by decide))).1.1
      have hf2 : zfr fW m m2 := zfr_tr hf f2
      refine z_ifz_eq (tgt := 60) dX12_manySuch_40 rfl (fun h40 => ?_) (fun h40 => ?_)
      · refine z_inc dX12_manySuch_60 rfl (by omega) ?_
        refine z_goto (tgt := 9) dX12_manySuch_63 rfl ?_
        try dsimp only [zs0, zsI, zsP, zsN, zsJ, zsS, zst2, Nat.reduceAdd]
        have hg : ¬ tGd (mT m) con k = true := by simp only [tGd, decide_eq_true_eq]; rw [if_pos (by assumption)]; assumption
        rw [zsum_s, ← Int.add_assoc] at hP
        rw [if_neg hg, Int.add_zero] at hP
        exact ih (k + 1) _ m2 hm2 (by omega) (by omega) (by omega) hf2 hP
      · refine z_iload_n dX12_manySuch_43 rfl ?_
        refine z_iload_n dX12_manySuch_44 rfl ?_
        refine z_if_eq (tgt := 52) dX12_manySuch_45 rfl (fun h45 => ?_) (fun h45 => ?_)
        · refine z_aload_n dX12_manySuch_52 rfl ?_
          refine z_iload dX12_manySuch_53 rfl ?_
          refine z_callV mlX12_307 dX12_manySuch_55 (sh_M hE) (av := [_]) rfl rfl (Nat.le_of_ble_eq_true rfl) (cnt m2 f2) (Nat.le_refl _) (Nat.le_refl _) (Nat.le_refl _) (Nat.le_refl _) ?_
          rintro _ _ ⟨rfl, rfl⟩
          refine z_add dX12_manySuch_58 (by omega) ?_
          refine z_ist 3 dX12_manySuch_59 rfl (Nat.le_of_ble_eq_true rfl) ?_
          refine z_inc dX12_manySuch_60 rfl (by omega) ?_
          refine z_goto (tgt := 9) dX12_manySuch_63 rfl ?_
          try dsimp only [zs0, zsI, zsP, zsN, zsJ, zsS, zst2, Nat.reduceAdd]
          have hg : tGd (mT m) con k = true := by simp only [tGd, decide_eq_true_eq]; rw [if_pos (by assumption)]; assumption
          rw [zsum_s, ← Int.add_assoc] at hP
          rw [if_pos hg, if_pos (by assumption)] at hP
          exact ih (k + 1) _ m2 hm2 (by omega) (by omega) (by omega) hf2 hP
        · refine z_iconst dX12_manySuch_48 (by decide) ?_
          refine z_goto (tgt := 58) dX12_manySuch_49 rfl ?_
          refine z_add dX12_manySuch_58 (by omega) ?_
          refine z_ist 3 dX12_manySuch_59 rfl (Nat.le_of_ble_eq_true rfl) ?_
          refine z_inc dX12_manySuch_60 rfl (by omega) ?_
          refine z_goto (tgt := 9) dX12_manySuch_63 rfl ?_
          try dsimp only [zs0, zsI, zsP, zsN, zsJ, zsS, zst2, Nat.reduceAdd]
          have hg : tGd (mT m) con k = true := by simp only [tGd, decide_eq_true_eq]; rw [if_pos (by assumption)]; assumption
          rw [zsum_s, ← Int.add_assoc] at hP
          rw [if_pos hg, if_neg (by assumption)] at hP
          exact ih (k + 1) _ m2 hm2 (by omega) (by omega) (by omega) hf2 hP
    · refine z_aload_n dX12_manySuch_22 rfl ?_
      refine z_iload dX12_manySuch_23 rfl ?_
      refine z_callV mlX12_301 dX12_manySuch_25 (sh_M hE) (av := [_]) rfl rfl (Nat.le_of_ble_eq_true rfl) hc (Nat.le_refl _) (Nat.le_refl _) (Nat.le_refl _) (Nat.le_refl _) ?_
      rintro _ m2 ⟨rfl, f2⟩
      have hm2 : ptM m2 := (mI_fr hI1 (zfr_sub f2 (by decide))).1.1
      have hf2 : zfr fW m m2 := zfr_tr hf f2
      refine z_ifz_eq (tgt := 60) dX12_manySuch_28 rfl (fun h28 => ?_) (fun h28 => ?_)
      · refine z_inc dX12_manySuch_60 rfl (by omega) ?_
        refine z_goto (tgt := 9) dX12_manySuch_63 rfl ?_
        try dsimp only [zs0, zsI, zsP, zsN, zsJ, zsS, zst2, Nat.reduceAdd]
        have hg : ¬ tGd (mT m) con k = true := by simp only [tGd, decide_eq_true_eq]; rw [if_neg (by assumption)]; assumption
        rw [zsum_s, ← Int.add_assoc] at hP
        rw [if_neg hg, Int.add_zero] at hP
        exact ih (k + 1) _ m2 hm2 (by omega) (by omega) (by omega) hf2 hP
      · refine z_goto (tgt := 43) dX12_manySuch_31 rfl ?_
        refine z_iload_n dX12_manySuch_43 rfl ?_
        refine z_iload_n dX12_manySuch_44 rfl ?_
        refine z_if_eq (tgt := 52) dX12_manySuch_45 rfl (fun h45 => ?_) (fun h45 => ?_)
        · refine z_aload_n dX12_manySuch_52 rfl ?_
          refine z_iload dX12_manySuch_53 rfl ?_
          refine z_callV mlX12_307 dX12_manySuch_55 (sh_M hE) (av := [_]) rfl rfl (Nat.le_of_ble_eq_true rfl) (cnt m2 f2) (Nat.le_refl _) (Nat.le_refl _) (Nat.le_refl _) (Nat.le_refl _) ?_
          rintro _ _ ⟨rfl, rfl⟩
          refine z_add dX12_manySuch_58 (by omega) ?_
          refine z_ist 3 dX12_manySuch_59 rfl (Nat.le_of_ble_eq_true rfl) ?_
          refine z_inc dX12_manySuch_60 rfl (by omega) ?_
          refine z_goto (tgt := 9) dX12_manySuch_63 rfl ?_
          try dsimp only [zs0, zsI, zsP, zsN, zsJ, zsS, zst2, Nat.reduceAdd]
          have hg : tGd (mT m) con k = true := by simp only [tGd, decide_eq_true_eq]; rw [if_neg (by assumption)]; assumption
          rw [zsum_s, ← Int.add_assoc] at hP
          rw [if_pos hg, if_pos (by assumption)] at hP
          exact ih (k + 1) _ m2 hm2 (by omega) (by omega) (by omega) hf2 hP
        · refine z_iconst dX12_manySuch_48 (by decide) ?_
          refine z_goto (tgt := 58) dX12_manySuch_49 rfl ?_
          refine z_add dX12_manySuch_58 (by omega) ?_
          refine z_ist 3 dX12_manySuch_59 rfl (Nat.le_of_ble_eq_true rfl) ?_
          refine z_inc dX12_manySuch_60 rfl (by omega) ?_
          refine z_goto (tgt := 9) dX12_manySuch_63 rfl ?_
          try dsimp only [zs0, zsI, zsP, zsN, zsJ, zsS, zst2, Nat.reduceAdd]
          have hg : tGd (mT m) con k = true := by simp only [tGd, decide_eq_true_eq]; rw [if_neg (by assumption)]; assumption
          rw [zsum_s, ← Int.add_assoc] at hP
          rw [if_pos hg, if_neg (by assumption)] at hP
          exact ih (k + 1) _ m2 hm2 (by omega) (by omega) (by omega) hf2 hP

theorem q_manySuch (d : Nat) {E : zE} {m : zM} (hE : shM E) (hI : mI m) (con dg : Int)  : zR zX12_manySuch (d + 14) [zP aM, zI con, zI dg] m E E (fun r m' => r = some (zI (tMany (mT m) con dg)) ∧ mI m' ∧ zfr fX m m') := by
  have hm := hI.1.1
  obtain ⟨hw, hl, hn0⟩ := mI_wl hI
  have b1 := hw.1
  have b2 := hw.2.1
  have b3 := hw.2.2.1
  refine zR_go [zP aM, zI con, zI dg, zN, zN] (by decide +kernel) (Nat.le_of_ble_eq_true rfl) rfl rfl ?_
  refine z_aload_n dX12_manySuch_0 rfl ?_
  refine z_callV mlX12_273 dX12_manySuch_1 (sh_M hE) (av := _) rfl rfl (Nat.le_of_ble_eq_true rfl) (q_names _ hE hI) (Nat.le_refl _) (Nat.le_refl _) (Nat.le_refl _) (Nat.le_refl _) ?_
  rintro _ m1 ⟨rfl, hI1, f1, hL1, hN1⟩
  have hm1 := hI1.1.1
  have eT : mT m1 = mT m := mT_fr f1 (by decide)
  have nD := mN_D hN1
  refine z_iconst dX12_manySuch_4 (by decide) ?_
  refine z_ist 3 dX12_manySuch_5 rfl (Nat.le_of_ble_eq_true rfl) ?_
  refine z_iconst dX12_manySuch_6 (by decide) ?_
  refine z_istore dX12_manySuch_7 (Nat.le_of_ble_eq_true rfl) ?_
  try dsimp only [zs0, zsI, zsP, zsN, zsJ, zsS, zst2, Nat.reduceAdd]
  refine l_manySuch d hE hm1 con dg hI1 hL1 hN1 (tD (mT m1)).length 0 0 m1 hm1 (by omega) (by omega) (by omega) zfr_rf (fun m2 f2 => ⟨?_, mI_fr hI1 (zfr_sub f2 (by decide)), zfr_tr (zfr_sub f1 (by decide)) (zfr_sub f2 (by decide))⟩)
  rw [eT, Int.zero_add]
  rfl
