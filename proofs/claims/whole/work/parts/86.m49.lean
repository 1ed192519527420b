def cAddM (c : Int → Int) (f g : Int) : Int → Int := fun x => if x = 1 then c 1 + 1 else if x = 24 + 2 * c 1 + 1 then g else if x = 24 + 2 * c 1 then f else c x
theorem cAddM_u {m : zM} {c : Int → Int} {f g : Int} (h : m a_c = c) : cAddM c f g = zu (zu (zu m a_c (24 + 2 * c 1) f) a_c (24 + 2 * c 1 + 1) g) a_c 1 (c 1 + 1) a_c := by
  funext x
  unfold cAddM
  by_cases e : x = 1
  · rw [if_pos e, e, zu_s]
  · rw [if_neg e, zu_j e]
    by_cases e2 : x = 24 + 2 * c 1 + 1
    · rw [if_pos e2, e2, zu_s]
    · rw [if_neg e2, zu_j e2]
      by_cases e3 : x = 24 + 2 * c 1
      · rw [if_pos e3, e3, zu_s]
      · rw [if_neg e3, zu_j e3, h]
/-- mix: its two fields -/
def pMix (K : zK) (c : Int → Int) (p : Int) : zPr :=
  if ¬ c 1 < 4 then (6, p, c, p) else if ¬ (kSo K (kR K p) = 1 ∧ kSz K (kR K p) = 1) then (kMis K (kR K p), kR K p, c, p)
  else if ¬ 0 ≤ cFld c (kW K (kR K p)) then (3, kR K p, c, p)
  else if c (4 + 3 * cFld c (kW K (kR K p)) + 1) = 1 then (4, kR K p, c, p)
  else if ¬ (kSo K (kR K (kR K p)) = 1 ∧ kSz K (kR K (kR K p)) = 1) then (kMis K (kR K (kR K p)), kR K (kR K p), c, p)
  else if ¬ 0 ≤ cFld c (kW K (kR K (kR K p))) then (3, kR K (kR K p), c, p)
  else if ¬ (¬ c (4 + 3 * cFld c (kW K (kR K (kR K p))) + 1) = 1 ∧ cFld c (kW K (kR K p)) ≠ cFld c (kW K (kR K (kR K p))) ∧ zb (c (4 + 3 * cFld c (kW K (kR K p)) + 2) = 1) = zb (c (4 + 3 * cFld c (kW K (kR K (kR K p))) + 2) = 1) ∧ cMix c (cFld c (kW K (kR K p))) (cFld c (kW K (kR K (kR K p)))) < 0) then (4, kR K (kR K p), c, p)
  else (0, 0, cAddM c (cFld c (kW K (kR K p))) (cFld c (kW K (kR K (kR K p)))), kR K (kR K (kR K p)))
theorem x_readsMix (d : Nat) {E : zE} {m : zM} (hE : shM E) (hB : mB m) (hw : m aM f_wrong = 0) (p : Int) (ht : mTk m p) (hwf : wfC (m a_c)) (hne : kSo (mK m) p ≠ 0) : zR zX12_readsMix (d + 4) [zP aM] m E E (fun r m' => r = none ∧ mPr m m' (pMix (mK m) (m a_c) p)) := by
  have hc0 := hwf.1
  have hc1 := hwf.2.1
  have hm := hB.1
  have hB0 := hB
  have hw0 := hw
  have ht0 := ht
  have hK0 : mK m = mK m := rfl
  have hn0 : m aM f_end = m aM f_end := rfl
  have hm0 := hm
  have hok := mK_ok hB.2.1
  have z0 : zfr fTh m m := zfr_rf
  have ha_c0 : m a_c = m a_c := rfl
  refine zR_go [zP aM, zN, zN] (by decide +kernel) (Nat.le_of_ble_eq_true rfl) rfl rfl ?_
  refine z_aload_n dX12_readsMix_0 rfl ?_
  refine z_aload_n dX12_readsMix_1 rfl ?_
  refine z_gP 0 rfl (r := a_c) flX12_7 dX12_readsMix_2 (sh_M hE) rfl (pt_c hm) (by decide) ?_
  refine z_iconst dX12_readsMix_5 (by decide) ?_
  refine z_iald dX12_readsMix_6 (sh_c hE) (by omega) (by omega) ?_
  refine z_iconst dX12_readsMix_7 (by decide) ?_
  refine z_icmp_ge (tgt := 15) dX12_readsMix_8 rfl (fun h8 => ?_) (fun h8 => ?_)
  · refine z_iconst dX12_readsMix_15 (by decide) ?_
    refine z_bipush dX12_readsMix_16 rfl (by decide) ?_
    refine z_callV mlX12_493 dX12_readsMix_18 (sh_M hE) (av := [_, _]) rfl rfl (Nat.le_of_ble_eq_true rfl) (x_mustK _ hE hB0 hw0 p ht0 6 (by decide)) (Nat.le_refl _) (Nat.le_refl _) (Nat.le_refl _) (Nat.le_refl _) ?_
    rintro _ m1 ⟨rfl, b1⟩
    have hB1 : mB m1 := b1 ▸ mB_bad hB0
    have hw1 : m1 aM f_wrong = 6 := b1 ▸ mBad_w
    have ha1 : m1 aM f_wrongAt = p := b1 ▸ mBad_a
    have z1 : zfr fTh m m1 := b1 ▸ zfr_uj (zfr_uj z0 (by decide)) (by decide)
    have hd1 : 0 < m1 aM f_wrong := by rw [hw1]; first | exact kMis_pos | decide
    have hm1 : ptM m1 := hB1.1
    have ha_c1 : m1 a_c = m a_c := b1 ▸ (zu_fn (by decide)).trans (zu_fn (by decide))
    refine z_aload_n dX12_readsMix_21 rfl ?_
    refine z_gIv f_wrong rfl flX12_487 dX12_readsMix_22 (sh_M hE) rfl hw1 ?_
    refine z_if_ne (tgt := 32) dX12_readsMix_25 rfl (fun h25 => ?_) (fun h => absurd (by omega) h)
    refine z_aload_n dX12_readsMix_32 rfl ?_
    refine z_callV mlX12_510 dX12_readsMix_33 (sh_M hE) (av := _) rfl rfl (Nat.le_of_ble_eq_true rfl) (y_fieldTold _ hE hB1 hd1) (Nat.le_refl _) (Nat.le_refl _) (Nat.le_refl _) (Nat.le_refl _) ?_
    rintro _ _ ⟨rfl, rfl⟩
    refine z_ist 1 dX12_readsMix_36 rfl (Nat.le_of_ble_eq_true rfl) ?_
    refine z_aload_n dX12_readsMix_37 rfl ?_
    refine z_aload_n dX12_readsMix_38 rfl ?_
    refine z_gIv f_wrong rfl flX12_487 dX12_readsMix_39 (sh_M hE) rfl hw1 ?_
    try dsimp only [zs0, zsI, zsP, zsN, zsJ, zsS, zst2, Nat.reduceAdd]
    refine z_if_gt (tgt := 53) dX12_readsMix_42 rfl (fun h42 => ?_) (fun h => absurd (by omega) h)
    refine z_iconst dX12_readsMix_53 (by decide) ?_
    refine z_goto (tgt := 58) dX12_readsMix_54 rfl ?_
    refine z_iconst dX12_readsMix_58 (by decide) ?_
    refine z_callV mlX12_493 dX12_readsMix_59 (sh_M hE) (av := [_, _]) rfl rfl (Nat.le_of_ble_eq_true rfl) (x_mustT _ hE hB1 _ 4 (Or.inr hd1)) (Nat.le_refl _) (Nat.le_refl _) (Nat.le_refl _) (Nat.le_refl _) ?_
    rintro _ _ ⟨rfl, rfl⟩
    refine z_aload_n dX12_readsMix_62 rfl ?_
    refine z_gIv f_wrong rfl flX12_487 dX12_readsMix_63 (sh_M hE) rfl hw1 ?_
    refine z_if_ne (tgt := 73) dX12_readsMix_66 rfl (fun h66 => ?_) (fun h => absurd (by omega) h)
    refine z_aload_n dX12_readsMix_73 rfl ?_
    refine z_callV mlX12_510 dX12_readsMix_74 (sh_M hE) (av := _) rfl rfl (Nat.le_of_ble_eq_true rfl) (y_fieldTold _ hE hB1 hd1) (Nat.le_refl _) (Nat.le_refl _) (Nat.le_refl _) (Nat.le_refl _) ?_
    rintro _ _ ⟨rfl, rfl⟩
    refine z_ist 2 dX12_readsMix_77 rfl (Nat.le_of_ble_eq_true rfl) ?_
    refine z_aload_n dX12_readsMix_78 rfl ?_
    refine z_aload_n dX12_readsMix_79 rfl ?_
    refine z_gIv f_wrong rfl flX12_487 dX12_readsMix_80 (sh_M hE) rfl hw1 ?_
    try dsimp only [zs0, zsI, zsP, zsN, zsJ, zsS, zst2, Nat.reduceAdd]
    refine z_if_gt (tgt := 121) dX12_readsMix_83 rfl (fun h83 => ?_) (fun h => absurd (by omega) h)
    refine z_iconst dX12_readsMix_121 (by decide) ?_
    refine z_goto (tgt := 126) dX12_readsMix_122 rfl ?_
    refine z_iconst dX12_readsMix_126 (by decide) ?_
    refine z_callV mlX12_493 dX12_readsMix_127 (sh_M hE) (av := [_, _]) rfl rfl (Nat.le_of_ble_eq_true rfl) (x_mustT _ hE hB1 _ 4 (Or.inr hd1)) (Nat.le_refl _) (Nat.le_refl _) (Nat.le_refl _) (Nat.le_refl _) ?_
    rintro _ _ ⟨rfl, rfl⟩
    refine z_aload_n dX12_readsMix_130 rfl ?_
    refine z_gIv f_wrong rfl flX12_487 dX12_readsMix_131 (sh_M hE) rfl hw1 ?_
    refine z_if_le (tgt := 138) dX12_readsMix_134 rfl (fun h => absurd h (by omega)) (fun h134 => ?_)
    refine z_vret dX12_readsMix_137 rfl rfl ?_
    have eA : pMix (mK m) (m a_c) p = (6, p, m a_c, p) := by unfold pMix; rw [if_pos (by omega)]
    rw [eA]
    refine ⟨rfl, ?_⟩
    exact ⟨z1, hw1, fun _ => ha1, fun h => absurd (show (6 : Int) = 0 from h) (by first | exact kMis_ne | decide), fun x hx => congrFun ha_c1 x⟩
  · refine z_iconst dX12_readsMix_11 (by decide) ?_
    refine z_goto (tgt := 16) dX12_readsMix_12 rfl ?_
    refine z_bipush dX12_readsMix_16 rfl (by decide) ?_
    refine z_callV mlX12_493 dX12_readsMix_18 (sh_M hE) (av := [_, _]) rfl rfl (Nat.le_of_ble_eq_true rfl) (x_mustT _ hE hB0 1 6 (Or.inl (by decide))) (Nat.le_refl _) (Nat.le_refl _) (Nat.le_refl _) (Nat.le_refl _) ?_
    rintro _ _ ⟨rfl, rfl⟩
    refine z_aload_n dX12_readsMix_21 rfl ?_
    refine z_gIv f_wrong rfl flX12_487 dX12_readsMix_22 (sh_M hE) rfl hw0 ?_
    refine z_if_ne (tgt := 32) dX12_readsMix_25 rfl (fun h => absurd h (by omega)) (fun h25 => ?_)
    refine z_aload_n dX12_readsMix_28 rfl ?_
    refine z_callV mlX12_497 dX12_readsMix_29 (sh_M hE) (av := _) rfl rfl (Nat.le_of_ble_eq_true rfl) (x_reads _ hE hB0 hw0 p ht0 (by rw [hn0]; exact kSo_lt hok hne)) (Nat.le_refl _) (Nat.le_refl _) (Nat.le_refl _) (Nat.le_refl _) ?_
    rintro _ m1 ⟨rfl, f1, t1⟩
    have hB1 := mB_fr hB0 (zfr_sub f1 (by decide))
    have hK1 : mK m1 = mK m := (mK_fr f1 (by decide)).trans hK0
    have hw1 : m1 aM f_wrong = 0 := (zfr_at f1 (by decide)).trans hw0
    have z1 : zfr fTh m m1 := zfr_tr z0 (zfr_sub f1 (by decide))
    have hn1 : m1 aM f_end = m aM f_end := (zfr_at f1 (by decide)).trans hn0
    have hm1 : ptM m1 := hB1.1
    have ha_c1 : m1 a_c = m a_c := (zfr_cell f1 (by decide)).trans ha_c0
    rw [hK0] at t1
    obtain ⟨p1, e1⟩ : ∃ x, x = kR (mK m) p := ⟨_, rfl⟩
    rw [← e1] at t1
    have ht1 := t1
    refine z_aload_n dX12_readsMix_32 rfl ?_
    refine z_callV mlX12_510 dX12_readsMix_33 (sh_M hE) (av := _) rfl rfl (Nat.le_of_ble_eq_true rfl) (by have h := v_fieldTold (d + 1) hE hB1 hw1 p1 ht1 (by rw [ha_c1]; exact hc0); rw [hK1, ha_c1] at h; exact h) (Nat.le_refl _) (Nat.le_refl _) (Nat.le_refl _) (Nat.le_refl _) ?_
    rintro _ m2 (⟨g2, i2, rfl, rfl⟩ | ⟨g2, i2, rfl, b2⟩ | ⟨g2, rfl, b2⟩)
    · obtain ⟨j2, l2⟩ := cFld_rg hc0 i2
      refine z_ist 1 dX12_readsMix_36 rfl (Nat.le_of_ble_eq_true rfl) ?_
      refine z_aload_n dX12_readsMix_37 rfl ?_
      refine z_aload_n dX12_readsMix_38 rfl ?_
      refine z_gIv f_wrong rfl flX12_487 dX12_readsMix_39 (sh_M hE) rfl hw1 ?_
      try dsimp only [zs0, zsI, zsP, zsN, zsJ, zsS, zst2, Nat.reduceAdd]
      refine z_if_gt (tgt := 53) dX12_readsMix_42 rfl (fun h => absurd h (by omega)) (fun h42 => ?_)
      refine z_aload_n dX12_readsMix_45 rfl ?_
      refine z_iload_n dX12_readsMix_46 rfl ?_
      refine z_callV mlX12_148 dX12_readsMix_47 (sh_M hE) (av := [_]) rfl rfl (Nat.le_of_ble_eq_true rfl) (by have h := r_isPair (d + 3) hE hm1 (cFld (m a_c) (kW (mK m) p1)) (by omega) (by omega); rw [ha_c1] at h; exact h) (Nat.le_refl _) (Nat.le_refl _) (Nat.le_refl _) (Nat.le_refl _) ?_
      rintro _ _ ⟨rfl, rfl⟩
      refine z_ifz_ne (tgt := 57) dX12_readsMix_50 rfl (fun h50 => ?_) (fun h50 => ?_)
      · refine z_iconst dX12_readsMix_57 (by decide) ?_
        refine z_iconst dX12_readsMix_58 (by decide) ?_
        refine z_callV mlX12_493 dX12_readsMix_59 (sh_M hE) (av := [_, _]) rfl rfl (Nat.le_of_ble_eq_true rfl) (x_mustK _ hE hB1 hw1 p1 ht1 4 (by decide)) (Nat.le_refl _) (Nat.le_refl _) (Nat.le_refl _) (Nat.le_refl _) ?_
        rintro _ m2 ⟨rfl, b2⟩
        have hB2 : mB m2 := b2 ▸ mB_bad hB1
        have hw2 : m2 aM f_wrong = 4 := b2 ▸ mBad_w
        have ha2 : m2 aM f_wrongAt = p1 := b2 ▸ mBad_a
        have z2 : zfr fTh m m2 := b2 ▸ zfr_uj (zfr_uj z1 (by decide)) (by decide)
        have hd2 : 0 < m2 aM f_wrong := by rw [hw2]; first | exact kMis_pos | decide
        have hm2 : ptM m2 := hB2.1
        have ha_c2 : m2 a_c = m a_c := (b2 ▸ (zu_fn (by decide)).trans (zu_fn (by decide)) : m2 a_c = m1 a_c).trans ha_c1
        refine z_aload_n dX12_readsMix_62 rfl ?_
        refine z_gIv f_wrong rfl flX12_487 dX12_readsMix_63 (sh_M hE) rfl hw2 ?_
        refine z_if_ne (tgt := 73) dX12_readsMix_66 rfl (fun h66 => ?_) (fun h => absurd (by omega) h)
        refine z_aload_n dX12_readsMix_73 rfl ?_
        refine z_callV mlX12_510 dX12_readsMix_74 (sh_M hE) (av := _) rfl rfl (Nat.le_of_ble_eq_true rfl) (y_fieldTold _ hE hB2 hd2) (Nat.le_refl _) (Nat.le_refl _) (Nat.le_refl _) (Nat.le_refl _) ?_
        rintro _ _ ⟨rfl, rfl⟩
        refine z_ist 2 dX12_readsMix_77 rfl (Nat.le_of_ble_eq_true rfl) ?_
        refine z_aload_n dX12_readsMix_78 rfl ?_
        refine z_aload_n dX12_readsMix_79 rfl ?_
        refine z_gIv f_wrong rfl flX12_487 dX12_readsMix_80 (sh_M hE) rfl hw2 ?_
        try dsimp only [zs0, zsI, zsP, zsN, zsJ, zsS, zst2, Nat.reduceAdd]
        refine z_if_gt (tgt := 121) dX12_readsMix_83 rfl (fun h83 => ?_) (fun h => absurd (by omega) h)
        refine z_iconst dX12_readsMix_121 (by decide) ?_
        refine z_goto (tgt := 126) dX12_readsMix_122 rfl ?_
        refine z_iconst dX12_readsMix_126 (by decide) ?_
        refine z_callV mlX12_493 dX12_readsMix_127 (sh_M hE) (av := [_, _]) rfl rfl (Nat.le_of_ble_eq_true rfl) (x_mustT _ hE hB2 _ 4 (Or.inr hd2)) (Nat.le_refl _) (Nat.le_refl _) (Nat.le_refl _) (Nat.le_refl _) ?_
        rintro _ _ ⟨rfl, rfl⟩
        refine z_aload_n dX12_readsMix_130 rfl ?_
        refine z_gIv f_wrong rfl flX12_487 dX12_readsMix_131 (sh_M hE) rfl hw2 ?_
        refine z_if_le (tgt := 138) dX12_readsMix_134 rfl (fun h => absurd h (by omega)) (fun h134 => ?_)
        refine z_vret dX12_readsMix_137 rfl rfl ?_
        have eA : pMix (mK m) (m a_c) p = (4, p1, m a_c, p) := by unfold pMix; rw [if_neg (by omega), ← e1, if_neg (not_not_intro g2), if_neg (not_not_intro i2), if_pos h50]
        rw [eA]
        refine ⟨rfl, ?_⟩
        exact ⟨z2, hw2, fun _ => ha2, fun h => absurd (show (4 : Int) = 0 from h) (by first | exact kMis_ne | decide), fun x hx => congrFun ha_c2 x⟩
      · refine z_iconst dX12_readsMix_53 (by decide) ?_
        refine z_goto (tgt := 58) dX12_readsMix_54 rfl ?_
        refine z_iconst dX12_readsMix_58 (by decide) ?_
        refine z_callV mlX12_493 dX12_readsMix_59 (sh_M hE) (av := [_, _]) rfl rfl (Nat.le_of_ble_eq_true rfl) (x_mustT _ hE hB1 1 4 (Or.inl (by decide))) (Nat.le_refl _) (Nat.le_refl _) (Nat.le_refl _) (Nat.le_refl _) ?_
        rintro _ _ ⟨rfl, rfl⟩
        refine z_aload_n dX12_readsMix_62 rfl ?_
        refine z_gIv f_wrong rfl flX12_487 dX12_readsMix_63 (sh_M hE) rfl hw1 ?_
        refine z_if_ne (tgt := 73) dX12_readsMix_66 rfl (fun h => absurd h (by omega)) (fun h66 => ?_)
        refine z_aload_n dX12_readsMix_69 rfl ?_
        refine z_callV mlX12_497 dX12_readsMix_70 (sh_M hE) (av := _) rfl rfl (Nat.le_of_ble_eq_true rfl) (x_reads _ hE hB1 hw1 p1 ht1 (by rw [hn1]; exact kSo_lt hok (by rw [g2.1]; decide))) (Nat.le_refl _) (Nat.le_refl _) (Nat.le_refl _) (Nat.le_refl _) ?_
        rintro _ m2 ⟨rfl, f2, t2⟩
        have hB2 := mB_fr hB1 (zfr_sub f2 (by decide))
        have hK2 : mK m2 = mK m := (mK_fr f2 (by decide)).trans hK1
        have hw2 : m2 aM f_wrong = 0 := (zfr_at f2 (by decide)).trans hw1
        have z2 : zfr fTh m m2 := zfr_tr z1 (zfr_sub f2 (by decide))
        have hn2 : m2 aM f_end = m aM f_end := (zfr_at f2 (by decide)).trans hn1
        have hm2 : ptM m2 := hB2.1
        have ha_c2 : m2 a_c = m a_c := (zfr_cell f2 (by decide)).trans ha_c1
        rw [hK1] at t2
        obtain ⟨p2, e2⟩ : ∃ x, x = kR (mK m) p1 := ⟨_, rfl⟩
        rw [← e2] at t2
        have ht2 := t2
        refine z_aload_n dX12_readsMix_73 rfl ?_
        refine z_callV mlX12_510 dX12_readsMix_74 (sh_M hE) (av := _) rfl rfl (Nat.le_of_ble_eq_true rfl) (by have h := v_fieldTold (d + 1) hE hB2 hw2 p2 ht2 (by rw [ha_c2]; exact hc0); rw [hK2, ha_c2] at h; exact h) (Nat.le_refl _) (Nat.le_refl _) (Nat.le_refl _) (Nat.le_refl _) ?_
        rintro _ m3 (⟨g3, i3, rfl, rfl⟩ | ⟨g3, i3, rfl, b3⟩ | ⟨g3, rfl, b3⟩)
        · obtain ⟨j3, l3⟩ := cFld_rg hc0 i3
          refine z_ist 2 dX12_readsMix_77 rfl (Nat.le_of_ble_eq_true rfl) ?_
          refine z_aload_n dX12_readsMix_78 rfl ?_
          refine z_aload_n dX12_readsMix_79 rfl ?_
          refine z_gIv f_wrong rfl flX12_487 dX12_readsMix_80 (sh_M hE) rfl hw2 ?_
          try dsimp only [zs0, zsI, zsP, zsN, zsJ, zsS, zst2, Nat.reduceAdd]
          refine z_if_gt (tgt := 121) dX12_readsMix_83 rfl (fun h => absurd h (by omega)) (fun h83 => ?_)
          refine z_aload_n dX12_readsMix_86 rfl ?_
          refine z_iload_n dX12_readsMix_87 rfl ?_
          refine z_callV mlX12_148 dX12_readsMix_88 (sh_M hE) (av := [_]) rfl rfl (Nat.le_of_ble_eq_true rfl) (by have h := r_isPair (d + 3) hE hm2 (cFld (m a_c) (kW (mK m) p2)) (by omega) (by omega); rw [ha_c2] at h; exact h) (Nat.le_refl _) (Nat.le_refl _) (Nat.le_refl _) (Nat.le_refl _) ?_
          rintro _ _ ⟨rfl, rfl⟩
          refine z_ifz_ne (tgt := 125) dX12_readsMix_91 rfl (fun h91 => ?_) (fun h91 => ?_)
          · refine z_iconst dX12_readsMix_125 (by decide) ?_
            refine z_iconst dX12_readsMix_126 (by decide) ?_
            refine z_callV mlX12_493 dX12_readsMix_127 (sh_M hE) (av := [_, _]) rfl rfl (Nat.le_of_ble_eq_true rfl) (x_mustK _ hE hB2 hw2 p2 ht2 4 (by decide)) (Nat.le_refl _) (Nat.le_refl _) (Nat.le_refl _) (Nat.le_refl _) ?_
            rintro _ m3 ⟨rfl, b3⟩
            have hB3 : mB m3 := b3 ▸ mB_bad hB2
            have hw3 : m3 aM f_wrong = 4 := b3 ▸ mBad_w
            have ha3 : m3 aM f_wrongAt = p2 := b3 ▸ mBad_a
            have z3 : zfr fTh m m3 := b3 ▸ zfr_uj (zfr_uj z2 (by decide)) (by decide)
            have hd3 : 0 < m3 aM f_wrong := by rw [hw3]; first | exact kMis_pos | decide
            have hm3 : ptM m3 := hB3.1
            have ha_c3 : m3 a_c = m a_c := (b3 ▸ (zu_fn (by decide)).trans (zu_fn (by decide)) : m3 a_c = m2 a_c).trans ha_c2
            refine z_aload_n dX12_readsMix_130 rfl ?_
            refine z_gIv f_wrong rfl flX12_487 dX12_readsMix_131 (sh_M hE) rfl hw3 ?_
            refine z_if_le (tgt := 138) dX12_readsMix_134 rfl (fun h => absurd h (by omega)) (fun h134 => ?_)
            refine z_vret dX12_readsMix_137 rfl rfl ?_
            have eA : pMix (mK m) (m a_c) p = (4, p2, m a_c, p) := by unfold pMix; rw [if_neg (by omega), ← e1, if_neg (not_not_intro g2), if_neg (not_not_intro i2), if_neg h50, ← e2, if_neg (not_not_intro g3), if_neg (not_not_intro i3), if_pos (fun h => h.1 h91)]
            rw [eA]
            refine ⟨rfl, ?_⟩
            exact ⟨z3, hw3, fun _ => ha3, fun h => absurd (show (4 : Int) = 0 from h) (by first | exact kMis_ne | decide), fun x hx => congrFun ha_c3 x⟩
          · refine z_iload_n dX12_readsMix_94 rfl ?_
            refine z_iload_n dX12_readsMix_95 rfl ?_
            refine z_icmp_eq (tgt := 125) dX12_readsMix_96 rfl (fun h96 => ?_) (fun h96 => ?_)
            · refine z_iconst dX12_readsMix_125 (by decide) ?_
              refine z_iconst dX12_readsMix_126 (by decide) ?_
              refine z_callV mlX12_493 dX12_readsMix_127 (sh_M hE) (av := [_, _]) rfl rfl (Nat.le_of_ble_eq_true rfl) (x_mustK _ hE hB2 hw2 p2 ht2 4 (by decide)) (Nat.le_refl _) (Nat.le_refl _) (Nat.le_refl _) (Nat.le_refl _) ?_
              rintro _ m3 ⟨rfl, b3⟩
              have hB3 : mB m3 := b3 ▸ mB_bad hB2
              have hw3 : m3 aM f_wrong = 4 := b3 ▸ mBad_w
              have ha3 : m3 aM f_wrongAt = p2 := b3 ▸ mBad_a
              have z3 : zfr fTh m m3 := b3 ▸ zfr_uj (zfr_uj z2 (by decide)) (by decide)
              have hd3 : 0 < m3 aM f_wrong := by rw [hw3]; first | exact kMis_pos | decide
              have hm3 : ptM m3 := hB3.1
              have ha_c3 : m3 a_c = m a_c := (b3 ▸ (zu_fn (by decide)).trans (zu_fn (by decide)) : m3 a_c = m2 a_c).trans ha_c2
              refine z_aload_n dX12_readsMix_130 rfl ?_
              refine z_gIv f_wrong rfl flX12_487 dX12_readsMix_131 (sh_M hE) rfl hw3 ?_
              refine z_if_le (tgt := 138) dX12_readsMix_134 rfl (fun h => absurd h (by omega)) (fun h134 => ?_)
              refine z_vret dX12_readsMix_137 rfl rfl ?_
              have eA : pMix (mK m) (m a_c) p = (4, p2, m a_c, p) := by unfold pMix; rw [if_neg (by omega), ← e1, if_neg (not_not_intro g2), if_neg (not_not_intro i2), if_neg h50, ← e2, if_neg (not_not_intro g3), if_neg (not_not_intro i3), if_pos (fun h => h.2.1 h96)]
              rw [eA]
              refine ⟨rfl, ?_⟩
              exact ⟨z3, hw3, fun _ => ha3, fun h => absurd (show (4 : Int) = 0 from h) (by first | exact kMis_ne | decide), fun x hx => congrFun ha_c3 x⟩
            · refine z_aload_n dX12_readsMix_99 rfl ?_
              refine z_iload_n dX12_readsMix_100 rfl ?_
              refine z_callV mlX12_165 dX12_readsMix_101 (sh_M hE) (av := [_]) rfl rfl (Nat.le_of_ble_eq_true rfl) (by have h := r_isOdd (d + 3) hE hm2 (cFld (m a_c) (kW (mK m) p1)) (by omega) (by omega); rw [ha_c2] at h; exact h) (Nat.le_refl _) (Nat.le_refl _) (Nat.le_refl _) (Nat.le_refl _) ?_
              rintro _ _ ⟨rfl, rfl⟩
              refine z_aload_n dX12_readsMix_104 rfl ?_
              refine z_iload_n dX12_readsMix_105 rfl ?_
              refine z_callV mlX12_165 dX12_readsMix_106 (sh_M hE) (av := [_]) rfl rfl (Nat.le_of_ble_eq_true rfl) (by have h := r_isOdd (d + 3) hE hm2 (cFld (m a_c) (kW (mK m) p2)) (by omega) (by omega); rw [ha_c2] at h; exact h) (Nat.le_refl _) (Nat.le_refl _) (Nat.le_refl _) (Nat.le_refl _) ?_
              rintro _ _ ⟨rfl, rfl⟩
              refine z_icmp_ne (tgt := 125) dX12_readsMix_109 rfl (fun h109 => ?_) (fun h109 => ?_)
              · refine z_iconst dX12_readsMix_125 (by decide) ?_
                refine z_iconst dX12_readsMix_126 (by decide) ?_
                refine z_callV mlX12_493 dX12_readsMix_127 (sh_M hE) (av := [_, _]) rfl rfl (Nat.le_of_ble_eq_true rfl) (x_mustK _ hE hB2 hw2 p2 ht2 4 (by decide)) (Nat.le_refl _) (Nat.le_refl _) (Nat.le_refl _) (Nat.le_refl _) ?_
                rintro _ m3 ⟨rfl, b3⟩
                have hB3 : mB m3 := b3 ▸ mB_bad hB2
                have hw3 : m3 aM f_wrong = 4 := b3 ▸ mBad_w
                have ha3 : m3 aM f_wrongAt = p2 := b3 ▸ mBad_a
                have z3 : zfr fTh m m3 := b3 ▸ zfr_uj (zfr_uj z2 (by decide)) (by decide)
                have hd3 : 0 < m3 aM f_wrong := by rw [hw3]; first | exact kMis_pos | decide
                have hm3 : ptM m3 := hB3.1
                have ha_c3 : m3 a_c = m a_c := (b3 ▸ (zu_fn (by decide)).trans (zu_fn (by decide)) : m3 a_c = m2 a_c).trans ha_c2
                refine z_aload_n dX12_readsMix_130 rfl ?_
                refine z_gIv f_wrong rfl flX12_487 dX12_readsMix_131 (sh_M hE) rfl hw3 ?_
                refine z_if_le (tgt := 138) dX12_readsMix_134 rfl (fun h => absurd h (by omega)) (fun h134 => ?_)
                refine z_vret dX12_readsMix_137 rfl rfl ?_
                have eA : pMix (mK m) (m a_c) p = (4, p2, m a_c, p) := by unfold pMix; rw [if_neg (by omega), ← e1, if_neg (not_not_intro g2), if_neg (not_not_intro i2), if_neg h50, ← e2, if_neg (not_not_intro g3), if_neg (not_not_intro i3), if_pos (fun h => h109 h.2.2.1)]
                rw [eA]
                refine ⟨rfl, ?_⟩
                exact ⟨z3, hw3, fun _ => ha3, fun h => absurd (show (4 : Int) = 0 from h) (by first | exact kMis_ne | decide), fun x hx => congrFun ha_c3 x⟩
              · refine z_aload_n dX12_readsMix_112 rfl ?_
                refine z_iload_n dX12_readsMix_113 rfl ?_
                refine z_iload_n dX12_readsMix_114 rfl ?_
                refine z_callV mlX12_151 dX12_readsMix_115 (sh_M hE) (av := [_, _]) rfl rfl (Nat.le_of_ble_eq_true rfl) (by have h := r_mixOf (d + 3) hE hm2 (cFld (m a_c) (kW (mK m) p1)) (cFld (m a_c) (kW (mK m) p2)) (by rw [ha_c2]; exact hwf); rw [ha_c2] at h; exact h) (Nat.le_refl _) (Nat.le_refl _) (Nat.le_refl _) (Nat.le_refl _) ?_
                rintro _ _ ⟨rfl, rfl⟩
                refine z_if_ge (tgt := 125) dX12_readsMix_118 rfl (fun h118 => ?_) (fun h118 => ?_)
                · refine z_iconst dX12_readsMix_125 (by decide) ?_
                  refine z_iconst dX12_readsMix_126 (by decide) ?_
                  refine z_callV mlX12_493 dX12_readsMix_127 (sh_M hE) (av := [_, _]) rfl rfl (Nat.le_of_ble_eq_true rfl) (x_mustK _ hE hB2 hw2 p2 ht2 4 (by decide)) (Nat.le_refl _) (Nat.le_refl _) (Nat.le_refl _) (Nat.le_refl _) ?_
                  rintro _ m3 ⟨rfl, b3⟩
                  have hB3 : mB m3 := b3 ▸ mB_bad hB2
                  have hw3 : m3 aM f_wrong = 4 := b3 ▸ mBad_w
                  have ha3 : m3 aM f_wrongAt = p2 := b3 ▸ mBad_a
                  have z3 : zfr fTh m m3 := b3 ▸ zfr_uj (zfr_uj z2 (by decide)) (by decide)
                  have hd3 : 0 < m3 aM f_wrong := by rw [hw3]; first | exact kMis_pos | decide
                  have hm3 : ptM m3 := hB3.1
                  have ha_c3 : m3 a_c = m a_c := (b3 ▸ (zu_fn (by decide)).trans (zu_fn (by decide)) : m3 a_c = m2 a_c).trans ha_c2
                  refine z_aload_n dX12_readsMix_130 rfl ?_
                  refine z_gIv f_wrong rfl flX12_487 dX12_readsMix_131 (sh_M hE) rfl hw3 ?_
                  refine z_if_le (tgt := 138) dX12_readsMix_134 rfl (fun h => absurd h (by omega)) (fun h134 => ?_)
                  refine z_vret dX12_readsMix_137 rfl rfl ?_
                  have eA : pMix (mK m) (m a_c) p = (4, p2, m a_c, p) := by unfold pMix; rw [if_neg (by omega), ← e1, if_neg (not_not_intro g2), if_neg (not_not_intro i2), if_neg h50, ← e2, if_neg (not_not_intro g3), if_neg (not_not_intro i3), if_pos (fun h => absurd h.2.2.2 (by omega))]
                  rw [eA]
                  refine ⟨rfl, ?_⟩
                  exact ⟨z3, hw3, fun _ => ha3, fun h => absurd (show (4 : Int) = 0 from h) (by first | exact kMis_ne | decide), fun x hx => congrFun ha_c3 x⟩
                · refine z_iconst dX12_readsMix_121 (by decide) ?_
                  refine z_goto (tgt := 126) dX12_readsMix_122 rfl ?_
                  refine z_iconst dX12_readsMix_126 (by decide) ?_
                  refine z_callV mlX12_493 dX12_readsMix_127 (sh_M hE) (av := [_, _]) rfl rfl (Nat.le_of_ble_eq_true rfl) (x_mustT _ hE hB2 1 4 (Or.inl (by decide))) (Nat.le_refl _) (Nat.le_refl _) (Nat.le_refl _) (Nat.le_refl _) ?_
                  rintro _ _ ⟨rfl, rfl⟩
                  refine z_aload_n dX12_readsMix_130 rfl ?_
                  refine z_gIv f_wrong rfl flX12_487 dX12_readsMix_131 (sh_M hE) rfl hw2 ?_
                  refine z_if_le (tgt := 138) dX12_readsMix_134 rfl (fun h134 => ?_) (fun h => absurd (by omega) h)
                  refine z_aload_n dX12_readsMix_138 rfl ?_
                  refine z_callV mlX12_497 dX12_readsMix_139 (sh_M hE) (av := _) rfl rfl (Nat.le_of_ble_eq_true rfl) (x_reads _ hE hB2 hw2 p2 ht2 (by rw [hn2]; exact kSo_lt hok (by rw [g3.1]; decide))) (Nat.le_refl _) (Nat.le_refl _) (Nat.le_refl _) (Nat.le_refl _) ?_
                  rintro _ m3 ⟨rfl, f3, t3⟩
                  have hB3 := mB_fr hB2 (zfr_sub f3 (by decide))
                  have hK3 : mK m3 = mK m := (mK_fr f3 (by decide)).trans hK2
                  have hw3 : m3 aM f_wrong = 0 := (zfr_at f3 (by decide)).trans hw2
                  have z3 : zfr fTh m m3 := zfr_tr z2 (zfr_sub f3 (by decide))
                  have hn3 : m3 aM f_end = m aM f_end := (zfr_at f3 (by decide)).trans hn2
                  have hm3 : ptM m3 := hB3.1
                  have ha_c3 : m3 a_c = m a_c := (zfr_cell f3 (by decide)).trans ha_c2
                  rw [hK2] at t3
                  obtain ⟨p3, e3⟩ : ∃ x, x = kR (mK m) p2 := ⟨_, rfl⟩
                  rw [← e3] at t3
                  have ht3 := t3
                  refine z_aload_n dX12_readsMix_142 rfl ?_
                  refine z_gP 0 rfl (r := a_c) flX12_7 dX12_readsMix_143 (sh_M hE) rfl (pt_c hm3) (by decide) ?_
                  refine z_bipush dX12_readsMix_146 rfl (by decide) ?_
                  refine z_iconst dX12_readsMix_148 (by decide) ?_
                  refine z_aload_n dX12_readsMix_149 rfl ?_
                  refine z_gP 0 rfl (r := a_c) flX12_7 dX12_readsMix_150 (sh_M hE) rfl (pt_c hm3) (by decide) ?_
                  refine z_iconst dX12_readsMix_153 (by decide) ?_
                  refine z_ialv dX12_readsMix_154 (sh_c hE) (by omega) (by omega) (congrFun ha_c3 1) ?_
                  refine z_mul dX12_readsMix_155 (by omega) ?_
                  refine z_add dX12_readsMix_156 (by omega) ?_
                  refine z_iload_n dX12_readsMix_157 rfl ?_
                  refine z_iast dX12_readsMix_158 (sh_c hE) (by omega) (by omega) ?_
                  refine z_aload_n dX12_readsMix_159 rfl ?_
                  refine z_gP 0 rfl (r := a_c) flX12_7 dX12_readsMix_160 (sh_M hE) rfl (pt_c (ptM_a hm3 (by decide))) (by decide) ?_
                  refine z_bipush dX12_readsMix_163 rfl (by decide) ?_
                  refine z_iconst dX12_readsMix_165 (by decide) ?_
                  refine z_aload_n dX12_readsMix_166 rfl ?_
                  refine z_gP 0 rfl (r := a_c) flX12_7 dX12_readsMix_167 (sh_M hE) rfl (pt_c (ptM_a hm3 (by decide))) (by decide) ?_
                  refine z_iconst dX12_readsMix_170 (by decide) ?_
                  refine z_ialv dX12_readsMix_171 (sh_c hE) (by omega) (by omega) ((zu_j (by omega)).trans (congrFun ha_c3 1)) ?_
                  refine z_mul dX12_readsMix_172 (by omega) ?_
                  refine z_add dX12_readsMix_173 (by omega) ?_
                  refine z_iconst dX12_readsMix_174 (by decide) ?_
                  refine z_add dX12_readsMix_175 (by omega) ?_
                  refine z_iload_n dX12_readsMix_176 rfl ?_
                  refine z_iast dX12_readsMix_177 (sh_c hE) (by omega) (by omega) ?_
                  refine z_aload_n dX12_readsMix_178 rfl ?_
                  refine z_gP 0 rfl (r := a_c) flX12_7 dX12_readsMix_179 (sh_M hE) rfl (pt_c (ptM_a (ptM_a hm3 (by decide)) (by decide))) (by decide) ?_
                  refine z_iconst dX12_readsMix_182 (by decide) ?_
                  refine z_dup2 dX12_readsMix_183 rfl rfl ?_
                  refine z_ialv dX12_readsMix_184 (sh_c hE) (by omega) (by omega) ((zu_j (by omega)).trans ((zu_j (by omega)).trans (congrFun ha_c3 1))) ?_
                  refine z_iconst dX12_readsMix_185 (by decide) ?_
                  refine z_add dX12_readsMix_186 (by omega) ?_
                  refine z_iast dX12_readsMix_187 (sh_c hE) (by omega) (by omega) ?_
                  refine z_vret dX12_readsMix_188 rfl rfl ?_
                  have eA : pMix (mK m) (m a_c) p = (0, 0, cAddM (m a_c) (cFld (m a_c) (kW (mK m) p1)) (cFld (m a_c) (kW (mK m) p2)), p3) := by
                    unfold pMix
                    rw [if_neg (by omega), ← e1, if_neg (not_not_intro g2), if_neg (not_not_intro i2), if_neg h50, ← e2, if_neg (not_not_intro g3), if_neg (not_not_intro i3), if_neg (not_not_intro ⟨h91, h96, Decidable.not_not.mp h109, by omega⟩), ← e3]
                  rw [eA]
                  refine ⟨rfl, ?_⟩
                  refine ⟨zfr_ua (zfr_ua (zfr_ua z3 (by decide)) (by decide)) (by decide), (zu_a (by decide)).trans ((zu_a (by decide)).trans ((zu_a (by decide)).trans hw3)), fun h => absurd rfl h, fun _ => ⟨?_, ?_⟩, fun x hx => (zu_j (by omega)).trans ((zu_j (by omega)).trans ((zu_j (by omega)).trans (congrFun ha_c3 x)))⟩
                  · exact (cAddM_u ha_c3).symm
                  · exact mTk_c (zfr_ua (zfr_ua (zfr_ua zfr_rf (by decide)) (by decide)) (by decide)) ht3
        · have hB3 : mB m3 := b3 ▸ mB_bad hB2
          have hw3 : m3 aM f_wrong = 3 := b3 ▸ mBad_w
          have ha3 : m3 aM f_wrongAt = p2 := b3 ▸ mBad_a
          have z3 : zfr fTh m m3 := b3 ▸ zfr_uj (zfr_uj z2 (by decide)) (by decide)
          have hd3 : 0 < m3 aM f_wrong := by rw [hw3]; first | exact kMis_pos | decide
          have hm3 : ptM m3 := hB3.1
          have ha_c3 : m3 a_c = m a_c := (b3 ▸ (zu_fn (by decide)).trans (zu_fn (by decide)) : m3 a_c = m2 a_c).trans ha_c2
          refine z_ist 2 dX12_readsMix_77 rfl (Nat.le_of_ble_eq_true rfl) ?_
          refine z_aload_n dX12_readsMix_78 rfl ?_
          refine z_aload_n dX12_readsMix_79 rfl ?_
          refine z_gIv f_wrong rfl flX12_487 dX12_readsMix_80 (sh_M hE) rfl hw3 ?_
          try dsimp only [zs0, zsI, zsP, zsN, zsJ, zsS, zst2, Nat.reduceAdd]
          refine z_if_gt (tgt := 121) dX12_readsMix_83 rfl (fun h83 => ?_) (fun h => absurd (by omega) h)
          refine z_iconst dX12_readsMix_121 (by decide) ?_
          refine z_goto (tgt := 126) dX12_readsMix_122 rfl ?_
          refine z_iconst dX12_readsMix_126 (by decide) ?_
          refine z_callV mlX12_493 dX12_readsMix_127 (sh_M hE) (av := [_, _]) rfl rfl (Nat.le_of_ble_eq_true rfl) (x_mustT _ hE hB3 _ 4 (Or.inr hd3)) (Nat.le_refl _) (Nat.le_refl _) (Nat.le_refl _) (Nat.le_refl _) ?_
          rintro _ _ ⟨rfl, rfl⟩
          refine z_aload_n dX12_readsMix_130 rfl ?_
          refine z_gIv f_wrong rfl flX12_487 dX12_readsMix_131 (sh_M hE) rfl hw3 ?_
          refine z_if_le (tgt := 138) dX12_readsMix_134 rfl (fun h => absurd h (by omega)) (fun h134 => ?_)
          refine z_vret dX12_readsMix_137 rfl rfl ?_
          have eA : pMix (mK m) (m a_c) p = (3, p2, m a_c, p) := by unfold pMix; rw [if_neg (by omega), ← e1, if_neg (not_not_intro g2), if_neg (not_not_intro i2), if_neg h50, ← e2, if_neg (not_not_intro g3), if_pos i3]
          rw [eA]
          refine ⟨rfl, ?_⟩
          exact ⟨z3, hw3, fun _ => ha3, fun h => absurd (show (3 : Int) = 0 from h) (by first | exact kMis_ne | decide), fun x hx => congrFun ha_c3 x⟩
        · have hB3 : mB m3 := b3 ▸ mB_bad hB2
          have hw3 : m3 aM f_wrong = kMis (mK m) p2 := b3 ▸ mBad_w
          have ha3 : m3 aM f_wrongAt = p2 := b3 ▸ mBad_a
          have z3 : zfr fTh m m3 := b3 ▸ zfr_uj (zfr_uj z2 (by decide)) (by decide)
          have hd3 : 0 < m3 aM f_wrong := by rw [hw3]; first | exact kMis_pos | decide
          have hm3 : ptM m3 := hB3.1
          have ha_c3 : m3 a_c = m a_c := (b3 ▸ (zu_fn (by decide)).trans (zu_fn (by decide)) : m3 a_c = m2 a_c).trans ha_c2
          refine z_ist 2 dX12_readsMix_77 rfl (Nat.le_of_ble_eq_true rfl) ?_
          refine z_aload_n dX12_readsMix_78 rfl ?_
          refine z_aload_n dX12_readsMix_79 rfl ?_
          refine z_gIv f_wrong rfl flX12_487 dX12_readsMix_80 (sh_M hE) rfl hw3 ?_
          try dsimp only [zs0, zsI, zsP, zsN, zsJ, zsS, zst2, Nat.reduceAdd]
          refine z_if_gt (tgt := 121) dX12_readsMix_83 rfl (fun h83 => ?_) (fun h => absurd (by omega) h)
          refine z_iconst dX12_readsMix_121 (by decide) ?_
          refine z_goto (tgt := 126) dX12_readsMix_122 rfl ?_
          refine z_iconst dX12_readsMix_126 (by decide) ?_
          refine z_callV mlX12_493 dX12_readsMix_127 (sh_M hE) (av := [_, _]) rfl rfl (Nat.le_of_ble_eq_true rfl) (x_mustT _ hE hB3 _ 4 (Or.inr hd3)) (Nat.le_refl _) (Nat.le_refl _) (Nat.le_refl _) (Nat.le_refl _) ?_
          rintro _ _ ⟨rfl, rfl⟩
          refine z_aload_n dX12_readsMix_130 rfl ?_
          refine z_gIv f_wrong rfl flX12_487 dX12_readsMix_131 (sh_M hE) rfl hw3 ?_
          refine z_if_le (tgt := 138) dX12_readsMix_134 rfl (fun h => absurd h (by omega)) (fun h134 => ?_)
          refine z_vret dX12_readsMix_137 rfl rfl ?_
          have eA : pMix (mK m) (m a_c) p = (kMis (mK m) p2, p2, m a_c, p) := by unfold pMix; rw [if_neg (by omega), ← e1, if_neg (not_not_intro g2), if_neg (not_not_intro i2), if_neg h50, ← e2, if_pos g3]
          rw [eA]
          refine ⟨rfl, ?_⟩
          exact ⟨z3, hw3, fun _ => ha3, fun h => absurd (show (kMis (mK m) p2 : Int) = 0 from h) (by first | exact kMis_ne | decide), fun x hx => congrFun ha_c3 x⟩
    · have hB2 : mB m2 := b2 ▸ mB_bad hB1
      have hw2 : m2 aM f_wrong = 3 := b2 ▸ mBad_w
      have ha2 : m2 aM f_wrongAt = p1 := b2 ▸ mBad_a
      have z2 : zfr fTh m m2 := b2 ▸ zfr_uj (zfr_uj z1 (by decide)) (by decide)
      have hd2 : 0 < m2 aM f_wrong := by rw [hw2]; first | exact kMis_pos | decide
      have hm2 : ptM m2 := hB2.1
      have ha_c2 : m2 a_c = m a_c := (b2 ▸ (zu_fn (by decide)).trans (zu_fn (by decide)) : m2 a_c = m1 a_c).trans ha_c1
      refine z_ist 1 dX12_readsMix_36 rfl (Nat.le_of_ble_eq_true rfl) ?_
      refine z_aload_n dX12_readsMix_37 rfl ?_
      refine z_aload_n dX12_readsMix_38 rfl ?_
      refine z_gIv f_wrong rfl flX12_487 dX12_readsMix_39 (sh_M hE) rfl hw2 ?_
      try dsimp only [zs0, zsI, zsP, zsN, zsJ, zsS, zst2, Nat.reduceAdd]
      refine z_if_gt (tgt := 53) dX12_readsMix_42 rfl (fun h42 => ?_) (fun h => absurd (by omega) h)
      refine z_iconst dX12_readsMix_53 (by decide) ?_
      refine z_goto (tgt := 58) dX12_readsMix_54 rfl ?_
      refine z_iconst dX12_readsMix_58 (by decide) ?_
      refine z_callV mlX12_493 dX12_readsMix_59 (sh_M hE) (av := [_, _]) rfl rfl (Nat.le_of_ble_eq_true rfl) (x_mustT _ hE hB2 _ 4 (Or.inr hd2)) (Nat.le_refl _) (Nat.le_refl _) (Nat.le_refl _) (Nat.le_refl _) ?_
      rintro _ _ ⟨rfl, rfl⟩
      refine z_aload_n dX12_readsMix_62 rfl ?_
      refine z_gIv f_wrong rfl flX12_487 dX12_readsMix_63 (sh_M hE) rfl hw2 ?_
      refine z_if_ne (tgt := 73) dX12_readsMix_66 rfl (fun h66 => ?_) (fun h => absurd (by omega) h)
      refine z_aload_n dX12_readsMix_73 rfl ?_
      refine z_callV mlX12_510 dX12_readsMix_74 (sh_M hE) (av := _) rfl rfl (Nat.le_of_ble_eq_true rfl) (y_fieldTold _ hE hB2 hd2) (Nat.le_refl _) (Nat.le_refl _) (Nat.le_refl _) (Nat.le_refl _) ?_
      rintro _ _ ⟨rfl, rfl⟩
      refine z_ist 2 dX12_readsMix_77 rfl (Nat.le_of_ble_eq_true rfl) ?_
      refine z_aload_n dX12_readsMix_78 rfl ?_
      refine z_aload_n dX12_readsMix_79 rfl ?_
      refine z_gIv f_wrong rfl flX12_487 dX12_readsMix_80 (sh_M hE) rfl hw2 ?_
      try dsimp only [zs0, zsI, zsP, zsN, zsJ, zsS, zst2, Nat.reduceAdd]
      refine z_if_gt (tgt := 121) dX12_readsMix_83 rfl (fun h83 => ?_) (fun h => absurd (by omega) h)
      refine z_iconst dX12_readsMix_121 (by decide) ?_
      refine z_goto (tgt := 126) dX12_readsMix_122 rfl ?_
      refine z_iconst dX12_readsMix_126 (by decide) ?_
      refine z_callV mlX12_493 dX12_readsMix_127 (sh_M hE) (av := [_, _]) rfl rfl (Nat.le_of_ble_eq_true rfl) (x_mustT _ hE hB2 _ 4 (Or.inr hd2)) (Nat.le_refl _) (Nat.le_refl _) (Nat.le_refl _) (Nat.le_refl _) ?_
      rintro _ _ ⟨rfl, rfl⟩
      refine z_aload_n dX12_readsMix_130 rfl ?_
      refine z_gIv f_wrong rfl flX12_487 dX12_readsMix_131 (sh_M hE) rfl hw2 ?_
      refine z_if_le (tgt := 138) dX12_readsMix_134 rfl (fun h => absurd h (by omega)) (fun h134 => ?_)
      refine z_vret dX12_readsMix_137 rfl rfl ?_
      have eA : pMix (mK m) (m a_c) p = (3, p1, m a_c, p) := by unfold pMix; rw [if_neg (by omega), ← e1, if_neg (not_not_intro g2), if_pos i2]
      rw [eA]
      refine ⟨rfl, ?_⟩
      exact ⟨z2, hw2, fun _ => ha2, fun h => absurd (show (3 : Int) = 0 from h) (by first | exact kMis_ne | decide), fun x hx => congrFun ha_c2 x⟩
    · have hB2 : mB m2 := b2 ▸ mB_bad hB1
      have hw2 : m2 aM f_wrong = kMis (mK m) p1 := b2 ▸ mBad_w
      have ha2 : m2 aM f_wrongAt = p1 := b2 ▸ mBad_a
      have z2 : zfr fTh m m2 := b2 ▸ zfr_uj (zfr_uj z1 (by decide)) (by decide)
      have hd2 : 0 < m2 aM f_wrong := by rw [hw2]; first | exact kMis_pos | decide
      have hm2 : ptM m2 := hB2.1
      have ha_c2 : m2 a_c = m a_c := (b2 ▸ (zu_fn (by decide)).trans (zu_fn (by decide)) : m2 a_c = m1 a_c).trans ha_c1
      refine z_ist 1 dX12_readsMix_36 rfl (Nat.le_of_ble_eq_true rfl) ?_
      refine z_aload_n dX12_readsMix_37 rfl ?_
      refine z_aload_n dX12_readsMix_38 rfl ?_
      refine z_gIv f_wrong rfl flX12_487 dX12_readsMix_39 (sh_M hE) rfl hw2 ?_
      try dsimp only [zs0, zsI, zsP, zsN, zsJ, zsS, zst2, Nat.reduceAdd]
      refine z_if_gt (tgt := 53) dX12_readsMix_42 rfl (fun h42 => ?_) (fun h => absurd (by omega) h)
      refine z_iconst dX12_readsMix_53 (by decide) ?_
      refine z_goto (tgt := 58) dX12_readsMix_54 rfl ?_
      refine z_iconst dX12_readsMix_58 (by decide) ?_
      refine z_callV mlX12_493 dX12_readsMix_59 (sh_M hE) (av := [_, _]) rfl rfl (Nat.le_of_ble_eq_true rfl) (x_mustT _ hE hB2 _ 4 (Or.inr hd2)) (Nat.le_refl _) (Nat.le_refl _) (Nat.le_refl _) (Nat.le_refl _) ?_
      rintro _ _ ⟨rfl, rfl⟩
      refine z_aload_n dX12_readsMix_62 rfl ?_
      refine z_gIv f_wrong rfl flX12_487 dX12_readsMix_63 (sh_M hE) rfl hw2 ?_
      refine z_if_ne (tgt := 73) dX12_readsMix_66 rfl (fun h66 => ?_) (fun h => absurd (by omega) h)
      refine z_aload_n dX12_readsMix_73 rfl ?_
      refine z_callV mlX12_510 dX12_readsMix_74 (sh_M hE) (av := _) rfl rfl (Nat.le_of_ble_eq_true rfl) (y_fieldTold _ hE hB2 hd2) (Nat.le_refl _) (Nat.le_refl _) (Nat.le_refl _) (Nat.le_refl _) ?_
      rintro _ _ ⟨rfl, rfl⟩
      refine z_ist 2 dX12_readsMix_77 rfl (Nat.le_of_ble_eq_true rfl) ?_
      refine z_aload_n dX12_readsMix_78 rfl ?_
      refine z_aload_n dX12_readsMix_79 rfl ?_
      refine z_gIv f_wrong rfl flX12_487 dX12_readsMix_80 (sh_M hE) rfl hw2 ?_
      try dsimp only [zs0, zsI, zsP, zsN, zsJ, zsS, zst2, Nat.reduceAdd]
      refine z_if_gt (tgt := 121) dX12_readsMix_83 rfl (fun h83 => ?_) (fun h => absurd (by omega) h)
      refine z_iconst dX12_readsMix_121 (by decide) ?_
      refine z_goto (tgt := 126) dX12_readsMix_122 rfl ?_
      refine z_iconst dX12_readsMix_126 (by decide) ?_
      refine z_callV mlX12_493 dX12_readsMix_127 (sh_M hE) (av := [_, _]) rfl rfl (Nat.le_of_ble_eq_true rfl) (x_mustT _ hE hB2 _ 4 (Or.inr hd2)) (Nat.le_refl _) (Nat.le_refl _) (Nat.le_refl _) (Nat.le_refl _) ?_
      rintro _ _ ⟨rfl, rfl⟩
      refine z_aload_n dX12_readsMix_130 rfl ?_
      refine z_gIv f_wrong rfl flX12_487 dX12_readsMix_131 (sh_M hE) rfl hw2 ?_
      refine z_if_le (tgt := 138) dX12_readsMix_134 rfl (fun h => absurd h (by omega)) (fun h134 => ?_)
      refine z_vret dX12_readsMix_137 rfl rfl ?_
      have eA : pMix (mK m) (m a_c) p = (kMis (mK m) p1, p1, m a_c, p) := by unfold pMix; rw [if_neg (by omega), ← e1, if_pos g2]
      rw [eA]
      refine ⟨rfl, ?_⟩
      exact ⟨z2, hw2, fun _ => ha2, fun h => absurd (show (kMis (mK m) p1 : Int) = 0 from h) (by first | exact kMis_ne | decide), fun x hx => congrFun ha_c2 x⟩

theorem x_isVertexBehind (d : Nat) {E : zE} {m : zM} (hE : shM E) (hB : mB m) (hw : m aM f_wrong = 0) (p : Int) (ht : mTk m p) (hl : kL (mK m) p = true) : zR zX12_isVertexBehind (d + 3) [zP aM] m E E (fun r m' => r = some (zI (zb (kWd (mK m) (kR (mK m) p) 318702192))) ∧ zfr fRd m m' ∧ mTk m' p) := by
  have hne : kSo (mK m) p ≠ 0 := by rw [kSo_1.mpr hl]; decide
  have hp0 := ht.1
  have hsk : kSk (mK m) p = p := zrun_f (by have h := kL_iff.mp hl; unfold kB; rw [decide_eq_false_iff_not]; omega)
  have hm := hB.1
  have hB0 := hB
  have hw0 := hw
  have ht0 := ht
  have hK0 : mK m = mK m := rfl
  have hn0 : m aM f_end = m aM f_end := rfl
  have hpe : p < m aM f_end := kSo_lt (mK_ok hB.2.1) hne
  have hen := hB.2.1
  have hm0 := hm
  have hok := mK_ok hB.2.1
  have z0 : zfr fTh m m := zfr_rf
  have ha_c0 : m a_c = m a_c := rfl
  refine zR_go [zP aM, zN, zN] (by decide +kernel) (Nat.le_of_ble_eq_true rfl) rfl rfl ?_
  refine z_aload_n dX12_isVertexBehind_0 rfl ?_
  refine z_gIv f_place rfl flX12_462 dX12_isVertexBehind_1 (sh_M hE) rfl ht.2.1 ?_
  refine z_ist 1 dX12_isVertexBehind_4 rfl (Nat.le_of_ble_eq_true rfl) ?_
  refine z_aload_n dX12_isVertexBehind_5 rfl ?_
  try dsimp only [zs0, zsI, zsP, zsN, zsJ, zsS, zst2, Nat.reduceAdd]
  refine z_callV mlX12_497 dX12_isVertexBehind_6 (sh_M hE) (av := _) rfl rfl (Nat.le_of_ble_eq_true rfl) (x_reads _ hE hB0 hw0 p ht0 (by rw [hn0]; exact kSo_lt hok hne)) (Nat.le_refl _) (Nat.le_refl _) (Nat.le_refl _) (Nat.le_refl _) ?_
  rintro _ m1 ⟨rfl, f1, t1⟩
  have hB1 := mB_fr hB0 (zfr_sub f1 (by decide))
  have hK1 : mK m1 = mK m := (mK_fr f1 (by decide)).trans hK0
  have hw1 : m1 aM f_wrong = 0 := (zfr_at f1 (by decide)).trans hw0
  have z1 : zfr fTh m m1 := zfr_tr z0 (zfr_sub f1 (by decide))
  have hn1 : m1 aM f_end = m aM f_end := (zfr_at f1 (by decide)).trans hn0
  have hm1 : ptM m1 := hB1.1
  have ha_c1 : m1 a_c = m a_c := (zfr_cell f1 (by decide)).trans ha_c0
  rw [hK0] at t1
  obtain ⟨p1, e1p⟩ : ∃ x, x = kR (mK m) p := ⟨_, rfl⟩
  rw [← e1p] at t1
  have ht1 := t1
  refine z_aload_n dX12_isVertexBehind_9 rfl ?_
  refine z_gIv f_sort rfl flX12_471 dX12_isVertexBehind_10 (sh_M hE) rfl (show m1 aM f_sort = kSo (mK m) p1 by rw [← hK1]; exact ht1.2.2.2.1) ?_
  refine z_iconst dX12_isVertexBehind_13 (by decide) ?_
  refine z_icmp_ne (tgt := 36) dX12_isVertexBehind_14 rfl (fun h14 => ?_) (fun h14 => ?_)
  · refine z_iconst dX12_isVertexBehind_36 (by decide) ?_
    refine z_ist 2 dX12_isVertexBehind_37 rfl (Nat.le_of_ble_eq_true rfl) ?_
    refine z_aload_n dX12_isVertexBehind_38 rfl ?_
    refine z_iload_n dX12_isVertexBehind_39 rfl ?_
    refine z_pI f_next rfl (fpX12_459 _) dX12_isVertexBehind_40 (sh_M hE) rfl ?_
    generalize em2 : zu m1 aM f_next p = m2
    have g2 : zfr fRd m1 m2 := by rw [← em2]; exact zfr_uj zfr_rf (by decide)
    have hB2 := mB_fr hB1 (zfr_sub g2 (by decide))
    have hm2 : ptM m2 := hB2.1
    have hn2 : m2 aM f_next = p := by rw [← em2]; exact zu_s
    have hK2 : mK m2 = mK m := (mK_fr g2 (by decide)).trans hK1
    have f1 : zfr fRd m m2 := zfr_tr f1 g2
    refine z_aload_n dX12_isVertexBehind_43 rfl ?_
    try dsimp only [zs0, zsI, zsP, zsN, zsJ, zsS, zst2, Nat.reduceAdd]
    refine z_callV mlX12_497 dX12_isVertexBehind_44 (sh_M hE) (av := _) rfl rfl (Nat.le_of_ble_eq_true rfl) (by have h := r_reads d hE hB2.1 hB2.2.1 hB2.2.2.1 (by rw [hn2]; omega); rw [hK2, hn2, hsk] at h; exact h) (Nat.le_refl _) (Nat.le_refl _) (Nat.le_refl _) (Nat.le_refl _) ?_
    rintro _ m3 ⟨rfl, f3, t3⟩
    refine z_iload_n dX12_isVertexBehind_47 rfl ?_
    refine z_zret dX12_isVertexBehind_48 rfl (by first | omega | exact zb01 _) rfl ?_
    rw [← e1p]
    exact ⟨by rw [zb_f (fun h => h14 h.1)], zfr_tr f1 f3, t3⟩
  · refine z_aload_n dX12_isVertexBehind_17 rfl ?_
    refine z_gJv f_word rfl flX12_474 dX12_isVertexBehind_18 (sh_M hE) rfl (show m1 aM f_word = kW (mK m) p1 by rw [← hK1]; exact ht1.2.2.2.2.2.1 (by rw [hK1]; omega)) ?_
    refine z_aload_n dX12_isVertexBehind_21 rfl ?_
    refine z_gP 51 rfl (r := a_words) flX12_102 dX12_isVertexBehind_22 (sh_M hE) rfl (pt_words hm1) (by decide) ?_
    refine z_bipush dX12_isVertexBehind_25 rfl (by decide) ?_
    refine z_lalv dX12_isVertexBehind_27 (sh_words hE) (by decide) (by decide) hB1.2.2.2.2.2.2.2.2.2.2 ?_
    refine z_lcmp dX12_isVertexBehind_28 ?_
    refine z_if_ne (tgt := 36) dX12_isVertexBehind_29 rfl (fun h29 => ?_) (fun h29 => ?_)
    · refine z_iconst dX12_isVertexBehind_36 (by decide) ?_
      refine z_ist 2 dX12_isVertexBehind_37 rfl (Nat.le_of_ble_eq_true rfl) ?_
      refine z_aload_n dX12_isVertexBehind_38 rfl ?_
      refine z_iload_n dX12_isVertexBehind_39 rfl ?_
      refine z_pI f_next rfl (fpX12_459 _) dX12_isVertexBehind_40 (sh_M hE) rfl ?_
      generalize em2 : zu m1 aM f_next p = m2
      have g2 : zfr fRd m1 m2 := by rw [← em2]; exact zfr_uj zfr_rf (by decide)
      have hB2 := mB_fr hB1 (zfr_sub g2 (by decide))
      have hm2 : ptM m2 := hB2.1
      have hn2 : m2 aM f_next = p := by rw [← em2]; exact zu_s
      have hK2 : mK m2 = mK m := (mK_fr g2 (by decide)).trans hK1
      have f1 : zfr fRd m m2 := zfr_tr f1 g2
      refine z_aload_n dX12_isVertexBehind_43 rfl ?_
      try dsimp only [zs0, zsI, zsP, zsN, zsJ, zsS, zst2, Nat.reduceAdd]
      refine z_callV mlX12_497 dX12_isVertexBehind_44 (sh_M hE) (av := _) rfl rfl (Nat.le_of_ble_eq_true rfl) (by have h := r_reads d hE hB2.1 hB2.2.1 hB2.2.2.1 (by rw [hn2]; omega); rw [hK2, hn2, hsk] at h; exact h) (Nat.le_refl _) (Nat.le_refl _) (Nat.le_refl _) (Nat.le_refl _) ?_
      rintro _ m3 ⟨rfl, f3, t3⟩
      refine z_iload_n dX12_isVertexBehind_47 rfl ?_
      refine z_zret dX12_isVertexBehind_48 rfl (by first | omega | exact zb01 _) rfl ?_
      rw [← e1p]
      exact ⟨by rw [zb_f (fun h => h29 (zcmp_eq.mpr h.2))], zfr_tr f1 f3, t3⟩
    · refine z_iconst dX12_isVertexBehind_32 (by decide) ?_
      refine z_goto (tgt := 37) dX12_isVertexBehind_33 rfl ?_
      refine z_ist 2 dX12_isVertexBehind_37 rfl (Nat.le_of_ble_eq_true rfl) ?_
      refine z_aload_n dX12_isVertexBehind_38 rfl ?_
      refine z_iload_n dX12_isVertexBehind_39 rfl ?_
      refine z_pI f_next rfl (fpX12_459 _) dX12_isVertexBehind_40 (sh_M hE) rfl ?_
      generalize em2 : zu m1 aM f_next p = m2
      have g2 : zfr fRd m1 m2 := by rw [← em2]; exact zfr_uj zfr_rf (by decide)
      have hB2 := mB_fr hB1 (zfr_sub g2 (by decide))
      have hm2 : ptM m2 := hB2.1
      have hn2 : m2 aM f_next = p := by rw [← em2]; exact zu_s
      have hK2 : mK m2 = mK m := (mK_fr g2 (by decide)).trans hK1
      have f1 : zfr fRd m m2 := zfr_tr f1 g2
      refine z_aload_n dX12_isVertexBehind_43 rfl ?_
      try dsimp only [zs0, zsI, zsP, zsN, zsJ, zsS, zst2, Nat.reduceAdd]
      refine z_callV mlX12_497 dX12_isVertexBehind_44 (sh_M hE) (av := _) rfl rfl (Nat.le_of_ble_eq_true rfl) (by have h := r_reads d hE hB2.1 hB2.2.1 hB2.2.2.1 (by rw [hn2]; omega); rw [hK2, hn2, hsk] at h; exact h) (Nat.le_refl _) (Nat.le_refl _) (Nat.le_refl _) (Nat.le_refl _) ?_
      rintro _ m3 ⟨rfl, f3, t3⟩
      refine z_iload_n dX12_isVertexBehind_47 rfl ?_
      refine z_zret dX12_isVertexBehind_48 rfl (by first | omega | exact zb01 _) rfl ?_
      rw [← e1p]
      exact ⟨by rw [zb_t ⟨Decidable.not_not.mp h14, zcmp_eq.mp (Decidable.not_not.mp h29)⟩], zfr_tr f1 f3, t3⟩
