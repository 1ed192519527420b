theorem mB_bad {m : zM} {k q : Int} (h : mB m) : mB (mBad m k q) := mB_fr h (zfr_uj (zfr_uj zfr_rf (by decide)) (by decide))
/-- the field of a letter; none -/
def cFld (c : Int → Int) (v : Int) : Int := zfst (fun f => decide (c (4 + 3 * f) = v)) (c 0).toNat 0
theorem l_fieldHere (d : Nat) {E : zE} {m : zM} {P : Option zV → zM → Prop} (hE : shM E) (hm : ptM m) (hB : mB m) (hw : m aM f_wrong = 0) (p : Int) (ht : mTk m p) (h1 : kSo (mK m) p = 1) (hc : 0 ≤ m a_c 0 ∧ m a_c 0 ≤ 6) : ∀ (j : Nat) (f : Int), (0 ≤ f) → (f + j = m a_c 0) → (P (some (zI (zfst (fun f => decide (m a_c (4 + 3 * f) = kW (mK m) p)) j f))) m) → zA zX12_fieldHere (d + 1) E E P 37 [zP aM, zI f] [] m E := by
  intro j
  induction j with
  | zero =>
    intro f h0 hk hP
    refine z_iload_n dX12_fieldHere_37 rfl ?_
    refine z_aload_n dX12_fieldHere_38 rfl ?_
    refine z_gP 0 rfl (r := a_c) flX12_7 dX12_fieldHere_39 (sh_M hE) rfl (pt_c hm) (by decide) ?_
    refine z_iconst dX12_fieldHere_42 (by decide) ?_
    refine z_iald dX12_fieldHere_43 (sh_c hE) (by omega) (by omega) ?_
    refine z_icmp_ge (tgt := 74) dX12_fieldHere_44 rfl (fun h44 => ?_) (fun h => absurd (by omega) h)
    refine z_iconst dX12_fieldHere_74 (by decide) ?_
    refine z_iret dX12_fieldHere_75 rfl rfl ?_
    exact hP
  | succ j ih =>
    intro f h0 hk hP
    refine z_iload_n dX12_fieldHere_37 rfl ?_
    refine z_aload_n dX12_fieldHere_38 rfl ?_
    refine z_gP 0 rfl (r := a_c) flX12_7 dX12_fieldHere_39 (sh_M hE) rfl (pt_c hm) (by decide) ?_
    refine z_iconst dX12_fieldHere_42 (by decide) ?_
    refine z_iald dX12_fieldHere_43 (sh_c hE) (by omega) (by omega) ?_
    refine z_icmp_ge (tgt := 74) dX12_fieldHere_44 rfl (fun h => absurd h (by omega)) (fun h44 => ?_)
    refine z_aload_n dX12_fieldHere_47 rfl ?_
    refine z_gP 0 rfl (r := a_c) flX12_7 dX12_fieldHere_48 (sh_M hE) rfl (pt_c hm) (by decide) ?_
    refine z_iconst dX12_fieldHere_51 (by decide) ?_
    refine z_iconst dX12_fieldHere_52 (by decide) ?_
    refine z_iload_n dX12_fieldHere_53 rfl ?_
    refine z_mul dX12_fieldHere_54 (by omega) ?_
    refine z_add dX12_fieldHere_55 (by omega) ?_
    refine z_iald dX12_fieldHere_56 (sh_c hE) (by omega) (by omega) ?_
    refine z_i2l dX12_fieldHere_57 ?_
    refine z_aload_n dX12_fieldHere_58 rfl ?_
    refine z_gJv f_word rfl flX12_474 dX12_fieldHere_59 (sh_M hE) rfl (ht.2.2.2.2.2.1 h1) ?_
    refine z_lcmp dX12_fieldHere_62 ?_
    refine z_if_ne (tgt := 68) dX12_fieldHere_63 rfl (fun h63 => ?_) (fun h63 => ?_)
    · refine z_inc dX12_fieldHere_68 rfl (by omega) ?_
      refine z_goto (tgt := 37) dX12_fieldHere_71 rfl ?_
      try dsimp only [zs0, zsI, zsP, zsN, zsJ, zsS, zst2, Nat.reduceAdd]
      rw [zfst_f (by rw [decide_eq_false_iff_not]; exact fun h => h63 (zcmp_eq.mpr h))] at hP
      exact ih (f + 1) (by omega) (by omega) hP
    · refine z_iload_n dX12_fieldHere_66 rfl ?_
      refine z_iret dX12_fieldHere_67 rfl rfl ?_
      rw [zfst_t (by rw [decide_eq_true_eq]; exact zcmp_eq.mp (Decidable.not_not.mp h63))] at hP
      exact hP

theorem x_fieldHere (d : Nat) {E : zE} {m : zM} (hE : shM E) (hB : mB m) (hw : m aM f_wrong = 0) (p : Int) (ht : mTk m p) (hc : 0 ≤ m a_c 0 ∧ m a_c 0 ≤ 6) (h1 : kSo (mK m) p = 1) (h2 : kSz (mK m) p = 1) : zR zX12_fieldHere (d + 1) [zP aM] m E E (fun r m' => r = some (zI (cFld (m a_c) (kW (mK m) p))) ∧ m = m') := by
  have hm := hB.1
  refine zR_go [zP aM, zN] (by decide +kernel) (Nat.le_of_ble_eq_true rfl) rfl rfl ?_
  refine z_aload_n dX12_fieldHere_0 rfl ?_
  refine z_aload_n dX12_fieldHere_1 rfl ?_
  refine z_gIv f_sort rfl flX12_471 dX12_fieldHere_2 (sh_M hE) rfl ht.2.2.2.1 ?_
  refine z_iconst dX12_fieldHere_5 (by decide) ?_
  refine z_icmp_ne (tgt := 21) dX12_fieldHere_6 rfl (fun h => absurd h (by omega)) (fun h6 => ?_)
  refine z_aload_n dX12_fieldHere_9 rfl ?_
  refine z_gIv f_size rfl flX12_484 dX12_fieldHere_10 (sh_M hE) rfl ht.2.2.2.2.1 ?_
  refine z_iconst dX12_fieldHere_13 (by decide) ?_
  refine z_icmp_ne (tgt := 21) dX12_fieldHere_14 rfl (fun h => absurd h (by omega)) (fun h14 => ?_)
  refine z_iconst dX12_fieldHere_17 (by decide) ?_
  refine z_goto (tgt := 22) dX12_fieldHere_18 rfl ?_
  refine z_iconst dX12_fieldHere_22 (by decide) ?_
  refine z_callV mlX12_493 dX12_fieldHere_23 (sh_M hE) (av := [_, _]) rfl rfl (Nat.le_of_ble_eq_true rfl) (x_mustT _ hE hB 1 2 (Or.inl (by decide))) (Nat.le_refl _) (Nat.le_refl _) (Nat.le_refl _) (Nat.le_refl _) ?_
  rintro _ _ ⟨rfl, rfl⟩
  refine z_aload_n dX12_fieldHere_26 rfl ?_
  refine z_gI f_wrong rfl flX12_487 dX12_fieldHere_27 (sh_M hE) rfl ?_
  refine z_if_le (tgt := 35) dX12_fieldHere_30 rfl (fun h30 => ?_) (fun h => absurd (by omega) h)
  refine z_iconst dX12_fieldHere_35 (by decide) ?_
  refine z_ist 1 dX12_fieldHere_36 rfl (Nat.le_of_ble_eq_true rfl) ?_
  try dsimp only [zs0, zsI, zsP, zsN, zsJ, zsS, zst2, Nat.reduceAdd]
  refine l_fieldHere d hE hm hB hw p ht h1 hc (m a_c 0).toNat 0 (by omega) (by omega) ⟨rfl, rfl⟩

theorem x_fieldHereF (d : Nat) {E : zE} {m : zM} (hE : shM E) (hB : mB m) (hw : m aM f_wrong = 0) (p : Int) (ht : mTk m p) (h1 : ¬ (kSo (mK m) p = 1 ∧ kSz (mK m) p = 1)) : zR zX12_fieldHere (d + 1) [zP aM] m E E (fun r m' => r = some (zI (-1)) ∧ mBad m (kMis (mK m) p) p = m') := by
  have hm := hB.1
  refine zR_go [zP aM, zN] (by decide +kernel) (Nat.le_of_ble_eq_true rfl) rfl rfl ?_
  refine z_aload_n dX12_fieldHere_0 rfl ?_
  refine z_aload_n dX12_fieldHere_1 rfl ?_
  refine z_gIv f_sort rfl flX12_471 dX12_fieldHere_2 (sh_M hE) rfl ht.2.2.2.1 ?_
  refine z_iconst dX12_fieldHere_5 (by decide) ?_
  refine z_icmp_ne (tgt := 21) dX12_fieldHere_6 rfl (fun h6 => ?_) (fun h6 => ?_)
  · refine z_iconst dX12_fieldHere_21 (by decide) ?_
    refine z_iconst dX12_fieldHere_22 (by decide) ?_
    refine z_callV mlX12_493 dX12_fieldHere_23 (sh_M hE) (av := [_, _]) rfl rfl (Nat.le_of_ble_eq_true rfl) (x_must2 _ hE hB hw p ht) (Nat.le_refl _) (Nat.le_refl _) (Nat.le_refl _) (Nat.le_refl _) ?_
    rintro _ _ ⟨rfl, rfl⟩
    refine z_aload_n dX12_fieldHere_26 rfl ?_
    refine z_gI f_wrong rfl flX12_487 dX12_fieldHere_27 (sh_M hE) rfl ?_
    refine z_if_le (tgt := 35) dX12_fieldHere_30 rfl (fun h => absurd h (by rw [mBad_w]; have := kMis_pos (K := mK m) (p := p); omega)) (fun h30 => ?_)
    refine z_iconst dX12_fieldHere_33 (by decide) ?_
    refine z_iret dX12_fieldHere_34 rfl rfl ?_
    exact ⟨rfl, rfl⟩
  · refine z_aload_n dX12_fieldHere_9 rfl ?_
    refine z_gIv f_size rfl flX12_484 dX12_fieldHere_10 (sh_M hE) rfl ht.2.2.2.2.1 ?_
    refine z_iconst dX12_fieldHere_13 (by decide) ?_
    refine z_icmp_ne (tgt := 21) dX12_fieldHere_14 rfl (fun h14 => ?_) (fun h => absurd (by omega) h)
    refine z_iconst dX12_fieldHere_21 (by decide) ?_
    refine z_iconst dX12_fieldHere_22 (by decide) ?_
    refine z_callV mlX12_493 dX12_fieldHere_23 (sh_M hE) (av := [_, _]) rfl rfl (Nat.le_of_ble_eq_true rfl) (x_must2 _ hE hB hw p ht) (Nat.le_refl _) (Nat.le_refl _) (Nat.le_refl _) (Nat.le_refl _) ?_
    rintro _ _ ⟨rfl, rfl⟩
    refine z_aload_n dX12_fieldHere_26 rfl ?_
    refine z_gI f_wrong rfl flX12_487 dX12_fieldHere_27 (sh_M hE) rfl ?_
    refine z_if_le (tgt := 35) dX12_fieldHere_30 rfl (fun h => absurd h (by rw [mBad_w]; have := kMis_pos (K := mK m) (p := p); omega)) (fun h30 => ?_)
    refine z_iconst dX12_fieldHere_33 (by decide) ?_
    refine z_iret dX12_fieldHere_34 rfl rfl ?_
    exact ⟨rfl, rfl⟩

theorem y_fieldHere (d : Nat) {E : zE} {m : zM} (hE : shM E) (hB : mB m) (hw : 0 < m aM f_wrong) : zR zX12_fieldHere (d + 1) [zP aM] m E E (fun r m' => r = some (zI (-1)) ∧ m = m') := by
  have hm := hB.1
  refine zR_go [zP aM, zN] (by decide +kernel) (Nat.le_of_ble_eq_true rfl) rfl rfl ?_
  refine z_aload_n dX12_fieldHere_0 rfl ?_
  refine z_aload_n dX12_fieldHere_1 rfl ?_
  refine z_gI f_sort rfl flX12_471 dX12_fieldHere_2 (sh_M hE) rfl ?_
  refine z_iconst dX12_fieldHere_5 (by decide) ?_
  refine z_icmp_ne (tgt := 21) dX12_fieldHere_6 rfl (fun h6 => ?_) (fun h6 => ?_)
  · refine z_iconst dX12_fieldHere_21 (by decide) ?_
    refine z_iconst dX12_fieldHere_22 (by decide) ?_
    refine z_callV mlX12_493 dX12_fieldHere_23 (sh_M hE) (av := [_, _]) rfl rfl (Nat.le_of_ble_eq_true rfl) (x_mustT _ hE hB _ 2 (Or.inr hw)) (Nat.le_refl _) (Nat.le_refl _) (Nat.le_refl _) (Nat.le_refl _) ?_
    rintro _ _ ⟨rfl, rfl⟩
    refine z_aload_n dX12_fieldHere_26 rfl ?_
    refine z_gI f_wrong rfl flX12_487 dX12_fieldHere_27 (sh_M hE) rfl ?_
    refine z_if_le (tgt := 35) dX12_fieldHere_30 rfl (fun h => absurd h (by omega)) (fun h30 => ?_)
    refine z_iconst dX12_fieldHere_33 (by decide) ?_
    refine z_iret dX12_fieldHere_34 rfl rfl ?_
    exact ⟨rfl, rfl⟩
  · refine z_aload_n dX12_fieldHere_9 rfl ?_
    refine z_gI f_size rfl flX12_484 dX12_fieldHere_10 (sh_M hE) rfl ?_
    refine z_iconst dX12_fieldHere_13 (by decide) ?_
    refine z_icmp_ne (tgt := 21) dX12_fieldHere_14 rfl (fun h14 => ?_) (fun h14 => ?_)
    · refine z_iconst dX12_fieldHere_21 (by decide) ?_
      refine z_iconst dX12_fieldHere_22 (by decide) ?_
      refine z_callV mlX12_493 dX12_fieldHere_23 (sh_M hE) (av := [_, _]) rfl rfl (Nat.le_of_ble_eq_true rfl) (x_mustT _ hE hB _ 2 (Or.inr hw)) (Nat.le_refl _) (Nat.le_refl _) (Nat.le_refl _) (Nat.le_refl _) ?_
      rintro _ _ ⟨rfl, rfl⟩
      refine z_aload_n dX12_fieldHere_26 rfl ?_
      refine z_gI f_wrong rfl flX12_487 dX12_fieldHere_27 (sh_M hE) rfl ?_
      refine z_if_le (tgt := 35) dX12_fieldHere_30 rfl (fun h => absurd h (by omega)) (fun h30 => ?_)
      refine z_iconst dX12_fieldHere_33 (by decide) ?_
      refine z_iret dX12_fieldHere_34 rfl rfl ?_
      exact ⟨rfl, rfl⟩
    · refine z_iconst dX12_fieldHere_17 (by decide) ?_
      refine z_goto (tgt := 22) dX12_fieldHere_18 rfl ?_
      refine z_iconst dX12_fieldHere_22 (by decide) ?_
      refine z_callV mlX12_493 dX12_fieldHere_23 (sh_M hE) (av := [_, _]) rfl rfl (Nat.le_of_ble_eq_true rfl) (x_mustT _ hE hB _ 2 (Or.inr hw)) (Nat.le_refl _) (Nat.le_refl _) (Nat.le_refl _) (Nat.le_refl _) ?_
      rintro _ _ ⟨rfl, rfl⟩
      refine z_aload_n dX12_fieldHere_26 rfl ?_
      refine z_gI f_wrong rfl flX12_487 dX12_fieldHere_27 (sh_M hE) rfl ?_
      refine z_if_le (tgt := 35) dX12_fieldHere_30 rfl (fun h => absurd h (by omega)) (fun h30 => ?_)
      refine z_iconst dX12_fieldHere_33 (by decide) ?_
      refine z_iret dX12_fieldHere_34 rfl rfl ?_
      exact ⟨rfl, rfl⟩

theorem x_fieldTold (d : Nat) {E : zE} {m : zM} (hE : shM E) (hB : mB m) (hw : m aM f_wrong = 0) (p : Int) (ht : mTk m p) (hc : 0 ≤ m a_c 0 ∧ m a_c 0 ≤ 6) (h1 : kSo (mK m) p = 1) (h2 : kSz (mK m) p = 1) (h3 : 0 ≤ cFld (m a_c) (kW (mK m) p)) : zR zX12_fieldTold (d + 2) [zP aM] m E E (fun r m' => r = some (zI (cFld (m a_c) (kW (mK m) p))) ∧ m = m') := by
  have hm := hB.1
  refine zR_go [zP aM, zN] (by decide +kernel) (Nat.le_of_ble_eq_true rfl) rfl rfl ?_
  refine z_aload_n dX12_fieldTold_0 rfl ?_
  refine z_callV mlX12_500 dX12_fieldTold_1 (sh_M hE) (av := _) rfl rfl (Nat.le_of_ble_eq_true rfl) (x_fieldHere _ hE hB hw p ht hc h1 h2) (Nat.le_refl _) (Nat.le_refl _) (Nat.le_refl _) (Nat.le_refl _) ?_
  rintro _ _ ⟨rfl, rfl⟩
  refine z_ist 1 dX12_fieldTold_4 rfl (Nat.le_of_ble_eq_true rfl) ?_
  refine z_aload_n dX12_fieldTold_5 rfl ?_
  refine z_iload_n dX12_fieldTold_6 rfl ?_
  try dsimp only [zs0, zsI, zsP, zsN, zsJ, zsS, zst2, Nat.reduceAdd]
  refine z_if_lt (tgt := 14) dX12_fieldTold_7 rfl (fun h => absurd h (by omega)) (fun h7 => ?_)
  refine z_iconst dX12_fieldTold_10 (by decide) ?_
  refine z_goto (tgt := 15) dX12_fieldTold_11 rfl ?_
  refine z_iconst dX12_fieldTold_15 (by decide) ?_
  refine z_callV mlX12_493 dX12_fieldTold_16 (sh_M hE) (av := [_, _]) rfl rfl (Nat.le_of_ble_eq_true rfl) (x_mustT _ hE hB 1 3 (Or.inl (by decide))) (Nat.le_refl _) (Nat.le_refl _) (Nat.le_refl _) (Nat.le_refl _) ?_
  rintro _ _ ⟨rfl, rfl⟩
  refine z_iload_n dX12_fieldTold_19 rfl ?_
  refine z_iret dX12_fieldTold_20 rfl rfl ?_
  exact ⟨rfl, rfl⟩

theorem x_fieldToldN (d : Nat) {E : zE} {m : zM} (hE : shM E) (hB : mB m) (hw : m aM f_wrong = 0) (p : Int) (ht : mTk m p) (hc : 0 ≤ m a_c 0 ∧ m a_c 0 ≤ 6) (h1 : kSo (mK m) p = 1) (h2 : kSz (mK m) p = 1) (h3 : ¬ 0 ≤ cFld (m a_c) (kW (mK m) p)) : zR zX12_fieldTold (d + 2) [zP aM] m E E (fun r m' => r = some (zI (cFld (m a_c) (kW (mK m) p))) ∧ mBad m 3 p = m') := by
  have hm := hB.1
  refine zR_go [zP aM, zN] (by decide +kernel) (Nat.le_of_ble_eq_true rfl) rfl rfl ?_
  refine z_aload_n dX12_fieldTold_0 rfl ?_
  refine z_callV mlX12_500 dX12_fieldTold_1 (sh_M hE) (av := _) rfl rfl (Nat.le_of_ble_eq_true rfl) (x_fieldHere _ hE hB hw p ht hc h1 h2) (Nat.le_refl _) (Nat.le_refl _) (Nat.le_refl _) (Nat.le_refl _) ?_
  rintro _ _ ⟨rfl, rfl⟩
  refine z_ist 1 dX12_fieldTold_4 rfl (Nat.le_of_ble_eq_true rfl) ?_
  refine z_aload_n dX12_fieldTold_5 rfl ?_
  refine z_iload_n dX12_fieldTold_6 rfl ?_
  try dsimp only [zs0, zsI, zsP, zsN, zsJ, zsS, zst2, Nat.reduceAdd]
  refine z_if_lt (tgt := 14) dX12_fieldTold_7 rfl (fun h7 => ?_) (fun h => absurd (by omega) h)
  refine z_iconst dX12_fieldTold_14 (by decide) ?_
  refine z_iconst dX12_fieldTold_15 (by decide) ?_
  refine z_callV mlX12_493 dX12_fieldTold_16 (sh_M hE) (av := [_, _]) rfl rfl (Nat.le_of_ble_eq_true rfl) (x_mustK _ hE hB hw p ht 3 (by decide)) (Nat.le_refl _) (Nat.le_refl _) (Nat.le_refl _) (Nat.le_refl _) ?_
  rintro _ _ ⟨rfl, rfl⟩
  refine z_iload_n dX12_fieldTold_19 rfl ?_
  refine z_iret dX12_fieldTold_20 rfl rfl ?_
  exact ⟨rfl, rfl⟩

theorem x_fieldToldF (d : Nat) {E : zE} {m : zM} (hE : shM E) (hB : mB m) (hw : m aM f_wrong = 0) (p : Int) (ht : mTk m p) (h1 : ¬ (kSo (mK m) p = 1 ∧ kSz (mK m) p = 1)) : zR zX12_fieldTold (d + 2) [zP aM] m E E (fun r m' => r = some (zI (-1)) ∧ mBad m (kMis (mK m) p) p = m') := by
  have hm := hB.1
  refine zR_go [zP aM, zN] (by decide +kernel) (Nat.le_of_ble_eq_true rfl) rfl rfl ?_
  refine z_aload_n dX12_fieldTold_0 rfl ?_
  refine z_callV mlX12_500 dX12_fieldTold_1 (sh_M hE) (av := _) rfl rfl (Nat.le_of_ble_eq_true rfl) (x_fieldHereF _ hE hB hw p ht h1) (Nat.le_refl _) (Nat.le_refl _) (Nat.le_refl _) (Nat.le_refl _) ?_
  rintro _ _ ⟨rfl, rfl⟩
  have hB1 := mB_bad (k := kMis (mK m) p) (q := p) hB
  refine z_ist 1 dX12_fieldTold_4 rfl (Nat.le_of_ble_eq_true rfl) ?_
  refine z_aload_n dX12_fieldTold_5 rfl ?_
  refine z_iload_n dX12_fieldTold_6 rfl ?_
  try dsimp only [zs0, zsI, zsP, zsN, zsJ, zsS, zst2, Nat.reduceAdd]
  refine z_if_lt (tgt := 14) dX12_fieldTold_7 rfl (fun h7 => ?_) (fun h => absurd (by decide) h)
  refine z_iconst dX12_fieldTold_14 (by decide) ?_
  refine z_iconst dX12_fieldTold_15 (by decide) ?_
  refine z_callV mlX12_493 dX12_fieldTold_16 (sh_M hE) (av := [_, _]) rfl rfl (Nat.le_of_ble_eq_true rfl) (x_mustT _ hE hB1 0 3 (Or.inr (by rw [mBad_w]; exact kMis_pos))) (Nat.le_refl _) (Nat.le_refl _) (Nat.le_refl _) (Nat.le_refl _) ?_
  rintro _ _ ⟨rfl, rfl⟩
  refine z_iload_n dX12_fieldTold_19 rfl ?_
  refine z_iret dX12_fieldTold_20 rfl rfl ?_
  exact ⟨rfl, rfl⟩

theorem y_fieldTold (d : Nat) {E : zE} {m : zM} (hE : shM E) (hB : mB m) (hw : 0 < m aM f_wrong) : zR zX12_fieldTold (d + 2) [zP aM] m E E (fun r m' => r = some (zI (-1)) ∧ m = m') := by
  have hm := hB.1
  refine zR_go [zP aM, zN] (by decide +kernel) (Nat.le_of_ble_eq_true rfl) rfl rfl ?_
  refine z_aload_n dX12_fieldTold_0 rfl ?_
  refine z_callV mlX12_500 dX12_fieldTold_1 (sh_M hE) (av := _) rfl rfl (Nat.le_of_ble_eq_true rfl) (y_fieldHere _ hE hB hw) (Nat.le_refl _) (Nat.le_refl _) (Nat.le_refl _) (Nat.le_refl _) ?_
  rintro _ _ ⟨rfl, rfl⟩
  refine z_ist 1 dX12_fieldTold_4 rfl (Nat.le_of_ble_eq_true rfl) ?_
  refine z_aload_n dX12_fieldTold_5 rfl ?_
  refine z_iload_n dX12_fieldTold_6 rfl ?_
  try dsimp only [zs0, zsI, zsP, zsN, zsJ, zsS, zst2, Nat.reduceAdd]
  refine z_if_lt (tgt := 14) dX12_fieldTold_7 rfl (fun h7 => ?_) (fun h => absurd (by decide) h)
  refine z_iconst dX12_fieldTold_14 (by decide) ?_
  refine z_iconst dX12_fieldTold_15 (by decide) ?_
  refine z_callV mlX12_493 dX12_fieldTold_16 (sh_M hE) (av := [_, _]) rfl rfl (Nat.le_of_ble_eq_true rfl) (x_mustT _ hE hB 0 3 (Or.inr hw)) (Nat.le_refl _) (Nat.le_refl _) (Nat.le_refl _) (Nat.le_refl _) ?_
  rintro _ _ ⟨rfl, rfl⟩
  refine z_iload_n dX12_fieldTold_19 rfl ?_
  refine z_iret dX12_fieldTold_20 rfl rfl ?_
  exact ⟨rfl, rfl⟩

theorem l_lettersTold (d : Nat) {E : zE} {m : zM} {P : Option zV → zM → Prop} (hE : shM E) (hm : ptM m)  (hw : wfC (m a_c)) : ∀ (j : Nat) (k n : Int), (0 ≤ k) → (k + j = m a_c 2) → (0 ≤ n ∧ n ≤ 6 * k) → (P (some (zI (n + zsum (fun q => m a_c (32 + 9 * q)) j k))) m) → zA zX12_lettersTold (d + 2) E E P 4 [zP aM, zI n, zI k] [] m E := by
  intro j
  induction j with
  | zero =>
    intro k n h0 hk hn hP
    refine z_iload_n dX12_lettersTold_4 rfl ?_
    refine z_aload_n dX12_lettersTold_5 rfl ?_
    refine z_gP 0 rfl (r := a_c) flX12_7 dX12_lettersTold_6 (sh_M hE) rfl (pt_c hm) (by decide) ?_
    refine z_iconst dX12_lettersTold_9 (by decide) ?_
    refine z_iald dX12_lettersTold_10 (sh_c hE) (by have := hw.2.2.1; omega) (by have := hw.2.2.1; omega) ?_
    refine z_icmp_ge (tgt := 28) dX12_lettersTold_11 rfl (fun h11 => ?_) (fun h => absurd (by omega) h)
    refine z_iload_n dX12_lettersTold_28 rfl ?_
    refine z_iret dX12_lettersTold_29 rfl rfl ?_
    rw [zsum_0, Int.add_zero] at hP
    exact hP
  | succ j ih =>
    intro k n h0 hk hn hP
    refine z_iload_n dX12_lettersTold_4 rfl ?_
    refine z_aload_n dX12_lettersTold_5 rfl ?_
    refine z_gP 0 rfl (r := a_c) flX12_7 dX12_lettersTold_6 (sh_M hE) rfl (pt_c hm) (by decide) ?_
    refine z_iconst dX12_lettersTold_9 (by decide) ?_
    refine z_iald dX12_lettersTold_10 (sh_c hE) (by have := hw.2.2.1; omega) (by have := hw.2.2.1; omega) ?_
    refine z_icmp_ge (tgt := 28) dX12_lettersTold_11 rfl (fun h => absurd h (by omega)) (fun h11 => ?_)
    refine z_iload_n dX12_lettersTold_14 rfl ?_
    refine z_aload_n dX12_lettersTold_15 rfl ?_
    refine z_iload_n dX12_lettersTold_16 rfl ?_
    refine z_callV mlX12_127 dX12_lettersTold_17 (sh_M hE) (av := [_]) rfl rfl (Nat.le_of_ble_eq_true rfl) (r_sizeOf _ hE hm k h0 (by have := hw.2.2.1; omega)) (Nat.le_refl _) (Nat.le_refl _) (Nat.le_refl _) (Nat.le_refl _) ?_
    rintro _ _ ⟨rfl, rfl⟩
    have hsz := (hw.2.2.2.2.2 k h0 (by omega)).1
    refine z_add dX12_lettersTold_20 (by have := hw.2.2.1; omega) ?_
    refine z_ist 1 dX12_lettersTold_21 rfl (Nat.le_of_ble_eq_true rfl) ?_
    refine z_inc dX12_lettersTold_22 rfl (by have := hw.2.2.1; omega) ?_
    refine z_goto (tgt := 4) dX12_lettersTold_25 rfl ?_
    try dsimp only [zs0, zsI, zsP, zsN, zsJ, zsS, zst2, Nat.reduceAdd]
    rw [zsum_s, ← Int.add_assoc] at hP
    exact ih (k + 1) _ (by omega) (by omega) (by omega) hP

theorem x_lettersTold (d : Nat) {E : zE} {m : zM} (hE : shM E) (hB : mB m) (hw : wfC (m a_c)) : zR zX12_lettersTold (d + 2) [zP aM] m E E (fun r m' => r = some (zI (cPre (m a_c) (m a_c 2).toNat)) ∧ m = m') := by
  have hm := hB.1
  refine zR_go [zP aM, zN, zN] (by decide +kernel) (Nat.le_of_ble_eq_true rfl) rfl rfl ?_
  refine z_iconst dX12_lettersTold_0 (by decide) ?_
  refine z_ist 1 dX12_lettersTold_1 rfl (Nat.le_of_ble_eq_true rfl) ?_
  refine z_iconst dX12_lettersTold_2 (by decide) ?_
  refine z_ist 2 dX12_lettersTold_3 rfl (Nat.le_of_ble_eq_true rfl) ?_
  try dsimp only [zs0, zsI, zsP, zsN, zsJ, zsS, zst2, Nat.reduceAdd]
  refine l_lettersTold d hE hm hw (m a_c 2).toNat 0 0 (by omega) (by have := hw.2.2.1; omega) (by omega) ⟨by rw [Int.zero_add]; rfl, rfl⟩
