theorem zb_inj {p q : Prop} [Decidable p] [Decidable q] (h : zb p = zb q) : p ↔ q := by
  by_cases hp : p <;> by_cases hq : q <;> simp [zb, hp, hq] at h ⊢
theorem zb_cong {p q : Prop} [Decidable p] [Decidable q] (h : p ↔ q) : zb p = zb q := by
  by_cases hp : p
  · rw [zb_t hp, zb_t (h.mp hp)]
  · rw [zb_f hp, zb_f (fun z => hp (h.mpr z))]
theorem l_countOf (d : Nat) {E : zE} {m : zM} {P : Option zV → zM → Prop} (hE : shM E) (hm : ptM m) (d0 : Int) (hd : 0 ≤ m aM f_laid ∧ m aM f_laid ≤ 10395) : ∀ (j : Nat) (k n : Int), 0 ≤ k → k + j = m aM f_laid → 0 ≤ n ∧ n ≤ k → P (some (zI (n + zsum (fun k => zb (m a_diagramOf k = d0)) j k))) m → zA zX12_countOf (d) E E P 4 [zP aM, zI d0, zI n, zI k] [] m E := by
  intro j
  induction j with
  | zero =>
    intro k n h0 hk hn hP
    refine z_iload_n dX12_countOf_4 rfl ?_
    refine z_aload_n dX12_countOf_5 rfl ?_
    refine z_gI f_laid rfl flX12_172 dX12_countOf_6 (sh_M hE) rfl ?_
    refine z_icmp_ge (tgt := 36) dX12_countOf_9 rfl (fun h9 => ?_) (fun h => absurd (by omega) h)
    refine z_iload_n dX12_countOf_36 rfl ?_
    refine z_iret dX12_countOf_37 rfl rfl ?_
    rw [zsum_0, Int.add_zero] at hP
    exact hP
  | succ j ih =>
    intro k n h0 hk hn hP
    refine z_iload_n dX12_countOf_4 rfl ?_
    refine z_aload_n dX12_countOf_5 rfl ?_
    refine z_gI f_laid rfl flX12_172 dX12_countOf_6 (sh_M hE) rfl ?_
    refine z_icmp_ge (tgt := 36) dX12_countOf_9 rfl (fun h => absurd h (by omega)) (fun h9 => ?_)
    refine z_iload_n dX12_countOf_12 rfl ?_
    refine z_aload_n dX12_countOf_13 rfl ?_
    refine z_gP 11 rfl (r := a_diagramOf) flX12_38 dX12_countOf_14 (sh_M hE) rfl (pt_diagramOf hm) (by decide) ?_
    refine z_iload_n dX12_countOf_17 rfl ?_
    refine z_iald dX12_countOf_18 (sh_diagramOf hE) (by omega) (by omega) ?_
    refine z_iload_n dX12_countOf_19 rfl ?_
    refine z_icmp_ne (tgt := 27) dX12_countOf_20 rfl (fun h20 => ?_) (fun h20 => ?_)
    · refine z_iconst dX12_countOf_27 (by decide) ?_
      refine z_add dX12_countOf_28 (by omega) ?_
      refine z_ist 2 dX12_countOf_29 rfl (Nat.le_of_ble_eq_true rfl) ?_
      refine z_inc dX12_countOf_30 rfl (by omega) ?_
      refine z_goto (tgt := 4) dX12_countOf_33 rfl ?_
      try dsimp only [zs0, zsI, zsP, zsN, zsJ, zsS, zst2, Nat.reduceAdd]
      rw [zsum_s, zb_f (by omega), ← Int.add_assoc] at hP
      exact ih (k + 1) _ (by omega) (by omega) (by omega) hP
    · refine z_iconst dX12_countOf_23 (by decide) ?_
      refine z_goto (tgt := 28) dX12_countOf_24 rfl ?_
      refine z_add dX12_countOf_28 (by omega) ?_
      refine z_ist 2 dX12_countOf_29 rfl (Nat.le_of_ble_eq_true rfl) ?_
      refine z_inc dX12_countOf_30 rfl (by omega) ?_
      refine z_goto (tgt := 4) dX12_countOf_33 rfl ?_
      try dsimp only [zs0, zsI, zsP, zsN, zsJ, zsS, zst2, Nat.reduceAdd]
      rw [zsum_s, zb_t (by omega), ← Int.add_assoc] at hP
      exact ih (k + 1) _ (by omega) (by omega) (by omega) hP

theorem r_countOf (d : Nat) {E : zE} {m : zM} (hE : shM E) (hm : ptM m) (d0 : Int) (hd : 0 ≤ m aM f_laid ∧ m aM f_laid ≤ 10395) : zR zX12_countOf (d) [zP aM, zI d0] m E E (fun r m' => r = some (zI (zsum (fun k => zb (m a_diagramOf k = d0)) (m aM f_laid).toNat 0)) ∧ m = m') := by
  refine zR_go [zP aM, zI d0, zN, zN] (by decide +kernel) (Nat.le_of_ble_eq_true rfl) rfl rfl ?_
  refine z_iconst dX12_countOf_0 (by decide) ?_
  refine z_ist 2 dX12_countOf_1 rfl (Nat.le_of_ble_eq_true rfl) ?_
  refine z_iconst dX12_countOf_2 (by decide) ?_
  refine z_ist 3 dX12_countOf_3 rfl (Nat.le_of_ble_eq_true rfl) ?_
  try dsimp only [zs0, zsI, zsP, zsN, zsJ, zsS, zst2, Nat.reduceAdd]
  refine l_countOf d hE hm d0 hd (m aM f_laid).toNat 0 0 (by omega) (by omega) (by omega) ⟨by rw [Int.zero_add], rfl⟩

theorem l_signs (d : Nat) {E : zE} {m : zM} {P : Option zV → zM → Prop} (hE : shM E) (hm : ptM m)  (hd : 0 ≤ m aM f_laid ∧ m aM f_laid ≤ 10395) (hs : ∀ k, 0 ≤ k → k < m aM f_laid → m a_sign k = 1 ∨ m a_sign k = -1) : ∀ (j : Nat) (k n : Int), 0 ≤ k → k + j = m aM f_laid → -k ≤ n ∧ n ≤ k → P (some (zI (n + zsum (fun k => m a_sign k) j k))) m → zA zX12_signs (d) E E P 4 [zP aM, zI n, zI k] [] m E := by
  intro j
  induction j with
  | zero =>
    intro k n h0 hk hn hP
    refine z_iload_n dX12_signs_4 rfl ?_
    refine z_aload_n dX12_signs_5 rfl ?_
    refine z_gI f_laid rfl flX12_172 dX12_signs_6 (sh_M hE) rfl ?_
    refine z_icmp_ge (tgt := 27) dX12_signs_9 rfl (fun h9 => ?_) (fun h => absurd (by omega) h)
    refine z_iload_n dX12_signs_27 rfl ?_
    refine z_iret dX12_signs_28 rfl rfl ?_
    rw [zsum_0, Int.add_zero] at hP
    exact hP
  | succ j ih =>
    intro k n h0 hk hn hP
    refine z_iload_n dX12_signs_4 rfl ?_
    refine z_aload_n dX12_signs_5 rfl ?_
    refine z_gI f_laid rfl flX12_172 dX12_signs_6 (sh_M hE) rfl ?_
    refine z_icmp_ge (tgt := 27) dX12_signs_9 rfl (fun h => absurd h (by omega)) (fun h9 => ?_)
    refine z_iload_n dX12_signs_12 rfl ?_
    refine z_aload_n dX12_signs_13 rfl ?_
    refine z_gP 8 rfl (r := a_sign) flX12_29 dX12_signs_14 (sh_M hE) rfl (pt_sign hm) (by decide) ?_
    refine z_iload_n dX12_signs_17 rfl ?_
    refine z_iald dX12_signs_18 (sh_sign hE) (by omega) (by omega) ?_
    refine z_add dX12_signs_19 (by have := hs k h0 (by omega); omega) ?_
    refine z_ist 1 dX12_signs_20 rfl (Nat.le_of_ble_eq_true rfl) ?_
    refine z_inc dX12_signs_21 rfl (by omega) ?_
    refine z_goto (tgt := 4) dX12_signs_24 rfl ?_
    try dsimp only [zs0, zsI, zsP, zsN, zsJ, zsS, zst2, Nat.reduceAdd]
    have hv := hs k h0 (by omega)
    rw [zsum_s, ← Int.add_assoc] at hP
    exact ih (k + 1) _ (by omega) (by omega) (by omega) hP

theorem r_signs (d : Nat) {E : zE} {m : zM} (hE : shM E) (hm : ptM m)  (hd : 0 ≤ m aM f_laid ∧ m aM f_laid ≤ 10395) (hs : ∀ k, 0 ≤ k → k < m aM f_laid → m a_sign k = 1 ∨ m a_sign k = -1) : zR zX12_signs (d) [zP aM] m E E (fun r m' => r = some (zI (zsum (fun k => m a_sign k) (m aM f_laid).toNat 0)) ∧ m = m') := by
  refine zR_go [zP aM, zN, zN] (by decide +kernel) (Nat.le_of_ble_eq_true rfl) rfl rfl ?_
  refine z_iconst dX12_signs_0 (by decide) ?_
  refine z_ist 1 dX12_signs_1 rfl (Nat.le_of_ble_eq_true rfl) ?_
  refine z_iconst dX12_signs_2 (by decide) ?_
  refine z_ist 2 dX12_signs_3 rfl (Nat.le_of_ble_eq_true rfl) ?_
  try dsimp only [zs0, zsI, zsP, zsN, zsJ, zsS, zst2, Nat.reduceAdd]
  refine l_signs d hE hm hd hs (m aM f_laid).toNat 0 0 (by omega) (by omega) (by omega) ⟨by rw [Int.zero_add], rfl⟩

theorem l_uncrossed (d : Nat) {E : zE} {m : zM} {P : Option zV → zM → Prop} (hE : shM E) (hm : ptM m)  (hd : 0 ≤ m aM f_laid ∧ m aM f_laid ≤ 10395) : ∀ (j : Nat) (k n : Int), 0 ≤ k → k + j = m aM f_laid → 0 ≤ n ∧ n ≤ k → P (some (zI (n + zsum (fun k => zb (m a_crossings k = 0)) j k))) m → zA zX12_uncrossed (d) E E P 4 [zP aM, zI n, zI k] [] m E := by
  intro j
  induction j with
  | zero =>
    intro k n h0 hk hn hP
    refine z_iload_n dX12_uncrossed_4 rfl ?_
    refine z_aload_n dX12_uncrossed_5 rfl ?_
    refine z_gI f_laid rfl flX12_172 dX12_uncrossed_6 (sh_M hE) rfl ?_
    refine z_icmp_ge (tgt := 35) dX12_uncrossed_9 rfl (fun h9 => ?_) (fun h => absurd (by omega) h)
    refine z_iload_n dX12_uncrossed_35 rfl ?_
    refine z_iret dX12_uncrossed_36 rfl rfl ?_
    rw [zsum_0, Int.add_zero] at hP
    exact hP
  | succ j ih =>
    intro k n h0 hk hn hP
    refine z_iload_n dX12_uncrossed_4 rfl ?_
    refine z_aload_n dX12_uncrossed_5 rfl ?_
    refine z_gI f_laid rfl flX12_172 dX12_uncrossed_6 (sh_M hE) rfl ?_
    refine z_icmp_ge (tgt := 35) dX12_uncrossed_9 rfl (fun h => absurd h (by omega)) (fun h9 => ?_)
    refine z_iload_n dX12_uncrossed_12 rfl ?_
    refine z_aload_n dX12_uncrossed_13 rfl ?_
    refine z_gP 9 rfl (r := a_crossings) flX12_32 dX12_uncrossed_14 (sh_M hE) rfl (pt_crossings hm) (by decide) ?_
    refine z_iload_n dX12_uncrossed_17 rfl ?_
    refine z_iald dX12_uncrossed_18 (sh_crossings hE) (by omega) (by omega) ?_
    refine z_if_ne (tgt := 26) dX12_uncrossed_19 rfl (fun h19 => ?_) (fun h19 => ?_)
    · refine z_iconst dX12_uncrossed_26 (by decide) ?_
      refine z_add dX12_uncrossed_27 (by omega) ?_
      refine z_ist 1 dX12_uncrossed_28 rfl (Nat.le_of_ble_eq_true rfl) ?_
      refine z_inc dX12_uncrossed_29 rfl (by omega) ?_
      refine z_goto (tgt := 4) dX12_uncrossed_32 rfl ?_
      try dsimp only [zs0, zsI, zsP, zsN, zsJ, zsS, zst2, Nat.reduceAdd]
      rw [zsum_s, zb_f (by omega), ← Int.add_assoc] at hP
      exact ih (k + 1) _ (by omega) (by omega) (by omega) hP
    · refine z_iconst dX12_uncrossed_22 (by decide) ?_
      refine z_goto (tgt := 27) dX12_uncrossed_23 rfl ?_
      refine z_add dX12_uncrossed_27 (by omega) ?_
      refine z_ist 1 dX12_uncrossed_28 rfl (Nat.le_of_ble_eq_true rfl) ?_
      refine z_inc dX12_uncrossed_29 rfl (by omega) ?_
      refine z_goto (tgt := 4) dX12_uncrossed_32 rfl ?_
      try dsimp only [zs0, zsI, zsP, zsN, zsJ, zsS, zst2, Nat.reduceAdd]
      rw [zsum_s, zb_t (by omega), ← Int.add_assoc] at hP
      exact ih (k + 1) _ (by omega) (by omega) (by omega) hP

theorem r_uncrossed (d : Nat) {E : zE} {m : zM} (hE : shM E) (hm : ptM m)  (hd : 0 ≤ m aM f_laid ∧ m aM f_laid ≤ 10395) : zR zX12_uncrossed (d) [zP aM] m E E (fun r m' => r = some (zI (zsum (fun k => zb (m a_crossings k = 0)) (m aM f_laid).toNat 0)) ∧ m = m') := by
  refine zR_go [zP aM, zN, zN] (by decide +kernel) (Nat.le_of_ble_eq_true rfl) rfl rfl ?_
  refine z_iconst dX12_uncrossed_0 (by decide) ?_
  refine z_ist 1 dX12_uncrossed_1 rfl (Nat.le_of_ble_eq_true rfl) ?_
  refine z_iconst dX12_uncrossed_2 (by decide) ?_
  refine z_ist 2 dX12_uncrossed_3 rfl (Nat.le_of_ble_eq_true rfl) ?_
  try dsimp only [zs0, zsI, zsP, zsN, zsJ, zsS, zst2, Nat.reduceAdd]
  refine l_uncrossed d hE hm hd (m aM f_laid).toNat 0 0 (by omega) (by omega) (by omega) ⟨by rw [Int.zero_add], rfl⟩

theorem l_firstOf (d : Nat) {E : zE} {m : zM} {P : Option zV → zM → Prop} (hE : shM E) (hm : ptM m) (p : Int) (hw : wfC (m a_c)) (hp : p ≤ m a_c 2) : ∀ (j : Nat) (k n : Int), 0 ≤ k → k + j = p → 0 ≤ n ∧ n ≤ 6 * k → P (some (zI (n + zsum (fun q => m a_c (32 + 9 * q)) j k))) m → zA zX12_firstOf (d + 2) E E P 4 [zP aM, zI p, zI n, zI k] [] m E := by
  intro j
  induction j with
  | zero =>
    intro k n h0 hk hn hP
    refine z_iload_n dX12_firstOf_4 rfl ?_
    refine z_iload_n dX12_firstOf_5 rfl ?_
    refine z_icmp_ge (tgt := 23) dX12_firstOf_6 rfl (fun h6 => ?_) (fun h => absurd (by omega) h)
    refine z_iload_n dX12_firstOf_23 rfl ?_
    refine z_iret dX12_firstOf_24 rfl rfl ?_
    rw [zsum_0, Int.add_zero] at hP
    exact hP
  | succ j ih =>
    intro k n h0 hk hn hP
    refine z_iload_n dX12_firstOf_4 rfl ?_
    refine z_iload_n dX12_firstOf_5 rfl ?_
    refine z_icmp_ge (tgt := 23) dX12_firstOf_6 rfl (fun h => absurd h (by omega)) (fun h6 => ?_)
    refine z_iload_n dX12_firstOf_9 rfl ?_
    refine z_aload_n dX12_firstOf_10 rfl ?_
    refine z_iload_n dX12_firstOf_11 rfl ?_
    refine z_callV mlX12_127 dX12_firstOf_12 (sh_M hE) (av := [_]) rfl rfl (Nat.le_of_ble_eq_true rfl) (r_sizeOf _ hE hm k h0 (by have := hw.2.2.1; omega)) (Nat.le_refl _) (Nat.le_refl _) (Nat.le_refl _) (Nat.le_refl _) ?_
    rintro _ _ ⟨rfl, rfl⟩
    have hv := (hw.2.2.2.2.2 k h0 (by omega)).1
    have hb := hw.2.2.1
    refine z_add dX12_firstOf_15 (by omega) ?_
    refine z_ist 2 dX12_firstOf_16 rfl (Nat.le_of_ble_eq_true rfl) ?_
    refine z_inc dX12_firstOf_17 rfl (by omega) ?_
    refine z_goto (tgt := 4) dX12_firstOf_20 rfl ?_
    try dsimp only [zs0, zsI, zsP, zsN, zsJ, zsS, zst2, Nat.reduceAdd]
    rw [zsum_s, ← Int.add_assoc] at hP
    exact ih (k + 1) _ (by omega) (by omega) (by omega) hP

theorem r_firstOf (d : Nat) {E : zE} {m : zM} (hE : shM E) (hm : ptM m) (p : Int) (hw : wfC (m a_c)) (h0 : 0 ≤ p) (hp : p ≤ m a_c 2) : zR zX12_firstOf (d + 2) [zP aM, zI p] m E E (fun r m' => r = some (zI (zsum (fun q => m a_c (32 + 9 * q)) p.toNat 0)) ∧ m = m') := by
  refine zR_go [zP aM, zI p, zN, zN] (by decide +kernel) (Nat.le_of_ble_eq_true rfl) rfl rfl ?_
  refine z_iconst dX12_firstOf_0 (by decide) ?_
  refine z_ist 2 dX12_firstOf_1 rfl (Nat.le_of_ble_eq_true rfl) ?_
  refine z_iconst dX12_firstOf_2 (by decide) ?_
  refine z_ist 3 dX12_firstOf_3 rfl (Nat.le_of_ble_eq_true rfl) ?_
  try dsimp only [zs0, zsI, zsP, zsN, zsJ, zsS, zst2, Nat.reduceAdd]
  refine l_firstOf d hE hm p hw hp p.toNat 0 0 (by omega) (by omega) (by omega) ⟨by rw [Int.zero_add], rfl⟩

theorem l_areAlike (d : Nat) {E : zE} {m : zM} {P : Option zV → zM → Prop} (hE : shM E) (hm : ptM m) (p q : Int) (hp0 : 0 ≤ p) (hp : p < m a_c 2) (hq0 : 0 ≤ q) (hq : q < m a_c 2) (hw : wfC (m a_c)) (hsz : m a_c (32 + 9 * p) = m a_c (32 + 9 * q)) : ∀ (j : Nat) (k : Int), 0 ≤ k → k + j = m a_c (32 + 9 * p) → P (some (zI (zb (zfst (fun k => decide (m a_c (32 + 9 * p + 3 + k) ≠ m a_c (32 + 9 * q + 3 + k))) j k = -1)))) m → zA zX12_areAlike (d + 2) E E P 46 [zP aM, zI p, zI q, zI k] [] m E := by
  intro j
  induction j with
  | zero =>
    intro k h0 hk hP
    refine z_iload_n dX12_areAlike_46 rfl ?_
    refine z_aload_n dX12_areAlike_47 rfl ?_
    refine z_iload_n dX12_areAlike_48 rfl ?_
    refine z_callV mlX12_127 dX12_areAlike_49 (sh_M hE) (av := [_]) rfl rfl (Nat.le_of_ble_eq_true rfl) (r_sizeOf _ hE hm p hp0 (by have := hw.2.2.1; have := (hw.2.2.2.2.2 p hp0 hp).1; omega)) (Nat.le_refl _) (Nat.le_refl _) (Nat.le_refl _) (Nat.le_refl _) ?_
    rintro _ _ ⟨rfl, rfl⟩
    refine z_icmp_ge (tgt := 94) dX12_areAlike_52 rfl (fun h52 => ?_) (fun h => absurd (by omega) h)
    refine z_iconst dX12_areAlike_94 (by decide) ?_
    refine z_zret dX12_areAlike_95 rfl (by first | omega | exact zb01 _) rfl ?_
    rw [zb_t (by rfl)] at hP
    exact hP
  | succ j ih =>
    intro k h0 hk hP
    refine z_iload_n dX12_areAlike_46 rfl ?_
    refine z_aload_n dX12_areAlike_47 rfl ?_
    refine z_iload_n dX12_areAlike_48 rfl ?_
    refine z_callV mlX12_127 dX12_areAlike_49 (sh_M hE) (av := [_]) rfl rfl (Nat.le_of_ble_eq_true rfl) (r_sizeOf _ hE hm p hp0 (by have := hw.2.2.1; have := (hw.2.2.2.2.2 p hp0 hp).1; omega)) (Nat.le_refl _) (Nat.le_refl _) (Nat.le_refl _) (Nat.le_refl _) ?_
    rintro _ _ ⟨rfl, rfl⟩
    refine z_icmp_ge (tgt := 94) dX12_areAlike_52 rfl (fun h => absurd h (by omega)) (fun h52 => ?_)
    refine z_aload_n dX12_areAlike_55 rfl ?_
    refine z_gP 0 rfl (r := a_c) flX12_7 dX12_areAlike_56 (sh_M hE) rfl (pt_c hm) (by decide) ?_
    refine z_aload_n dX12_areAlike_59 rfl ?_
    refine z_iload_n dX12_areAlike_60 rfl ?_
    refine z_callV mlX12_120 dX12_areAlike_61 (sh_M hE) (av := [_]) rfl rfl (Nat.le_of_ble_eq_true rfl) (r_at _ hE hm p hp0 (by have := hw.2.2.1; have := (hw.2.2.2.2.2 p hp0 hp).1; omega)) (Nat.le_refl _) (Nat.le_refl _) (Nat.le_refl _) (Nat.le_refl _) ?_
    rintro _ _ ⟨rfl, rfl⟩
    refine z_iconst dX12_areAlike_64 (by decide) ?_
    refine z_add dX12_areAlike_65 (by have := hw.2.2.1; have := (hw.2.2.2.2.2 p hp0 hp).1; omega) ?_
    refine z_iload_n dX12_areAlike_66 rfl ?_
    refine z_add dX12_areAlike_67 (by have := hw.2.2.1; have := (hw.2.2.2.2.2 p hp0 hp).1; omega) ?_
    refine z_iald dX12_areAlike_68 (sh_c hE) (by have := hw.2.2.1; have := (hw.2.2.2.2.2 p hp0 hp).1; omega) (by have := hw.2.2.1; have := (hw.2.2.2.2.2 p hp0 hp).1; omega) ?_
    refine z_aload_n dX12_areAlike_69 rfl ?_
    refine z_gP 0 rfl (r := a_c) flX12_7 dX12_areAlike_70 (sh_M hE) rfl (pt_c hm) (by decide) ?_
    refine z_aload_n dX12_areAlike_73 rfl ?_
    refine z_iload_n dX12_areAlike_74 rfl ?_
    refine z_callV mlX12_120 dX12_areAlike_75 (sh_M hE) (av := [_]) rfl rfl (Nat.le_of_ble_eq_true rfl) (r_at _ hE hm q hq0 (by have := hw.2.2.1; have := (hw.2.2.2.2.2 p hp0 hp).1; omega)) (Nat.le_refl _) (Nat.le_refl _) (Nat.le_refl _) (Nat.le_refl _) ?_
    rintro _ _ ⟨rfl, rfl⟩
    refine z_iconst dX12_areAlike_78 (by decide) ?_
    refine z_add dX12_areAlike_79 (by have := hw.2.2.1; have := (hw.2.2.2.2.2 p hp0 hp).1; omega) ?_
    refine z_iload_n dX12_areAlike_80 rfl ?_
    refine z_add dX12_areAlike_81 (by have := hw.2.2.1; have := (hw.2.2.2.2.2 p hp0 hp).1; omega) ?_
    refine z_iald dX12_areAlike_82 (sh_c hE) (by have := hw.2.2.1; have := (hw.2.2.2.2.2 p hp0 hp).1; omega) (by have := hw.2.2.1; have := (hw.2.2.2.2.2 p hp0 hp).1; omega) ?_
    refine z_icmp_eq (tgt := 88) dX12_areAlike_83 rfl (fun h83 => ?_) (fun h83 => ?_)
    · refine z_inc dX12_areAlike_88 rfl (by have := hw.2.2.1; have := (hw.2.2.2.2.2 p hp0 hp).1; omega) ?_
      refine z_goto (tgt := 46) dX12_areAlike_91 rfl ?_
      try dsimp only [zs0, zsI, zsP, zsN, zsJ, zsS, zst2, Nat.reduceAdd]
      rw [zfst_f (by simp only [decide_eq_false_iff_not]; omega)] at hP
      exact ih (k + 1) (by omega) (by omega) hP
    · refine z_iconst dX12_areAlike_86 (by decide) ?_
      refine z_zret dX12_areAlike_87 rfl (by first | omega | exact zb01 _) rfl ?_
      rw [zb_f (by rw [zfst_t (by simp only [decide_eq_true_eq]; omega)]; omega)] at hP
      exact hP

theorem r_areAlike (d : Nat) {E : zE} {m : zM} (hE : shM E) (hm : ptM m) (p q : Int) (hp0 : 0 ≤ p) (hp : p < m a_c 2) (hq0 : 0 ≤ q) (hq : q < m a_c 2) (hw : wfC (m a_c)) : zR zX12_areAlike (d + 2) [zP aM, zI p, zI q] m E E (fun r m' => r = some (zI (zb (cAlike (m a_c) p q = true))) ∧ m = m') := by
  refine zR_go [zP aM, zI p, zI q, zN] (by decide +kernel) (Nat.le_of_ble_eq_true rfl) rfl rfl ?_
  refine z_aload_n dX12_areAlike_0 rfl ?_
  refine z_iload_n dX12_areAlike_1 rfl ?_
  refine z_callV mlX12_217 dX12_areAlike_2 (sh_M hE) (av := [_]) rfl rfl (Nat.le_of_ble_eq_true rfl) (r_isVertex _ hE hm p hp0 (by have := hw.2.2.1; have := (hw.2.2.2.2.2 p hp0 hp).1; omega)) (Nat.le_refl _) (Nat.le_refl _) (Nat.le_refl _) (Nat.le_refl _) ?_
  rintro _ _ ⟨rfl, rfl⟩
  refine z_ifz_eq (tgt := 42) dX12_areAlike_5 rfl (fun h5 => ?_) (fun h5 => ?_)
  · refine z_iconst dX12_areAlike_42 (by decide) ?_
    refine z_zret dX12_areAlike_43 rfl (by first | omega | exact zb01 _) rfl ?_
    exact ⟨by rw [zb_f (by simp only [cAlike, Bool.and_eq_true, decide_eq_true_eq]; rintro ⟨⟨x1, x2, x3, x4⟩, x5⟩; first | exact h5 x1 | exact h13 x2 | exact h26 x3 | exact h39 (zb_cong x4))], rfl⟩
  · refine z_aload_n dX12_areAlike_8 rfl ?_
    refine z_iload_n dX12_areAlike_9 rfl ?_
    refine z_callV mlX12_217 dX12_areAlike_10 (sh_M hE) (av := [_]) rfl rfl (Nat.le_of_ble_eq_true rfl) (r_isVertex _ hE hm q hq0 (by have := hw.2.2.1; have := (hw.2.2.2.2.2 p hp0 hp).1; omega)) (Nat.le_refl _) (Nat.le_refl _) (Nat.le_refl _) (Nat.le_refl _) ?_
    rintro _ _ ⟨rfl, rfl⟩
    refine z_ifz_eq (tgt := 42) dX12_areAlike_13 rfl (fun h13 => ?_) (fun h13 => ?_)
    · refine z_iconst dX12_areAlike_42 (by decide) ?_
      refine z_zret dX12_areAlike_43 rfl (by first | omega | exact zb01 _) rfl ?_
      exact ⟨by rw [zb_f (by simp only [cAlike, Bool.and_eq_true, decide_eq_true_eq]; rintro ⟨⟨x1, x2, x3, x4⟩, x5⟩; first | exact h5 x1 | exact h13 x2 | exact h26 x3 | exact h39 (zb_cong x4))], rfl⟩
    · refine z_aload_n dX12_areAlike_16 rfl ?_
      refine z_iload_n dX12_areAlike_17 rfl ?_
      refine z_callV mlX12_127 dX12_areAlike_18 (sh_M hE) (av := [_]) rfl rfl (Nat.le_of_ble_eq_true rfl) (r_sizeOf _ hE hm p hp0 (by have := hw.2.2.1; have := (hw.2.2.2.2.2 p hp0 hp).1; omega)) (Nat.le_refl _) (Nat.le_refl _) (Nat.le_refl _) (Nat.le_refl _) ?_
      rintro _ _ ⟨rfl, rfl⟩
      refine z_aload_n dX12_areAlike_21 rfl ?_
      refine z_iload_n dX12_areAlike_22 rfl ?_
      refine z_callV mlX12_127 dX12_areAlike_23 (sh_M hE) (av := [_]) rfl rfl (Nat.le_of_ble_eq_true rfl) (r_sizeOf _ hE hm q hq0 (by have := hw.2.2.1; have := (hw.2.2.2.2.2 p hp0 hp).1; omega)) (Nat.le_refl _) (Nat.le_refl _) (Nat.le_refl _) (Nat.le_refl _) ?_
      rintro _ _ ⟨rfl, rfl⟩
      refine z_icmp_ne (tgt := 42) dX12_areAlike_26 rfl (fun h26 => ?_) (fun h26 => ?_)
      · refine z_iconst dX12_areAlike_42 (by decide) ?_
        refine z_zret dX12_areAlike_43 rfl (by first | omega | exact zb01 _) rfl ?_
        exact ⟨by rw [zb_f (by simp only [cAlike, Bool.and_eq_true, decide_eq_true_eq]; rintro ⟨⟨x1, x2, x3, x4⟩, x5⟩; first | exact h5 x1 | exact h13 x2 | exact h26 x3 | exact h39 (zb_cong x4))], rfl⟩
      · refine z_aload_n dX12_areAlike_29 rfl ?_
        refine z_iload_n dX12_areAlike_30 rfl ?_
        refine z_callV mlX12_144 dX12_areAlike_31 (sh_M hE) (av := [_]) rfl rfl (Nat.le_of_ble_eq_true rfl) (r_isNormal _ hE hm p hp0 (by have := hw.2.2.1; have := (hw.2.2.2.2.2 p hp0 hp).1; omega)) (Nat.le_refl _) (Nat.le_refl _) (Nat.le_refl _) (Nat.le_refl _) ?_
        rintro _ _ ⟨rfl, rfl⟩
        refine z_aload_n dX12_areAlike_34 rfl ?_
        refine z_iload_n dX12_areAlike_35 rfl ?_
        refine z_callV mlX12_144 dX12_areAlike_36 (sh_M hE) (av := [_]) rfl rfl (Nat.le_of_ble_eq_true rfl) (r_isNormal _ hE hm q hq0 (by have := hw.2.2.1; have := (hw.2.2.2.2.2 p hp0 hp).1; omega)) (Nat.le_refl _) (Nat.le_refl _) (Nat.le_refl _) (Nat.le_refl _) ?_
        rintro _ _ ⟨rfl, rfl⟩
        refine z_icmp_eq (tgt := 44) dX12_areAlike_39 rfl (fun h39 => ?_) (fun h39 => ?_)
        · refine z_iconst dX12_areAlike_44 (by decide) ?_
          refine z_ist 3 dX12_areAlike_45 rfl (Nat.le_of_ble_eq_true rfl) ?_
          try dsimp only [zs0, zsI, zsP, zsN, zsJ, zsS, zst2, Nat.reduceAdd]
          refine l_areAlike d hE hm p q hp0 hp hq0 hq hw (by omega) (m a_c (32 + 9 * p)).toNat 0 (by omega) (by have := hw.2.2.1; have := (hw.2.2.2.2.2 p hp0 hp).1; omega) ⟨?_, rfl⟩
          have e : (m a_c (32 + 9 * p + 2) = 1) ↔ (m a_c (32 + 9 * q + 2) = 1) := zb_inj h39
          have e2 : m a_c (32 + 9 * p) = m a_c (32 + 9 * q) := by omega
          simp only [cAlike, h5, h13, e, e2, and_self, decide_true, Bool.true_and, decide_eq_true_eq]
        · refine z_iconst dX12_areAlike_42 (by decide) ?_
          refine z_zret dX12_areAlike_43 rfl (by first | omega | exact zb01 _) rfl ?_
          exact ⟨by rw [zb_f (by simp only [cAlike, Bool.and_eq_true, decide_eq_true_eq]; rintro ⟨⟨x1, x2, x3, x4⟩, x5⟩; first | exact h5 x1 | exact h13 x2 | exact h26 x3 | exact h39 (zb_cong x4))], rfl⟩

theorem l_alikeTo (d : Nat) {E : zE} {m : zM} {P : Option zV → zM → Prop} (hE : shM E) (hm : ptM m) (p : Int) (hp0 : 0 ≤ p) (hp : p < m a_c 2) (hw : wfC (m a_c)) : ∀ (j : Nat) (k n : Int), 0 ≤ k → k + j = m a_c 2 → 0 ≤ n ∧ n ≤ k → P (some (zI (n + zsum (fun q => zb (cAlike (m a_c) p q = true)) j k))) m → zA zX12_alikeTo (d + 3) E E P 4 [zP aM, zI p, zI n, zI k] [] m E := by
  intro j
  induction j with
  | zero =>
    intro k n h0 hk hn hP
    refine z_iload_n dX12_alikeTo_4 rfl ?_
    refine z_aload_n dX12_alikeTo_5 rfl ?_
    refine z_gP 0 rfl (r := a_c) flX12_7 dX12_alikeTo_6 (sh_M hE) rfl (pt_c hm) (by decide) ?_
    refine z_iconst dX12_alikeTo_9 (by decide) ?_
    refine z_iald dX12_alikeTo_10 (sh_c hE) (by have := hw.2.2.1; omega) (by have := hw.2.2.1; omega) ?_
    refine z_icmp_ge (tgt := 37) dX12_alikeTo_11 rfl (fun h11 => ?_) (fun h => absurd (by omega) h)
    refine z_iload_n dX12_alikeTo_37 rfl ?_
    refine z_iret dX12_alikeTo_38 rfl rfl ?_
    rw [zsum_0, Int.add_zero] at hP
    exact hP
  | succ j ih =>
    intro k n h0 hk hn hP
    refine z_iload_n dX12_alikeTo_4 rfl ?_
    refine z_aload_n dX12_alikeTo_5 rfl ?_
    refine z_gP 0 rfl (r := a_c) flX12_7 dX12_alikeTo_6 (sh_M hE) rfl (pt_c hm) (by decide) ?_
    refine z_iconst dX12_alikeTo_9 (by decide) ?_
    refine z_iald dX12_alikeTo_10 (sh_c hE) (by have := hw.2.2.1; omega) (by have := hw.2.2.1; omega) ?_
    refine z_icmp_ge (tgt := 37) dX12_alikeTo_11 rfl (fun h => absurd h (by omega)) (fun h11 => ?_)
    refine z_iload_n dX12_alikeTo_14 rfl ?_
    refine z_aload_n dX12_alikeTo_15 rfl ?_
    refine z_iload_n dX12_alikeTo_16 rfl ?_
    refine z_iload_n dX12_alikeTo_17 rfl ?_
    refine z_callV mlX12_234 dX12_alikeTo_18 (sh_M hE) (av := [_, _]) rfl rfl (Nat.le_of_ble_eq_true rfl) (r_areAlike _ hE hm p k hp0 hp h0 (by omega) hw) (Nat.le_refl _) (Nat.le_refl _) (Nat.le_refl _) (Nat.le_refl _) ?_
    rintro _ _ ⟨rfl, rfl⟩
    refine z_ifz_eq (tgt := 28) dX12_alikeTo_21 rfl (fun h21 => ?_) (fun h21 => ?_)
    · refine z_iconst dX12_alikeTo_28 (by decide) ?_
      refine z_add dX12_alikeTo_29 (by have := hw.2.2.1; omega) ?_
      refine z_ist 2 dX12_alikeTo_30 rfl (Nat.le_of_ble_eq_true rfl) ?_
      refine z_inc dX12_alikeTo_31 rfl (by have := hw.2.2.1; omega) ?_
      refine z_goto (tgt := 4) dX12_alikeTo_34 rfl ?_
      try dsimp only [zs0, zsI, zsP, zsN, zsJ, zsS, zst2, Nat.reduceAdd]
      rw [zsum_s, zb_f h21, ← Int.add_assoc] at hP
      exact ih (k + 1) _ (by omega) (by omega) (by omega) hP
    · refine z_iconst dX12_alikeTo_24 (by decide) ?_
      refine z_goto (tgt := 29) dX12_alikeTo_25 rfl ?_
      refine z_add dX12_alikeTo_29 (by have := hw.2.2.1; omega) ?_
      refine z_ist 2 dX12_alikeTo_30 rfl (Nat.le_of_ble_eq_true rfl) ?_
      refine z_inc dX12_alikeTo_31 rfl (by have := hw.2.2.1; omega) ?_
      refine z_goto (tgt := 4) dX12_alikeTo_34 rfl ?_
      try dsimp only [zs0, zsI, zsP, zsN, zsJ, zsS, zst2, Nat.reduceAdd]
      rw [zsum_s, zb_t h21, ← Int.add_assoc] at hP
      exact ih (k + 1) _ (by omega) (by omega) (by omega) hP

theorem r_alikeTo (d : Nat) {E : zE} {m : zM} (hE : shM E) (hm : ptM m) (p : Int) (hp0 : 0 ≤ p) (hp : p < m a_c 2) (hw : wfC (m a_c)) : zR zX12_alikeTo (d + 3) [zP aM, zI p] m E E (fun r m' => r = some (zI (zsum (fun q => zb (cAlike (m a_c) p q = true)) (m a_c 2).toNat 0)) ∧ m = m') := by
  refine zR_go [zP aM, zI p, zN, zN] (by decide +kernel) (Nat.le_of_ble_eq_true rfl) rfl rfl ?_
  refine z_iconst dX12_alikeTo_0 (by decide) ?_
  refine z_ist 2 dX12_alikeTo_1 rfl (Nat.le_of_ble_eq_true rfl) ?_
  refine z_iconst dX12_alikeTo_2 (by decide) ?_
  refine z_ist 3 dX12_alikeTo_3 rfl (Nat.le_of_ble_eq_true rfl) ?_
  try dsimp only [zs0, zsI, zsP, zsN, zsJ, zsS, zst2, Nat.reduceAdd]
  refine l_alikeTo d hE hm p hp0 hp hw (m a_c 2).toNat 0 0 (by omega) (by have := hw.2.2.1; omega) (by omega) ⟨by rw [Int.zero_add], rfl⟩

theorem l_outerPoints (d : Nat) {E : zE} {m : zM} {P : Option zV → zM → Prop} (hE : shM E) (hm : ptM m)  (hw : wfC (m a_c)) : ∀ (j : Nat) (k : Nat), (k : Int) + j = m a_c 2 → P (some (zI (zmask (fun p => decide (m a_c (32 + 9 * (p : Int) + 1) ≠ 1)) (k + j) : Nat))) m → zA zX12_outerPoints (d + 2) E E P 4 [zP aM, zI (zmask (fun p => decide (m a_c (32 + 9 * (p : Int) + 1) ≠ 1)) k : Nat), zI (k : Int)] [] m E := by
  intro j
  induction j with
  | zero =>
    intro k hk hP
    refine z_iload_n dX12_outerPoints_4 rfl ?_
    refine z_aload_n dX12_outerPoints_5 rfl ?_
    refine z_gP 0 rfl (r := a_c) flX12_7 dX12_outerPoints_6 (sh_M hE) rfl (pt_c hm) (by decide) ?_
    refine z_iconst dX12_outerPoints_9 (by decide) ?_
    refine z_iald dX12_outerPoints_10 (sh_c hE) (by have := hw.2.2.1; omega) (by have := hw.2.2.1; omega) ?_
    refine z_icmp_ge (tgt := 38) dX12_outerPoints_11 rfl (fun h11 => ?_) (fun h => absurd (by omega) h)
    refine z_iload_n dX12_outerPoints_38 rfl ?_
    refine z_iret dX12_outerPoints_39 rfl rfl ?_
    exact hP
  | succ j ih =>
    intro k hk hP
    refine z_iload_n dX12_outerPoints_4 rfl ?_
    refine z_aload_n dX12_outerPoints_5 rfl ?_
    refine z_gP 0 rfl (r := a_c) flX12_7 dX12_outerPoints_6 (sh_M hE) rfl (pt_c hm) (by decide) ?_
    refine z_iconst dX12_outerPoints_9 (by decide) ?_
    refine z_iald dX12_outerPoints_10 (sh_c hE) (by have := hw.2.2.1; omega) (by have := hw.2.2.1; omega) ?_
    refine z_icmp_ge (tgt := 38) dX12_outerPoints_11 rfl (fun h => absurd h (by omega)) (fun h11 => ?_)
    refine z_iload_n dX12_outerPoints_14 rfl ?_
    refine z_aload_n dX12_outerPoints_15 rfl ?_
    refine z_iload_n dX12_outerPoints_16 rfl ?_
    refine z_callV mlX12_217 dX12_outerPoints_17 (sh_M hE) (av := [_]) rfl rfl (Nat.le_of_ble_eq_true rfl) (r_isVertex _ hE hm _ (by omega) (by have := hw.2.2.1; omega)) (Nat.le_refl _) (Nat.le_refl _) (Nat.le_refl _) (Nat.le_refl _) ?_
    rintro _ _ ⟨rfl, rfl⟩
    refine z_ifz_eq (tgt := 27) dX12_outerPoints_20 rfl (fun h20 => ?_) (fun h20 => ?_)
    · refine z_iconst dX12_outerPoints_27 (by decide) ?_
      refine z_iload_n dX12_outerPoints_28 rfl ?_
      refine z_ishl dX12_outerPoints_29 ?_
      refine z_ior dX12_outerPoints_30 ?_
      have hb := hw.2.2.1
      have hml := zmask_lt (fun p => decide (m a_c (32 + 9 * (p : Int) + 1) ≠ 1)) k
      have hm2 : (2 : Nat) ^ k ≤ 2 ^ 8 := Nat.pow_le_pow_right (by omega) (by omega)
      rw [zor_b (by omega) (by omega)]
      refine z_ist 1 dX12_outerPoints_31 rfl (Nat.le_of_ble_eq_true rfl) ?_
      refine z_inc dX12_outerPoints_32 rfl (by have := hw.2.2.1; omega) ?_
      refine z_goto (tgt := 4) dX12_outerPoints_35 rfl ?_
      try dsimp only [zs0, zsI, zsP, zsN, zsJ, zsS, zst2, Nat.reduceAdd]
      rw [show (k : Int) + 1 = ((k + 1 : Nat) : Int) by omega, ← zmask_s (by simp only [decide_eq_true_eq]; exact h20)]
      exact ih (k + 1) (by omega) (by rw [show k + 1 + j = k + (j + 1) by omega]; exact hP)
    · refine z_iconst dX12_outerPoints_23 (by decide) ?_
      refine z_goto (tgt := 30) dX12_outerPoints_24 rfl ?_
      refine z_ior dX12_outerPoints_30 ?_
      have hb := hw.2.2.1
      have hml := zmask_lt (fun p => decide (m a_c (32 + 9 * (p : Int) + 1) ≠ 1)) k
      have hm2 : (2 : Nat) ^ k ≤ 2 ^ 8 := Nat.pow_le_pow_right (by omega) (by omega)
      rw [zor_0 (by omega)]
      refine z_ist 1 dX12_outerPoints_31 rfl (Nat.le_of_ble_eq_true rfl) ?_
      refine z_inc dX12_outerPoints_32 rfl (by have := hw.2.2.1; omega) ?_
      refine z_goto (tgt := 4) dX12_outerPoints_35 rfl ?_
      try dsimp only [zs0, zsI, zsP, zsN, zsJ, zsS, zst2, Nat.reduceAdd]
      rw [show (k : Int) + 1 = ((k + 1 : Nat) : Int) by omega, ← zmask_n (by simp only [decide_eq_false_iff_not, ne_eq, Decidable.not_not]; exact h20)]
      exact ih (k + 1) (by omega) (by rw [show k + 1 + j = k + (j + 1) by omega]; exact hP)

theorem r_outerPoints (d : Nat) {E : zE} {m : zM} (hE : shM E) (hm : ptM m)  (hw : wfC (m a_c)) : zR zX12_outerPoints (d + 2) [zP aM] m E E (fun r m' => r = some (zI (zmask (fun p => decide (m a_c (32 + 9 * (p : Int) + 1) ≠ 1)) (m a_c 2).toNat : Nat)) ∧ m = m') := by
  refine zR_go [zP aM, zN, zN] (by decide +kernel) (Nat.le_of_ble_eq_true rfl) rfl rfl ?_
  refine z_iconst dX12_outerPoints_0 (by decide) ?_
  refine z_ist 1 dX12_outerPoints_1 rfl (Nat.le_of_ble_eq_true rfl) ?_
  refine z_iconst dX12_outerPoints_2 (by decide) ?_
  refine z_ist 2 dX12_outerPoints_3 rfl (Nat.le_of_ble_eq_true rfl) ?_
  try dsimp only [zs0, zsI, zsP, zsN, zsJ, zsS, zst2, Nat.reduceAdd]
  refine l_outerPoints d hE hm hw (m a_c 2).toNat 0 (by have := hw.2.2.1; omega) ⟨by rw [Nat.zero_add], rfl⟩

theorem r_allPoints (d : Nat) {E : zE} {m : zM} (hE : shM E) (hm : ptM m)  (hw : wfC (m a_c)) : zR zX12_allPoints (d) [zP aM] m E E (fun r m' => r = some (zI ((2 ^ (m a_c 2).toNat - 1 : Nat) : Int)) ∧ m = m') := by
  refine zR_go [zP aM] (by decide +kernel) (Nat.le_of_ble_eq_true rfl) rfl rfl ?_
  obtain ⟨n, hn⟩ : ∃ n : Nat, m a_c 2 = (n : Int) := ⟨(m a_c 2).toNat, by have := hw.2.2.1; omega⟩
  have hb := hw.2.2.1
  rw [show (m a_c 2).toNat = n by omega]
  refine z_iconst dX12_allPoints_0 (by decide) ?_
  refine z_aload_n dX12_allPoints_1 rfl ?_
  refine z_gP 0 rfl (r := a_c) flX12_7 dX12_allPoints_2 (sh_M hE) rfl (pt_c hm) (by decide) ?_
  refine z_iconst dX12_allPoints_5 (by decide) ?_
  refine z_iald dX12_allPoints_6 (sh_c hE) (by omega) (by omega) ?_
  rw [hn]
  refine z_ishl dX12_allPoints_7 ?_
  have hp : (2 : Nat) ^ n ≤ 2 ^ 8 := Nat.pow_le_pow_right (by omega) (by omega)
  rw [zshl_1 (by omega)]
  have hp2 := Nat.two_pow_pos n
  generalize (2 : Nat) ^ n = N at *
  refine z_iconst dX12_allPoints_8 (by decide) ?_
  refine z_sub dX12_allPoints_9 (by omega) ?_
  refine z_iret dX12_allPoints_10 rfl rfl ?_
  refine ⟨?_, rfl⟩
  congr 3
  omega
