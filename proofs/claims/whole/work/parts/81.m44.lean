theorem mK_tp {m : zM} {k : Int} (h0 : 0 ≤ k) (h1 : k < m aM f_end) (h2 : (mK m).1 k ≠ 0) : m a_tape k = (mK m).1 k := by
  have h2 : mV (m a_tape) (m aM f_end) k ≠ 0 := h2
  show m a_tape k = mV (m a_tape) (m aM f_end) k
  unfold mV kn at h2 ⊢
  rw [if_pos ⟨h0, h1⟩] at h2 ⊢
  by_cases e : 10 ≤ m a_tape k ∧ m a_tape k ≤ 122
  · rw [if_pos e]
  · rw [if_neg e] at h2; exact absurd rfl h2
theorem p27 {i : Nat} (h : i ≤ 8) : (27 : Int) ^ i ≤ 27 ^ 8 := by
  have : ∀ j, j ≤ 8 → (27 : Int) ^ j ≤ 27 ^ 8 := by decide
  exact this i h
theorem ptM_rd {m m1 : zM} (h : ptM m) (b : zfr fRd m m1) : ptM m1 := fun q hq => by
  have hq2 : ∀ q ∈ mPt, fRd.all (fun r => r.1 != aM || (r.2 != none && r.2 != some q.1)) = true := by decide
  rw [zfr_at b (hq2 q hq)]
  exact h q hq
theorem r_isOf (d : Nat) {E : zE} {m : zM} (hE : shM E) (hm : ptM m) (k lo hi : Int) (k0 : 0 ≤ k) (hlo : 10 ≤ lo) (hhi : hi ≤ 122) (he : 0 ≤ m aM f_end ∧ m aM f_end ≤ 400) : zR zX12_isOf (d + 1) [zP aM, zI k, zI lo, zI hi] m E E (fun r m' => r = some (zI (zb (lo ≤ (mK m).1 k ∧ (mK m).1 k ≤ hi))) ∧ m = m') := by
  refine zR_go [zP aM, zI k, zI lo, zI hi] (by decide +kernel) (Nat.le_of_ble_eq_true rfl) rfl rfl ?_
  refine z_iload_n dX12_isOf_0 rfl ?_
  refine z_aload_n dX12_isOf_1 rfl ?_
  refine z_gI f_end rfl flX12_453 dX12_isOf_2 (sh_M hE) rfl ?_
  refine z_icmp_ge (tgt := 26) dX12_isOf_5 rfl (fun h5 => ?_) (fun h5 => ?_)
  · refine z_iconst dX12_isOf_26 (by decide) ?_
    refine z_zret dX12_isOf_27 rfl (by first | omega | exact zb01 _) rfl ?_
    have hv := mV_in (t := m a_tape) (e := m aM f_end) k0 hlo hhi
    exact ⟨by rw [zb_f (show ¬ (lo ≤ (mK m).1 k ∧ (mK m).1 k ≤ hi) from fun h => absurd (hv.mp h) (by omega))], rfl⟩
  · refine z_aload_n dX12_isOf_8 rfl ?_
    refine z_gP 36 rfl (r := a_tape) flX12_75 dX12_isOf_9 (sh_M hE) rfl (pt_tape hm) (by decide) ?_
    refine z_iload_n dX12_isOf_12 rfl ?_
    refine z_bald dX12_isOf_13 (sh_tape hE) (by omega) (by omega) ?_
    refine z_iload_n dX12_isOf_14 rfl ?_
    refine z_iload_n dX12_isOf_15 rfl ?_
    refine z_callS mlX12_140 dX12_isOf_16 (av := [_, _, _]) rfl rfl (Nat.le_of_ble_eq_true rfl) (r_isIn _ hE hm _ lo hi) (Nat.le_refl _) (Nat.le_refl _) (Nat.le_refl _) (Nat.le_refl _) ?_
    rintro _ _ ⟨rfl, rfl⟩
    refine z_ifz_eq (tgt := 26) dX12_isOf_19 rfl (fun h19 => ?_) (fun h19 => ?_)
    · refine z_iconst dX12_isOf_26 (by decide) ?_
      refine z_zret dX12_isOf_27 rfl (by first | omega | exact zb01 _) rfl ?_
      have hv := mV_in (t := m a_tape) (e := m aM f_end) k0 hlo hhi
      exact ⟨by rw [zb_f (show ¬ (lo ≤ (mK m).1 k ∧ (mK m).1 k ≤ hi) from fun h => absurd (hv.mp h) (by omega))], rfl⟩
    · refine z_iconst dX12_isOf_22 (by decide) ?_
      refine z_goto (tgt := 27) dX12_isOf_23 rfl ?_
      refine z_zret dX12_isOf_27 rfl (by first | omega | exact zb01 _) rfl ?_
      have hv := mV_in (t := m a_tape) (e := m aM f_end) k0 hlo hhi
      exact ⟨by rw [zb_t (show  (lo ≤ (mK m).1 k ∧ (mK m).1 k ≤ hi) from hv.mpr (by omega))], rfl⟩

theorem r_isSignByte (d : Nat) {E : zE} {m : zM} (hE : shM E) (hm : ptM m) (x : Int) (hn : m aM f_withNumbers = 0 ∨ m aM f_withNumbers = 1) : zR zX12_isSignByte (d) [zP aM, zI x] m E E (fun r m' => r = some (zI (zb (if m aM f_withNumbers = 0 then x = 39 ∨ x = 59 else x = 45 ∨ x = 62 ∨ x = 59))) ∧ m = m') := by
  refine zR_go [zP aM, zI x] (by decide +kernel) (Nat.le_of_ble_eq_true rfl) rfl rfl ?_
  refine z_aload_n dX12_isSignByte_0 rfl ?_
  refine z_gI f_withNumbers rfl flX12_456 dX12_isSignByte_1 (sh_M hE) rfl ?_
  refine z_if_eq (tgt := 33) dX12_isSignByte_4 rfl (fun h4 => ?_) (fun h4 => ?_)
  · refine z_iload_n dX12_isSignByte_33 rfl ?_
    refine z_bipush dX12_isSignByte_34 rfl (by decide) ?_
    refine z_icmp_eq (tgt := 45) dX12_isSignByte_36 rfl (fun h36 => ?_) (fun h36 => ?_)
    · refine z_iconst dX12_isSignByte_45 (by decide) ?_
      refine z_goto (tgt := 50) dX12_isSignByte_46 rfl ?_
      refine z_zret dX12_isSignByte_50 rfl (by first | omega | exact zb01 _) rfl ?_
      refine ⟨?_, rfl⟩
      rw [zb_t (by rw [if_pos (by omega)]; omega)]
    · refine z_iload_n dX12_isSignByte_39 rfl ?_
      refine z_bipush dX12_isSignByte_40 rfl (by decide) ?_
      refine z_icmp_ne (tgt := 49) dX12_isSignByte_42 rfl (fun h42 => ?_) (fun h42 => ?_)
      · refine z_iconst dX12_isSignByte_49 (by decide) ?_
        refine z_zret dX12_isSignByte_50 rfl (by first | omega | exact zb01 _) rfl ?_
        refine ⟨?_, rfl⟩
        rw [zb_f (by rw [if_pos (by omega)]; omega)]
      · refine z_iconst dX12_isSignByte_45 (by decide) ?_
        refine z_goto (tgt := 50) dX12_isSignByte_46 rfl ?_
        refine z_zret dX12_isSignByte_50 rfl (by first | omega | exact zb01 _) rfl ?_
        refine ⟨?_, rfl⟩
        rw [zb_t (by rw [if_pos (by omega)]; omega)]
  · refine z_iload_n dX12_isSignByte_7 rfl ?_
    refine z_bipush dX12_isSignByte_8 rfl (by decide) ?_
    refine z_icmp_eq (tgt := 25) dX12_isSignByte_10 rfl (fun h10 => ?_) (fun h10 => ?_)
    · refine z_iconst dX12_isSignByte_25 (by decide) ?_
      refine z_goto (tgt := 50) dX12_isSignByte_26 rfl ?_
      refine z_zret dX12_isSignByte_50 rfl (by first | omega | exact zb01 _) rfl ?_
      refine ⟨?_, rfl⟩
      rw [zb_t (by rw [if_neg (by omega)]; omega)]
    · refine z_iload_n dX12_isSignByte_13 rfl ?_
      refine z_bipush dX12_isSignByte_14 rfl (by decide) ?_
      refine z_icmp_eq (tgt := 25) dX12_isSignByte_16 rfl (fun h16 => ?_) (fun h16 => ?_)
      · refine z_iconst dX12_isSignByte_25 (by decide) ?_
        refine z_goto (tgt := 50) dX12_isSignByte_26 rfl ?_
        refine z_zret dX12_isSignByte_50 rfl (by first | omega | exact zb01 _) rfl ?_
        refine ⟨?_, rfl⟩
        rw [zb_t (by rw [if_neg (by omega)]; omega)]
      · refine z_iload_n dX12_isSignByte_19 rfl ?_
        refine z_bipush dX12_isSignByte_20 rfl (by decide) ?_
        refine z_icmp_ne (tgt := 29) dX12_isSignByte_22 rfl (fun h22 => ?_) (fun h22 => ?_)
        · refine z_iconst dX12_isSignByte_29 (by decide) ?_
          refine z_goto (tgt := 50) dX12_isSignByte_30 rfl ?_
          refine z_zret dX12_isSignByte_50 rfl (by first | omega | exact zb01 _) rfl ?_
          refine ⟨?_, rfl⟩
          rw [zb_f (by rw [if_neg (by omega)]; omega)]
        · refine z_iconst dX12_isSignByte_25 (by decide) ?_
          refine z_goto (tgt := 50) dX12_isSignByte_26 rfl ?_
          refine z_zret dX12_isSignByte_50 rfl (by first | omega | exact zb01 _) rfl ?_
          refine ⟨?_, rfl⟩
          rw [zb_t (by rw [if_neg (by omega)]; omega)]

theorem l_reads_b (d : Nat) {E : zE} {m : zM} {P : Option zV → zM → Prop} (hE : shM E) (hm : ptM m)  (he : 0 ≤ m aM f_end ∧ m aM f_end ≤ 400) : ∀ (j : Nat) (k : Int) (m1 : zM), (0 ≤ k) → (j = (400 - k).toNat) → (zfr fRd m m1) → (m1 aM f_place = k) → (∀ m2, zfr fRd m m2 → m2 aM f_place = zrun (kB (mK m)) j k → zA zX12_reads (d + 2) E E P 51 [zP aM] [] m2 E) → zA zX12_reads (d + 2) E E P 8 [zP aM] [] m1 E := by
  intro j
  induction j with
  | zero =>
    intro k m1 k0 hj hf hp hP
    have hm1 : ptM m1 := ptM_rd hm hf
    have hK : mK m1 = mK m := mK_fr hf (by decide)
    have he1 : 0 ≤ m1 aM f_end ∧ m1 aM f_end ≤ 400 := by rw [zfr_at (j := f_end) hf (by decide)]; exact he
    have hok := mK_ok he
    refine z_aload_n dX12_reads_8 rfl ?_
    refine z_aload_n dX12_reads_9 rfl ?_
    refine z_gIv f_place rfl flX12_462 dX12_reads_10 (sh_M hE) rfl hp ?_
    refine z_bipush dX12_reads_13 rfl (by decide) ?_
    refine z_bipush dX12_reads_15 rfl (by decide) ?_
    refine z_callV mlX12_465 dX12_reads_17 (sh_M hE) (av := [_, _, _]) rfl rfl (Nat.le_of_ble_eq_true rfl) (by have h := r_isOf d hE hm1 (k) 32 32 (by omega) (by omega) (by omega) he1; rw [hK] at h; exact h) (Nat.le_refl _) (Nat.le_refl _) (Nat.le_refl _) (Nat.le_refl _) ?_
    rintro _ _ ⟨rfl, rfl⟩
    refine z_ifz_ne (tgt := 38) dX12_reads_20 rfl (fun h => absurd h (by have h := hok.2 k (show m aM f_end ≤ k by omega); omega)) (fun h20 => ?_)
    refine z_aload_n dX12_reads_23 rfl ?_
    refine z_aload_n dX12_reads_24 rfl ?_
    refine z_gIv f_place rfl flX12_462 dX12_reads_25 (sh_M hE) rfl hp ?_
    refine z_bipush dX12_reads_28 rfl (by decide) ?_
    refine z_bipush dX12_reads_30 rfl (by decide) ?_
    refine z_callV mlX12_465 dX12_reads_32 (sh_M hE) (av := [_, _, _]) rfl rfl (Nat.le_of_ble_eq_true rfl) (by have h := r_isOf d hE hm1 (k) 10 10 (by omega) (by omega) (by omega) he1; rw [hK] at h; exact h) (Nat.le_refl _) (Nat.le_refl _) (Nat.le_refl _) (Nat.le_refl _) ?_
    rintro _ _ ⟨rfl, rfl⟩
    refine z_ifz_eq (tgt := 51) dX12_reads_35 rfl (fun h35 => ?_) (fun h => absurd h (by have h := hok.2 k (show m aM f_end ≤ k by omega); omega))
    exact hP m1 hf hp
  | succ j ih =>
    intro k m1 k0 hj hf hp hP
    have hm1 : ptM m1 := ptM_rd hm hf
    have hK : mK m1 = mK m := mK_fr hf (by decide)
    have he1 : 0 ≤ m1 aM f_end ∧ m1 aM f_end ≤ 400 := by rw [zfr_at (j := f_end) hf (by decide)]; exact he
    have hok := mK_ok he
    refine z_aload_n dX12_reads_8 rfl ?_
    refine z_aload_n dX12_reads_9 rfl ?_
    refine z_gIv f_place rfl flX12_462 dX12_reads_10 (sh_M hE) rfl hp ?_
    refine z_bipush dX12_reads_13 rfl (by decide) ?_
    refine z_bipush dX12_reads_15 rfl (by decide) ?_
    refine z_callV mlX12_465 dX12_reads_17 (sh_M hE) (av := [_, _, _]) rfl rfl (Nat.le_of_ble_eq_true rfl) (by have h := r_isOf d hE hm1 (k) 32 32 (by omega) (by omega) (by omega) he1; rw [hK] at h; exact h) (Nat.le_refl _) (Nat.le_refl _) (Nat.le_refl _) (Nat.le_refl _) ?_
    rintro _ _ ⟨rfl, rfl⟩
    refine z_ifz_ne (tgt := 38) dX12_reads_20 rfl (fun h20 => ?_) (fun h20 => ?_)
    · refine z_aload_n dX12_reads_38 rfl ?_
      refine z_dup dX12_reads_39 rfl ?_
      refine z_gIv f_place rfl flX12_462 dX12_reads_40 (sh_M hE) rfl hp ?_
      refine z_iconst dX12_reads_43 (by decide) ?_
      refine z_add dX12_reads_44 (by omega) ?_
      refine z_pI f_place rfl (fpX12_462 _) dX12_reads_45 (sh_M hE) rfl ?_
      refine z_goto (tgt := 8) dX12_reads_48 rfl ?_
      refine ih (k + 1) _ (by omega) (by omega) (zfr_uj hf (by decide)) zu_s (fun m2 f2 e2 => hP m2 f2 ?_)
      rw [e2, zrun_t (kB_iff.mpr (by omega))]
    · refine z_aload_n dX12_reads_23 rfl ?_
      refine z_aload_n dX12_reads_24 rfl ?_
      refine z_gIv f_place rfl flX12_462 dX12_reads_25 (sh_M hE) rfl hp ?_
      refine z_bipush dX12_reads_28 rfl (by decide) ?_
      refine z_bipush dX12_reads_30 rfl (by decide) ?_
      refine z_callV mlX12_465 dX12_reads_32 (sh_M hE) (av := [_, _, _]) rfl rfl (Nat.le_of_ble_eq_true rfl) (by have h := r_isOf d hE hm1 (k) 10 10 (by omega) (by omega) (by omega) he1; rw [hK] at h; exact h) (Nat.le_refl _) (Nat.le_refl _) (Nat.le_refl _) (Nat.le_refl _) ?_
      rintro _ _ ⟨rfl, rfl⟩
      refine z_ifz_eq (tgt := 51) dX12_reads_35 rfl (fun h35 => ?_) (fun h35 => ?_)
      · exact hP m1 hf (by rw [zrun_f (by unfold kB; rw [decide_eq_false_iff_not]; omega)]; exact hp)
      · refine z_aload_n dX12_reads_38 rfl ?_
        refine z_dup dX12_reads_39 rfl ?_
        refine z_gIv f_place rfl flX12_462 dX12_reads_40 (sh_M hE) rfl hp ?_
        refine z_iconst dX12_reads_43 (by decide) ?_
        refine z_add dX12_reads_44 (by omega) ?_
        refine z_pI f_place rfl (fpX12_462 _) dX12_reads_45 (sh_M hE) rfl ?_
        refine z_goto (tgt := 8) dX12_reads_48 rfl ?_
        refine ih (k + 1) _ (by omega) (by omega) (zfr_uj hf (by decide)) zu_s (fun m2 f2 e2 => hP m2 f2 ?_)
        rw [e2, zrun_t (kB_iff.mpr (by omega))]

theorem l_reads_w (d : Nat) {E : zE} {m : zM} {P : Option zV → zM → Prop} (hE : shM E) (hm : ptM m) (p : Int) (p0 : 0 ≤ p) (he : 0 ≤ m aM f_end ∧ m aM f_end ≤ 400) : ∀ (j : Nat) (i : Nat) (m1 : zM), (j = (400 - (p + i)).toNat) → (zfr fRd m m1) → (m1 aM f_place = p) → (m1 aM f_sort = 1) → (m1 aM f_next = p + i) → (m1 aM f_word = kWn (mK m) p i) → (∀ x : Nat, x < i → kL (mK m) (p + x) = true) → (∀ m2, zfr fRd m m2 → m2 aM f_place = p → m2 aM f_sort = 1 → m2 aM f_next = zrun (kL (mK m)) j (p + i) → m2 aM f_word = kWn (mK m) p (zrun (kL (mK m)) j (p + i) - p).toNat → zA zX12_reads (d + 2) E E P 338 [zP aM] [] m2 E) → zA zX12_reads (d + 2) E E P 134 [zP aM] [] m1 E := by
  intro j
  induction j with
  | zero =>
    intro i m1 hj hf hp hs hn hwd hall hP
    have hm1 : ptM m1 := ptM_rd hm hf
    have hK : mK m1 = mK m := mK_fr hf (by decide)
    have he1 : 0 ≤ m1 aM f_end ∧ m1 aM f_end ≤ 400 := by rw [zfr_at (j := f_end) hf (by decide)]; exact he
    have hok := mK_ok he
    refine z_aload_n dX12_reads_134 rfl ?_
    refine z_aload_n dX12_reads_135 rfl ?_
    refine z_gIv f_next rfl flX12_459 dX12_reads_136 (sh_M hE) rfl hn ?_
    refine z_bipush dX12_reads_139 rfl (by decide) ?_
    refine z_bipush dX12_reads_141 rfl (by decide) ?_
    refine z_callV mlX12_465 dX12_reads_143 (sh_M hE) (av := [_, _, _]) rfl rfl (Nat.le_of_ble_eq_true rfl) (by have h := r_isOf d hE hm1 (p + i) 97 122 (by omega) (by omega) (by omega) he1; rw [hK] at h; exact h) (Nat.le_refl _) (Nat.le_refl _) (Nat.le_refl _) (Nat.le_refl _) ?_
    rintro _ _ ⟨rfl, rfl⟩
    refine z_ifz_eq (tgt := 338) dX12_reads_146 rfl (fun h146 => ?_) (fun h => absurd h (by have h := hok.2 (p + i) (show m aM f_end ≤ p + i by omega); omega))
    exact hP m1 hf hp hs hn (by rw [zrun_0, show (p + (i : Int) - p).toNat = i by omega]; exact hwd)
  | succ j ih =>
    intro i m1 hj hf hp hs hn hwd hall hP
    have hm1 : ptM m1 := ptM_rd hm hf
    have hK : mK m1 = mK m := mK_fr hf (by decide)
    have he1 : 0 ≤ m1 aM f_end ∧ m1 aM f_end ≤ 400 := by rw [zfr_at (j := f_end) hf (by decide)]; exact he
    have hok := mK_ok he
    refine z_aload_n dX12_reads_134 rfl ?_
    refine z_aload_n dX12_reads_135 rfl ?_
    refine z_gIv f_next rfl flX12_459 dX12_reads_136 (sh_M hE) rfl hn ?_
    refine z_bipush dX12_reads_139 rfl (by decide) ?_
    refine z_bipush dX12_reads_141 rfl (by decide) ?_
    refine z_callV mlX12_465 dX12_reads_143 (sh_M hE) (av := [_, _, _]) rfl rfl (Nat.le_of_ble_eq_true rfl) (by have h := r_isOf d hE hm1 (p + i) 97 122 (by omega) (by omega) (by omega) he1; rw [hK] at h; exact h) (Nat.le_refl _) (Nat.le_refl _) (Nat.le_refl _) (Nat.le_refl _) ?_
    rintro _ _ ⟨rfl, rfl⟩
    refine z_ifz_eq (tgt := 338) dX12_reads_146 rfl (fun h146 => ?_) (fun h146 => ?_)
    · have hz : zrun (kL (mK m)) (j + 1) (p + i) = p + i := zrun_f (by unfold kL; rw [decide_eq_false_iff_not]; omega)
      rw [hz] at hP
      exact hP m1 hf hp hs hn (by rw [show (p + (i : Int) - p).toNat = i by omega]; exact hwd)
    · have hl : kL (mK m) (p + i) = true := kL_iff.mpr (by omega)
      have hpe : p + i < m aM f_end := Classical.byContradiction (fun h => by have := kL_o hok (p + i) (show m aM f_end ≤ p + i by omega); rw [this] at hl; cases hl)
      have htp : m1 a_tape (p + i) = (mK m).1 (p + i) := by rw [zfr_cell (a := a_tape) hf (by decide)]; exact mK_tp (by omega) hpe (by omega)
      refine z_aload_n dX12_reads_149 rfl ?_
      refine z_aload_n dX12_reads_150 rfl ?_
      refine z_gIv f_next rfl flX12_459 dX12_reads_151 (sh_M hE) rfl hn ?_
      refine z_aload_n dX12_reads_154 rfl ?_
      refine z_gIv f_place rfl flX12_462 dX12_reads_155 (sh_M hE) rfl hp ?_
      refine z_sub dX12_reads_158 (by omega) ?_
      refine z_bipush dX12_reads_159 rfl (by decide) ?_
      refine z_icmp_ge (tgt := 190) dX12_reads_161 rfl (fun h161 => ?_) (fun h161 => ?_)
      · refine z_ldc2 dX12_reads_190 kcX12_241 (by decide) ?_
        refine z_pJ f_word rfl (fpX12_474 _) dX12_reads_193 (sh_M hE) rfl ?_
        refine z_aload_n dX12_reads_196 rfl ?_
        refine z_dup dX12_reads_197 rfl ?_
        refine z_gIv f_next rfl flX12_459 dX12_reads_198 (sh_M hE) rfl (Eq.trans (zu_j (by decide)) hn) ?_
        refine z_iconst dX12_reads_201 (by decide) ?_
        refine z_add dX12_reads_202 (by omega) ?_
        refine z_pI f_next rfl (fpX12_459 _) dX12_reads_203 (sh_M hE) rfl ?_
        refine z_goto (tgt := 134) dX12_reads_206 rfl ?_
        refine ih (i + 1) _ (by omega) (zfr_uj (zfr_uj hf (by decide)) (by decide)) ((zu_j (by decide)).trans ((zu_j (by decide)).trans hp)) ((zu_j (by decide)).trans ((zu_j (by decide)).trans hs)) (by rw [zu_s]; omega) ?_ (fun x hx => ?_) (fun m2 a1 a2 a3 a4 a5 => ?_)
        · rw [zu_j (by decide), zu_s]
          show _ = if i < 8 then _ else _
          rw [if_neg (by omega)]
        · by_cases e : x = i
          · rw [e]; exact hl
          · exact hall x (by omega)
        · rw [show p + ((i + 1 : Nat) : Int) = p + i + 1 by omega, ← zrun_t hl] at a4 a5
          exact hP m2 a1 a2 a3 a4 a5
      · refine z_ldc2 dX12_reads_164 kcX12_477 (by decide) ?_
        refine z_aload_n dX12_reads_167 rfl ?_
        refine z_gJv f_word rfl flX12_474 dX12_reads_168 (sh_M hE) rfl hwd ?_
        have hbd := kWn_bd hall (by omega)
        have hb8 : (27 : Int) ^ i ≤ 27 ^ 8 := p27 (by omega)
        refine z_lmul' dX12_reads_171 (by omega) ?_
        refine z_aload_n dX12_reads_172 rfl ?_
        refine z_gP 36 rfl (r := a_tape) flX12_75 dX12_reads_173 (sh_M hE) rfl (pt_tape hm1) (by decide) ?_
        refine z_aload_n dX12_reads_176 rfl ?_
        refine z_gIv f_next rfl flX12_459 dX12_reads_177 (sh_M hE) rfl hn ?_
        refine z_bald dX12_reads_180 (sh_tape hE) (by omega) (by omega) ?_
        rw [htp]
        refine z_i2l dX12_reads_181 ?_
        refine z_ladd' dX12_reads_182 (by omega) ?_
        refine z_ldc2 dX12_reads_183 kcX12_479 (by decide) ?_
        refine z_lsub' dX12_reads_186 (by omega) ?_
        refine z_goto (tgt := 193) dX12_reads_187 rfl ?_
        refine z_pJ f_word rfl (fpX12_474 _) dX12_reads_193 (sh_M hE) rfl ?_
        refine z_aload_n dX12_reads_196 rfl ?_
        refine z_dup dX12_reads_197 rfl ?_
        refine z_gIv f_next rfl flX12_459 dX12_reads_198 (sh_M hE) rfl (Eq.trans (zu_j (by decide)) hn) ?_
        refine z_iconst dX12_reads_201 (by decide) ?_
        refine z_add dX12_reads_202 (by omega) ?_
        refine z_pI f_next rfl (fpX12_459 _) dX12_reads_203 (sh_M hE) rfl ?_
        refine z_goto (tgt := 134) dX12_reads_206 rfl ?_
        refine ih (i + 1) _ (by omega) (zfr_uj (zfr_uj hf (by decide)) (by decide)) ((zu_j (by decide)).trans ((zu_j (by decide)).trans hp)) ((zu_j (by decide)).trans ((zu_j (by decide)).trans hs)) (by rw [zu_s]; omega) ?_ (fun x hx => ?_) (fun m2 a1 a2 a3 a4 a5 => ?_)
        · rw [zu_j (by decide), zu_s]
          show _ = if i < 8 then _ else _
          rw [if_pos (by omega)]
        · by_cases e : x = i
          · rw [e]; exact hl
          · exact hall x (by omega)
        · rw [show p + ((i + 1 : Nat) : Int) = p + i + 1 by omega, ← zrun_t hl] at a4 a5
          exact hP m2 a1 a2 a3 a4 a5

theorem l_reads_n (d : Nat) {E : zE} {m : zM} {P : Option zV → zM → Prop} (hE : shM E) (hm : ptM m) (p : Int) (p0 : 0 ≤ p) (he : 0 ≤ m aM f_end ∧ m aM f_end ≤ 400) : ∀ (j : Nat) (i : Nat) (m1 : zM), (j = (400 - (p + i)).toNat) → (zfr fRd m m1) → (m1 aM f_place = p) → (m1 aM f_next = p + i) → (m1 aM f_number = kNn (mK m) p i) → (∀ x : Nat, x < i → kD (mK m) (p + x) = true) → (∀ m2, zfr fRd m m2 → m2 aM f_place = p → m2 aM f_next = zrun (kD (mK m)) j (p + i) → m2 aM f_number = kNn (mK m) p (zrun (kD (mK m)) j (p + i) - p).toNat → zA zX12_reads (d + 2) E E P 316 [zP aM] [] m2 E) → zA zX12_reads (d + 2) E E P 244 [zP aM] [] m1 E := by
  intro j
  induction j with
  | zero =>
    intro i m1 hj hf hp hn hwd hall hP
    have hm1 : ptM m1 := ptM_rd hm hf
    have hK : mK m1 = mK m := mK_fr hf (by decide)
    have he1 : 0 ≤ m1 aM f_end ∧ m1 aM f_end ≤ 400 := by rw [zfr_at (j := f_end) hf (by decide)]; exact he
    have hok := mK_ok he
    have hbd := kNn_bd hall
    refine z_aload_n dX12_reads_244 rfl ?_
    refine z_aload_n dX12_reads_245 rfl ?_
    refine z_gIv f_next rfl flX12_459 dX12_reads_246 (sh_M hE) rfl hn ?_
    refine z_bipush dX12_reads_249 rfl (by decide) ?_
    refine z_bipush dX12_reads_251 rfl (by decide) ?_
    refine z_callV mlX12_465 dX12_reads_253 (sh_M hE) (av := [_, _, _]) rfl rfl (Nat.le_of_ble_eq_true rfl) (by have h := r_isOf d hE hm1 (p + i) 48 57 (by omega) (by omega) (by omega) he1; rw [hK] at h; exact h) (Nat.le_refl _) (Nat.le_refl _) (Nat.le_refl _) (Nat.le_refl _) ?_
    rintro _ _ ⟨rfl, rfl⟩
    refine z_ifz_eq (tgt := 316) dX12_reads_256 rfl (fun h256 => ?_) (fun h => absurd h (by have h := hok.2 (p + i) (show m aM f_end ≤ p + i by omega); omega))
    exact hP m1 hf hp hn (by rw [zrun_0, show (p + (i : Int) - p).toNat = i by omega]; exact hwd)
  | succ j ih =>
    intro i m1 hj hf hp hn hwd hall hP
    have hm1 : ptM m1 := ptM_rd hm hf
    have hK : mK m1 = mK m := mK_fr hf (by decide)
    have he1 : 0 ≤ m1 aM f_end ∧ m1 aM f_end ≤ 400 := by rw [zfr_at (j := f_end) hf (by decide)]; exact he
    have hok := mK_ok he
    have hbd := kNn_bd hall
    refine z_aload_n dX12_reads_244 rfl ?_
    refine z_aload_n dX12_reads_245 rfl ?_
    refine z_gIv f_next rfl flX12_459 dX12_reads_246 (sh_M hE) rfl hn ?_
    refine z_bipush dX12_reads_249 rfl (by decide) ?_
    refine z_bipush dX12_reads_251 rfl (by decide) ?_
    refine z_callV mlX12_465 dX12_reads_253 (sh_M hE) (av := [_, _, _]) rfl rfl (Nat.le_of_ble_eq_true rfl) (by have h := r_isOf d hE hm1 (p + i) 48 57 (by omega) (by omega) (by omega) he1; rw [hK] at h; exact h) (Nat.le_refl _) (Nat.le_refl _) (Nat.le_refl _) (Nat.le_refl _) ?_
    rintro _ _ ⟨rfl, rfl⟩
    refine z_ifz_eq (tgt := 316) dX12_reads_256 rfl (fun h256 => ?_) (fun h256 => ?_)
    · have hz : zrun (kD (mK m)) (j + 1) (p + i) = p + i := zrun_f (by unfold kD; rw [decide_eq_false_iff_not]; omega)
      rw [hz] at hP
      exact hP m1 hf hp hn (by rw [show (p + (i : Int) - p).toNat = i by omega]; exact hwd)
    · have hl : kD (mK m) (p + i) = true := kD_iff.mpr (by omega)
      have hpe : p + i < m aM f_end := Classical.byContradiction (fun h => by have := kD_o hok (p + i) (show m aM f_end ≤ p + i by omega); rw [this] at hl; cases hl)
      have htp : m1 a_tape (p + i) = (mK m).1 (p + i) := by rw [zfr_cell (a := a_tape) hf (by decide)]; exact mK_tp (by omega) hpe (by omega)
      refine z_aload_n dX12_reads_259 rfl ?_
      refine z_aload_n dX12_reads_260 rfl ?_
      refine z_gIv f_next rfl flX12_459 dX12_reads_261 (sh_M hE) rfl hn ?_
      refine z_aload_n dX12_reads_264 rfl ?_
      refine z_gIv f_place rfl flX12_462 dX12_reads_265 (sh_M hE) rfl hp ?_
      refine z_sub dX12_reads_268 (by omega) ?_
      refine z_iconst dX12_reads_269 (by decide) ?_
      refine z_icmp_ge (tgt := 296) dX12_reads_270 rfl (fun h270 => ?_) (fun h270 => ?_)
      · refine z_aload_n dX12_reads_296 rfl ?_
        refine z_gIv f_number rfl flX12_481 dX12_reads_297 (sh_M hE) rfl hwd ?_
        refine z_pI f_number rfl (fpX12_481 _) dX12_reads_300 (sh_M hE) rfl ?_
        refine z_aload_n dX12_reads_303 rfl ?_
        refine z_dup dX12_reads_304 rfl ?_
        refine z_gIv f_next rfl flX12_459 dX12_reads_305 (sh_M hE) rfl (Eq.trans (zu_j (by decide)) hn) ?_
        refine z_iconst dX12_reads_308 (by decide) ?_
        refine z_add dX12_reads_309 (by omega) ?_
        refine z_pI f_next rfl (fpX12_459 _) dX12_reads_310 (sh_M hE) rfl ?_
        refine z_goto (tgt := 244) dX12_reads_313 rfl ?_
        refine ih (i + 1) _ (by omega) (zfr_uj (zfr_uj hf (by decide)) (by decide)) ((zu_j (by decide)).trans ((zu_j (by decide)).trans hp)) (by rw [zu_s]; omega) ?_ (fun x hx => ?_) (fun m2 a1 a2 a4 a5 => ?_)
        · rw [zu_j (by decide), zu_s]
          show _ = if i < 2 then _ else _
          rw [if_neg (by omega)]
        · by_cases e : x = i
          · rw [e]; exact hl
          · exact hall x (by omega)
        · rw [show p + ((i + 1 : Nat) : Int) = p + i + 1 by omega, ← zrun_t hl] at a4 a5
          exact hP m2 a1 a2 a4 a5
      · refine z_bipush dX12_reads_273 rfl (by decide) ?_
        refine z_aload_n dX12_reads_275 rfl ?_
        refine z_gIv f_number rfl flX12_481 dX12_reads_276 (sh_M hE) rfl hwd ?_
        refine z_mul dX12_reads_279 (by omega) ?_
        refine z_aload_n dX12_reads_280 rfl ?_
        refine z_gP 36 rfl (r := a_tape) flX12_75 dX12_reads_281 (sh_M hE) rfl (pt_tape hm1) (by decide) ?_
        refine z_aload_n dX12_reads_284 rfl ?_
        refine z_gIv f_next rfl flX12_459 dX12_reads_285 (sh_M hE) rfl hn ?_
        refine z_bald dX12_reads_288 (sh_tape hE) (by omega) (by omega) ?_
        rw [htp]
        refine z_add dX12_reads_289 (by omega) ?_
        refine z_bipush dX12_reads_290 rfl (by decide) ?_
        refine z_sub dX12_reads_292 (by omega) ?_
        refine z_goto (tgt := 300) dX12_reads_293 rfl ?_
        refine z_pI f_number rfl (fpX12_481 _) dX12_reads_300 (sh_M hE) rfl ?_
        refine z_aload_n dX12_reads_303 rfl ?_
        refine z_dup dX12_reads_304 rfl ?_
        refine z_gIv f_next rfl flX12_459 dX12_reads_305 (sh_M hE) rfl (Eq.trans (zu_j (by decide)) hn) ?_
        refine z_iconst dX12_reads_308 (by decide) ?_
        refine z_add dX12_reads_309 (by omega) ?_
        refine z_pI f_next rfl (fpX12_459 _) dX12_reads_310 (sh_M hE) rfl ?_
        refine z_goto (tgt := 244) dX12_reads_313 rfl ?_
        refine ih (i + 1) _ (by omega) (zfr_uj (zfr_uj hf (by decide)) (by decide)) ((zu_j (by decide)).trans ((zu_j (by decide)).trans hp)) (by rw [zu_s]; omega) ?_ (fun x hx => ?_) (fun m2 a1 a2 a4 a5 => ?_)
        · rw [zu_j (by decide), zu_s]
          show _ = if i < 2 then _ else _
          rw [if_pos (by omega)]
        · by_cases e : x = i
          · rw [e]; exact hl
          · exact hall x (by omega)
        · rw [show p + ((i + 1 : Nat) : Int) = p + i + 1 by omega, ← zrun_t hl] at a4 a5
          exact hP m2 a1 a2 a4 a5
