/-- what the reader needs -/
def mB (m : zM) : Prop := ptM m ∧ (0 ≤ m aM f_end ∧ m aM f_end ≤ 400) ∧ (m aM f_withNumbers = 0 ∨ m aM f_withNumbers = 1) ∧ mWd m
abbrev mBad (m : zM) (k p : Int) : zM := zu (zu m aM f_wrong k) aM f_wrongAt p
theorem mBad_w {m : zM} {k p : Int} : mBad m k p aM f_wrong = k := (zu_j (by decide)).trans zu_s
theorem mBad_a {m : zM} {k p : Int} : mBad m k p aM f_wrongAt = p := zu_s
theorem kMis_ne {K : zK} {p : Int} : kMis K p ≠ 0 := by unfold kMis; split <;> decide
theorem kMis_pos {K : zK} {p : Int} : 0 < kMis K p := by unfold kMis; split <;> decide
abbrev kWd (K : zK) (p v : Int) : Prop := kSo K p = 1 ∧ kW K p = v
abbrev kSn (K : zK) (p v : Int) : Prop := kSo K p = 3 ∧ K.1 p = v
/-- what a reader changes -/
def fTx : List (Int × Option Int) := [(aM, some f_place), (aM, some f_next), (aM, some f_sort), (aM, some f_word), (aM, some f_number), (aM, some f_size), (aM, some f_wrong), (aM, some f_wrongAt), (a_c, none), (a_mate, none), (a_toldCodes, none), (aM, some f_wide)]
theorem mB_fr {m m' : zM} (h : mB m) (f : zfr fTx m m') : mB m' := by
  refine ⟨fun q hq => ?_, ?_, ?_, ?_⟩
  · have hq2 : ∀ q ∈ mPt, fTx.all (fun r => r.1 != aM || (r.2 != none && r.2 != some q.1)) = true := by decide
    rw [zfr_at f (hq2 q hq)]
    exact h.1 q hq
  · rw [zfr_at (j := f_end) f (by decide)]; exact h.2.1
  · rw [zfr_at (j := f_withNumbers) f (by decide)]; exact h.2.2.1
  · unfold mWd; rw [zfr_cell (a := a_words) f (by decide)]; exact h.2.2.2
theorem mTk_K {m m' : zM} {p : Int} (h : mTk m p) (hK : mK m' = mK m) (h1 : m' aM f_place = m aM f_place) (h2 : m' aM f_next = m aM f_next) (h3 : m' aM f_sort = m aM f_sort) (h4 : m' aM f_size = m aM f_size) (h5 : m' aM f_word = m aM f_word) (h6 : m' aM f_number = m aM f_number) : mTk m' p := by
  unfold mTk at h ⊢
  rw [hK, h1, h2, h3, h4, h5, h6]
  exact h
theorem x_mustT (d : Nat) {E : zE} {m : zM} (hE : shM E) (hB : mB m)  (g k : Int) (hg : g ≠ 0 ∨ 0 < m aM f_wrong) : zR zX12_must (d) [zP aM, zI g, zI k] m E E (fun r m' => r = none ∧ m = m') := by
  have hm := hB.1
  refine zR_go [zP aM, zI g, zI k] (by decide +kernel) (Nat.le_of_ble_eq_true rfl) rfl rfl ?_
  refine z_iload_n dX12_must_0 rfl ?_
  refine z_if_ne (tgt := 11) dX12_must_1 rfl (fun h1 => ?_) (fun h1 => ?_)
  · refine z_vret dX12_must_11 rfl rfl ?_
    exact ⟨rfl, rfl⟩
  · refine z_aload_n dX12_must_4 rfl ?_
    refine z_gI f_wrong rfl flX12_487 dX12_must_5 (sh_M hE) rfl ?_
    refine z_if_le (tgt := 12) dX12_must_8 rfl (fun h => absurd h (by omega)) (fun h8 => ?_)
    refine z_vret dX12_must_11 rfl rfl ?_
    exact ⟨rfl, rfl⟩

theorem x_must2 (d : Nat) {E : zE} {m : zM} (hE : shM E) (hB : mB m) (hw : m aM f_wrong = 0) (p : Int) (ht : mTk m p) : zR zX12_must (d) [zP aM, zI 0, zI 2] m E E (fun r m' => r = none ∧ mBad m (kMis (mK m) p) p = m') := by
  have hm := hB.1
  refine zR_go [zP aM, zI 0, zI 2] (by decide +kernel) (Nat.le_of_ble_eq_true rfl) rfl rfl ?_
  refine z_iload_n dX12_must_0 rfl ?_
  refine z_if_ne (tgt := 11) dX12_must_1 rfl (fun h => absurd h (by decide)) (fun h1 => ?_)
  refine z_aload_n dX12_must_4 rfl ?_
  refine z_gI f_wrong rfl flX12_487 dX12_must_5 (sh_M hE) rfl ?_
  refine z_if_le (tgt := 12) dX12_must_8 rfl (fun h8 => ?_) (fun h => absurd (by omega) h)
  refine z_aload_n dX12_must_12 rfl ?_
  refine z_iload_n dX12_must_13 rfl ?_
  refine z_iconst dX12_must_14 (by decide) ?_
  refine z_icmp_ne (tgt := 30) dX12_must_15 rfl (fun h => absurd h (by decide)) (fun h15 => ?_)
  refine z_aload_n dX12_must_18 rfl ?_
  refine z_gIv f_sort rfl flX12_471 dX12_must_19 (sh_M hE) rfl ht.2.2.2.1 ?_
  refine z_iconst dX12_must_22 (by decide) ?_
  refine z_icmp_ne (tgt := 30) dX12_must_23 rfl (fun h23 => ?_) (fun h23 => ?_)
  · refine z_iload_n dX12_must_30 rfl ?_
    refine z_pI f_wrong rfl (fpX12_487 _) dX12_must_31 (sh_M hE) rfl ?_
    refine z_aload_n dX12_must_34 rfl ?_
    refine z_aload_n dX12_must_35 rfl ?_
    refine z_gIv f_place rfl flX12_462 dX12_must_36 (sh_M hE) rfl ((zu_j (by decide)).trans ht.2.1) ?_
    refine z_pI f_wrongAt rfl (fpX12_490 _) dX12_must_39 (sh_M hE) rfl ?_
    refine z_vret dX12_must_42 rfl rfl ?_
    refine ⟨rfl, ?_⟩
    unfold mBad
    unfold kMis
    rw [if_neg (by omega)]
  · refine z_iconst dX12_must_26 (by decide) ?_
    refine z_goto (tgt := 31) dX12_must_27 rfl ?_
    refine z_pI f_wrong rfl (fpX12_487 _) dX12_must_31 (sh_M hE) rfl ?_
    refine z_aload_n dX12_must_34 rfl ?_
    refine z_aload_n dX12_must_35 rfl ?_
    refine z_gIv f_place rfl flX12_462 dX12_must_36 (sh_M hE) rfl ((zu_j (by decide)).trans ht.2.1) ?_
    refine z_pI f_wrongAt rfl (fpX12_490 _) dX12_must_39 (sh_M hE) rfl ?_
    refine z_vret dX12_must_42 rfl rfl ?_
    refine ⟨rfl, ?_⟩
    unfold mBad
    unfold kMis
    rw [if_pos (by omega)]

theorem x_mustK (d : Nat) {E : zE} {m : zM} (hE : shM E) (hB : mB m) (hw : m aM f_wrong = 0) (p : Int) (ht : mTk m p) (k : Int) (hk : k ≠ 2) : zR zX12_must (d) [zP aM, zI 0, zI k] m E E (fun r m' => r = none ∧ mBad m (k) p = m') := by
  have hm := hB.1
  refine zR_go [zP aM, zI 0, zI k] (by decide +kernel) (Nat.le_of_ble_eq_true rfl) rfl rfl ?_
  refine z_iload_n dX12_must_0 rfl ?_
  refine z_if_ne (tgt := 11) dX12_must_1 rfl (fun h => absurd h (by decide)) (fun h1 => ?_)
  refine z_aload_n dX12_must_4 rfl ?_
  refine z_gI f_wrong rfl flX12_487 dX12_must_5 (sh_M hE) rfl ?_
  refine z_if_le (tgt := 12) dX12_must_8 rfl (fun h8 => ?_) (fun h => absurd (by omega) h)
  refine z_aload_n dX12_must_12 rfl ?_
  refine z_iload_n dX12_must_13 rfl ?_
  refine z_iconst dX12_must_14 (by decide) ?_
  refine z_icmp_ne (tgt := 30) dX12_must_15 rfl (fun h15 => ?_) (fun h => absurd hk h)
  refine z_iload_n dX12_must_30 rfl ?_
  refine z_pI f_wrong rfl (fpX12_487 _) dX12_must_31 (sh_M hE) rfl ?_
  refine z_aload_n dX12_must_34 rfl ?_
  refine z_aload_n dX12_must_35 rfl ?_
  refine z_gIv f_place rfl flX12_462 dX12_must_36 (sh_M hE) rfl ((zu_j (by decide)).trans ht.2.1) ?_
  refine z_pI f_wrongAt rfl (fpX12_490 _) dX12_must_39 (sh_M hE) rfl ?_
  refine z_vret dX12_must_42 rfl rfl ?_
  exact ⟨rfl, rfl⟩

theorem x_isWord (d : Nat) {E : zE} {m : zM} (hE : shM E) (hB : mB m) (hw : m aM f_wrong = 0) (p : Int) (ht : mTk m p) (w v : Int) (w0 : 0 ≤ w) (w8 : w < 8) (hv : m a_words w = v) : zR zX12_isWord (d) [zP aM, zI w] m E E (fun r m' => r = some (zI (zb (kWd (mK m) p v))) ∧ m = m') := by
  have hm := hB.1
  refine zR_go [zP aM, zI w] (by decide +kernel) (Nat.le_of_ble_eq_true rfl) rfl rfl ?_
  refine z_aload_n dX12_isWord_0 rfl ?_
  refine z_gI f_wrong rfl flX12_487 dX12_isWord_1 (sh_M hE) rfl ?_
  refine z_if_ne (tgt := 33) dX12_isWord_4 rfl (fun h => absurd h (by omega)) (fun h4 => ?_)
  refine z_aload_n dX12_isWord_7 rfl ?_
  refine z_gIv f_sort rfl flX12_471 dX12_isWord_8 (sh_M hE) rfl ht.2.2.2.1 ?_
  refine z_iconst dX12_isWord_11 (by decide) ?_
  refine z_icmp_ne (tgt := 33) dX12_isWord_12 rfl (fun h12 => ?_) (fun h12 => ?_)
  · refine z_iconst dX12_isWord_33 (by decide) ?_
    refine z_zret dX12_isWord_34 rfl (by first | omega | exact zb01 _) rfl ?_
    refine ⟨?_, rfl⟩
    rw [zb_f (fun h => h12 h.1)]
  · refine z_aload_n dX12_isWord_15 rfl ?_
    refine z_gJv f_word rfl flX12_474 dX12_isWord_16 (sh_M hE) rfl (ht.2.2.2.2.2.1 (Decidable.not_not.mp h12)) ?_
    refine z_aload_n dX12_isWord_19 rfl ?_
    refine z_gP 51 rfl (r := a_words) flX12_102 dX12_isWord_20 (sh_M hE) rfl (pt_words hm) (by decide) ?_
    refine z_iload_n dX12_isWord_23 rfl ?_
    refine z_lalv dX12_isWord_24 (sh_words hE) (by omega) (by omega) hv ?_
    refine z_lcmp dX12_isWord_25 ?_
    refine z_if_ne (tgt := 33) dX12_isWord_26 rfl (fun h26 => ?_) (fun h26 => ?_)
    · refine z_iconst dX12_isWord_33 (by decide) ?_
      refine z_zret dX12_isWord_34 rfl (by first | omega | exact zb01 _) rfl ?_
      refine ⟨?_, rfl⟩
      rw [zb_f (fun h => h26 (zcmp_eq.mpr h.2))]
    · refine z_iconst dX12_isWord_29 (by decide) ?_
      refine z_goto (tgt := 34) dX12_isWord_30 rfl ?_
      refine z_zret dX12_isWord_34 rfl (by first | omega | exact zb01 _) rfl ?_
      refine ⟨?_, rfl⟩
      rw [zb_t ⟨Decidable.not_not.mp h12, zcmp_eq.mp (Decidable.not_not.mp h26)⟩]

theorem y_isWord (d : Nat) {E : zE} {m : zM} (hE : shM E) (hB : mB m) (hw : 0 < m aM f_wrong) (w : Int) : zR zX12_isWord (d) [zP aM, zI w] m E E (fun r m' => r = some (zI 0) ∧ m = m') := by
  have hm := hB.1
  refine zR_go [zP aM, zI w] (by decide +kernel) (Nat.le_of_ble_eq_true rfl) rfl rfl ?_
  refine z_aload_n dX12_isWord_0 rfl ?_
  refine z_gI f_wrong rfl flX12_487 dX12_isWord_1 (sh_M hE) rfl ?_
  refine z_if_ne (tgt := 33) dX12_isWord_4 rfl (fun h4 => ?_) (fun h => absurd (by omega) h)
  refine z_iconst dX12_isWord_33 (by decide) ?_
  refine z_zret dX12_isWord_34 rfl (by first | omega | exact zb01 _) rfl ?_
  exact ⟨rfl, rfl⟩

theorem x_isSign (d : Nat) {E : zE} {m : zM} (hE : shM E) (hB : mB m) (hw : m aM f_wrong = 0) (p : Int) (ht : mTk m p) (v : Int) (v0 : 10 ≤ v) (v1 : v ≤ 122) : zR zX12_isSign (d) [zP aM, zI v] m E E (fun r m' => r = some (zI (zb (kSn (mK m) p v))) ∧ m = m') := by
  have hm := hB.1
  refine zR_go [zP aM, zI v] (by decide +kernel) (Nat.le_of_ble_eq_true rfl) rfl rfl ?_
  refine z_aload_n dX12_isSign_0 rfl ?_
  refine z_gI f_wrong rfl flX12_487 dX12_isSign_1 (sh_M hE) rfl ?_
  refine z_if_ne (tgt := 32) dX12_isSign_4 rfl (fun h => absurd h (by omega)) (fun h4 => ?_)
  refine z_aload_n dX12_isSign_7 rfl ?_
  refine z_gIv f_sort rfl flX12_471 dX12_isSign_8 (sh_M hE) rfl ht.2.2.2.1 ?_
  refine z_iconst dX12_isSign_11 (by decide) ?_
  refine z_icmp_ne (tgt := 32) dX12_isSign_12 rfl (fun h12 => ?_) (fun h12 => ?_)
  · refine z_iconst dX12_isSign_32 (by decide) ?_
    refine z_zret dX12_isSign_33 rfl (by first | omega | exact zb01 _) rfl ?_
    refine ⟨?_, rfl⟩
    rw [zb_f (fun h => h12 h.1)]
  · have hpe : p < m aM f_end := kSo_lt (mK_ok hB.2.1) (by omega)
    have hve := mV_eq (t := m a_tape) (v := v) ht.1 hpe v0 v1
    have hen := hB.2.1
    have hp0 := ht.1
    refine z_aload_n dX12_isSign_15 rfl ?_
    refine z_gP 36 rfl (r := a_tape) flX12_75 dX12_isSign_16 (sh_M hE) rfl (pt_tape hm) (by decide) ?_
    refine z_aload_n dX12_isSign_19 rfl ?_
    refine z_gIv f_place rfl flX12_462 dX12_isSign_20 (sh_M hE) rfl ht.2.1 ?_
    refine z_bald dX12_isSign_23 (sh_tape hE) (by omega) (by omega) ?_
    refine z_iload_n dX12_isSign_24 rfl ?_
    refine z_icmp_ne (tgt := 32) dX12_isSign_25 rfl (fun h25 => ?_) (fun h25 => ?_)
    · refine z_iconst dX12_isSign_32 (by decide) ?_
      refine z_zret dX12_isSign_33 rfl (by first | omega | exact zb01 _) rfl ?_
      refine ⟨?_, rfl⟩
      rw [zb_f (fun h => h25 (hve.mp h.2))]
    · refine z_iconst dX12_isSign_28 (by decide) ?_
      refine z_goto (tgt := 33) dX12_isSign_29 rfl ?_
      refine z_zret dX12_isSign_33 rfl (by first | omega | exact zb01 _) rfl ?_
      refine ⟨?_, rfl⟩
      rw [zb_t ⟨Decidable.not_not.mp h12, hve.mpr (Decidable.not_not.mp h25)⟩]

theorem y_isSign (d : Nat) {E : zE} {m : zM} (hE : shM E) (hB : mB m) (hw : 0 < m aM f_wrong) (v : Int) : zR zX12_isSign (d) [zP aM, zI v] m E E (fun r m' => r = some (zI 0) ∧ m = m') := by
  have hm := hB.1
  refine zR_go [zP aM, zI v] (by decide +kernel) (Nat.le_of_ble_eq_true rfl) rfl rfl ?_
  refine z_aload_n dX12_isSign_0 rfl ?_
  refine z_gI f_wrong rfl flX12_487 dX12_isSign_1 (sh_M hE) rfl ?_
  refine z_if_ne (tgt := 32) dX12_isSign_4 rfl (fun h4 => ?_) (fun h => absurd (by omega) h)
  refine z_iconst dX12_isSign_32 (by decide) ?_
  refine z_zret dX12_isSign_33 rfl (by first | omega | exact zb01 _) rfl ?_
  exact ⟨rfl, rfl⟩

theorem x_reads (d : Nat) {E : zE} {m : zM} (hE : shM E) (hB : mB m) (hw : m aM f_wrong = 0) (p : Int) (ht : mTk m p) (hp : p < m aM f_end) : zR zX12_reads (d + 2) [zP aM] m E E (fun r m' => r = none ∧ zfr fRd m m' ∧ mTk m' (kR (mK m) p)) := by
  have h := kNx_gt (p := p) (mK_ok hB.2.1)
  have h2 := h.2.1 hp
  have h3 : (mK m).2.1 ≤ 400 := hB.2.1.2
  have h4 := ht.1
  have e := ht.2.2.1
  have g := r_reads d hE hB.1 hB.2.1 hB.2.2.1 (by rw [e]; omega)
  rw [e] at g
  exact g

theorem x_takesT (d : Nat) {E : zE} {m : zM} (hE : shM E) (hB : mB m) (hw : m aM f_wrong = 0) (p : Int) (ht : mTk m p) (hp : p < m aM f_end) : zR zX12_takes (d + 3) [zP aM, zI 1] m E E (fun r m' => r = none ∧ zfr fRd m m' ∧ mTk m' (kR (mK m) p)) := by
  have hm := hB.1
  refine zR_go [zP aM, zI 1] (by decide +kernel) (Nat.le_of_ble_eq_true rfl) rfl rfl ?_
  refine z_aload_n dX12_takes_0 rfl ?_
  refine z_iload_n dX12_takes_1 rfl ?_
  refine z_iconst dX12_takes_2 (by decide) ?_
  refine z_callV mlX12_493 dX12_takes_3 (sh_M hE) (av := [_, _]) rfl rfl (Nat.le_of_ble_eq_true rfl) (x_mustT _ hE hB 1 2 (Or.inl (by decide))) (Nat.le_refl _) (Nat.le_refl _) (Nat.le_refl _) (Nat.le_refl _) ?_
  rintro _ _ ⟨rfl, rfl⟩
  refine z_aload_n dX12_takes_6 rfl ?_
  refine z_gI f_wrong rfl flX12_487 dX12_takes_7 (sh_M hE) rfl ?_
  refine z_if_ne (tgt := 17) dX12_takes_10 rfl (fun h => absurd h (by omega)) (fun h10 => ?_)
  refine z_aload_n dX12_takes_13 rfl ?_
  refine z_callV mlX12_497 dX12_takes_14 (sh_M hE) (av := _) rfl rfl (Nat.le_of_ble_eq_true rfl) (x_reads _ hE hB hw p ht hp) (Nat.le_refl _) (Nat.le_refl _) (Nat.le_refl _) (Nat.le_refl _) ?_
  rintro _ m1 ⟨rfl, f1, t1⟩
  refine z_vret dX12_takes_17 rfl rfl ?_
  exact ⟨rfl, f1, t1⟩

theorem x_takesF (d : Nat) {E : zE} {m : zM} (hE : shM E) (hB : mB m) (hw : m aM f_wrong = 0) (p : Int) (ht : mTk m p) : zR zX12_takes (d + 3) [zP aM, zI 0] m E E (fun r m' => r = none ∧ mBad m (kMis (mK m) p) p = m') := by
  have hm := hB.1
  refine zR_go [zP aM, zI 0] (by decide +kernel) (Nat.le_of_ble_eq_true rfl) rfl rfl ?_
  refine z_aload_n dX12_takes_0 rfl ?_
  refine z_iload_n dX12_takes_1 rfl ?_
  refine z_iconst dX12_takes_2 (by decide) ?_
  refine z_callV mlX12_493 dX12_takes_3 (sh_M hE) (av := [_, _]) rfl rfl (Nat.le_of_ble_eq_true rfl) (x_must2 _ hE hB hw p ht) (Nat.le_refl _) (Nat.le_refl _) (Nat.le_refl _) (Nat.le_refl _) ?_
  rintro _ _ ⟨rfl, rfl⟩
  refine z_aload_n dX12_takes_6 rfl ?_
  refine z_gI f_wrong rfl flX12_487 dX12_takes_7 (sh_M hE) rfl ?_
  refine z_if_ne (tgt := 17) dX12_takes_10 rfl (fun h10 => ?_) (fun h => absurd (by rw [mBad_w]; exact kMis_ne) h)
  refine z_vret dX12_takes_17 rfl rfl ?_
  exact ⟨rfl, rfl⟩

theorem y_takes (d : Nat) {E : zE} {m : zM} (hE : shM E) (hB : mB m) (hw : 0 < m aM f_wrong) (g : Int) : zR zX12_takes (d + 3) [zP aM, zI g] m E E (fun r m' => r = none ∧ m = m') := by
  have hm := hB.1
  refine zR_go [zP aM, zI g] (by decide +kernel) (Nat.le_of_ble_eq_true rfl) rfl rfl ?_
  refine z_aload_n dX12_takes_0 rfl ?_
  refine z_iload_n dX12_takes_1 rfl ?_
  refine z_iconst dX12_takes_2 (by decide) ?_
  refine z_callV mlX12_493 dX12_takes_3 (sh_M hE) (av := [_, _]) rfl rfl (Nat.le_of_ble_eq_true rfl) (x_mustT _ hE hB g 2 (Or.inr hw)) (Nat.le_refl _) (Nat.le_refl _) (Nat.le_refl _) (Nat.le_refl _) ?_
  rintro _ _ ⟨rfl, rfl⟩
  refine z_aload_n dX12_takes_6 rfl ?_
  refine z_gI f_wrong rfl flX12_487 dX12_takes_7 (sh_M hE) rfl ?_
  refine z_if_ne (tgt := 17) dX12_takes_10 rfl (fun h10 => ?_) (fun h => absurd (by omega) h)
  refine z_vret dX12_takes_17 rfl rfl ?_
  exact ⟨rfl, rfl⟩
