def zevr (p : Int → Bool) : Nat → Int → Bool
  | 0, _ => true
  | j + 1, k => p k && zevr p j (k + 1)
theorem zevr_t {p : Int → Bool} {j : Nat} {k : Int} (h : p k = true) : zevr p (j + 1) k = zevr p j (k + 1) := by simp [zevr, h]
theorem zevr_f {p : Int → Bool} {j : Nat} {k : Int} (h : p k = false) : zevr p (j + 1) k = false := by simp [zevr, h]
/-- which pairing is told -/
def tWh (T : zT) (mt : Int → Int) : Int := zfst (fun k => zevr (fun i => decide (tMt T k i = mt i)) T.2.2.2.toNat 0) (tPairs T).length 0
def pPairs (K : zK) (n : Int) (may : Int → Int → Bool) : Nat → (Int → Int) → Int → Int → zPq
  | 0, mt, w, p => (0, 0, mt, w, p)
  | j + 1, mt, w, p => if kSo K p = 0 then (0, 0, mt, w, p) else if (pTwo K n may mt w p).1 ≠ 0 then pTwo K n may mt w p else pPairs K n may j (pTwo K n may mt w p).2.2.1 (pTwo K n may mt w p).2.2.2.1 (pTwo K n may mt w p).2.2.2.2
theorem pPairs_s (K : zK) (n : Int) (may : Int → Int → Bool) (j : Nat) (mt : Int → Int) (w p : Int) : pPairs K n may (j + 1) mt w p = if kSo K p = 0 then (0, 0, mt, w, p) else if (pTwo K n may mt w p).1 ≠ 0 then pTwo K n may mt w p else pPairs K n may j (pTwo K n may mt w p).2.2.1 (pTwo K n may mt w p).2.2.2.1 (pTwo K n may mt w p).2.2.2.2 := rfl
theorem pTwo_ok {K : zK} {n : Int} {may : Int → Int → Bool} {mt : Int → Int} {w p : Int} (hk : kOk K) : 0 ≤ (pTwo K n may mt w p).1 ∧ ((pTwo K n may mt w p).1 = 0 → (p + 1 ≤ (pTwo K n may mt w p).2.2.2.2 ∧ ((pTwo K n may mt w p).2.2.2.1 = w + 1 ∧ w < n / 2))) := by
  unfold pTwo
  split
  · exact ⟨kMis_nn, fun h => absurd h kMis_ne⟩
  split
  · exact ⟨by show (0 : Int) ≤ 3; decide, fun h => absurd (show (3 : Int) = 0 from h) (by decide)⟩
  split
  · exact ⟨by show (0 : Int) ≤ 5; decide, fun h => absurd (show (5 : Int) = 0 from h) (by decide)⟩
  split
  · exact ⟨by show (0 : Int) ≤ 6; decide, fun h => absurd (show (6 : Int) = 0 from h) (by decide)⟩
  rename_i hw
  split
  · exact ⟨kMis_nn, fun h => absurd h kMis_ne⟩
  split
  · exact ⟨kMis_nn, fun h => absurd h kMis_ne⟩
  split
  · exact ⟨by show (0 : Int) ≤ 3; decide, fun h => absurd (show (3 : Int) = 0 from h) (by decide)⟩
  split
  · exact ⟨by show (0 : Int) ≤ 4; decide, fun h => absurd (show (4 : Int) = 0 from h) (by decide)⟩
  split
  · exact ⟨by show (0 : Int) ≤ 5; decide, fun h => absurd (show (5 : Int) = 0 from h) (by decide)⟩
  split
  · exact ⟨kMis_nn, fun h => absurd h kMis_ne⟩
  have g1 := kR_ge (p := p) hk
  have g2 := kR_ge (p := kR K p) hk
  have g3 := kR_ge (p := kR K (kR K p)) hk
  have g4 := kR_ge (p := kR K (kR K (kR K p))) hk
  exact ⟨Int.le_refl _, fun _ => ⟨by show p + 1 ≤ kR K (kR K (kR K (kR K p))); omega, rfl, by omega⟩⟩
theorem l_whichPairing_in (d : Nat) {E : zE} {m : zM} {P : Option zV → zM → Prop} (hE : shM E) (hm : ptM m) (mt : Int → Int) (hk : mOK m) (hL : mL m) (hwt : ∀ i, 0 ≤ i → i < m aM f_letters → m a_wantedMate i = mt i) (hn0 : 0 ≤ m aM f_letters ∧ m aM f_letters ≤ 12) (k : Int) (hk0 : 0 ≤ k) (hk1 : k < ((tPairs (mT m)).length : Int))  : ∀ (j : Nat) (i : Int), (0 ≤ i) → (i + j = m aM f_letters) → (zA zX12_whichPairing (d + 11) E E P 57 [zP aM, zI k, zI (zb (zevr (fun i => decide (tMt (mT m) k i = mt i)) j i = true)), zN] [] m E) → zA zX12_whichPairing (d + 11) E E P 18 [zP aM, zI k, zI 1, zI i] [] m E := by
  intro j
  induction j with
  | zero =>
    intro i h0 hi hP
    have hlen := mL_len hk hL
    refine z_iload_n dX12_whichPairing_18 rfl ?_
    refine z_aload_n dX12_whichPairing_19 rfl ?_
    refine z_gI f_letters rfl flX12_124 dX12_whichPairing_20 (sh_M hE) rfl ?_
    refine z_icmp_ge (tgt := 57) dX12_whichPairing_23 rfl (fun h23 => ?_) (fun h => absurd (by omega) h)
    refine zA_wk [_, _, _, zN] (by exact ⟨Or.inr rfl, Or.inr rfl, Or.inr rfl, Or.inl rfl, trivial⟩) ?_
    rw [show zb (zevr (fun i => decide (tMt (mT m) k i = mt i)) 0 i = true) = 1 from zb_t rfl] at hP
    exact hP
  | succ j ih =>
    intro i h0 hi hP
    have hlen := mL_len hk hL
    refine z_iload_n dX12_whichPairing_18 rfl ?_
    refine z_aload_n dX12_whichPairing_19 rfl ?_
    refine z_gI f_letters rfl flX12_124 dX12_whichPairing_20 (sh_M hE) rfl ?_
    refine z_icmp_ge (tgt := 57) dX12_whichPairing_23 rfl (fun h => absurd h (by omega)) (fun h23 => ?_)
    refine z_iload_n dX12_whichPairing_26 rfl ?_
    refine z_if_eq (tgt := 57) dX12_whichPairing_27 rfl (fun h => absurd h (by decide)) (fun h27 => ?_)
    refine z_aload_n dX12_whichPairing_30 rfl ?_
    refine z_iload_n dX12_whichPairing_31 rfl ?_
    refine z_iload_n dX12_whichPairing_32 rfl ?_
    refine z_callV mlX12_200 dX12_whichPairing_33 (sh_M hE) (av := [_, _]) rfl rfl (Nat.le_of_ble_eq_true rfl) (r_mateOf _ hE hm k i hk0 (by omega) h0 (by omega)) (Nat.le_refl _) (Nat.le_refl _) (Nat.le_refl _) (Nat.le_refl _) ?_
    rw [(mL_at hk hL hk0 hk1).1 i h0 (by omega)]
    rintro _ _ ⟨rfl, rfl⟩
    refine z_aload_n dX12_whichPairing_36 rfl ?_
    refine z_gP 52 rfl (r := a_wantedMate) flX12_105 dX12_whichPairing_37 (sh_M hE) rfl (pt_wantedMate hm) (by decide) ?_
    refine z_iload_n dX12_whichPairing_40 rfl ?_
    refine z_ialv dX12_whichPairing_41 (sh_wantedMate hE) (by omega) (by omega) (hwt i h0 (by omega)) ?_
    refine z_icmp_ne (tgt := 49) dX12_whichPairing_42 rfl (fun h42 => ?_) (fun h42 => ?_)
    · refine z_iconst dX12_whichPairing_49 (by decide) ?_
      refine z_ist 2 dX12_whichPairing_50 rfl (Nat.le_of_ble_eq_true rfl) ?_
      refine z_inc dX12_whichPairing_51 rfl (by omega) ?_
      refine z_goto (tgt := 18) dX12_whichPairing_54 rfl ?_
      try dsimp only [zs0, zsI, zsP, zsN, zsJ, zsS, zst2, Nat.reduceAdd]
      refine z_iload_n dX12_whichPairing_18 rfl ?_
      refine z_aload_n dX12_whichPairing_19 rfl ?_
      refine z_gI f_letters rfl flX12_124 dX12_whichPairing_20 (sh_M hE) rfl ?_
      refine z_icmp_ge (tgt := 57) dX12_whichPairing_23 rfl (fun h23 => ?_) (fun h23 => ?_)
      · refine zA_wk [_, _, _, zN] (by exact ⟨Or.inr rfl, Or.inr rfl, Or.inr rfl, Or.inl rfl, trivial⟩) ?_
        rw [zevr_f (by rw [decide_eq_false_iff_not]; exact h42), zb_f (by decide)] at hP
        exact hP
      · refine z_iload_n dX12_whichPairing_26 rfl ?_
        refine z_if_eq (tgt := 57) dX12_whichPairing_27 rfl (fun h27 => ?_) (fun h => absurd (by decide) h)
        refine zA_wk [_, _, _, zN] (by exact ⟨Or.inr rfl, Or.inr rfl, Or.inr rfl, Or.inl rfl, trivial⟩) ?_
        rw [zevr_f (by rw [decide_eq_false_iff_not]; exact h42), zb_f (by decide)] at hP
        exact hP
    · refine z_iconst dX12_whichPairing_45 (by decide) ?_
      refine z_goto (tgt := 50) dX12_whichPairing_46 rfl ?_
      refine z_ist 2 dX12_whichPairing_50 rfl (Nat.le_of_ble_eq_true rfl) ?_
      refine z_inc dX12_whichPairing_51 rfl (by omega) ?_
      refine z_goto (tgt := 18) dX12_whichPairing_54 rfl ?_
      try dsimp only [zs0, zsI, zsP, zsN, zsJ, zsS, zst2, Nat.reduceAdd]
      rw [zevr_t (by rw [decide_eq_true_eq]; omega)] at hP
      exact ih (i + 1) (by omega) (by omega) hP

theorem l_whichPairing (d : Nat) {E : zE} {m : zM} {P : Option zV → zM → Prop} (hE : shM E) (hm : ptM m) (mt : Int → Int) (hk : mOK m) (hL : mL m) (hwt : ∀ i, 0 ≤ i → i < m aM f_letters → m a_wantedMate i = mt i) (hn0 : 0 ≤ m aM f_letters ∧ m aM f_letters ≤ 12)  : ∀ (j : Nat) (k : Int), (0 ≤ k) → (k + j = ((tPairs (mT m)).length : Int)) → (P (some (zI (zfst (fun k => zevr (fun i => decide (tMt (mT m) k i = mt i)) (m aM f_letters).toNat 0) j k))) m) → zA zX12_whichPairing (d + 11) E E P 6 [zP aM, zI k, zN, zN] [] m E := by
  intro j
  induction j with
  | zero =>
    intro k h0 hk2 hP
    have hlen := mL_len hk hL
    refine z_iload_n dX12_whichPairing_6 rfl ?_
    refine z_aload_n dX12_whichPairing_7 rfl ?_
    refine z_gI f_laid rfl flX12_172 dX12_whichPairing_8 (sh_M hE) rfl ?_
    refine z_icmp_ge (tgt := 69) dX12_whichPairing_11 rfl (fun h11 => ?_) (fun h => absurd (by omega) h)
    refine z_iconst dX12_whichPairing_69 (by decide) ?_
    refine z_iret dX12_whichPairing_70 rfl rfl ?_
    exact hP
  | succ j ih =>
    intro k h0 hk2 hP
    have hlen := mL_len hk hL
    refine z_iload_n dX12_whichPairing_6 rfl ?_
    refine z_aload_n dX12_whichPairing_7 rfl ?_
    refine z_gI f_laid rfl flX12_172 dX12_whichPairing_8 (sh_M hE) rfl ?_
    refine z_icmp_ge (tgt := 69) dX12_whichPairing_11 rfl (fun h => absurd h (by omega)) (fun h11 => ?_)
    refine z_iconst dX12_whichPairing_14 (by decide) ?_
    refine z_ist 2 dX12_whichPairing_15 rfl (Nat.le_of_ble_eq_true rfl) ?_
    refine z_iconst dX12_whichPairing_16 (by decide) ?_
    refine z_ist 3 dX12_whichPairing_17 rfl (Nat.le_of_ble_eq_true rfl) ?_
    try dsimp only [zs0, zsI, zsP, zsN, zsJ, zsS, zst2, Nat.reduceAdd]
    refine l_whichPairing_in d hE hm mt hk hL hwt hn0 k h0 (by omega) (m aM f_letters).toNat 0 (by omega) (by omega) ?_
    refine z_iload_n dX12_whichPairing_57 rfl ?_
    refine z_ifz_eq (tgt := 63) dX12_whichPairing_58 rfl (fun h58 => ?_) (fun h58 => ?_)
    · refine z_inc dX12_whichPairing_63 rfl (by omega) ?_
      refine z_goto (tgt := 6) dX12_whichPairing_66 rfl ?_
      try dsimp only [zs0, zsI, zsP, zsN, zsJ, zsS, zst2, Nat.reduceAdd]
      refine zA_wk [_, _, zN, zN] (by exact ⟨Or.inr rfl, Or.inr rfl, Or.inl rfl, Or.inl rfl, trivial⟩) ?_
      rw [zfst_f (by simpa using h58)] at hP
      exact ih (k + 1) (by omega) (by omega) hP
    · refine z_iload_n dX12_whichPairing_61 rfl ?_
      refine z_iret dX12_whichPairing_62 rfl rfl ?_
      rw [zfst_t (by exact h58)] at hP
      exact hP

theorem q_whichPairing (d : Nat) {E : zE} {m : zM} (hE : shM E) (hI : mI m) (mt : Int → Int) (hwt : ∀ i, 0 ≤ i → i < m aM f_letters → m a_wantedMate i = mt i) : zR zX12_whichPairing (d + 11) [zP aM] m E E (fun r m' => r = some (zI (tWh (mT m) mt)) ∧ mI m' ∧ zfr fLays m m') := by
  have hm := hI.1.1
  refine zR_go [zP aM, zN, zN, zN] (by decide +kernel) (Nat.le_of_ble_eq_true rfl) rfl rfl ?_
  refine z_aload_n dX12_whichPairing_0 rfl ?_
  refine z_callV mlX12_194 dX12_whichPairing_1 (sh_M hE) (av := _) rfl rfl (Nat.le_of_ble_eq_true rfl) (q_lays _ hE hI) (Nat.le_refl _) (Nat.le_refl _) (Nat.le_refl _) (Nat.le_refl _) ?_
  rintro _ m1 ⟨rfl, hI1, f1, hL1⟩
  have hm1 := hI1.1.1
  have eT : mT m1 = mT m := mT_fr f1 (by decide)
  have en : m1 aM f_letters = m aM f_letters := congrArg (fun q => q.2.2.2) eT
  obtain ⟨_, _, hn1⟩ := mI_wl hI1
  refine z_iconst dX12_whichPairing_4 (by decide) ?_
  refine z_ist 1 dX12_whichPairing_5 rfl (Nat.le_of_ble_eq_true rfl) ?_
  try dsimp only [zs0, zsI, zsP, zsN, zsJ, zsS, zst2, Nat.reduceAdd]
  have hlen := mL_len hI1.1 hL1
  refine l_whichPairing d hE hm1 mt hI1.1 hL1 (fun i q0 q1 => by rw [zfr_cell (a := a_wantedMate) f1 (by decide)]; exact hwt i q0 (by omega)) hn1 (tPairs (mT m1)).length 0 (by omega) (by omega) ⟨?_, hI1, f1⟩
  rw [eT, en]
  rfl

theorem l_pairs_t (d : Nat) {E : zE} {P : Option zV → zM → Prop} (hE : shM E) (n : Int) : ∀ (j : Nat) (p : Int) (m : zM), mB m → m aM f_wrong = 0 → mTk m p → wfC (m a_c) → wfL (m a_c) (m a_what) (m a_pointOf) (m aM f_letters) → (0 ≤ m aM f_wide ∧ m aM f_wide ≤ 6) → 401 ≤ p + j → (∀ m2, mPq m m2 (pPairs (mK m) (m aM f_letters) (cMay (m a_c) (m a_what) (m a_pointOf)) j (m a_mate) (m aM f_wide) p) → zA zX12_pairs (d + 12) E E P 63 [zP aM, zI n, zN] [] m2 E) → zA zX12_pairs (d + 12) E E P 42 [zP aM, zI n, zN] [] m E := by
  intro j
  induction j with
  | zero =>
    intro p m hB hw ht hwf hwl hwd hj hP
    have hm := hB.1
    have hok := mK_ok hB.2.1
    have hz : kSo (mK m) p = 0 := Classical.byContradiction (fun h => by have h1 := kSo_lt hok h; have h2 := hB.2.1.2; have h3 : (mK m).2.1 = m aM f_end := rfl; omega)
    refine z_aload_n dX12_pairs_42 rfl ?_
    refine z_gIv f_wrong rfl flX12_487 dX12_pairs_43 (sh_M hE) rfl hw ?_
    refine z_if_ne (tgt := 63) dX12_pairs_46 rfl (fun h => absurd h (by omega)) (fun h46 => ?_)
    refine z_aload_n dX12_pairs_49 rfl ?_
    refine z_gIv f_sort rfl flX12_471 dX12_pairs_50 (sh_M hE) rfl ht.2.2.2.1 ?_
    refine z_if_eq (tgt := 63) dX12_pairs_53 rfl (fun h53 => ?_) (fun h => absurd hz h)
    exact hP m ⟨zfr_rf, hw, fun h => absurd rfl h, fun _ => ⟨rfl, rfl, ht⟩, fun x hx => rfl⟩
  | succ j ih =>
    intro p m hB hw ht hwf hwl hwd hj hP
    have hm := hB.1
    have hok := mK_ok hB.2.1
    refine z_aload_n dX12_pairs_42 rfl ?_
    refine z_gIv f_wrong rfl flX12_487 dX12_pairs_43 (sh_M hE) rfl hw ?_
    refine z_if_ne (tgt := 63) dX12_pairs_46 rfl (fun h => absurd h (by omega)) (fun h46 => ?_)
    refine z_aload_n dX12_pairs_49 rfl ?_
    refine z_gIv f_sort rfl flX12_471 dX12_pairs_50 (sh_M hE) rfl ht.2.2.2.1 ?_
    refine z_if_eq (tgt := 63) dX12_pairs_53 rfl (fun h53 => ?_) (fun h53 => ?_)
    · rw [pPairs_s, if_pos h53] at hP
      exact hP m ⟨zfr_rf, hw, fun h => absurd rfl h, fun _ => ⟨rfl, rfl, ht⟩, fun x hx => rfl⟩
    · refine z_aload_n dX12_pairs_56 rfl ?_
      refine z_callV mlX12_548 dX12_pairs_57 (sh_M hE) (av := _) rfl rfl (Nat.le_of_ble_eq_true rfl) (x_readsTwo _ hE hB hw p ht hwf hwl hwd) (Nat.le_refl _) (Nat.le_refl _) (Nat.le_refl _) (Nat.le_refl _) ?_
      rintro _ m2 ⟨rfl, g⟩
      rw [pPairs_s, if_neg h53] at hP
      have hok1 := pTwo_ok (K := mK m) (n := m aM f_letters) (may := cMay (m a_c) (m a_what) (m a_pointOf)) (mt := m a_mate) (w := m aM f_wide) (p := p) hok
      obtain ⟨r, er⟩ : ∃ r, r = (pTwo (mK m) (m aM f_letters) (cMay (m a_c) (m a_what) (m a_pointOf)) (m a_mate) (m aM f_wide) p) := ⟨_, rfl⟩
      rw [← er] at g hP hok1
      obtain ⟨z2, hw2, g2, g3, g4⟩ := g
      have hB2 := mB_fr hB (zfr_sub z2 (by decide))
      have hm2 : ptM m2 := hB2.1
      have hK2 : mK m2 = mK m := mK_fr z2 (by decide)
      have hT2 : mT m2 = mT m := mT_fr z2 (by decide)
      by_cases e0 : r.1 = 0
      · obtain ⟨gm, gw, gt⟩ := g3 e0
        obtain ⟨o1, o2⟩ := hok1.2 e0
        have c1 : m2 a_c = m a_c := congrArg (fun q => q.1) hT2
        have c2 : m2 a_what = m a_what := congrArg (fun q => q.2.1) hT2
        have c3 : m2 a_pointOf = m a_pointOf := congrArg (fun q => q.2.2.1) hT2
        have c4 : m2 aM f_letters = m aM f_letters := congrArg (fun q => q.2.2.2) hT2
        rw [if_neg (not_not_intro e0)] at hP
        refine z_goto (tgt := 42) dX12_pairs_60 rfl ?_
        refine ih r.2.2.2.2 m2 hB2 (hw2.trans e0) gt (by rw [c1]; exact hwf) (by rw [c1, c2, c3, c4]; exact hwl) (by have := hwl.1; omega) (by omega) (fun m3 g3' => hP m3 ?_)
        rw [hK2, c1, c2, c3, c4, gm, gw] at g3'
        exact ⟨zfr_tr z2 g3'.1, g3'.2.1, g3'.2.2.1, g3'.2.2.2.1, fun x hx => (g3'.2.2.2.2 x hx).trans (g4 x hx)⟩
      · have hnn := hok1.1
        rw [if_pos e0] at hP
        refine z_goto (tgt := 42) dX12_pairs_60 rfl ?_
        refine z_aload_n dX12_pairs_42 rfl ?_
        refine z_gIv f_wrong rfl flX12_487 dX12_pairs_43 (sh_M hE) rfl hw2 ?_
        refine z_if_ne (tgt := 63) dX12_pairs_46 rfl (fun h46 => ?_) (fun h => absurd (by omega) h)
        exact hP m2 ⟨z2, hw2, fun _ => g2 e0, fun h => absurd h e0, g4⟩
