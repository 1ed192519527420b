def tLet (T : zT) (st : Nat) : Nat := zmask (fun i : Nat => st.testBit (T.2.2.1 (i : Int)).toNat) T.2.2.2.toNat
theorem tLet_lt {T : zT} {st : Nat} (h : T.2.2.2 ≤ 12) : tLet T st < 4096 := by
  have h1 := zmask_lt (fun i : Nat => st.testBit (T.2.2.1 (i : Int)).toNat) T.2.2.2.toNat
  have h2 : 2 ^ T.2.2.2.toNat ≤ 2 ^ 12 := Nat.pow_le_pow_right (by decide) (by omega)
  unfold tLet
  omega
/-- nothing is paired yet; letters that are not in A go with themselves -/
def mtA (A : Nat) : Int → Int := fun x => if A.testBit x.toNat = true then -1 else x
theorem sMk_mtA (A : Nat) (x : Int) : sMk A (mtA A) x = if 0 ≤ x ∧ x < 12 then -1 else 0 := by
  unfold sMk mtA
  by_cases h : 0 ≤ x ∧ x < 12
  · rw [if_pos h, if_pos h]
    by_cases h2 : A.testBit x.toNat = true
    · rw [if_pos h2, if_pos h2]
    · rw [if_neg h2]
  · rw [if_neg h, if_neg h]
theorem sPA_0 {n : Nat} {may : Int → Int → Bool} {A : Nat} (h : n ≤ 12) : sPA n may A (mtA A) := fun i q0 q1 => by
  unfold mtA
  refine ⟨fun a => ?_, fun a => ?_⟩
  · rw [if_pos a]; exact ⟨by decide, fun b => by omega⟩
  · rw [if_neg (by rw [a]; decide)]
theorem sOp_mtA (A n : Nat) (h : n ≤ 12) : sOp (mtA A) n = 0 := zsum_z (fun i q0 q1 => zb_f (by unfold mtA; split <;> omega))
/-- the four counts of sub -/
noncomputable def tSubs (T : zT) (st : Nat) (w : Int) : Int := lS (fun r => tSub T st w (sMk (tLet T st) r)) (sLay T.2.2.2.toNat (cMay T.1 T.2.1 T.2.2.1) 6 (mtA (tLet T st)))
noncomputable def aSub (T : zT) (s w : Int) : Int × Int := if ¬ ((0 ≤ s ∧ s ≤ (tAll T.1 : Int)) ∧ (0 ≤ w ∧ w ≤ 3)) then (1, -1) else (0, tSubs T s.toNat w)
theorem l_sub_1 (d : Nat) {E : zE} {m : zM} {P : Option zV → zM → Prop} (hE : shM E) (hm : ptM m) (s w : Int)  : ∀ (j : Nat) (k : Int) (m1 : zM), (ptM m1) → (0 ≤ k) → (k + j = 4) → (zfr [(a_subs, none)] m m1) → (∀ i : Int, 0 ≤ i → i < k → m1 a_subs i = 0) → (∀ m2, ptM m2 → zfr [(a_subs, none)] m m2 → (∀ i : Int, 0 ≤ i → i < 4 → m2 a_subs i = 0) → zA zX12_sub d E E P 55 [zP aM, zI s, zI w, zN, zN] [] m2 E) → zA zX12_sub (d) E E P 37 [zP aM, zI s, zI w, zI k, zN] [] m1 E := by
  intro j
  induction j with
  | zero =>
    intro k m1 hm1 h0 hk hf hq hP
    refine z_iload_n dX12_sub_37 rfl ?_
    refine z_iconst dX12_sub_38 (by decide) ?_
    refine z_icmp_ge (tgt := 55) dX12_sub_39 rfl (fun h39 => ?_) (fun h => absurd (by omega) h)
    refine zA_wk [_, _, _, zN, zN] (by exact ⟨Or.inr rfl, Or.inr rfl, Or.inr rfl, Or.inl rfl, Or.inl rfl, trivial⟩) ?_
    exact hP m1 hm1 hf (fun i q1 q2 => hq i q1 (by omega))
  | succ j ih =>
    intro k m1 hm1 h0 hk hf hq hP
    refine z_iload_n dX12_sub_37 rfl ?_
    refine z_iconst dX12_sub_38 (by decide) ?_
    refine z_icmp_ge (tgt := 55) dX12_sub_39 rfl (fun h => absurd h (by omega)) (fun h39 => ?_)
    refine z_aload_n dX12_sub_42 rfl ?_
    refine z_gP 32 rfl (r := a_subs) flX12_69 dX12_sub_43 (sh_M hE) rfl (pt_subs hm1) (by decide) ?_
    refine z_iload_n dX12_sub_46 rfl ?_
    refine z_iconst dX12_sub_47 (by decide) ?_
    refine z_iast dX12_sub_48 (sh_subs hE) (by omega) (by omega) ?_
    refine z_inc dX12_sub_49 rfl (by omega) ?_
    refine z_goto (tgt := 37) dX12_sub_52 rfl ?_
    try dsimp only [zs0, zsI, zsP, zsN, zsJ, zsS, zst2, Nat.reduceAdd]
    exact ih (k + 1) _ (ptM_a hm1 (by decide)) (by omega) (by omega) (zfr_ua hf (by decide)) (fun i q1 q2 => by by_cases e : i = k; (rw [e, zu_s]); (rw [zu_j e]; exact hq i q1 (by omega))) hP

theorem l_sub_2 (d : Nat) {E : zE} {m : zM} {P : Option zV → zM → Prop} (hE : shM E) (hm : ptM m) (st : Nat) (w : Int) (hst : st < 256) (hw : wfC (m a_c)) (hl : wfL (m a_c) (m a_what) (m a_pointOf) (m aM f_letters))  : ∀ (j : Nat) (k : Nat), ((k : Int) + j = m aM f_letters) → (zA zX12_sub (d + 1) E E P 105 [zP aM, zI (st : Nat), zI w, zI (zmask (fun i : Nat => st.testBit (m a_pointOf (i : Int)).toNat) (k + j) : Nat), zN] [] m E) → zA zX12_sub (d + 1) E E P 65 [zP aM, zI (st : Nat), zI w, zI (zmask (fun i : Nat => st.testBit (m a_pointOf (i : Int)).toNat) k : Nat), zI (k : Nat)] [] m E := by
  intro j
  induction j with
  | zero =>
    intro k hk hP
    have hn0 := hl.1
    have hb3 := hw.2.2.1
    have hmk := zmask_lt (fun i : Nat => st.testBit (m a_pointOf (i : Int)).toNat) k
    have hp12 : 2 ^ k ≤ 2 ^ 12 := Nat.pow_le_pow_right (by decide) (by omega)
    refine z_iload dX12_sub_65 rfl ?_
    refine z_aload_n dX12_sub_67 rfl ?_
    refine z_gI f_letters rfl flX12_124 dX12_sub_68 (sh_M hE) rfl ?_
    refine z_icmp_ge (tgt := 105) dX12_sub_71 rfl (fun h71 => ?_) (fun h => absurd (by omega) h)
    refine zA_wk [_, _, _, _, zN] (by exact ⟨Or.inr rfl, Or.inr rfl, Or.inr rfl, Or.inr rfl, Or.inl rfl, trivial⟩) ?_
    exact hP
  | succ j ih =>
    intro k hk hP
    have hn0 := hl.1
    have hb3 := hw.2.2.1
    have hmk := zmask_lt (fun i : Nat => st.testBit (m a_pointOf (i : Int)).toNat) k
    have hp12 : 2 ^ k ≤ 2 ^ 12 := Nat.pow_le_pow_right (by decide) (by omega)
    refine z_iload dX12_sub_65 rfl ?_
    refine z_aload_n dX12_sub_67 rfl ?_
    refine z_gI f_letters rfl flX12_124 dX12_sub_68 (sh_M hE) rfl ?_
    refine z_icmp_ge (tgt := 105) dX12_sub_71 rfl (fun h => absurd h (by omega)) (fun h71 => ?_)
    refine z_iload_n dX12_sub_74 rfl ?_
    refine z_iload_n dX12_sub_75 rfl ?_
    refine z_aload_n dX12_sub_76 rfl ?_
    refine z_gP 6 rfl (r := a_pointOf) flX12_22 dX12_sub_77 (sh_M hE) rfl (pt_pointOf hm) (by decide) ?_
    refine z_iload dX12_sub_80 rfl ?_
    have hpk := hl.2 k (by omega) (by omega)
    refine z_ialv (v := (((m a_pointOf (k : Int)).toNat : Nat) : Int)) dX12_sub_82 (sh_pointOf hE) (by omega) (by omega) (by omega) ?_
    refine z_callS mlX12_158 dX12_sub_83 (av := [_, _]) rfl rfl (Nat.le_of_ble_eq_true rfl) (r_has _ hE hm st (m a_pointOf (k : Int)).toNat (by omega) (by omega)) (Nat.le_refl _) (Nat.le_refl _) (Nat.le_refl _) (Nat.le_refl _) ?_
    rintro _ _ ⟨rfl, rfl⟩
    refine z_ifz_eq (tgt := 96) dX12_sub_86 rfl (fun h86 => ?_) (fun h86 => ?_)
    · refine z_iconst dX12_sub_96 (by decide) ?_
      refine z_ior dX12_sub_97 ?_
      rw [zor_0 (by omega)]
      refine z_ist 3 dX12_sub_98 rfl (Nat.le_of_ble_eq_true rfl) ?_
      refine z_inc dX12_sub_99 rfl (by omega) ?_
      refine z_goto (tgt := 65) dX12_sub_102 rfl ?_
      try dsimp only [zs0, zsI, zsP, zsN, zsJ, zsS, zst2, Nat.reduceAdd]
      rw [show (k : Int) + 1 = ((k + 1 : Nat) : Int) by omega, ← zmask_n (f := (fun i : Nat => st.testBit (m a_pointOf (i : Int)).toNat)) (by simpa using h86)]
      exact ih (k + 1) (by omega) (by rw [show k + 1 + j = k + (j + 1) by omega]; exact hP)
    · refine z_iconst dX12_sub_89 (by decide) ?_
      refine z_iload dX12_sub_90 rfl ?_
      refine z_ishl dX12_sub_92 ?_
      refine z_goto (tgt := 97) dX12_sub_93 rfl ?_
      refine z_ior dX12_sub_97 ?_
      rw [zor_b (by omega) (by omega)]
      refine z_ist 3 dX12_sub_98 rfl (Nat.le_of_ble_eq_true rfl) ?_
      refine z_inc dX12_sub_99 rfl (by omega) ?_
      refine z_goto (tgt := 65) dX12_sub_102 rfl ?_
      try dsimp only [zs0, zsI, zsP, zsN, zsJ, zsS, zst2, Nat.reduceAdd]
      rw [show (k : Int) + 1 = ((k + 1 : Nat) : Int) by omega, ← zmask_s (f := (fun i : Nat => st.testBit (m a_pointOf (i : Int)).toNat)) (by simpa using h86)]
      exact ih (k + 1) (by omega) (by rw [show k + 1 + j = k + (j + 1) by omega]; exact hP)

theorem q_sub (d : Nat) {E : zE} {m : zM} (hE : shM E) (hI : mI m) (s w : Int)  : zR zX12_sub (d + 13) [zP aM, zI s, zI w] m E E (fun r m' => r = some (zI (aSub (mT m) s w).2) ∧ mQ m m' (aSub (mT m) s w).1) := by
  have hm := hI.1.1
  obtain ⟨hw, hl, hn⟩ := mI_wl hI
  have hq0 := mQ_rf hI
  have eT0 : mT m = mT m := rfl
  have t4 : (mT m).2.2.2 = m aM f_letters := rfl
  have t0 : (mT m).1 0 = m a_c 0 := rfl
  have t1 : (mT m).1 1 = m a_c 1 := rfl
  have t2 : (mT m).1 2 = m a_c 2 := rfl
  have b1 := hw.1
  have b2 := hw.2.1
  have b3 := hw.2.2.1
  refine zR_go [zP aM, zI s, zI w, zN, zN] (by decide +kernel) (Nat.le_of_ble_eq_true rfl) rfl rfl ?_
  refine z_aload_n dX12_sub_0 rfl ?_
  refine z_iload_n dX12_sub_1 rfl ?_
  refine z_iconst dX12_sub_2 (by decide) ?_
  refine z_aload_n dX12_sub_3 rfl ?_
  refine z_callV mlX12_292 dX12_sub_4 (sh_M hE) (av := _) rfl rfl (Nat.le_of_ble_eq_true rfl) (r_allPoints _ hE hm hw) (Nat.le_refl _) (Nat.le_refl _) (Nat.le_refl _) (Nat.le_refl _) ?_
  rintro _ _ ⟨rfl, rfl⟩
  refine z_callS mlX12_140 dX12_sub_7 (av := [_, _, _]) rfl rfl (Nat.le_of_ble_eq_true rfl) (r_isIn _ hE hm s 0 _) (Nat.le_refl _) (Nat.le_refl _) (Nat.le_refl _) (Nat.le_refl _) ?_
  rintro _ _ ⟨rfl, rfl⟩
  refine z_ifz_eq (tgt := 26) dX12_sub_10 rfl (fun h10 => ?_) (fun h10 => ?_)
  · refine z_iconst dX12_sub_26 (by decide) ?_
    refine z_callV mlX12_310 dX12_sub_27 (sh_M hE) (av := [_]) rfl rfl (Nat.le_of_ble_eq_true rfl) (r_is _ hE hm _) (Nat.le_refl _) (Nat.le_refl _) (Nat.le_refl _) (Nat.le_refl _) ?_
    rintro _ m1 ⟨rfl, e1⟩
    have hq1 : mQ m m1 1 := e1 ▸ mQ_is hq0
    have hI1 := hq1.1
    have hm1 := hI1.1.1
    have eT1 := mQ_T hq1
    have ec1 : m1 a_c = m a_c := congrArg (fun q => q.1) eT1
    have ew1 : m1 a_what = m a_what := congrArg (fun q => q.2.1) eT1
    have ep1 : m1 a_pointOf = m a_pointOf := congrArg (fun q => q.2.2.1) eT1
    have en1 : m1 aM f_letters = m aM f_letters := congrArg (fun q => q.2.2.2) eT1
    obtain ⟨hw1, hl1, hn1⟩ := mI_wl hI1
    refine z_ifz_ne (tgt := 35) dX12_sub_30 rfl (fun h => absurd h (by decide)) (fun h30 => ?_)
    refine z_iconst dX12_sub_33 (by decide) ?_
    refine z_iret dX12_sub_34 rfl rfl ?_
    have hAL : tAll (mT m).1 = 2 ^ (m a_c 2).toNat - 1 := rfl
    have eA : aSub (mT m) s w = (1, -1) := by unfold aSub; rw [if_pos (by omega)]
    rw [eA]
    exact ⟨rfl, hq1⟩
  · refine z_iload_n dX12_sub_13 rfl ?_
    refine z_iconst dX12_sub_14 (by decide) ?_
    refine z_iconst dX12_sub_15 (by decide) ?_
    refine z_callS mlX12_140 dX12_sub_16 (av := [_, _, _]) rfl rfl (Nat.le_of_ble_eq_true rfl) (r_isIn _ hE hm w 0 3) (Nat.le_refl _) (Nat.le_refl _) (Nat.le_refl _) (Nat.le_refl _) ?_
    rintro _ _ ⟨rfl, rfl⟩
    refine z_ifz_eq (tgt := 26) dX12_sub_19 rfl (fun h19 => ?_) (fun h19 => ?_)
    · refine z_iconst dX12_sub_26 (by decide) ?_
      refine z_callV mlX12_310 dX12_sub_27 (sh_M hE) (av := [_]) rfl rfl (Nat.le_of_ble_eq_true rfl) (r_is _ hE hm _) (Nat.le_refl _) (Nat.le_refl _) (Nat.le_refl _) (Nat.le_refl _) ?_
      rintro _ m1 ⟨rfl, e1⟩
      have hq1 : mQ m m1 1 := e1 ▸ mQ_is hq0
      have hI1 := hq1.1
      have hm1 := hI1.1.1
      have eT1 := mQ_T hq1
      have ec1 : m1 a_c = m a_c := congrArg (fun q => q.1) eT1
      have ew1 : m1 a_what = m a_what := congrArg (fun q => q.2.1) eT1
      have ep1 : m1 a_pointOf = m a_pointOf := congrArg (fun q => q.2.2.1) eT1
      have en1 : m1 aM f_letters = m aM f_letters := congrArg (fun q => q.2.2.2) eT1
      obtain ⟨hw1, hl1, hn1⟩ := mI_wl hI1
      refine z_ifz_ne (tgt := 35) dX12_sub_30 rfl (fun h => absurd h (by decide)) (fun h30 => ?_)
      refine z_iconst dX12_sub_33 (by decide) ?_
      refine z_iret dX12_sub_34 rfl rfl ?_
      have hAL : tAll (mT m).1 = 2 ^ (m a_c 2).toNat - 1 := rfl
      have eA : aSub (mT m) s w = (1, -1) := by unfold aSub; rw [if_pos (by omega)]
      rw [eA]
      exact ⟨rfl, hq1⟩
    · refine z_iconst dX12_sub_22 (by decide) ?_
      refine z_goto (tgt := 27) dX12_sub_23 rfl ?_
      refine z_callV mlX12_310 dX12_sub_27 (sh_M hE) (av := [_]) rfl rfl (Nat.le_of_ble_eq_true rfl) (r_is _ hE hm _) (Nat.le_refl _) (Nat.le_refl _) (Nat.le_refl _) (Nat.le_refl _) ?_
      rintro _ m1 ⟨rfl, e1⟩
      have hq1 : mQ m m1 0 := e1 ▸ mQ_is hq0
      have hI1 := hq1.1
      have hm1 := hI1.1.1
      have eT1 := mQ_T hq1
      have ec1 : m1 a_c = m a_c := congrArg (fun q => q.1) eT1
      have ew1 : m1 a_what = m a_what := congrArg (fun q => q.2.1) eT1
      have ep1 : m1 a_pointOf = m a_pointOf := congrArg (fun q => q.2.2.1) eT1
      have en1 : m1 aM f_letters = m aM f_letters := congrArg (fun q => q.2.2.2) eT1
      obtain ⟨hw1, hl1, hn1⟩ := mI_wl hI1
      refine z_ifz_ne (tgt := 35) dX12_sub_30 rfl (fun h30 => ?_) (fun h => absurd (by decide) h)
      refine z_iconst dX12_sub_35 (by decide) ?_
      refine z_ist 3 dX12_sub_36 rfl (Nat.le_of_ble_eq_true rfl) ?_
      try dsimp only [zs0, zsI, zsP, zsN, zsJ, zsS, zst2, Nat.reduceAdd]
      have hAL : tAll (mT m).1 = 2 ^ (m a_c 2).toNat - 1 := rfl
      have hA256 := tAll_lt hw
      have hA256 : tAll (mT m).1 < 256 := hA256
      obtain ⟨st, rfl⟩ : ∃ st : Nat, s = (st : Int) := ⟨s.toNat, by omega⟩
      have hA := tLet_lt (T := mT m) (st := st) (by omega)
      refine l_sub_1 (d + 13) hE hm1 (st : Int) w 4 0 m1 hm1 (by omega) (by omega) zfr_rf (fun i q1 q2 => by omega) (fun m2 hm2 f2 hs2 => ?_)
      refine z_aload_n dX12_sub_55 rfl ?_
      refine z_iload_n dX12_sub_56 rfl ?_
      refine z_pI f_subPoints rfl (fpX12_380 _) dX12_sub_57 (sh_M hE) rfl ?_
      obtain ⟨m4, e4'⟩ : ∃ m4, m4 = zu m2 aM f_subPoints (st : Int) := ⟨_, rfl⟩
      rw [← e4']
      have hm4 : ptM m4 := by rw [e4']; exact ptM_j hm2 (by decide)
      have f24 : zfr [(aM, some f_subPoints)] m2 m4 := by rw [e4']; exact zfr_uj zfr_rf (by decide)
      have g4 : zfr fQ m m4 := zfr_tr hq1.2.1 (zfr_tr (zfr_sub f2 (by decide)) (zfr_sub f24 (by decide)))
      have f4 : zfr fFreeM m m4 := by
        have h1 : zfr fFreeM m m1 := by rw [← e1]; exact fr_S (by decide) (by decide)
        exact zfr_tr h1 (zfr_tr (zfr_sub f2 (by decide)) (zfr_sub f24 (by decide)))
      have e4 : mT m4 = mT m := mT_fr f4 (by decide)
      have f4' : zfr fFree m m4 := by
        have h1 : zfr fFree m m1 := by rw [← e1]; exact fr_S (by decide) (by decide)
        exact zfr_tr h1 (zfr_tr (zfr_sub f2 (by decide)) (zfr_sub f24 (by decide)))
      have h54 : m4 aM f_subPoints = (st : Int) := by rw [e4']; exact zu_s
      have st4 : m4 aM f_status = 0 := by rw [zfr_at f24 (by decide), zfr_at f2 (by decide)]; exact hq1.2.2
      have hs4 : ∀ k : Int, 0 ≤ k → k < 4 → m4 a_subs k = 0 := fun k q0 q1 => by rw [congrFun (zfr_cell (a := a_subs) f24 (by decide)) k]; exact hs2 k q0 q1
      have hz4 : ∀ x : Int, (x < 0 ∨ 12 ≤ x) → m4 a_mate x = 0 := fun x hx => by rw [congrFun (zfr_cell (a := a_mate) f4' (by decide)) x]; exact hI.1.2.2.2.2 x hx
      have ec4 : m4 a_c = m a_c := congrArg (fun q => q.1) e4
      have ew4 : m4 a_what = m a_what := congrArg (fun q => q.2.1) e4
      have ep4 : m4 a_pointOf = m a_pointOf := congrArg (fun q => q.2.2.1) e4
      have en4 : m4 aM f_letters = m aM f_letters := congrArg (fun q => q.2.2.2) e4
      refine z_iconst dX12_sub_60 (by decide) ?_
      refine z_ist 3 dX12_sub_61 rfl (Nat.le_of_ble_eq_true rfl) ?_
      refine z_iconst dX12_sub_62 (by decide) ?_
      refine z_istore dX12_sub_63 (Nat.le_of_ble_eq_true rfl) ?_
      try dsimp only [zs0, zsI, zsP, zsN, zsJ, zsS, zst2, Nat.reduceAdd]
      refine l_sub_2 (d + 12) hE hm4 st w (by omega) (by rw [ec4]; exact hw) (by rw [ec4, ew4, ep4, en4]; exact hl) (m4 aM f_letters).toNat 0 (by omega) ?_
      rw [ep4, en4, Nat.zero_add, show zmask (fun i : Nat => st.testBit (m a_pointOf (i : Int)).toNat) (m aM f_letters).toNat = tLet (mT m) st from rfl]
      refine z_aload_n dX12_sub_105 rfl ?_
      refine z_iload_n dX12_sub_106 rfl ?_
      refine z_callV mlX12_190 dX12_sub_107 (sh_M hE) (av := [_]) rfl rfl (Nat.le_of_ble_eq_true rfl) (r_begins _ hE hm4 _) (Nat.le_refl _) (Nat.le_refl _) (Nat.le_refl _) (Nat.le_refl _) ?_
      rintro _ m5 ⟨rfl, b1, b2, b3, b4⟩
      have hm5 : ptM m5 := ptM_b hm4 b1
      have e5 : mT m5 = mT m := (mT_fr b1 (by decide)).trans e4
      have ec5 : m5 a_c = m a_c := congrArg (fun q => q.1) e5
      have ew5 : m5 a_what = m a_what := congrArg (fun q => q.2.1) e5
      have ep5 : m5 a_pointOf = m a_pointOf := congrArg (fun q => q.2.2.1) e5
      have en5 : m5 aM f_letters = m aM f_letters := congrArg (fun q => q.2.2.2) e5
      have hrel : m5 a_mate = sMk (tLet (mT m) st) (mtA (tLet (mT m) st)) := by
        funext x
        rw [sMk_mtA]
        by_cases hx : 0 ≤ x ∧ x < 12
        · rw [if_pos hx]; exact b3 x hx.1 hx.2
        · rw [if_neg hx, b4 x (by omega)]
          exact hz4 x (by omega)
      have hcap : mCap m5 (sLay (m aM f_letters).toNat (cMay (m a_c) (m a_what) (m a_pointOf)) 6 (mtA (tLet (mT m) st))).length := fun k q0 q1 => by
        have := sLay_le (n := (m aM f_letters).toNat) (by omega) (cMay (m a_c) (m a_what) (m a_pointOf)) 6 (mtA (tLet (mT m) st))
        rw [congrFun (zfr_cell (a := a_subs) b1 (by decide)) k, hs4 k q0 q1]
        omega
      have hLS := r_laysSub (d + 1) hE 6 m5 hm5 (by rw [ec5]; exact hw) (by rw [ec5, ew5, ep5, en5]; exact hl) st (tLet (mT m) st) (by omega) ((zfr_at b1 (by decide)).trans h54) hA b2 (mtA (tLet (mT m) st)) hrel (by rw [ec5, ew5, ep5, en5]; exact sPA_0 (by omega)) (by rw [en5]; have := sOp_mtA (tLet (mT m) st) (m aM f_letters).toNat (by omega); have := sFr_nn (mtA (tLet (mT m) st)) (m aM f_letters).toNat; omega) (by rw [en5]; have := sFr_nn (mtA (tLet (mT m) st)) (m aM f_letters).toNat; omega) (by rw [ec5, ew5, ep5, en5]; exact hcap)
      rw [ec5, ew5, ep5, en5, e5, show 6 + (d + 1 + 5) = d + 12 by omega] at hLS
      refine z_aload_n dX12_sub_110 rfl ?_
      refine z_callV mlX12_386 dX12_sub_111 (sh_M hE) (av := _) rfl rfl (Nat.le_of_ble_eq_true rfl) hLS (Nat.le_refl _) (Nat.le_refl _) (Nat.le_refl _) (Nat.le_refl _) ?_
      rintro _ m6 ⟨rfl, y1, y2, y3⟩
      have hm6 : ptM m6 := (fSub_k y3).2.2.2.2.2.2 hm5
      refine z_aload_n dX12_sub_114 rfl ?_
      refine z_gP 32 rfl (r := a_subs) flX12_69 dX12_sub_115 (sh_M hE) rfl (pt_subs hm6) (by decide) ?_
      refine z_iload_n dX12_sub_118 rfl ?_
      refine z_iald dX12_sub_119 (sh_subs hE) (by omega) (by omega) ?_
      refine z_iret dX12_sub_120 rfl rfl ?_
      have eA : aSub (mT m) (st : Int) w = (0, tSubs (mT m) st w) := by unfold aSub; rw [if_neg (by omega), Int.toNat_natCast]
      rw [eA, y1 w (by omega) (by omega), congrFun (zfr_cell (a := a_subs) b1 (by decide)) w, hs4 w (by omega) (by omega), Int.zero_add]
      have hf6 : zfr fFreeM m m6 := zfr_tr f4 (zfr_tr (zfr_sub b1 (by decide)) (zfr_sub y3 (by decide)))
      refine ⟨rfl, mI_mt hI hf6 (fun x hx => ?_), zfr_tr g4 (zfr_tr (zfr_sub b1 (by decide)) (zfr_sub y3 (by decide))), ?_⟩
      · rw [y2, hrel, sMk, if_neg (by omega)]
      · rw [zfr_at y3 (by decide), zfr_at b1 (by decide)]; exact st4
