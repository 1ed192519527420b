def aLetter (T : zT) (i w : Int) : Int × Int := if ¬ (0 ≤ w ∧ w ≤ 3) then (1, -1) else if ¬ (0 ≤ i ∧ i ≤ T.2.2.2 - 1) then (2, -1) else if w = 0 then (0, T.2.1 i / 2) else if w = 1 then (0, T.2.1 i % 2) else if w = 2 then (0, T.2.2.1 i) else (0, zsum (fun j => zb (cMay T.1 T.2.1 T.2.2.1 i j = true)) T.2.2.2.toNat 0)
def aField (T : zT) (k w : Int) : Int × Int := if ¬ (0 ≤ w ∧ w ≤ 2) then (1, -1) else if ¬ (0 ≤ k ∧ k ≤ T.1 0 - 1) then (2, -1) else (0, T.1 (4 + 3 * k + w))
def aPoint (T : zT) (p w : Int) : Int × Int := if ¬ (0 ≤ w ∧ w ≤ 4) then (1, -1) else if ¬ (0 ≤ p ∧ p ≤ T.1 2 - 1) then (2, -1) else if w < 3 then (0, T.1 (32 + 9 * p + w)) else if w = 3 then (0, zsum (fun q => T.1 (32 + 9 * q)) p.toNat 0) else (0, zsum (fun q => zb (cAlike T.1 p q = true)) (T.1 2).toNat 0)
def aCode (T : zT) (i j : Int) : Int × Int := if ¬ ((0 ≤ i ∧ i ≤ T.2.2.2 - 1) ∧ (0 ≤ j ∧ j ≤ T.2.2.2 - 1)) then (2, -1) else if i = j then (4, -1) else if ¬ cMay T.1 T.2.1 T.2.2.1 i j = true then (5, -1) else (0, cCode T.1 T.2.1 T.2.2.1 i j)
theorem l_letter (d : Nat) {E : zE} {m : zM} {P : Option zV → zM → Prop} (hE : shM E) (hm : ptM m) (i w : Int) (hi : 0 ≤ i ∧ i < m aM f_letters) (hw : wfC (m a_c)) (hl : wfL (m a_c) (m a_what) (m a_pointOf) (m aM f_letters)) (hn : 0 ≤ m aM f_letters ∧ m aM f_letters ≤ 12)  : ∀ (j : Nat) (k n : Int), (0 ≤ k) → (k + j = m aM f_letters) → (0 ≤ n ∧ n ≤ k) → (P (some (zI (n + zsum (fun j => zb (cMay (m a_c) (m a_what) (m a_pointOf) i j = true)) j k))) m) → zA zX12_letter (d + 3) E E P 83 [zP aM, zI i, zI w, zI n, zI k] [] m E := by
  intro j
  induction j with
  | zero =>
    intro k n h0 hk hn2 hP
    refine z_iload dX12_letter_83 rfl ?_
    refine z_aload_n dX12_letter_85 rfl ?_
    refine z_gI f_letters rfl flX12_124 dX12_letter_86 (sh_M hE) rfl ?_
    refine z_icmp_ge (tgt := 116) dX12_letter_89 rfl (fun h89 => ?_) (fun h => absurd (by omega) h)
    refine z_iload_n dX12_letter_116 rfl ?_
    refine z_iret dX12_letter_117 rfl rfl ?_
    rw [zsum_0, Int.add_zero] at hP
    exact hP
  | succ j ih =>
    intro k n h0 hk hn2 hP
    refine z_iload dX12_letter_83 rfl ?_
    refine z_aload_n dX12_letter_85 rfl ?_
    refine z_gI f_letters rfl flX12_124 dX12_letter_86 (sh_M hE) rfl ?_
    refine z_icmp_ge (tgt := 116) dX12_letter_89 rfl (fun h => absurd h (by omega)) (fun h89 => ?_)
    refine z_iload_n dX12_letter_92 rfl ?_
    refine z_aload_n dX12_letter_93 rfl ?_
    refine z_iload_n dX12_letter_94 rfl ?_
    refine z_iload dX12_letter_95 rfl ?_
    refine z_callV mlX12_184 dX12_letter_97 (sh_M hE) (av := [_, _]) rfl rfl (Nat.le_of_ble_eq_true rfl) (r_mayBe _ hE hm i k hi.1 hi.2 h0 (by omega) hw hl) (Nat.le_refl _) (Nat.le_refl _) (Nat.le_refl _) (Nat.le_refl _) ?_
    rintro _ _ ⟨rfl, rfl⟩
    refine z_ifz_eq (tgt := 107) dX12_letter_100 rfl (fun h100 => ?_) (fun h100 => ?_)
    · refine z_iconst dX12_letter_107 (by decide) ?_
      refine z_add dX12_letter_108 (by omega) ?_
      refine z_ist 3 dX12_letter_109 rfl (Nat.le_of_ble_eq_true rfl) ?_
      refine z_inc dX12_letter_110 rfl (by omega) ?_
      refine z_goto (tgt := 83) dX12_letter_113 rfl ?_
      try dsimp only [zs0, zsI, zsP, zsN, zsJ, zsS, zst2, Nat.reduceAdd]
      rw [zsum_s, ← Int.add_assoc, zb_f (by assumption)] at hP
      exact ih (k + 1) _ (by omega) (by omega) (by omega) hP
    · refine z_iconst dX12_letter_103 (by decide) ?_
      refine z_goto (tgt := 108) dX12_letter_104 rfl ?_
      refine z_add dX12_letter_108 (by omega) ?_
      refine z_ist 3 dX12_letter_109 rfl (Nat.le_of_ble_eq_true rfl) ?_
      refine z_inc dX12_letter_110 rfl (by omega) ?_
      refine z_goto (tgt := 83) dX12_letter_113 rfl ?_
      try dsimp only [zs0, zsI, zsP, zsN, zsJ, zsS, zst2, Nat.reduceAdd]
      rw [zsum_s, ← Int.add_assoc, zb_t (by assumption)] at hP
      exact ih (k + 1) _ (by omega) (by omega) (by omega) hP

theorem q_letter (d : Nat) {E : zE} {m : zM} (hE : shM E) (hI : mI m) (i w : Int)  : zR zX12_letter (d + 4) [zP aM, zI i, zI w] m E E (fun r m' => r = some (zI (aLetter (mT m) i w).2) ∧ mQ m m' (aLetter (mT m) i w).1) := by
  have hm := hI.1.1
  obtain ⟨hw, hl, hn⟩ := mI_wl hI
  have hq0 := mQ_rf hI
  have eT0 : mT m = mT m := rfl
  have t4 : (mT m).2.2.2 = m aM f_letters := rfl
  have t0 : (mT m).1 0 = m a_c 0 := rfl
  have t1 : (mT m).1 1 = m a_c 1 := rfl
  have t2 : (mT m).1 2 = m a_c 2 := rfl
  have b1 := hw.1
  have b2 := hw.2.1
  have b3 := hw.2.2.1
  refine zR_go [zP aM, zI i, zI w, zN, zN] (by decide +kernel) (Nat.le_of_ble_eq_true rfl) rfl rfl ?_
  refine z_aload_n dX12_letter_0 rfl ?_
  refine z_iload_n dX12_letter_1 rfl ?_
  refine z_iconst dX12_letter_2 (by decide) ?_
  refine z_iconst dX12_letter_3 (by decide) ?_
  refine z_callS mlX12_140 dX12_letter_4 (av := [_, _, _]) rfl rfl (Nat.le_of_ble_eq_true rfl) (r_isIn _ hE hm w 0 3) (Nat.le_refl _) (Nat.le_refl _) (Nat.le_refl _) (Nat.le_refl _) ?_
  rintro _ _ ⟨rfl, rfl⟩
  refine z_ifz_ne (tgt := 14) dX12_letter_7 rfl (fun h7 => ?_) (fun h7 => ?_)
  · refine z_aload_n dX12_letter_14 rfl ?_
    refine z_iload_n dX12_letter_15 rfl ?_
    refine z_callV mlX12_329 dX12_letter_16 (sh_M hE) (av := [_]) rfl rfl (Nat.le_of_ble_eq_true rfl) (r_isLetter _ hE hm i hn) (Nat.le_refl _) (Nat.le_refl _) (Nat.le_refl _) (Nat.le_refl _) ?_
    rintro _ _ ⟨rfl, rfl⟩
    refine z_ifz_eq (tgt := 26) dX12_letter_19 rfl (fun h19 => ?_) (fun h19 => ?_)
    · refine z_iconst dX12_letter_26 (by decide) ?_
      refine z_callV mlX12_310 dX12_letter_27 (sh_M hE) (av := [_]) rfl rfl (Nat.le_of_ble_eq_true rfl) (r_is _ hE hm _) (Nat.le_refl _) (Nat.le_refl _) (Nat.le_refl _) (Nat.le_refl _) ?_
      rintro _ m1 ⟨rfl, e1⟩
      have hq1 : mQ m m1 2 := e1 ▸ mQ_is hq0
      have hI1 := hq1.1
      have hm1 := hI1.1.1
      have eT1 := mQ_T hq1
      have ec1 : m1 a_c = m a_c := congrArg (fun q => q.1) eT1
      have ew1 : m1 a_what = m a_what := congrArg (fun q => q.2.1) eT1
      have ep1 : m1 a_pointOf = m a_pointOf := congrArg (fun q => q.2.2.1) eT1
      have en1 : m1 aM f_letters = m aM f_letters := congrArg (fun q => q.2.2.2) eT1
      obtain ⟨hw1, hl1, hn1⟩ := mI_wl hI1
      refine z_ifz_ne (tgt := 35) dX12_letter_30 rfl (fun h => absurd h (by decide)) (fun h30 => ?_)
      refine z_iconst dX12_letter_33 (by decide) ?_
      refine z_iret dX12_letter_34 rfl rfl ?_
      have eA : aLetter (mT m) i w = (2, -1) := by unfold aLetter; rw [if_neg (by omega), if_pos (by omega)]
      rw [eA]
      exact ⟨rfl, hq1⟩
    · refine z_iconst dX12_letter_22 (by decide) ?_
      refine z_goto (tgt := 27) dX12_letter_23 rfl ?_
      refine z_callV mlX12_310 dX12_letter_27 (sh_M hE) (av := [_]) rfl rfl (Nat.le_of_ble_eq_true rfl) (r_is _ hE hm _) (Nat.le_refl _) (Nat.le_refl _) (Nat.le_refl _) (Nat.le_refl _) ?_
      rintro _ m1 ⟨rfl, e1⟩
      have hq1 : mQ m m1 0 := e1 ▸ mQ_is hq0
      have hI1 := hq1.1
      have hm1 := hI1.1.1
      have eT1 := mQ_T hq1
      have ec1 : m1 a_c = m a_c := congrArg (fun q => q.1) eT1
      have ew1 : m1 a_what = m a_what := congrArg (fun q => q.2.1) eT1
      have ep1 : m1 a_pointOf = m a_pointOf := congrArg (fun q => q.2.2.1) eT1
      have en1 : m1 aM f_letters = m aM f_letters := congrArg (fun q => q.2.2.2) eT1
      obtain ⟨hw1, hl1, hn1⟩ := mI_wl hI1
      refine z_ifz_ne (tgt := 35) dX12_letter_30 rfl (fun h30 => ?_) (fun h => absurd (by decide) h)
      refine z_iload_n dX12_letter_35 rfl ?_
      refine z_iconst dX12_letter_36 (by decide) ?_
      refine z_icmp_ge (tgt := 78) dX12_letter_37 rfl (fun h37 => ?_) (fun h37 => ?_)
      · refine z_iconst dX12_letter_78 (by decide) ?_
        refine z_ist 3 dX12_letter_79 rfl (Nat.le_of_ble_eq_true rfl) ?_
        refine z_iconst dX12_letter_80 (by decide) ?_
        refine z_istore dX12_letter_81 (Nat.le_of_ble_eq_true rfl) ?_
        try dsimp only [zs0, zsI, zsP, zsN, zsJ, zsS, zst2, Nat.reduceAdd]
        refine l_letter (d + 1) hE hm1 i w (by omega) hw1 hl1 hn1 (m1 aM f_letters).toNat 0 0 (by omega) (by omega) (by omega) ?_
        have eA : aLetter (mT m) i w = (0, zsum (fun j => zb (cMay (m a_c) (m a_what) (m a_pointOf) i j = true)) (m aM f_letters).toNat 0) := by unfold aLetter; rw [if_neg (by omega), if_neg (by omega), if_neg (by omega), if_neg (by omega), if_neg (by omega)]; rfl
        rw [eA, Int.zero_add, ec1, ew1, ep1, en1]
        exact ⟨rfl, hq1⟩
      · refine z_iload_n dX12_letter_40 rfl ?_
        refine z_if_ne (tgt := 55) dX12_letter_41 rfl (fun h41 => ?_) (fun h41 => ?_)
        · refine z_iload_n dX12_letter_55 rfl ?_
          refine z_iconst dX12_letter_56 (by decide) ?_
          refine z_icmp_ne (tgt := 71) dX12_letter_57 rfl (fun h57 => ?_) (fun h57 => ?_)
          · refine z_aload_n dX12_letter_71 rfl ?_
            refine z_gP 6 rfl (r := a_pointOf) flX12_22 dX12_letter_72 (sh_M hE) rfl (pt_pointOf hm1) (by decide) ?_
            refine z_iload_n dX12_letter_75 rfl ?_
            refine z_iald dX12_letter_76 (sh_pointOf hE) (by omega) (by omega) ?_
            refine z_iret dX12_letter_77 rfl rfl ?_
            rw [ep1]
            have eA : aLetter (mT m) i w = (0, (mT m).2.2.1 i) := by unfold aLetter; rw [if_neg (by omega), if_neg (by omega), if_neg (by omega), if_neg (by omega), if_pos (by omega)]
            rw [eA]
            exact ⟨rfl, hq1⟩
          · refine z_aload_n dX12_letter_60 rfl ?_
            refine z_gP 5 rfl (r := a_what) flX12_19 dX12_letter_61 (sh_M hE) rfl (pt_what hm1) (by decide) ?_
            refine z_iload_n dX12_letter_64 rfl ?_
            refine z_iald dX12_letter_65 (sh_what hE) (by omega) (by omega) ?_
            refine z_iconst dX12_letter_66 (by decide) ?_
            refine z_rem dX12_letter_67 (hl1.2 i (by omega) (by omega)).1.1 (by omega) ?_
            refine z_goto (tgt := 77) dX12_letter_68 rfl ?_
            refine z_iret dX12_letter_77 rfl rfl ?_
            rw [ew1]
            have eA : aLetter (mT m) i w = (0, (mT m).2.1 i % 2) := by unfold aLetter; rw [if_neg (by omega), if_neg (by omega), if_neg (by omega), if_pos (by omega)]
            rw [eA]
            exact ⟨rfl, hq1⟩
        · refine z_aload_n dX12_letter_44 rfl ?_
          refine z_gP 5 rfl (r := a_what) flX12_19 dX12_letter_45 (sh_M hE) rfl (pt_what hm1) (by decide) ?_
          refine z_iload_n dX12_letter_48 rfl ?_
          refine z_iald dX12_letter_49 (sh_what hE) (by omega) (by omega) ?_
          refine z_iconst dX12_letter_50 (by decide) ?_
          refine z_div dX12_letter_51 (hl1.2 i (by omega) (by omega)).1.1 (by omega) ?_
          refine z_goto (tgt := 77) dX12_letter_52 rfl ?_
          refine z_iret dX12_letter_77 rfl rfl ?_
          rw [ew1]
          have eA : aLetter (mT m) i w = (0, (mT m).2.1 i / 2) := by unfold aLetter; rw [if_neg (by omega), if_neg (by omega), if_pos (by omega)]
          rw [eA]
          exact ⟨rfl, hq1⟩
  · refine z_iconst dX12_letter_10 (by decide) ?_
    refine z_goto (tgt := 27) dX12_letter_11 rfl ?_
    refine z_callV mlX12_310 dX12_letter_27 (sh_M hE) (av := [_]) rfl rfl (Nat.le_of_ble_eq_true rfl) (r_is _ hE hm _) (Nat.le_refl _) (Nat.le_refl _) (Nat.le_refl _) (Nat.le_refl _) ?_
    rintro _ m1 ⟨rfl, e1⟩
    have hq1 : mQ m m1 1 := e1 ▸ mQ_is hq0
    have hI1 := hq1.1
    have hm1 := hI1.1.1
    have eT1 := mQ_T hq1
    have ec1 : m1 a_c = m a_c := congrArg (fun q => q.1) eT1
    have ew1 : m1 a_what = m a_what := congrArg (fun q => q.2.1) eT1
    have ep1 : m1 a_pointOf = m a_pointOf := congrArg (fun q => q.2.2.1) eT1
    have en1 : m1 aM f_letters = m aM f_letters := congrArg (fun q => q.2.2.2) eT1
    obtain ⟨hw1, hl1, hn1⟩ := mI_wl hI1
    refine z_ifz_ne (tgt := 35) dX12_letter_30 rfl (fun h => absurd h (by decide)) (fun h30 => ?_)
    refine z_iconst dX12_letter_33 (by decide) ?_
    refine z_iret dX12_letter_34 rfl rfl ?_
    have eA : aLetter (mT m) i w = (1, -1) := by unfold aLetter; rw [if_pos (by omega)]
    rw [eA]
    exact ⟨rfl, hq1⟩

theorem q_field (d : Nat) {E : zE} {m : zM} (hE : shM E) (hI : mI m) (k w : Int)  : zR zX12_field (d + 2) [zP aM, zI k, zI w] m E E (fun r m' => r = some (zI (aField (mT m) k w).2) ∧ mQ m m' (aField (mT m) k w).1) := by
  have hm := hI.1.1
  obtain ⟨hw, hl, hn⟩ := mI_wl hI
  have hq0 := mQ_rf hI
  have eT0 : mT m = mT m := rfl
  have t4 : (mT m).2.2.2 = m aM f_letters := rfl
  have t0 : (mT m).1 0 = m a_c 0 := rfl
  have t1 : (mT m).1 1 = m a_c 1 := rfl
  have t2 : (mT m).1 2 = m a_c 2 := rfl
  have b1 := hw.1
  have b2 := hw.2.1
  have b3 := hw.2.2.1
  refine zR_go [zP aM, zI k, zI w] (by decide +kernel) (Nat.le_of_ble_eq_true rfl) rfl rfl ?_
  refine z_aload_n dX12_field_0 rfl ?_
  refine z_iload_n dX12_field_1 rfl ?_
  refine z_iconst dX12_field_2 (by decide) ?_
  refine z_iconst dX12_field_3 (by decide) ?_
  refine z_callS mlX12_140 dX12_field_4 (av := [_, _, _]) rfl rfl (Nat.le_of_ble_eq_true rfl) (r_isIn _ hE hm w 0 2) (Nat.le_refl _) (Nat.le_refl _) (Nat.le_refl _) (Nat.le_refl _) ?_
  rintro _ _ ⟨rfl, rfl⟩
  refine z_ifz_ne (tgt := 14) dX12_field_7 rfl (fun h7 => ?_) (fun h7 => ?_)
  · refine z_iload_n dX12_field_14 rfl ?_
    refine z_iconst dX12_field_15 (by decide) ?_
    refine z_aload_n dX12_field_16 rfl ?_
    refine z_gP 0 rfl (r := a_c) flX12_7 dX12_field_17 (sh_M hE) rfl (pt_c hm) (by decide) ?_
    refine z_iconst dX12_field_20 (by decide) ?_
    refine z_iald dX12_field_21 (sh_c hE) (by omega) (by omega) ?_
    refine z_iconst dX12_field_22 (by decide) ?_
    refine z_sub dX12_field_23 (by omega) ?_
    refine z_callS mlX12_140 dX12_field_24 (av := [_, _, _]) rfl rfl (Nat.le_of_ble_eq_true rfl) (r_isIn _ hE hm k 0 _) (Nat.le_refl _) (Nat.le_refl _) (Nat.le_refl _) (Nat.le_refl _) ?_
    rintro _ _ ⟨rfl, rfl⟩
    refine z_ifz_eq (tgt := 34) dX12_field_27 rfl (fun h27 => ?_) (fun h27 => ?_)
    · refine z_iconst dX12_field_34 (by decide) ?_
      refine z_callV mlX12_310 dX12_field_35 (sh_M hE) (av := [_]) rfl rfl (Nat.le_of_ble_eq_true rfl) (r_is _ hE hm _) (Nat.le_refl _) (Nat.le_refl _) (Nat.le_refl _) (Nat.le_refl _) ?_
      rintro _ m1 ⟨rfl, e1⟩
      have hq1 : mQ m m1 2 := e1 ▸ mQ_is hq0
      have hI1 := hq1.1
      have hm1 := hI1.1.1
      have eT1 := mQ_T hq1
      have ec1 : m1 a_c = m a_c := congrArg (fun q => q.1) eT1
      have ew1 : m1 a_what = m a_what := congrArg (fun q => q.2.1) eT1
      have ep1 : m1 a_pointOf = m a_pointOf := congrArg (fun q => q.2.2.1) eT1
      have en1 : m1 aM f_letters = m aM f_letters := congrArg (fun q => q.2.2.2) eT1
      obtain ⟨hw1, hl1, hn1⟩ := mI_wl hI1
      refine z_ifz_ne (tgt := 43) dX12_field_38 rfl (fun h => absurd h (by decide)) (fun h38 => ?_)
      refine z_iconst dX12_field_41 (by decide) ?_
      refine z_iret dX12_field_42 rfl rfl ?_
      have eA : aField (mT m) k w = (2, -1) := by unfold aField; rw [if_neg (by omega), if_pos (by omega)]
      rw [eA]
      exact ⟨rfl, hq1⟩
    · refine z_iconst dX12_field_30 (by decide) ?_
      refine z_goto (tgt := 35) dX12_field_31 rfl ?_
      refine z_callV mlX12_310 dX12_field_35 (sh_M hE) (av := [_]) rfl rfl (Nat.le_of_ble_eq_true rfl) (r_is _ hE hm _) (Nat.le_refl _) (Nat.le_refl _) (Nat.le_refl _) (Nat.le_refl _) ?_
      rintro _ m1 ⟨rfl, e1⟩
      have hq1 : mQ m m1 0 := e1 ▸ mQ_is hq0
      have hI1 := hq1.1
      have hm1 := hI1.1.1
      have eT1 := mQ_T hq1
      have ec1 : m1 a_c = m a_c := congrArg (fun q => q.1) eT1
      have ew1 : m1 a_what = m a_what := congrArg (fun q => q.2.1) eT1
      have ep1 : m1 a_pointOf = m a_pointOf := congrArg (fun q => q.2.2.1) eT1
      have en1 : m1 aM f_letters = m aM f_letters := congrArg (fun q => q.2.2.2) eT1
      obtain ⟨hw1, hl1, hn1⟩ := mI_wl hI1
      refine z_ifz_ne (tgt := 43) dX12_field_38 rfl (fun h38 => ?_) (fun h => absurd (by decide) h)
      refine z_aload_n dX12_field_43 rfl ?_
      refine z_gP 0 rfl (r := a_c) flX12_7 dX12_field_44 (sh_M hE) rfl (pt_c hm1) (by decide) ?_
      refine z_iconst dX12_field_47 (by decide) ?_
      refine z_iconst dX12_field_48 (by decide) ?_
      refine z_iload_n dX12_field_49 rfl ?_
      refine z_mul dX12_field_50 (by omega) ?_
      refine z_add dX12_field_51 (by omega) ?_
      refine z_iload_n dX12_field_52 rfl ?_
      refine z_add dX12_field_53 (by omega) ?_
      refine z_iald dX12_field_54 (sh_c hE) (by omega) (by omega) ?_
      refine z_iret dX12_field_55 rfl rfl ?_
      rw [ec1]
      have eA : aField (mT m) k w = (0, (mT m).1 (4 + 3 * k + w)) := by unfold aField; rw [if_neg (by omega), if_neg (by omega)]
      rw [eA]
      exact ⟨rfl, hq1⟩
  · refine z_iconst dX12_field_10 (by decide) ?_
    refine z_goto (tgt := 35) dX12_field_11 rfl ?_
    refine z_callV mlX12_310 dX12_field_35 (sh_M hE) (av := [_]) rfl rfl (Nat.le_of_ble_eq_true rfl) (r_is _ hE hm _) (Nat.le_refl _) (Nat.le_refl _) (Nat.le_refl _) (Nat.le_refl _) ?_
    rintro _ m1 ⟨rfl, e1⟩
    have hq1 : mQ m m1 1 := e1 ▸ mQ_is hq0
    have hI1 := hq1.1
    have hm1 := hI1.1.1
    have eT1 := mQ_T hq1
    have ec1 : m1 a_c = m a_c := congrArg (fun q => q.1) eT1
    have ew1 : m1 a_what = m a_what := congrArg (fun q => q.2.1) eT1
    have ep1 : m1 a_pointOf = m a_pointOf := congrArg (fun q => q.2.2.1) eT1
    have en1 : m1 aM f_letters = m aM f_letters := congrArg (fun q => q.2.2.2) eT1
    obtain ⟨hw1, hl1, hn1⟩ := mI_wl hI1
    refine z_ifz_ne (tgt := 43) dX12_field_38 rfl (fun h => absurd h (by decide)) (fun h38 => ?_)
    refine z_iconst dX12_field_41 (by decide) ?_
    refine z_iret dX12_field_42 rfl rfl ?_
    have eA : aField (mT m) k w = (1, -1) := by unfold aField; rw [if_pos (by omega)]
    rw [eA]
    exact ⟨rfl, hq1⟩

theorem q_point (d : Nat) {E : zE} {m : zM} (hE : shM E) (hI : mI m) (p w : Int)  : zR zX12_point (d + 4) [zP aM, zI p, zI w] m E E (fun r m' => r = some (zI (aPoint (mT m) p w).2) ∧ mQ m m' (aPoint (mT m) p w).1) := by
  have hm := hI.1.1
  obtain ⟨hw, hl, hn⟩ := mI_wl hI
  have hq0 := mQ_rf hI
  have eT0 : mT m = mT m := rfl
  have t4 : (mT m).2.2.2 = m aM f_letters := rfl
  have t0 : (mT m).1 0 = m a_c 0 := rfl
  have t1 : (mT m).1 1 = m a_c 1 := rfl
  have t2 : (mT m).1 2 = m a_c 2 := rfl
  have b1 := hw.1
  have b2 := hw.2.1
  have b3 := hw.2.2.1
  refine zR_go [zP aM, zI p, zI w] (by decide +kernel) (Nat.le_of_ble_eq_true rfl) rfl rfl ?_
  refine z_aload_n dX12_point_0 rfl ?_
  refine z_iload_n dX12_point_1 rfl ?_
  refine z_iconst dX12_point_2 (by decide) ?_
  refine z_iconst dX12_point_3 (by decide) ?_
  refine z_callS mlX12_140 dX12_point_4 (av := [_, _, _]) rfl rfl (Nat.le_of_ble_eq_true rfl) (r_isIn _ hE hm w 0 4) (Nat.le_refl _) (Nat.le_refl _) (Nat.le_refl _) (Nat.le_refl _) ?_
  rintro _ _ ⟨rfl, rfl⟩
  refine z_ifz_ne (tgt := 14) dX12_point_7 rfl (fun h7 => ?_) (fun h7 => ?_)
  · refine z_aload_n dX12_point_14 rfl ?_
    refine z_iload_n dX12_point_15 rfl ?_
    refine z_callV mlX12_332 dX12_point_16 (sh_M hE) (av := [_]) rfl rfl (Nat.le_of_ble_eq_true rfl) (r_isPoint _ hE hm p hw) (Nat.le_refl _) (Nat.le_refl _) (Nat.le_refl _) (Nat.le_refl _) ?_
    rintro _ _ ⟨rfl, rfl⟩
    refine z_ifz_eq (tgt := 26) dX12_point_19 rfl (fun h19 => ?_) (fun h19 => ?_)
    · refine z_iconst dX12_point_26 (by decide) ?_
      refine z_callV mlX12_310 dX12_point_27 (sh_M hE) (av := [_]) rfl rfl (Nat.le_of_ble_eq_true rfl) (r_is _ hE hm _) (Nat.le_refl _) (Nat.le_refl _) (Nat.le_refl _) (Nat.le_refl _) ?_
      rintro _ m1 ⟨rfl, e1⟩
      have hq1 : mQ m m1 2 := e1 ▸ mQ_is hq0
      have hI1 := hq1.1
      have hm1 := hI1.1.1
      have eT1 := mQ_T hq1
      have ec1 : m1 a_c = m a_c := congrArg (fun q => q.1) eT1
      have ew1 : m1 a_what = m a_what := congrArg (fun q => q.2.1) eT1
      have ep1 : m1 a_pointOf = m a_pointOf := congrArg (fun q => q.2.2.1) eT1
      have en1 : m1 aM f_letters = m aM f_letters := congrArg (fun q => q.2.2.2) eT1
      obtain ⟨hw1, hl1, hn1⟩ := mI_wl hI1
      refine z_ifz_ne (tgt := 35) dX12_point_30 rfl (fun h => absurd h (by decide)) (fun h30 => ?_)
      refine z_iconst dX12_point_33 (by decide) ?_
      refine z_iret dX12_point_34 rfl rfl ?_
      have eA : aPoint (mT m) p w = (2, -1) := by unfold aPoint; rw [if_neg (by omega), if_pos (by omega)]
      rw [eA]
      exact ⟨rfl, hq1⟩
    · refine z_iconst dX12_point_22 (by decide) ?_
      refine z_goto (tgt := 27) dX12_point_23 rfl ?_
      refine z_callV mlX12_310 dX12_point_27 (sh_M hE) (av := [_]) rfl rfl (Nat.le_of_ble_eq_true rfl) (r_is _ hE hm _) (Nat.le_refl _) (Nat.le_refl _) (Nat.le_refl _) (Nat.le_refl _) ?_
      rintro _ m1 ⟨rfl, e1⟩
      have hq1 : mQ m m1 0 := e1 ▸ mQ_is hq0
      have hI1 := hq1.1
      have hm1 := hI1.1.1
      have eT1 := mQ_T hq1
      have ec1 : m1 a_c = m a_c := congrArg (fun q => q.1) eT1
      have ew1 : m1 a_what = m a_what := congrArg (fun q => q.2.1) eT1
      have ep1 : m1 a_pointOf = m a_pointOf := congrArg (fun q => q.2.2.1) eT1
      have en1 : m1 aM f_letters = m aM f_letters := congrArg (fun q => q.2.2.2) eT1
      obtain ⟨hw1, hl1, hn1⟩ := mI_wl hI1
      refine z_ifz_ne (tgt := 35) dX12_point_30 rfl (fun h30 => ?_) (fun h => absurd (by decide) h)
      refine z_iload_n dX12_point_35 rfl ?_
      refine z_iconst dX12_point_36 (by decide) ?_
      refine z_icmp_ge (tgt := 55) dX12_point_37 rfl (fun h37 => ?_) (fun h37 => ?_)
      · refine z_iload_n dX12_point_55 rfl ?_
        refine z_iconst dX12_point_56 (by decide) ?_
        refine z_icmp_ne (tgt := 68) dX12_point_57 rfl (fun h57 => ?_) (fun h57 => ?_)
        · refine z_aload_n dX12_point_68 rfl ?_
          refine z_iload_n dX12_point_69 rfl ?_
          refine z_callV mlX12_338 dX12_point_70 (sh_M hE) (av := [_]) rfl rfl (Nat.le_of_ble_eq_true rfl) (r_alikeTo _ hE hm1 p (by omega) (by rw [ec1]; omega) hw1) (Nat.le_refl _) (Nat.le_refl _) (Nat.le_refl _) (Nat.le_refl _) ?_
          rintro _ _ ⟨rfl, rfl⟩
          refine z_iret dX12_point_73 rfl rfl ?_
          rw [ec1]
          have eA : aPoint (mT m) p w = (0, zsum (fun q => zb (cAlike (mT m).1 p q = true)) ((mT m).1 2).toNat 0) := by unfold aPoint; rw [if_neg (by omega), if_neg (by omega), if_neg (by omega), if_neg (by omega)]
          rw [eA]
          exact ⟨rfl, hq1⟩
        · refine z_aload_n dX12_point_60 rfl ?_
          refine z_iload_n dX12_point_61 rfl ?_
          refine z_callV mlX12_335 dX12_point_62 (sh_M hE) (av := [_]) rfl rfl (Nat.le_of_ble_eq_true rfl) (r_firstOf _ hE hm1 p hw1 (by omega) (by rw [ec1]; omega)) (Nat.le_refl _) (Nat.le_refl _) (Nat.le_refl _) (Nat.le_refl _) ?_
          rintro _ _ ⟨rfl, rfl⟩
          refine z_goto (tgt := 73) dX12_point_65 rfl ?_
          refine z_iret dX12_point_73 rfl rfl ?_
          rw [ec1]
          have eA : aPoint (mT m) p w = (0, zsum (fun q => (mT m).1 (32 + 9 * q)) p.toNat 0) := by unfold aPoint; rw [if_neg (by omega), if_neg (by omega), if_neg (by omega), if_pos (by omega)]
          rw [eA]
          exact ⟨rfl, hq1⟩
      · refine z_aload_n dX12_point_40 rfl ?_
        refine z_gP 0 rfl (r := a_c) flX12_7 dX12_point_41 (sh_M hE) rfl (pt_c hm1) (by decide) ?_
        refine z_aload_n dX12_point_44 rfl ?_
        refine z_iload_n dX12_point_45 rfl ?_
        refine z_callV mlX12_120 dX12_point_46 (sh_M hE) (av := [_]) rfl rfl (Nat.le_of_ble_eq_true rfl) (r_at _ hE hm1 p (by omega) (by omega)) (Nat.le_refl _) (Nat.le_refl _) (Nat.le_refl _) (Nat.le_refl _) ?_
        rintro _ _ ⟨rfl, rfl⟩
        refine z_iload_n dX12_point_49 rfl ?_
        refine z_add dX12_point_50 (by omega) ?_
        refine z_iald dX12_point_51 (sh_c hE) (by omega) (by omega) ?_
        refine z_goto (tgt := 73) dX12_point_52 rfl ?_
        refine z_iret dX12_point_73 rfl rfl ?_
        rw [ec1]
        have eA : aPoint (mT m) p w = (0, (mT m).1 (32 + 9 * p + w)) := by unfold aPoint; rw [if_neg (by omega), if_neg (by omega), if_pos (by omega)]
        rw [eA]
        exact ⟨rfl, hq1⟩
  · refine z_iconst dX12_point_10 (by decide) ?_
    refine z_goto (tgt := 27) dX12_point_11 rfl ?_
    refine z_callV mlX12_310 dX12_point_27 (sh_M hE) (av := [_]) rfl rfl (Nat.le_of_ble_eq_true rfl) (r_is _ hE hm _) (Nat.le_refl _) (Nat.le_refl _) (Nat.le_refl _) (Nat.le_refl _) ?_
    rintro _ m1 ⟨rfl, e1⟩
    have hq1 : mQ m m1 1 := e1 ▸ mQ_is hq0
    have hI1 := hq1.1
    have hm1 := hI1.1.1
    have eT1 := mQ_T hq1
    have ec1 : m1 a_c = m a_c := congrArg (fun q => q.1) eT1
    have ew1 : m1 a_what = m a_what := congrArg (fun q => q.2.1) eT1
    have ep1 : m1 a_pointOf = m a_pointOf := congrArg (fun q => q.2.2.1) eT1
    have en1 : m1 aM f_letters = m aM f_letters := congrArg (fun q => q.2.2.2) eT1
    obtain ⟨hw1, hl1, hn1⟩ := mI_wl hI1
    refine z_ifz_ne (tgt := 35) dX12_point_30 rfl (fun h => absurd h (by decide)) (fun h30 => ?_)
    refine z_iconst dX12_point_33 (by decide) ?_
    refine z_iret dX12_point_34 rfl rfl ?_
    have eA : aPoint (mT m) p w = (1, -1) := by unfold aPoint; rw [if_pos (by omega)]
    rw [eA]
    exact ⟨rfl, hq1⟩

theorem q_code (d : Nat) {E : zE} {m : zM} (hE : shM E) (hI : mI m) (i j : Int)  : zR zX12_code (d + 3) [zP aM, zI i, zI j] m E E (fun r m' => r = some (zI (aCode (mT m) i j).2) ∧ mQ m m' (aCode (mT m) i j).1) := by
  have hm := hI.1.1
  obtain ⟨hw, hl, hn⟩ := mI_wl hI
  have hq0 := mQ_rf hI
  have eT0 : mT m = mT m := rfl
  have t4 : (mT m).2.2.2 = m aM f_letters := rfl
  have t0 : (mT m).1 0 = m a_c 0 := rfl
  have t1 : (mT m).1 1 = m a_c 1 := rfl
  have t2 : (mT m).1 2 = m a_c 2 := rfl
  have b1 := hw.1
  have b2 := hw.2.1
  have b3 := hw.2.2.1
  refine zR_go [zP aM, zI i, zI j] (by decide +kernel) (Nat.le_of_ble_eq_true rfl) rfl rfl ?_
  refine z_aload_n dX12_code_0 rfl ?_
  refine z_aload_n dX12_code_1 rfl ?_
  refine z_iload_n dX12_code_2 rfl ?_
  refine z_callV mlX12_329 dX12_code_3 (sh_M hE) (av := [_]) rfl rfl (Nat.le_of_ble_eq_true rfl) (r_isLetter _ hE hm i hn) (Nat.le_refl _) (Nat.le_refl _) (Nat.le_refl _) (Nat.le_refl _) ?_
  rintro _ _ ⟨rfl, rfl⟩
  refine z_ifz_eq (tgt := 17) dX12_code_6 rfl (fun h6 => ?_) (fun h6 => ?_)
  · refine z_iconst dX12_code_17 (by decide) ?_
    refine z_goto (tgt := 44) dX12_code_18 rfl ?_
    refine z_callV mlX12_310 dX12_code_44 (sh_M hE) (av := [_]) rfl rfl (Nat.le_of_ble_eq_true rfl) (r_is _ hE hm _) (Nat.le_refl _) (Nat.le_refl _) (Nat.le_refl _) (Nat.le_refl _) ?_
    rintro _ m1 ⟨rfl, e1⟩
    have hq1 : mQ m m1 2 := e1 ▸ mQ_is hq0
    have hI1 := hq1.1
    have hm1 := hI1.1.1
    have eT1 := mQ_T hq1
    have ec1 : m1 a_c = m a_c := congrArg (fun q => q.1) eT1
    have ew1 : m1 a_what = m a_what := congrArg (fun q => q.2.1) eT1
    have ep1 : m1 a_pointOf = m a_pointOf := congrArg (fun q => q.2.2.1) eT1
    have en1 : m1 aM f_letters = m aM f_letters := congrArg (fun q => q.2.2.2) eT1
    obtain ⟨hw1, hl1, hn1⟩ := mI_wl hI1
    refine z_ifz_eq (tgt := 59) dX12_code_47 rfl (fun h47 => ?_) (fun h => absurd h (by decide))
    refine z_iconst dX12_code_59 (by decide) ?_
    refine z_iret dX12_code_60 rfl rfl ?_
    have eA : aCode (mT m) i j = (2, -1) := by unfold aCode; rw [if_pos (by omega)]
    rw [eA]
    exact ⟨rfl, hq1⟩
  · refine z_aload_n dX12_code_9 rfl ?_
    refine z_iload_n dX12_code_10 rfl ?_
    refine z_callV mlX12_329 dX12_code_11 (sh_M hE) (av := [_]) rfl rfl (Nat.le_of_ble_eq_true rfl) (r_isLetter _ hE hm j hn) (Nat.le_refl _) (Nat.le_refl _) (Nat.le_refl _) (Nat.le_refl _) ?_
    rintro _ _ ⟨rfl, rfl⟩
    refine z_ifz_ne (tgt := 21) dX12_code_14 rfl (fun h14 => ?_) (fun h14 => ?_)
    · refine z_iload_n dX12_code_21 rfl ?_
      refine z_iload_n dX12_code_22 rfl ?_
      refine z_icmp_ne (tgt := 30) dX12_code_23 rfl (fun h23 => ?_) (fun h23 => ?_)
      · refine z_aload_n dX12_code_30 rfl ?_
        refine z_iload_n dX12_code_31 rfl ?_
        refine z_iload_n dX12_code_32 rfl ?_
        refine z_callV mlX12_184 dX12_code_33 (sh_M hE) (av := [_, _]) rfl rfl (Nat.le_of_ble_eq_true rfl) (r_mayBe _ hE hm i j (by omega) (by omega) (by omega) (by omega) hw hl) (Nat.le_refl _) (Nat.le_refl _) (Nat.le_refl _) (Nat.le_refl _) ?_
        rintro _ _ ⟨rfl, rfl⟩
        refine z_ifz_eq (tgt := 43) dX12_code_36 rfl (fun h36 => ?_) (fun h36 => ?_)
        · refine z_iconst dX12_code_43 (by decide) ?_
          refine z_callV mlX12_310 dX12_code_44 (sh_M hE) (av := [_]) rfl rfl (Nat.le_of_ble_eq_true rfl) (r_is _ hE hm _) (Nat.le_refl _) (Nat.le_refl _) (Nat.le_refl _) (Nat.le_refl _) ?_
          rintro _ m1 ⟨rfl, e1⟩
          have hq1 : mQ m m1 5 := e1 ▸ mQ_is hq0
          have hI1 := hq1.1
          have hm1 := hI1.1.1
          have eT1 := mQ_T hq1
          have ec1 : m1 a_c = m a_c := congrArg (fun q => q.1) eT1
          have ew1 : m1 a_what = m a_what := congrArg (fun q => q.2.1) eT1
          have ep1 : m1 a_pointOf = m a_pointOf := congrArg (fun q => q.2.2.1) eT1
          have en1 : m1 aM f_letters = m aM f_letters := congrArg (fun q => q.2.2.2) eT1
          obtain ⟨hw1, hl1, hn1⟩ := mI_wl hI1
          refine z_ifz_eq (tgt := 59) dX12_code_47 rfl (fun h47 => ?_) (fun h => absurd h (by decide))
          refine z_iconst dX12_code_59 (by decide) ?_
          refine z_iret dX12_code_60 rfl rfl ?_
          have hMM : ¬ cMay (mT m).1 (mT m).2.1 (mT m).2.2.1 i j = true := by assumption
          have eA : aCode (mT m) i j = (5, -1) := by unfold aCode; rw [if_neg (by omega), if_neg (by omega), if_pos hMM]
          rw [eA]
          exact ⟨rfl, hq1⟩
        · refine z_iconst dX12_code_39 (by decide) ?_
          refine z_goto (tgt := 44) dX12_code_40 rfl ?_
          refine z_callV mlX12_310 dX12_code_44 (sh_M hE) (av := [_]) rfl rfl (Nat.le_of_ble_eq_true rfl) (r_is _ hE hm _) (Nat.le_refl _) (Nat.le_refl _) (Nat.le_refl _) (Nat.le_refl _) ?_
          rintro _ m1 ⟨rfl, e1⟩
          have hq1 : mQ m m1 0 := e1 ▸ mQ_is hq0
          have hI1 := hq1.1
          have hm1 := hI1.1.1
          have eT1 := mQ_T hq1
          have ec1 : m1 a_c = m a_c := congrArg (fun q => q.1) eT1
          have ew1 : m1 a_what = m a_what := congrArg (fun q => q.2.1) eT1
          have ep1 : m1 a_pointOf = m a_pointOf := congrArg (fun q => q.2.2.1) eT1
          have en1 : m1 aM f_letters = m aM f_letters := congrArg (fun q => q.2.2.2) eT1
          obtain ⟨hw1, hl1, hn1⟩ := mI_wl hI1
          refine z_ifz_eq (tgt := 59) dX12_code_47 rfl (fun h => absurd (by decide) h) (fun h47 => ?_)
          refine z_aload_n dX12_code_50 rfl ?_
          refine z_iload_n dX12_code_51 rfl ?_
          refine z_iload_n dX12_code_52 rfl ?_
          refine z_callV mlX12_203 dX12_code_53 (sh_M hE) (av := [_, _]) rfl rfl (Nat.le_of_ble_eq_true rfl) (r_codeOf _ hE hm1 i j (by omega) (by omega) (by omega) (by omega) hw1 hl1 (by rw [ec1, ew1, ep1]; assumption)) (Nat.le_refl _) (Nat.le_refl _) (Nat.le_refl _) (Nat.le_refl _) ?_
          rintro _ _ ⟨rfl, rfl⟩
          refine z_goto (tgt := 60) dX12_code_56 rfl ?_
          refine z_iret dX12_code_60 rfl rfl ?_
          have hMM : ¬ ¬ cMay (mT m).1 (mT m).2.1 (mT m).2.2.1 i j = true := not_not_intro (by assumption)
          rw [ec1, ew1, ep1]
          have eA : aCode (mT m) i j = (0, cCode (mT m).1 (mT m).2.1 (mT m).2.2.1 i j) := by unfold aCode; rw [if_neg (by omega), if_neg (by omega), if_neg hMM]
          rw [eA]
          exact ⟨rfl, hq1⟩
      · refine z_iconst dX12_code_26 (by decide) ?_
        refine z_goto (tgt := 44) dX12_code_27 rfl ?_
        refine z_callV mlX12_310 dX12_code_44 (sh_M hE) (av := [_]) rfl rfl (Nat.le_of_ble_eq_true rfl) (r_is _ hE hm _) (Nat.le_refl _) (Nat.le_refl _) (Nat.le_refl _) (Nat.le_refl _) ?_
        rintro _ m1 ⟨rfl, e1⟩
        have hq1 : mQ m m1 4 := e1 ▸ mQ_is hq0
        have hI1 := hq1.1
        have hm1 := hI1.1.1
        have eT1 := mQ_T hq1
        have ec1 : m1 a_c = m a_c := congrArg (fun q => q.1) eT1
        have ew1 : m1 a_what = m a_what := congrArg (fun q => q.2.1) eT1
        have ep1 : m1 a_pointOf = m a_pointOf := congrArg (fun q => q.2.2.1) eT1
        have en1 : m1 aM f_letters = m aM f_letters := congrArg (fun q => q.2.2.2) eT1
        obtain ⟨hw1, hl1, hn1⟩ := mI_wl hI1
        refine z_ifz_eq (tgt := 59) dX12_code_47 rfl (fun h47 => ?_) (fun h => absurd h (by decide))
        refine z_iconst dX12_code_59 (by decide) ?_
        refine z_iret dX12_code_60 rfl rfl ?_
        have eA : aCode (mT m) i j = (4, -1) := by unfold aCode; rw [if_neg (by omega), if_pos (by omega)]
        rw [eA]
        exact ⟨rfl, hq1⟩
    · refine z_iconst dX12_code_17 (by decide) ?_
      refine z_goto (tgt := 44) dX12_code_18 rfl ?_
      refine z_callV mlX12_310 dX12_code_44 (sh_M hE) (av := [_]) rfl rfl (Nat.le_of_ble_eq_true rfl) (r_is _ hE hm _) (Nat.le_refl _) (Nat.le_refl _) (Nat.le_refl _) (Nat.le_refl _) ?_
      rintro _ m1 ⟨rfl, e1⟩
      have hq1 : mQ m m1 2 := e1 ▸ mQ_is hq0
      have hI1 := hq1.1
      have hm1 := hI1.1.1
      have eT1 := mQ_T hq1
      have ec1 : m1 a_c = m a_c := congrArg (fun q => q.1) eT1
      have ew1 : m1 a_what = m a_what := congrArg (fun q => q.2.1) eT1
      have ep1 : m1 a_pointOf = m a_pointOf := congrArg (fun q => q.2.2.1) eT1
      have en1 : m1 aM f_letters = m aM f_letters := congrArg (fun q => q.2.2.2) eT1
      obtain ⟨hw1, hl1, hn1⟩ := mI_wl hI1
      refine z_ifz_eq (tgt := 59) dX12_code_47 rfl (fun h47 => ?_) (fun h => absurd h (by decide))
      refine z_iconst dX12_code_59 (by decide) ?_
      refine z_iret dX12_code_60 rfl rfl ?_
      have eA : aCode (mT m) i j = (2, -1) := by unfold aCode; rw [if_pos (by omega)]
      rw [eA]
      exact ⟨rfl, hq1⟩
