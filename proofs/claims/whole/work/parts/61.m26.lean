theorem zpar_or (x : Int) : zpar x = 1 ∨ zpar x = -1 := by unfold zpar; split <;> simp
theorem mL_get {m : zM} (hk : mOK m) (h : mL m) {k : Int} (h0 : 0 ≤ k) (h1 : k < m aM f_laid) : ∃ mt, (tPairs (mT m))[k.toNat]? = some mt ∧ mt ∈ tPairs (mT m) := by
  have hl := mL_len hk h
  have hb : k.toNat < (tPairs (mT m)).length := by omega
  exact ⟨_, List.getElem?_eq_getElem hb, List.getElem_mem hb⟩
theorem mL_sg {m : zM} (hk : mOK m) (h : mL m) : ∀ k, 0 ≤ k → k < m aM f_laid → m a_sign k = 1 ∨ m a_sign k = -1 := fun k h0 h1 => by
  obtain ⟨mt, g, _⟩ := mL_get hk h h0 h1
  have := (mL_row h _ mt g).2.1
  rw [show ((k.toNat : Nat) : Int) = k by omega] at this
  rw [this]
  exact zpar_or _
noncomputable def aMany (T : zT) (w : Int) : Int × Int :=
  if ¬ (0 ≤ w ∧ w ≤ 12) then (1, -1) else if w ≤ 2 then (0, T.1 w) else if w = 3 then (0, zsum (fun p => T.1 (32 + 9 * p + 1)) (T.1 2).toNat 0) else if w = 4 then (0, T.2.2.2) else if w = 5 then (0, ((tPairs T).length : Int)) else if w = 6 then (0, ((tD T).length : Int)) else if w = 7 then (0, tS T (tSign T)) else if w = 10 then (0, tS T (fun mt => zb (tCr T mt = 0))) else if w = 8 then (0, tMany T 0 0) else if w = 9 then (0, tMany T 1 0) else if w = 11 then (0, tMany T 0 1) else (0, tMany T 1 1)
theorem q_many (d : Nat) {E : zE} {m : zM} (hE : shM E) (hI : mI m) (w : Int)  : zR zX12_many (d + 15) [zP aM, zI w] m E E (fun r m' => r = some (zI (aMany (mT m) w).2) ∧ mQ m m' (aMany (mT m) w).1) := by
  have hm := hI.1.1
  obtain ⟨hw, hl, hn0⟩ := mI_wl hI
  have b1 := hw.1
  have b2 := hw.2.1
  have b3 := hw.2.2.1
  refine zR_go [zP aM, zI w] (by decide +kernel) (Nat.le_of_ble_eq_true rfl) rfl rfl ?_
  refine z_aload_n dX12_many_0 rfl ?_
  refine z_iload_n dX12_many_1 rfl ?_
  refine z_iconst dX12_many_2 (by decide) ?_
  refine z_bipush dX12_many_3 rfl (by decide) ?_
  refine z_callS mlX12_140 dX12_many_5 (av := [_, _, _]) rfl rfl (Nat.le_of_ble_eq_true rfl) (r_isIn _ hE hm w 0 12) (Nat.le_refl _) (Nat.le_refl _) (Nat.le_refl _) (Nat.le_refl _) ?_
  rintro _ _ ⟨rfl, rfl⟩
  refine z_ifz_eq (tgt := 15) dX12_many_8 rfl (fun h8 => ?_) (fun h8 => ?_)
  · refine z_iconst dX12_many_15 (by decide) ?_
    refine z_callV mlX12_310 dX12_many_16 (sh_M hE) (av := [_]) rfl rfl (Nat.le_of_ble_eq_true rfl) (r_is _ hE hm _) (Nat.le_refl _) (Nat.le_refl _) (Nat.le_refl _) (Nat.le_refl _) ?_
    rintro _ _ ⟨rfl, rfl⟩
    have hqS := mQ_S (w := 1) hI
    have hIS := hqS.1
    have hmS := hIS.1.1
    refine z_ifz_ne (tgt := 24) dX12_many_19 rfl (fun h => absurd h (by decide)) (fun h19 => ?_)
    refine z_iconst dX12_many_22 (by decide) ?_
    refine z_iret dX12_many_23 rfl rfl ?_
    have eA : aMany (mT m) w = (1, -1) := by unfold aMany; rw [if_pos (by omega)]
    rw [eA]
    exact ⟨rfl, hqS⟩
  · refine z_iconst dX12_many_11 (by decide) ?_
    refine z_goto (tgt := 16) dX12_many_12 rfl ?_
    refine z_callV mlX12_310 dX12_many_16 (sh_M hE) (av := [_]) rfl rfl (Nat.le_of_ble_eq_true rfl) (r_is _ hE hm _) (Nat.le_refl _) (Nat.le_refl _) (Nat.le_refl _) (Nat.le_refl _) ?_
    rintro _ _ ⟨rfl, rfl⟩
    have hqS := mQ_S (w := 0) hI
    have hIS := hqS.1
    have hmS := hIS.1.1
    refine z_ifz_ne (tgt := 24) dX12_many_19 rfl (fun h19 => ?_) (fun h => absurd (by decide) h)
    refine z_aload_n dX12_many_24 rfl ?_
    refine z_callV mlX12_194 dX12_many_25 (sh_M hE) (av := _) rfl rfl (Nat.le_of_ble_eq_true rfl) (q_lays _ hE hIS) (Nat.le_refl _) (Nat.le_refl _) (Nat.le_refl _) (Nat.le_refl _) ?_
    rintro _ m1 ⟨rfl, hI1, f1, hL1⟩
    have hm1 := hI1.1.1
    have hq1 := mQ_lays hqS hI1 f1
    have eT := mQ_T hq1
    have hlen := mL_len hI1.1 hL1
    have hsg := mL_sg hI1.1 hL1
    have ec : m1 a_c = m a_c := congrArg (fun q => q.1) eT
    have en : m1 aM f_letters = m aM f_letters := congrArg (fun q => q.2.2.2) eT
    have hw1 : wfC (m1 a_c) := by rw [ec]; exact hw
    refine z_iload_n dX12_many_28 rfl ?_
    by_cases hs0 : w = 0
    · refine z_tabIn (tgt := 88) dX12_many_29 (by omega) (by omega) (by rw [hs0]; rfl) rfl ?_
      refine z_aload_n dX12_many_88 rfl ?_
      refine z_gP 0 rfl (r := a_c) flX12_7 dX12_many_89 (sh_M hE) rfl (pt_c hm1) (by decide) ?_
      refine z_iload_n dX12_many_92 rfl ?_
      refine z_iald dX12_many_93 (sh_c hE) (by omega) (by omega) ?_
      refine z_iret dX12_many_94 rfl rfl ?_
      rw [ec]
      have eA : aMany (mT m) w = (0, (mT m).1 w) := by unfold aMany; rw [if_neg (by omega), if_pos (by omega)]
      rw [eA]
      exact ⟨rfl, hq1⟩
    by_cases hs1 : w = 1
    · refine z_tabIn (tgt := 88) dX12_many_29 (by omega) (by omega) (by rw [hs1]; rfl) rfl ?_
      refine z_aload_n dX12_many_88 rfl ?_
      refine z_gP 0 rfl (r := a_c) flX12_7 dX12_many_89 (sh_M hE) rfl (pt_c hm1) (by decide) ?_
      refine z_iload_n dX12_many_92 rfl ?_
      refine z_iald dX12_many_93 (sh_c hE) (by omega) (by omega) ?_
      refine z_iret dX12_many_94 rfl rfl ?_
      rw [ec]
      have eA : aMany (mT m) w = (0, (mT m).1 w) := by unfold aMany; rw [if_neg (by omega), if_pos (by omega)]
      rw [eA]
      exact ⟨rfl, hq1⟩
    by_cases hs2 : w = 2
    · refine z_tabIn (tgt := 88) dX12_many_29 (by omega) (by omega) (by rw [hs2]; rfl) rfl ?_
      refine z_aload_n dX12_many_88 rfl ?_
      refine z_gP 0 rfl (r := a_c) flX12_7 dX12_many_89 (sh_M hE) rfl (pt_c hm1) (by decide) ?_
      refine z_iload_n dX12_many_92 rfl ?_
      refine z_iald dX12_many_93 (sh_c hE) (by omega) (by omega) ?_
      refine z_iret dX12_many_94 rfl rfl ?_
      rw [ec]
      have eA : aMany (mT m) w = (0, (mT m).1 w) := by unfold aMany; rw [if_neg (by omega), if_pos (by omega)]
      rw [eA]
      exact ⟨rfl, hq1⟩
    by_cases hs3 : w = 3
    · refine z_tabIn (tgt := 95) dX12_many_29 (by omega) (by omega) (by rw [hs3]; rfl) rfl ?_
      refine z_aload_n dX12_many_95 rfl ?_
      refine z_callV mlX12_313 dX12_many_96 (sh_M hE) (av := _) rfl rfl (Nat.le_of_ble_eq_true rfl) (r_vertices _ hE hm1 hw1) (Nat.le_refl _) (Nat.le_refl _) (Nat.le_refl _) (Nat.le_refl _) ?_
      rintro _ _ ⟨rfl, rfl⟩
      refine z_iret dX12_many_99 rfl rfl ?_
      rw [ec]
      have eA : aMany (mT m) w = (0, zsum (fun p => (mT m).1 (32 + 9 * p + 1)) ((mT m).1 2).toNat 0) := by unfold aMany; rw [if_neg (by omega), if_neg (by omega), if_pos (by omega)]
      rw [eA]
      exact ⟨rfl, hq1⟩
    by_cases hs4 : w = 4
    · refine z_tabIn (tgt := 100) dX12_many_29 (by omega) (by omega) (by rw [hs4]; rfl) rfl ?_
      refine z_aload_n dX12_many_100 rfl ?_
      refine z_gI f_letters rfl flX12_124 dX12_many_101 (sh_M hE) rfl ?_
      refine z_iret dX12_many_104 rfl rfl ?_
      rw [en]
      have eA : aMany (mT m) w = (0, (mT m).2.2.2) := by unfold aMany; rw [if_neg (by omega), if_neg (by omega), if_neg (by omega), if_pos (by omega)]
      rw [eA]
      exact ⟨rfl, hq1⟩
    by_cases hs5 : w = 5
    · refine z_tabIn (tgt := 105) dX12_many_29 (by omega) (by omega) (by rw [hs5]; rfl) rfl ?_
      refine z_aload_n dX12_many_105 rfl ?_
      refine z_gI f_laid rfl flX12_172 dX12_many_106 (sh_M hE) rfl ?_
      refine z_iret dX12_many_109 rfl rfl ?_
      rw [hlen.1, eT]
      have eA : aMany (mT m) w = (0, ((tPairs (mT m)).length : Int)) := by unfold aMany; rw [if_neg (by omega), if_neg (by omega), if_neg (by omega), if_neg (by omega), if_pos (by omega)]
      rw [eA]
      exact ⟨rfl, hq1⟩
    by_cases hs6 : w = 6
    · refine z_tabIn (tgt := 110) dX12_many_29 (by omega) (by omega) (by rw [hs6]; rfl) rfl ?_
      refine z_aload_n dX12_many_110 rfl ?_
      refine z_callV mlX12_316 dX12_many_111 (sh_M hE) (av := _) rfl rfl (Nat.le_of_ble_eq_true rfl) (q_diagramMany _ hE hI1) (Nat.le_refl _) (Nat.le_refl _) (Nat.le_refl _) (Nat.le_refl _) ?_
      rintro _ m2 ⟨rfl, hI2, f2⟩
      refine z_iret dX12_many_114 rfl rfl ?_
      rw [mQ_T hq1]
      have eA : aMany (mT m) w = (0, ((tD (mT m)).length : Int)) := by unfold aMany; rw [if_neg (by omega), if_neg (by omega), if_neg (by omega), if_neg (by omega), if_neg (by omega), if_pos (by omega)]
      rw [eA]
      exact ⟨rfl, mQ_names hq1 hI2 f2⟩
    by_cases hs7 : w = 7
    · refine z_tabIn (tgt := 115) dX12_many_29 (by omega) (by omega) (by rw [hs7]; rfl) rfl ?_
      refine z_aload_n dX12_many_115 rfl ?_
      refine z_callV mlX12_319 dX12_many_116 (sh_M hE) (av := _) rfl rfl (Nat.le_of_ble_eq_true rfl) (r_signs _ hE hm1 hlen.2.1 hsg) (Nat.le_refl _) (Nat.le_refl _) (Nat.le_refl _) (Nat.le_refl _) ?_
      rintro _ _ ⟨rfl, rfl⟩
      refine z_iret dX12_many_119 rfl rfl ?_
      rw [show zsum (fun k => m1 a_sign k) (m1 aM f_laid).toNat 0 = tS (mT m1) (tSign (mT m1)) from zsum_lS0 hlen.2.2.symm (fun t x ht => (mL_row hL1 t x ht).2.1), eT]
      have eA : aMany (mT m) w = (0, tS (mT m) (tSign (mT m))) := by unfold aMany; rw [if_neg (by omega), if_neg (by omega), if_neg (by omega), if_neg (by omega), if_neg (by omega), if_neg (by omega), if_pos (by omega)]
      rw [eA]
      exact ⟨rfl, hq1⟩
    by_cases hs8 : w = 8
    · refine z_tabIn (tgt := 125) dX12_many_29 (by omega) (by omega) (by rw [hs8]; rfl) rfl ?_
      refine z_aload_n dX12_many_125 rfl ?_
      refine z_iload_n dX12_many_126 rfl ?_
      refine z_bipush dX12_many_127 rfl (by decide) ?_
      refine z_icmp_eq (tgt := 138) dX12_many_129 rfl (fun h129 => ?_) (fun h129 => ?_)
      · refine z_iconst dX12_many_138 (by decide) ?_
        refine z_goto (tgt := 143) dX12_many_139 rfl ?_
        refine z_iload_n dX12_many_143 rfl ?_
        refine z_bipush dX12_many_144 rfl (by decide) ?_
        refine z_icmp_le (tgt := 153) dX12_many_146 rfl (fun h146 => ?_) (fun h146 => ?_)
        · refine z_iconst dX12_many_153 (by decide) ?_
          refine z_callV mlX12_325 dX12_many_154 (sh_M hE) (av := [_, _]) rfl rfl (Nat.le_of_ble_eq_true rfl) (q_manySuch _ hE hI1 _ _) (Nat.le_refl _) (Nat.le_refl _) (Nat.le_refl _) (Nat.le_refl _) ?_
          rintro _ m2 ⟨rfl, hI2, f2⟩
          refine z_iret dX12_many_157 rfl rfl ?_
          rw [eT]
          have eA : aMany (mT m) w = (0, tMany (mT m) 1 0) := by unfold aMany; rw [if_neg (by omega), if_neg (by omega), if_neg (by omega), if_neg (by omega), if_neg (by omega), if_neg (by omega), if_neg (by omega), if_neg (by omega), if_neg (by omega), if_pos (by omega)]
          rw [eA]
          exact ⟨rfl, mQ_X hq1 hI2 f2⟩
        · refine z_iconst dX12_many_149 (by decide) ?_
          refine z_goto (tgt := 154) dX12_many_150 rfl ?_
          refine z_callV mlX12_325 dX12_many_154 (sh_M hE) (av := [_, _]) rfl rfl (Nat.le_of_ble_eq_true rfl) (q_manySuch _ hE hI1 _ _) (Nat.le_refl _) (Nat.le_refl _) (Nat.le_refl _) (Nat.le_refl _) ?_
          rintro _ m2 ⟨rfl, hI2, f2⟩
          refine z_iret dX12_many_157 rfl rfl ?_
          rw [eT]
          have eA : aMany (mT m) w = (0, tMany (mT m) 1 1) := by unfold aMany; rw [if_neg (by omega), if_neg (by omega), if_neg (by omega), if_neg (by omega), if_neg (by omega), if_neg (by omega), if_neg (by omega), if_neg (by omega), if_neg (by omega), if_neg (by omega), if_neg (by omega)]
          rw [eA]
          exact ⟨rfl, mQ_X hq1 hI2 f2⟩
      · refine z_iload_n dX12_many_132 rfl ?_
        refine z_bipush dX12_many_133 rfl (by decide) ?_
        refine z_icmp_ne (tgt := 142) dX12_many_135 rfl (fun h135 => ?_) (fun h135 => ?_)
        · refine z_iconst dX12_many_142 (by decide) ?_
          refine z_iload_n dX12_many_143 rfl ?_
          refine z_bipush dX12_many_144 rfl (by decide) ?_
          refine z_icmp_le (tgt := 153) dX12_many_146 rfl (fun h146 => ?_) (fun h146 => ?_)
          · refine z_iconst dX12_many_153 (by decide) ?_
            refine z_callV mlX12_325 dX12_many_154 (sh_M hE) (av := [_, _]) rfl rfl (Nat.le_of_ble_eq_true rfl) (q_manySuch _ hE hI1 _ _) (Nat.le_refl _) (Nat.le_refl _) (Nat.le_refl _) (Nat.le_refl _) ?_
            rintro _ m2 ⟨rfl, hI2, f2⟩
            refine z_iret dX12_many_157 rfl rfl ?_
            rw [eT]
            have eA : aMany (mT m) w = (0, tMany (mT m) 0 0) := by unfold aMany; rw [if_neg (by omega), if_neg (by omega), if_neg (by omega), if_neg (by omega), if_neg (by omega), if_neg (by omega), if_neg (by omega), if_neg (by omega), if_pos (by omega)]
            rw [eA]
            exact ⟨rfl, mQ_X hq1 hI2 f2⟩
          · refine z_iconst dX12_many_149 (by decide) ?_
            refine z_goto (tgt := 154) dX12_many_150 rfl ?_
            refine z_callV mlX12_325 dX12_many_154 (sh_M hE) (av := [_, _]) rfl rfl (Nat.le_of_ble_eq_true rfl) (q_manySuch _ hE hI1 _ _) (Nat.le_refl _) (Nat.le_refl _) (Nat.le_refl _) (Nat.le_refl _) ?_
            rintro _ m2 ⟨rfl, hI2, f2⟩
            refine z_iret dX12_many_157 rfl rfl ?_
            rw [eT]
            have eA : aMany (mT m) w = (0, tMany (mT m) 0 1) := by unfold aMany; rw [if_neg (by omega), if_neg (by omega), if_neg (by omega), if_neg (by omega), if_neg (by omega), if_neg (by omega), if_neg (by omega), if_neg (by omega), if_neg (by omega), if_neg (by omega), if_pos (by omega)]
            rw [eA]
            exact ⟨rfl, mQ_X hq1 hI2 f2⟩
        · refine z_iconst dX12_many_138 (by decide) ?_
          refine z_goto (tgt := 143) dX12_many_139 rfl ?_
          refine z_iload_n dX12_many_143 rfl ?_
          refine z_bipush dX12_many_144 rfl (by decide) ?_
          refine z_icmp_le (tgt := 153) dX12_many_146 rfl (fun h146 => ?_) (fun h146 => ?_)
          · refine z_iconst dX12_many_153 (by decide) ?_
            refine z_callV mlX12_325 dX12_many_154 (sh_M hE) (av := [_, _]) rfl rfl (Nat.le_of_ble_eq_true rfl) (q_manySuch _ hE hI1 _ _) (Nat.le_refl _) (Nat.le_refl _) (Nat.le_refl _) (Nat.le_refl _) ?_
            rintro _ m2 ⟨rfl, hI2, f2⟩
            refine z_iret dX12_many_157 rfl rfl ?_
            rw [eT]
            have eA : aMany (mT m) w = (0, tMany (mT m) 1 0) := by unfold aMany; rw [if_neg (by omega), if_neg (by omega), if_neg (by omega), if_neg (by omega), if_neg (by omega), if_neg (by omega), if_neg (by omega), if_neg (by omega), if_neg (by omega), if_pos (by omega)]
            rw [eA]
            exact ⟨rfl, mQ_X hq1 hI2 f2⟩
          · refine z_iconst dX12_many_149 (by decide) ?_
            refine z_goto (tgt := 154) dX12_many_150 rfl ?_
            refine z_callV mlX12_325 dX12_many_154 (sh_M hE) (av := [_, _]) rfl rfl (Nat.le_of_ble_eq_true rfl) (q_manySuch _ hE hI1 _ _) (Nat.le_refl _) (Nat.le_refl _) (Nat.le_refl _) (Nat.le_refl _) ?_
            rintro _ m2 ⟨rfl, hI2, f2⟩
            refine z_iret dX12_many_157 rfl rfl ?_
            rw [eT]
            have eA : aMany (mT m) w = (0, tMany (mT m) 1 1) := by unfold aMany; rw [if_neg (by omega), if_neg (by omega), if_neg (by omega), if_neg (by omega), if_neg (by omega), if_neg (by omega), if_neg (by omega), if_neg (by omega), if_neg (by omega), if_neg (by omega), if_neg (by omega)]
            rw [eA]
            exact ⟨rfl, mQ_X hq1 hI2 f2⟩
    by_cases hs9 : w = 9
    · refine z_tabIn (tgt := 125) dX12_many_29 (by omega) (by omega) (by rw [hs9]; rfl) rfl ?_
      refine z_aload_n dX12_many_125 rfl ?_
      refine z_iload_n dX12_many_126 rfl ?_
      refine z_bipush dX12_many_127 rfl (by decide) ?_
      refine z_icmp_eq (tgt := 138) dX12_many_129 rfl (fun h129 => ?_) (fun h129 => ?_)
      · refine z_iconst dX12_many_138 (by decide) ?_
        refine z_goto (tgt := 143) dX12_many_139 rfl ?_
        refine z_iload_n dX12_many_143 rfl ?_
        refine z_bipush dX12_many_144 rfl (by decide) ?_
        refine z_icmp_le (tgt := 153) dX12_many_146 rfl (fun h146 => ?_) (fun h146 => ?_)
        · refine z_iconst dX12_many_153 (by decide) ?_
          refine z_callV mlX12_325 dX12_many_154 (sh_M hE) (av := [_, _]) rfl rfl (Nat.le_of_ble_eq_true rfl) (q_manySuch _ hE hI1 _ _) (Nat.le_refl _) (Nat.le_refl _) (Nat.le_refl _) (Nat.le_refl _) ?_
          rintro _ m2 ⟨rfl, hI2, f2⟩
          refine z_iret dX12_many_157 rfl rfl ?_
          rw [eT]
          have eA : aMany (mT m) w = (0, tMany (mT m) 1 0) := by unfold aMany; rw [if_neg (by omega), if_neg (by omega), if_neg (by omega), if_neg (by omega), if_neg (by omega), if_neg (by omega), if_neg (by omega), if_neg (by omega), if_neg (by omega), if_pos (by omega)]
          rw [eA]
          exact ⟨rfl, mQ_X hq1 hI2 f2⟩
        · refine z_iconst dX12_many_149 (by decide) ?_
          refine z_goto (tgt := 154) dX12_many_150 rfl ?_
          refine z_callV mlX12_325 dX12_many_154 (sh_M hE) (av := [_, _]) rfl rfl (Nat.le_of_ble_eq_true rfl) (q_manySuch _ hE hI1 _ _) (Nat.le_refl _) (Nat.le_refl _) (Nat.le_refl _) (Nat.le_refl _) ?_
          rintro _ m2 ⟨rfl, hI2, f2⟩
          refine z_iret dX12_many_157 rfl rfl ?_
          rw [eT]
          have eA : aMany (mT m) w = (0, tMany (mT m) 1 1) := by unfold aMany; rw [if_neg (by omega), if_neg (by omega), if_neg (by omega), if_neg (by omega), if_neg (by omega), if_neg (by omega), if_neg (by omega), if_neg (by omega), if_neg (by omega), if_neg (by omega), if_neg (by omega)]
          rw [eA]
          exact ⟨rfl, mQ_X hq1 hI2 f2⟩
      · refine z_iload_n dX12_many_132 rfl ?_
        refine z_bipush dX12_many_133 rfl (by decide) ?_
        refine z_icmp_ne (tgt := 142) dX12_many_135 rfl (fun h135 => ?_) (fun h135 => ?_)
        · refine z_iconst dX12_many_142 (by decide) ?_
          refine z_iload_n dX12_many_143 rfl ?_
          refine z_bipush dX12_many_144 rfl (by decide) ?_
          refine z_icmp_le (tgt := 153) dX12_many_146 rfl (fun h146 => ?_) (fun h146 => ?_)
          · refine z_iconst dX12_many_153 (by decide) ?_
            refine z_callV mlX12_325 dX12_many_154 (sh_M hE) (av := [_, _]) rfl rfl (Nat.le_of_ble_eq_true rfl) (q_manySuch _ hE hI1 _ _) (Nat.le_refl _) (Nat.le_refl _) (Nat.le_refl _) (Nat.le_refl _) ?_
            rintro _ m2 ⟨rfl, hI2, f2⟩
            refine z_iret dX12_many_157 rfl rfl ?_
            rw [eT]
            have eA : aMany (mT m) w = (0, tMany (mT m) 0 0) := by unfold aMany; rw [if_neg (by omega), if_neg (by omega), if_neg (by omega), if_neg (by omega), if_neg (by omega), if_neg (by omega), if_neg (by omega), if_neg (by omega), if_pos (by omega)]
            rw [eA]
            exact ⟨rfl, mQ_X hq1 hI2 f2⟩
          · refine z_iconst dX12_many_149 (by decide) ?_
            refine z_goto (tgt := 154) dX12_many_150 rfl ?_
            refine z_callV mlX12_325 dX12_many_154 (sh_M hE) (av := [_, _]) rfl rfl (Nat.le_of_ble_eq_true rfl) (q_manySuch _ hE hI1 _ _) (Nat.le_refl _) (Nat.le_refl _) (Nat.le_refl _) (Nat.le_refl _) ?_
            rintro _ m2 ⟨rfl, hI2, f2⟩
            refine z_iret dX12_many_157 rfl rfl ?_
            rw [eT]
            have eA : aMany (mT m) w = (0, tMany (mT m) 0 1) := by unfold aMany; rw [if_neg (by omega), if_neg (by omega), if_neg (by omega), if_neg (by omega), if_neg (by omega), if_neg (by omega), if_neg (by omega), if_neg (by omega), if_neg (by omega), if_neg (by omega), if_pos (by omega)]
            rw [eA]
            exact ⟨rfl, mQ_X hq1 hI2 f2⟩
        · refine z_iconst dX12_many_138 (by decide) ?_
          refine z_goto (tgt := 143) dX12_many_139 rfl ?_
          refine z_iload_n dX12_many_143 rfl ?_
          refine z_bipush dX12_many_144 rfl (by decide) ?_
          refine z_icmp_le (tgt := 153) dX12_many_146 rfl (fun h146 => ?_) (fun h146 => ?_)
          · refine z_iconst dX12_many_153 (by decide) ?_
            refine z_callV mlX12_325 dX12_many_154 (sh_M hE) (av := [_, _]) rfl rfl (Nat.le_of_ble_eq_true rfl) (q_manySuch _ hE hI1 _ _) (Nat.le_refl _) (Nat.le_refl _) (Nat.le_refl _) (Nat.le_refl _) ?_
            rintro _ m2 ⟨rfl, hI2, f2⟩
            refine z_iret dX12_many_157 rfl rfl ?_
            rw [eT]
            have eA : aMany (mT m) w = (0, tMany (mT m) 1 0) := by unfold aMany; rw [if_neg (by omega), if_neg (by omega), if_neg (by omega), if_neg (by omega), if_neg (by omega), if_neg (by omega), if_neg (by omega), if_neg (by omega), if_neg (by omega), if_pos (by omega)]
            rw [eA]
            exact ⟨rfl, mQ_X hq1 hI2 f2⟩
          · refine z_iconst dX12_many_149 (by decide) ?_
            refine z_goto (tgt := 154) dX12_many_150 rfl ?_
            refine z_callV mlX12_325 dX12_many_154 (sh_M hE) (av := [_, _]) rfl rfl (Nat.le_of_ble_eq_true rfl) (q_manySuch _ hE hI1 _ _) (Nat.le_refl _) (Nat.le_refl _) (Nat.le_refl _) (Nat.le_refl _) ?_
            rintro _ m2 ⟨rfl, hI2, f2⟩
            refine z_iret dX12_many_157 rfl rfl ?_
            rw [eT]
            have eA : aMany (mT m) w = (0, tMany (mT m) 1 1) := by unfold aMany; rw [if_neg (by omega), if_neg (by omega), if_neg (by omega), if_neg (by omega), if_neg (by omega), if_neg (by omega), if_neg (by omega), if_neg (by omega), if_neg (by omega), if_neg (by omega), if_neg (by omega)]
            rw [eA]
            exact ⟨rfl, mQ_X hq1 hI2 f2⟩
    by_cases hs10 : w = 10
    · refine z_tabIn (tgt := 120) dX12_many_29 (by omega) (by omega) (by rw [hs10]; rfl) rfl ?_
      refine z_aload_n dX12_many_120 rfl ?_
      refine z_callV mlX12_322 dX12_many_121 (sh_M hE) (av := _) rfl rfl (Nat.le_of_ble_eq_true rfl) (r_uncrossed _ hE hm1 hlen.2.1) (Nat.le_refl _) (Nat.le_refl _) (Nat.le_refl _) (Nat.le_refl _) ?_
      rintro _ _ ⟨rfl, rfl⟩
      refine z_iret dX12_many_124 rfl rfl ?_
      rw [show zsum (fun k => zb (m1 a_crossings k = 0)) (m1 aM f_laid).toNat 0 = tS (mT m1) (fun mt => zb (tCr (mT m1) mt = 0)) from zsum_lS0 hlen.2.2.symm (fun t x ht => by rw [(mL_row hL1 t x ht).2.2.1]), eT]
      have eA : aMany (mT m) w = (0, tS (mT m) (fun mt => zb (tCr (mT m) mt = 0))) := by unfold aMany; rw [if_neg (by omega), if_neg (by omega), if_neg (by omega), if_neg (by omega), if_neg (by omega), if_neg (by omega), if_neg (by omega), if_pos (by omega)]
      rw [eA]
      exact ⟨rfl, hq1⟩
    refine z_tabOut (tgt := 125) dX12_many_29 (by omega) rfl ?_
    refine z_aload_n dX12_many_125 rfl ?_
    refine z_iload_n dX12_many_126 rfl ?_
    refine z_bipush dX12_many_127 rfl (by decide) ?_
    refine z_icmp_eq (tgt := 138) dX12_many_129 rfl (fun h129 => ?_) (fun h129 => ?_)
    · refine z_iconst dX12_many_138 (by decide) ?_
      refine z_goto (tgt := 143) dX12_many_139 rfl ?_
      refine z_iload_n dX12_many_143 rfl ?_
      refine z_bipush dX12_many_144 rfl (by decide) ?_
      refine z_icmp_le (tgt := 153) dX12_many_146 rfl (fun h146 => ?_) (fun h146 => ?_)
      · refine z_iconst dX12_many_153 (by decide) ?_
        refine z_callV mlX12_325 dX12_many_154 (sh_M hE) (av := [_, _]) rfl rfl (Nat.le_of_ble_eq_true rfl) (q_manySuch _ hE hI1 _ _) (Nat.le_refl _) (Nat.le_refl _) (Nat.le_refl _) (Nat.le_refl _) ?_
        rintro _ m2 ⟨rfl, hI2, f2⟩
        refine z_iret dX12_many_157 rfl rfl ?_
        rw [eT]
        have eA : aMany (mT m) w = (0, tMany (mT m) 1 0) := by unfold aMany; rw [if_neg (by omega), if_neg (by omega), if_neg (by omega), if_neg (by omega), if_neg (by omega), if_neg (by omega), if_neg (by omega), if_neg (by omega), if_neg (by omega), if_pos (by omega)]
        rw [eA]
        exact ⟨rfl, mQ_X hq1 hI2 f2⟩
      · refine z_iconst dX12_many_149 (by decide) ?_
        refine z_goto (tgt := 154) dX12_many_150 rfl ?_
        refine z_callV mlX12_325 dX12_many_154 (sh_M hE) (av := [_, _]) rfl rfl (Nat.le_of_ble_eq_true rfl) (q_manySuch _ hE hI1 _ _) (Nat.le_refl _) (Nat.le_refl _) (Nat.le_refl _) (Nat.le_refl _) ?_
        rintro _ m2 ⟨rfl, hI2, f2⟩
        refine z_iret dX12_many_157 rfl rfl ?_
        rw [eT]
        have eA : aMany (mT m) w = (0, tMany (mT m) 1 1) := by unfold aMany; rw [if_neg (by omega), if_neg (by omega), if_neg (by omega), if_neg (by omega), if_neg (by omega), if_neg (by omega), if_neg (by omega), if_neg (by omega), if_neg (by omega), if_neg (by omega), if_neg (by omega)]
        rw [eA]
        exact ⟨rfl, mQ_X hq1 hI2 f2⟩
    · refine z_iload_n dX12_many_132 rfl ?_
      refine z_bipush dX12_many_133 rfl (by decide) ?_
      refine z_icmp_ne (tgt := 142) dX12_many_135 rfl (fun h135 => ?_) (fun h135 => ?_)
      · refine z_iconst dX12_many_142 (by decide) ?_
        refine z_iload_n dX12_many_143 rfl ?_
        refine z_bipush dX12_many_144 rfl (by decide) ?_
        refine z_icmp_le (tgt := 153) dX12_many_146 rfl (fun h146 => ?_) (fun h146 => ?_)
        · refine z_iconst dX12_many_153 (by decide) ?_
          refine z_callV mlX12_325 dX12_many_154 (sh_M hE) (av := [_, _]) rfl rfl (Nat.le_of_ble_eq_true rfl) (q_manySuch _ hE hI1 _ _) (Nat.le_refl _) (Nat.le_refl _) (Nat.le_refl _) (Nat.le_refl _) ?_
          rintro _ m2 ⟨rfl, hI2, f2⟩
          refine z_iret dX12_many_157 rfl rfl ?_
          rw [eT]
          have eA : aMany (mT m) w = (0, tMany (mT m) 0 0) := by unfold aMany; rw [if_neg (by omega), if_neg (by omega), if_neg (by omega), if_neg (by omega), if_neg (by omega), if_neg (by omega), if_neg (by omega), if_neg (by omega), if_pos (by omega)]
          rw [eA]
          exact ⟨rfl, mQ_X hq1 hI2 f2⟩
        · refine z_iconst dX12_many_149 (by decide) ?_
          refine z_goto (tgt := 154) dX12_many_150 rfl ?_
          refine z_callV mlX12_325 dX12_many_154 (sh_M hE) (av := [_, _]) rfl rfl (Nat.le_of_ble_eq_true rfl) (q_manySuch _ hE hI1 _ _) (Nat.le_refl _) (Nat.le_refl _) (Nat.le_refl _) (Nat.le_refl _) ?_
          rintro _ m2 ⟨rfl, hI2, f2⟩
          refine z_iret dX12_many_157 rfl rfl ?_
          rw [eT]
          have eA : aMany (mT m) w = (0, tMany (mT m) 0 1) := by unfold aMany; rw [if_neg (by omega), if_neg (by omega), if_neg (by omega), if_neg (by omega), if_neg (by omega), if_neg (by omega), if_neg (by omega), if_neg (by omega), if_neg (by omega), if_neg (by omega), if_pos (by omega)]
          rw [eA]
          exact ⟨rfl, mQ_X hq1 hI2 f2⟩
      · refine z_iconst dX12_many_138 (by decide) ?_
        refine z_goto (tgt := 143) dX12_many_139 rfl ?_
        refine z_iload_n dX12_many_143 rfl ?_
        refine z_bipush dX12_many_144 rfl (by decide) ?_
        refine z_icmp_le (tgt := 153) dX12_many_146 rfl (fun h146 => ?_) (fun h146 => ?_)
        · refine z_iconst dX12_many_153 (by decide) ?_
          refine z_callV mlX12_325 dX12_many_154 (sh_M hE) (av := [_, _]) rfl rfl (Nat.le_of_ble_eq_true rfl) (q_manySuch _ hE hI1 _ _) (Nat.le_refl _) (Nat.le_refl _) (Nat.le_refl _) (Nat.le_refl _) ?_
          rintro _ m2 ⟨rfl, hI2, f2⟩
          refine z_iret dX12_many_157 rfl rfl ?_
          rw [eT]
          have eA : aMany (mT m) w = (0, tMany (mT m) 1 0) := by unfold aMany; rw [if_neg (by omega), if_neg (by omega), if_neg (by omega), if_neg (by omega), if_neg (by omega), if_neg (by omega), if_neg (by omega), if_neg (by omega), if_neg (by omega), if_pos (by omega)]
          rw [eA]
          exact ⟨rfl, mQ_X hq1 hI2 f2⟩
        · refine z_iconst dX12_many_149 (by decide) ?_
          refine z_goto (tgt := 154) dX12_many_150 rfl ?_
          refine z_callV mlX12_325 dX12_many_154 (sh_M hE) (av := [_, _]) rfl rfl (Nat.le_of_ble_eq_true rfl) (q_manySuch _ hE hI1 _ _) (Nat.le_refl _) (Nat.le_refl _) (Nat.le_refl _) (Nat.le_refl _) ?_
          rintro _ m2 ⟨rfl, hI2, f2⟩
          refine z_iret dX12_many_157 rfl rfl ?_
          rw [eT]
          have eA : aMany (mT m) w = (0, tMany (mT m) 1 1) := by unfold aMany; rw [if_neg (by omega), if_neg (by omega), if_neg (by omega), if_neg (by omega), if_neg (by omega), if_neg (by omega), if_neg (by omega), if_neg (by omega), if_neg (by omega), if_neg (by omega), if_neg (by omega)]
          rw [eA]
          exact ⟨rfl, mQ_X hq1 hI2 f2⟩
