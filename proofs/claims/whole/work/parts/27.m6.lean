theorem sCat_s {α : Type} (g : Int → List α) (s : Nat) (k : Int) : sCat g (s + 1) k = g k ++ sCat g s (k + 1) := rfl
theorem l_laysAll_row (dd : Nat) {E : zE} {m : zM} {P : Option zV → zM → Prop} (hE : shM E) (hm : ptM m) (i : Int) (hl0 : 0 ≤ m aM f_letters ∧ m aM f_letters ≤ 12) (hld : 0 ≤ m aM f_laid ∧ m aM f_laid < 10395) : ∀ (j : Nat) (k : Int) (m1 : zM), (ptM m1) → (0 ≤ k) → (k + j = m aM f_letters) → (zfr [(a_table, none)] m m1) → (∀ x, 0 ≤ x → x < k → m1 a_table (12 * m aM f_laid + x) = m a_mate x) → (∀ y, y < 12 * m aM f_laid → m1 a_table y = m a_table y) → (∀ m2, ptM m2 → zfr [(a_table, none)] m m2 → (∀ x, 0 ≤ x → x < m aM f_letters → m2 a_table (12 * m aM f_laid + x) = m a_mate x) → (∀ y, y < 12 * m aM f_laid → m2 a_table y = m a_table y) → zA zX12_laysAll dd E E P 45 [zP aM, zI i, zN] [] m2 E) → zA zX12_laysAll (dd) E E P 11 [zP aM, zI i, zI k] [] m1 E := by
  intro j
  induction j with
  | zero =>
    intro k m1 hm1 h0 hk hf hq ho hP
    refine z_iload_n dX12_laysAll_11 rfl ?_
    refine z_aload_n dX12_laysAll_12 rfl ?_
    refine z_gIv f_letters rfl flX12_124 dX12_laysAll_13 (sh_M hE) rfl (zfr_at hf (by decide)) ?_
    refine z_icmp_ge (tgt := 45) dX12_laysAll_16 rfl (fun h16 => ?_) (fun h => absurd (by omega) h)
    refine zA_wk [_, _, zN] (by exact ⟨Or.inr rfl, Or.inr rfl, Or.inl rfl, trivial⟩) ?_
    exact hP m1 hm1 hf (fun x q1 q2 => hq x q1 (by omega)) ho
  | succ j ih =>
    intro k m1 hm1 h0 hk hf hq ho hP
    refine z_iload_n dX12_laysAll_11 rfl ?_
    refine z_aload_n dX12_laysAll_12 rfl ?_
    refine z_gIv f_letters rfl flX12_124 dX12_laysAll_13 (sh_M hE) rfl (zfr_at hf (by decide)) ?_
    refine z_icmp_ge (tgt := 45) dX12_laysAll_16 rfl (fun h => absurd h (by omega)) (fun h16 => ?_)
    refine z_aload_n dX12_laysAll_19 rfl ?_
    refine z_gP 7 rfl (r := a_table) flX12_26 dX12_laysAll_20 (sh_M hE) rfl (pt_table hm1) (by decide) ?_
    refine z_bipush dX12_laysAll_23 rfl (by decide) ?_
    refine z_aload_n dX12_laysAll_25 rfl ?_
    refine z_gIv f_laid rfl flX12_172 dX12_laysAll_26 (sh_M hE) rfl (zfr_at hf (by decide)) ?_
    refine z_mul dX12_laysAll_29 (by omega) ?_
    refine z_iload_n dX12_laysAll_30 rfl ?_
    refine z_add dX12_laysAll_31 (by omega) ?_
    refine z_aload_n dX12_laysAll_32 rfl ?_
    refine z_gP 16 rfl (r := a_mate) flX12_41 dX12_laysAll_33 (sh_M hE) rfl (pt_mate hm1) (by decide) ?_
    refine z_iload_n dX12_laysAll_36 rfl ?_
    refine z_ialv dX12_laysAll_37 (sh_mate hE) (by omega) (by omega) (congrFun (zfr_cell hf (by decide)) k) ?_
    refine z_iast dX12_laysAll_38 (sh_table hE) (by omega) (by omega) ?_
    refine z_inc dX12_laysAll_39 rfl (by omega) ?_
    refine z_goto (tgt := 11) dX12_laysAll_42 rfl ?_
    try dsimp only [zs0, zsI, zsP, zsN, zsJ, zsS, zst2, Nat.reduceAdd]
    refine ih (k + 1) _ (ptM_a hm1 (by decide)) (by omega) (by omega) (zfr_ua hf (by simp)) (fun x q1 q2 => ?_) (fun y q => ?_) hP
    · by_cases e : x = k
      · rw [e, zu_s]
      · rw [zu_j (by omega)]; exact hq x q1 (by omega)
    · rw [zu_j (by omega)]; exact ho y q

theorem l_laysAll_j (d : Nat) {E : zE} {m : zM} {P : Option zV → zM → Prop} (hE : shM E) (hw : wfC (m a_c)) (hl : wfL (m a_c) (m a_what) (m a_pointOf) (m aM f_letters)) (u : Nat) (hmt : ∀ x, 0 ≤ x → x < m aM f_letters → (m a_mate x = -1 ∨ 0 ≤ m a_mate x) ∧ m a_mate x < m aM f_letters) (hu : sFr (m a_mate) (m aM f_letters).toNat ≤ 2 * u + 1)  (i : Int) (hi0 : 0 ≤ i) (hi : i < m aM f_letters) (hif : m a_mate i < 0) (hld : 0 ≤ m aM f_laid) (rec : 0 < u → ∀ m2, ptM m2 → zfr fLaid m m2 → (∀ x, 0 ≤ x → x < m aM f_letters → (m2 a_mate x = -1 ∨ 0 ≤ m2 a_mate x) ∧ m2 a_mate x < m aM f_letters) → sFr (m2 a_mate) (m aM f_letters).toNat + 2 = sFr (m a_mate) (m aM f_letters).toNat → 0 ≤ m2 aM f_laid → m2 aM f_laid + (sLay (m aM f_letters).toNat (cMay (m a_c) (m a_what) (m a_pointOf)) (u - 1) (m2 a_mate)).length ≤ 10395 → zR zX12_laysAll (u + (d + 2)) [zP aM] m2 E E (fun r m3 => r = none ∧ mLaid (m aM f_letters) (cOd (m a_c) (m a_what)) (cBr (m a_c) (m a_what)) m2 m3 (sLay (m aM f_letters).toNat (cMay (m a_c) (m a_what) (m a_pointOf)) (u - 1) (m2 a_mate)))) : ∀ (j : Nat) (k : Int) (m1 : zM) (rows : List (Int → Int)), mLaid (m aM f_letters) (cOd (m a_c) (m a_what)) (cBr (m a_c) (m a_what)) m m1 rows → ptM m1 → i < k → k + j = m aM f_letters → m aM f_laid + ((rows.length + (sCat (fun x => if m a_mate x < 0 ∧ (cMay (m a_c) (m a_what) (m a_pointOf)) i x = true then sLay (m aM f_letters).toNat (cMay (m a_c) (m a_what) (m a_pointOf)) (u - 1) (sUp (m a_mate) i x) else []) j k).length : Nat) : Int) ≤ 10395 → (∀ m2, mLaid (m aM f_letters) (cOd (m a_c) (m a_what)) (cBr (m a_c) (m a_what)) m m2 (rows ++ sCat (fun x => if m a_mate x < 0 ∧ (cMay (m a_c) (m a_what) (m a_pointOf)) i x = true then sLay (m aM f_letters).toNat (cMay (m a_c) (m a_what) (m a_pointOf)) (u - 1) (sUp (m a_mate) i x) else []) j k) → P none m2) → zA zX12_laysAll (u + (d + 3)) E E P 99 [zP aM, zI i, zI k] [] m1 E := by
  intro j
  induction j with
  | zero =>
    intro k m1 rows hL hm1 h1 hk hcap hP
    obtain ⟨hc1, hc2, hc3, hc4, -, -⟩ := fLaid_k hL.2.2.2.2.2
    refine z_iload_n dX12_laysAll_99 rfl ?_
    refine z_aload_n dX12_laysAll_100 rfl ?_
    refine z_gIv f_letters rfl flX12_124 dX12_laysAll_101 (sh_M hE) rfl hc4 ?_
    refine z_icmp_ge (tgt := 166) dX12_laysAll_104 rfl (fun h104 => ?_) (fun h => absurd (by omega) h)
    refine z_vret dX12_laysAll_166 rfl rfl ?_
    exact hP m1 (by simpa [sCat] using hL)
  | succ j ih =>
    intro k m1 rows hL hm1 h1 hk hcap hP
    obtain ⟨hc1, hc2, hc3, hc4, -, -⟩ := fLaid_k hL.2.2.2.2.2
    have hek := congrFun hL.2.2.2.2.1 k
    have hmk := hmt k (by omega) (by omega)
    have hb1 := hl.1
    refine z_iload_n dX12_laysAll_99 rfl ?_
    refine z_aload_n dX12_laysAll_100 rfl ?_
    refine z_gIv f_letters rfl flX12_124 dX12_laysAll_101 (sh_M hE) rfl hc4 ?_
    refine z_icmp_ge (tgt := 166) dX12_laysAll_104 rfl (fun h => absurd h (by omega)) (fun h104 => ?_)
    refine z_aload_n dX12_laysAll_107 rfl ?_
    refine z_gP 16 rfl (r := a_mate) flX12_41 dX12_laysAll_108 (sh_M hE) rfl (pt_mate hm1) (by decide) ?_
    refine z_iload_n dX12_laysAll_111 rfl ?_
    refine z_ialv dX12_laysAll_112 (sh_mate hE) (by omega) (by have := hl.1; omega) hek ?_
    refine z_if_ge (tgt := 160) dX12_laysAll_113 rfl (fun h113 => ?_) (fun h113 => ?_)
    · refine z_inc dX12_laysAll_160 rfl (by have := hl.1; omega) ?_
      refine z_goto (tgt := 99) dX12_laysAll_163 rfl ?_
      try dsimp only [zs0, zsI, zsP, zsN, zsJ, zsS, zst2, Nat.reduceAdd]
      rw [sCat_s, if_neg (fun q => absurd q.1 (by rw [← hek]; omega)), List.nil_append] at hcap hP
      exact ih (k + 1) m1 rows hL hm1 (by omega) (by omega) hcap hP
    · refine z_aload_n dX12_laysAll_116 rfl ?_
      refine z_iload_n dX12_laysAll_117 rfl ?_
      refine z_iload_n dX12_laysAll_118 rfl ?_
      refine z_callV mlX12_184 dX12_laysAll_119 (sh_M hE) (av := [_, _]) rfl rfl (Nat.le_of_ble_eq_true rfl) (r_mayBe _ hE hm1 i k hi0 (by omega) (by omega) (by omega) (by rw [hc1]; exact hw) (by rw [hc1, hc2, hc3, hc4]; exact hl)) (Nat.le_refl _) (Nat.le_refl _) (Nat.le_refl _) (Nat.le_refl _) ?_
      rw [hc1, hc2, hc3]
      rintro _ _ ⟨rfl, rfl⟩
      refine z_ifz_ne (tgt := 128) dX12_laysAll_122 rfl (fun h122 => ?_) (fun h122 => ?_)
      · refine z_aload_n dX12_laysAll_128 rfl ?_
        refine z_gP 16 rfl (r := a_mate) flX12_41 dX12_laysAll_129 (sh_M hE) rfl (pt_mate hm1) (by decide) ?_
        refine z_iload_n dX12_laysAll_132 rfl ?_
        refine z_iload_n dX12_laysAll_133 rfl ?_
        refine z_iast dX12_laysAll_134 (sh_mate hE) (by omega) (by have := hl.1; omega) ?_
        refine z_aload_n dX12_laysAll_135 rfl ?_
        refine z_gP 16 rfl (r := a_mate) flX12_41 dX12_laysAll_136 (sh_M hE) rfl (pt_mate (ptM_a hm1 (by decide))) (by decide) ?_
        refine z_iload_n dX12_laysAll_139 rfl ?_
        refine z_iload_n dX12_laysAll_140 rfl ?_
        refine z_iast dX12_laysAll_141 (sh_mate hE) (by omega) (by have := hl.1; omega) ?_
        have hi1 : m1 a_mate i = -1 := by rw [congrFun hL.2.2.2.2.1 i]; have := (hmt i hi0 hi).1; omega
        have hk1 : m1 a_mate k = -1 := by rw [hek]; have := hmk.1; omega
        have hx1 : m1 a_mate = m a_mate := hL.2.2.2.2.1
        have hu0 : 0 < u := by
          have h5 := sFr_up (mt := m a_mate) (n := (m aM f_letters).toNat) (i := i) (j := k) hi0 (by omega) (by omega) (by omega) (by omega) hif (by omega)
          have h6 := sFr_nn (sUp (m a_mate) i k) (m aM f_letters).toNat
          omega
        rw [sCat_s, if_pos ⟨by omega, h122⟩] at hcap hP
        refine z_aload_n dX12_laysAll_142 rfl ?_
        refine z_callV mlX12_187 dX12_laysAll_143 (sh_M hE) (av := []) rfl rfl (Nat.le_of_ble_eq_true rfl) (rec hu0 _ (ptM_a (ptM_a hm1 (by decide)) (by decide)) (zfr_ua (zfr_ua hL.2.2.2.2.2 (by simp [fLaid])) (by simp [fLaid])) (fun x q1 q2 => ?_) ?_ ?_ ?_) (Nat.le_refl _) (Nat.le_refl _) (Nat.le_refl _) (Nat.le_refl _) ?_
        · rw [sUp_fn, hx1]
          have := hmt x q1 q2
          unfold sUp
          split
          · omega
          · split <;> omega
        · rw [sUp_fn, hx1, sFr_up hi0 (by omega) (by omega) (by omega) (by omega) hif (by omega)]; omega
        · rw [zu_a (by decide), zu_a (by decide), hL.1]; omega
        · rw [sUp_fn, hx1, zu_a (by decide), zu_a (by decide), hL.1]
          rw [List.length_append] at hcap
          omega
        rintro _ m3 ⟨rfl, hL3⟩
        rw [sUp_fn, hx1] at hL3
        have hm3 : ptM m3 := (fLaid_k hL3.2.2.2.2.2).2.2.2.2.2 (ptM_a (ptM_a hm1 (by decide)) (by decide))
        have hL4 := mLaid_app (by have := hl.1; omega) hL (mLaid_wrap hL3 hi1 hk1 (by omega))
        refine z_aload_n dX12_laysAll_146 rfl ?_
        refine z_gP 16 rfl (r := a_mate) flX12_41 dX12_laysAll_147 (sh_M hE) rfl (pt_mate hm3) (by decide) ?_
        refine z_iload_n dX12_laysAll_150 rfl ?_
        refine z_iconst dX12_laysAll_151 (by decide) ?_
        refine z_iast dX12_laysAll_152 (sh_mate hE) (by omega) (by have := hl.1; omega) ?_
        refine z_aload_n dX12_laysAll_153 rfl ?_
        refine z_gP 16 rfl (r := a_mate) flX12_41 dX12_laysAll_154 (sh_M hE) rfl (pt_mate (ptM_a hm3 (by decide))) (by decide) ?_
        refine z_iload_n dX12_laysAll_157 rfl ?_
        refine z_iconst dX12_laysAll_158 (by decide) ?_
        refine z_iast dX12_laysAll_159 (sh_mate hE) (by omega) (by have := hl.1; omega) ?_
        refine z_inc dX12_laysAll_160 rfl (by have := hl.1; omega) ?_
        refine z_goto (tgt := 99) dX12_laysAll_163 rfl ?_
        try dsimp only [zs0, zsI, zsP, zsN, zsJ, zsS, zst2, Nat.reduceAdd]
        exact ih (k + 1) _ _ hL4 (ptM_a (ptM_a hm3 (by decide)) (by decide)) (by omega) (by omega) (by rw [List.length_append] at hcap; rw [List.length_append]; omega) (fun m2 p2 => hP m2 (by rw [List.append_assoc] at p2; exact p2))
      · refine z_goto (tgt := 160) dX12_laysAll_125 rfl ?_
        refine z_inc dX12_laysAll_160 rfl (by have := hl.1; omega) ?_
        refine z_goto (tgt := 99) dX12_laysAll_163 rfl ?_
        try dsimp only [zs0, zsI, zsP, zsN, zsJ, zsS, zst2, Nat.reduceAdd]
        rw [sCat_s, if_neg (fun q => h122 q.2), List.nil_append] at hcap hP
        exact ih (k + 1) m1 rows hL hm1 (by omega) (by omega) hcap hP
