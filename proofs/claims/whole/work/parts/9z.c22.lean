def lQ (m : zM) (td : Int → Int) (u : Int) (c : Int → Int) : Prop := m 4 3 = u ∧ (0 ≤ u ∧ u ≤ 6) ∧ ∀ i, 0 ≤ i → i < u → m 5 i = td i ∧ cCodeOk c (td i) = true
theorem lQ_fr {m m' : zM} {td : Int → Int} {u : Int} {c : Int → Int} (h : lQ m td u c) (f : zfr fTk m m') : lQ m' td u c := by
  obtain ⟨h1, h2, h3⟩ := h
  exact ⟨by rw [fTk_at f (by omega)]; exact h1, h2, fun i q0 q1 => by rw [fTk_at f (by omega)]; exact h3 i q0 q1⟩
theorem lQ_up {m m' : zM} {td : Int → Int} {u v : Int} {c : Int → Int} (h : lQ m td u c) (hu : u < 6) (hv : cCodeOk c v = true) (e : m' = zu (zu m 5 u v) 4 3 (u + 1)) : lQ m' (eU td u v) (u + 1) c := by
  obtain ⟨h1, h2, h3⟩ := h
  subst e
  refine ⟨zu_s, by omega, fun i q0 q1 => ?_⟩
  rw [zu_a (by decide)]
  by_cases e : i = u
  · rw [e, zu_s, eU_s]; exact ⟨rfl, hv⟩
  · rw [zu_j e, eU_o e]; exact h3 i q0 (by omega)
theorem kSrt_rD {K : zK} {c : Int → Int} {p : Int} (hw : wfD c) (h : 0 ≤ kSrt K c p) : (kSrt K c p < 6 → kSrt K c p < c 0) ∧ kSrt K c p < 10 := by
  have b1 := hw.1
  have b2 := hw.2.1
  have hf := cFld_lt (c := c) (v := kW K p) hw
  have hm : cMx c (kW K p) < c 1 := by
    unfold cMx
    rcases zfst_rg (p := fun x => decide (kW K p = 27 * c (4 + 3 * c (24 + 2 * x)) + c (4 + 3 * c (24 + 2 * x + 1)))) (c 1).toNat with h | h <;> omega
  unfold kSrt at h ⊢
  split
  · omega
  · split
    · split <;> omega
    · omega
theorem pLin_gt {K : zK} {c : Int → Int} {n : Int} {td : Int → Int} {u p : Int} (hk : kOk K) (h : (pLin K c n td u p).1 = 0) : p + 1 ≤ (pLin K c n td u p).2.2.2.2 := by
  have g0 := kR_ge (p := p) hk
  have g1 := kR_ge (p := kR K p) hk
  have g2 := kR_ge (p := kR K (kR K p)) hk
  have g3 := kR_ge (p := kR K (kR K (kR K p))) hk
  have g4 := kR_ge (p := kR K (kR K (kR K (kR K p)))) hk
  have hm : ∀ x, kMis K x ≠ 0 := fun x => kMis_ne
  revert h
  unfold pLin
  repeat' split
  all_goals first
    | (intro _; show p + 1 ≤ kR K (kR K (kR K (kR K (kR K p)))); omega)
    | (intro h; exact absurd h (hm _))
    | (intro h; simp at h)
theorem c_readOneLine (d : Nat) {E : zE} {m : zM} (t : Int) (t5 : 5 < t) (sK : shK E) (sL : E.1 4 = (9, 4)) (sC : E.1 5 = (1, 6)) (sT : shT E t) (K : zK) (c w q : Int → Int) (n : Int) (hw : wfD c) (hl : wfL c w q n) (hC : wfC c) (p u : Int) (td : Int → Int) (hS0 : lR m K t c w q n p) (hP : lQ m td u c) : zR zX3_readOneLine (d + 4) [zP 4, zP 1, zP t] m E E (fun r m' => lO m m' r K t c w q n (fun m' td' u' => lQ m' td' u' c) (pLin K c n td u p)) := by
  have hn := hl.1
  have b3 := hw.2.2.1
  have g0 : zfr fL m m := zfr_rf
  have j0 : zfr fTk m m := zfr_rf
  have hto := kTo_is K p
  have hu := hP.2.1
  refine zR_go [zP 4, zP 1, zP t, zN, zN, zN, zN] (by decide +kernel) (Nat.le_of_ble_eq_true rfl) rfl rfl ?_
  refine z_aload_n dX3_readOneLine_0 rfl ?_
  refine z_aload_n dX3_readOneLine_1 rfl ?_
  refine z_aload_n dX3_readOneLine_2 rfl ?_
  refine z_gIv 13 rfl flX3_75 dX3_readOneLine_3 (sT0 sT) rfl hS0.2.2.2.1.2.2.1 ?_
  refine z_callV mlX3_40 dX3_readOneLine_6 sL (av := [_, _]) rfl rfl (Nat.le_of_ble_eq_true rfl) (c_readNumber _ t t5 sK sL sC sT K c w q n hw hl p (c 2) hS0) (Nat.le_refl _) (Nat.le_refl _) (Nat.le_refl _) (Nat.le_refl _) ?_
  rintro r7 m7 (⟨uA, vA, rfl, rfl⟩ | ⟨uA, rfl, rfl⟩ | ⟨uA, vA, rfl, rfl⟩)
  · refine z_if_ne (tgt := 14) dX3_readOneLine_9 rfl (fun h9 => ?_) (fun h => absurd (by decide) h)
    refine z_aload_n dX3_readOneLine_14 rfl ?_
    have nB15 := kN_rg uA
    refine z_gIv 7 rfl flX3_44 dX3_readOneLine_15 sK.1 rfl (hS0.2.1.2.2.2.2.2.1 uA) ?_
    refine z_ist 3 dX3_readOneLine_18 rfl (Nat.le_of_ble_eq_true rfl) ?_
    refine z_aload_n dX3_readOneLine_19 rfl ?_
    refine z_gIv 3 rfl flX3_23 dX3_readOneLine_20 sL rfl (lQ_fr hP j0).1 ?_
    refine z_aload_n dX3_readOneLine_23 rfl ?_
    refine z_gIv 14 rfl flX3_35 dX3_readOneLine_24 (sT0 sT) rfl hS0.2.2.2.2.1.1 ?_
    refine z_iconst dX3_readOneLine_27 (by decide) ?_
    refine z_div dX3_readOneLine_28 (by omega) (by omega) ?_
    try dsimp only [zs0, zsI, zsP, zsN, zsJ, zsS, zst2, Nat.reduceAdd]
    refine z_icmp_ge (tgt := 41) dX3_readOneLine_29 rfl (fun h29 => ?_) (fun h29 => ?_)
    · refine z_aload_n dX3_readOneLine_41 rfl ?_
      refine z_bipush dX3_readOneLine_42 rfl (by decide) ?_
      refine z_callV mlX3_47 dX3_readOneLine_44 sK.1 (av := [_]) rfl rfl (Nat.le_of_ble_eq_true rfl) (c_failHere _ sK K p hS0.2.1 6) (Nat.le_refl _) (Nat.le_refl _) (Nat.le_refl _) (Nat.le_refl _) ?_
      rintro _ _ ⟨rfl, rfl⟩
      refine z_zret dX3_readOneLine_47 rfl (by first | omega | exact zb01 _) rfl ?_
      exact lO_bad g0 (show pLin K c n td u p = (6, p, td, u, p) by unfold pLin; rw [if_neg (fun h => h uA), if_neg (fun h => h vA), if_pos (by omega)]) (by decide)
    · refine z_aload_n dX3_readOneLine_32 rfl ?_
      refine z_gIv 3 rfl flX3_23 dX3_readOneLine_33 sL rfl (lQ_fr hP j0).1 ?_
      refine z_bipush dX3_readOneLine_36 rfl (by decide) ?_
      refine z_icmp_lt (tgt := 48) dX3_readOneLine_38 rfl (fun h38 => ?_) (fun h38 => ?_)
      · refine z_aload_n dX3_readOneLine_48 rfl ?_
        refine z_callV mlX3_51 dX3_readOneLine_49 sK.1 (av := _) rfl rfl (Nat.le_of_ble_eq_true rfl) (c_next _ sK K hS0.1 p hS0.2.1 (by omega)) (Nat.le_refl _) (Nat.le_refl _) (Nat.le_refl _) (Nat.le_refl _) ?_
        rintro _ y1 ⟨rfl, f1, a1⟩
        have hS1 := lR_tk hS0 f1 a1 t5 hw
        have g1 := fL_tk g0 f1
        have j1 := zfr_tr j0 f1
        refine z_aload_n dX3_readOneLine_52 rfl ?_
        refine z_bipush dX3_readOneLine_53 rfl (by decide) ?_
        refine z_callV mlX3_78 dX3_readOneLine_55 sK.1 (av := [_]) rfl rfl (Nat.le_of_ble_eq_true rfl) (c_isSign _ sK K (kR K p) hS1.2.1 62) (Nat.le_refl _) (Nat.le_refl _) (Nat.le_refl _) (Nat.le_refl _) ?_
        rintro _ _ ⟨rfl, rfl⟩
        refine z_istore dX3_readOneLine_58 (Nat.le_of_ble_eq_true rfl) ?_
        refine z_iload dX3_readOneLine_60 rfl ?_
        try dsimp only [zs0, zsI, zsP, zsN, zsJ, zsS, zst2, Nat.reduceAdd]
        refine z_ifz_ne (tgt := 79) dX3_readOneLine_62 rfl (fun h62 => ?_) (fun h62 => ?_)
        · refine z_aload_n dX3_readOneLine_79 rfl ?_
          refine z_callV mlX3_51 dX3_readOneLine_80 sK.1 (av := _) rfl rfl (Nat.le_of_ble_eq_true rfl) (c_next _ sK K hS1.1 (kR K p) hS1.2.1 (by have := h62.1; omega)) (Nat.le_refl _) (Nat.le_refl _) (Nat.le_refl _) (Nat.le_refl _) ?_
          rintro _ y2 ⟨rfl, f2, a2⟩
          have hS2 := lR_tk hS1 f2 a2 t5 hw
          have g2 := fL_tk g1 f2
          have j2 := zfr_tr j1 f2
          refine z_aload_n dX3_readOneLine_83 rfl ?_
          refine z_aload_n dX3_readOneLine_84 rfl ?_
          refine z_aload_n dX3_readOneLine_85 rfl ?_
          refine z_gIv 13 rfl flX3_75 dX3_readOneLine_86 (sT0 sT) rfl hS2.2.2.2.1.2.2.1 ?_
          refine z_callV mlX3_40 dX3_readOneLine_89 sL (av := [_, _]) rfl rfl (Nat.le_of_ble_eq_true rfl) (c_readNumber _ t t5 sK sL sC sT K c w q n hw hl (kR K (kR K p)) (c 2) hS2) (Nat.le_refl _) (Nat.le_refl _) (Nat.le_refl _) (Nat.le_refl _) ?_
          rintro r7 m7 (⟨uB, vB, rfl, rfl⟩ | ⟨uB, rfl, rfl⟩ | ⟨uB, vB, rfl, rfl⟩)
          · refine z_if_ne (tgt := 97) dX3_readOneLine_92 rfl (fun h92 => ?_) (fun h => absurd (by decide) h)
            refine z_aload_n dX3_readOneLine_97 rfl ?_
            have nB98 := kN_rg uB
            refine z_gIv 7 rfl flX3_44 dX3_readOneLine_98 sK.1 rfl (hS2.2.1.2.2.2.2.2.1 uB) ?_
            refine z_istore dX3_readOneLine_101 (Nat.le_of_ble_eq_true rfl) ?_
            refine z_aload_n dX3_readOneLine_103 rfl ?_
            try dsimp only [zs0, zsI, zsP, zsN, zsJ, zsS, zst2, Nat.reduceAdd]
            refine z_callV mlX3_51 dX3_readOneLine_104 sK.1 (av := _) rfl rfl (Nat.le_of_ble_eq_true rfl) (c_next _ sK K hS2.1 (kR K (kR K p)) hS2.2.1 (by omega)) (Nat.le_refl _) (Nat.le_refl _) (Nat.le_refl _) (Nat.le_refl _) ?_
            rintro _ y3 ⟨rfl, f3, a3⟩
            have hS3 := lR_tk hS2 f3 a3 t5 hw
            have g3 := fL_tk g2 f3
            have j3 := zfr_tr j2 f3
            refine z_aload_n dX3_readOneLine_107 rfl ?_
            refine z_aload_n dX3_readOneLine_108 rfl ?_
            refine z_aload_n dX3_readOneLine_109 rfl ?_
            refine z_callV mlX3_81 dX3_readOneLine_110 sL (av := [_, _]) rfl rfl (Nat.le_of_ble_eq_true rfl) (c_readSort _ t t5 sK sL sC sT K c w q n hw hl (kR K (kR K (kR K p))) hS3) (Nat.le_refl _) (Nat.le_refl _) (Nat.le_refl _) (Nat.le_refl _) ?_
            rintro r7 m7 (⟨uS, rfl, rfl⟩ | ⟨uS, vS, ⟨xS, rfl, zS⟩, rfl⟩ | ⟨uS, vS, rfl, rfl⟩)
            · refine z_istore dX3_readOneLine_113 (Nat.le_of_ble_eq_true rfl) ?_
              refine z_iload dX3_readOneLine_115 rfl ?_
              try dsimp only [zs0, zsI, zsP, zsN, zsJ, zsS, zst2, Nat.reduceAdd]
              refine z_if_ge (tgt := 122) dX3_readOneLine_117 rfl (fun h => absurd h (by decide)) (fun h117 => ?_)
              refine z_iconst dX3_readOneLine_120 (by decide) ?_
              refine z_zret dX3_readOneLine_121 rfl (by first | omega | exact zb01 _) rfl ?_
              exact lO_bad g3 (show pLin K c n td u p = (kMis K (kR K (kR K (kR K p))), (kR K (kR K (kR K p))), td, u, p) by unfold pLin; rw [if_neg (fun h => h uA), if_neg (fun h => h vA), if_neg (by omega), if_neg (fun h => h (Or.inl h62)), if_neg (fun h => h uB), if_neg (fun h => h vB), if_pos uS]) (kMis_ne)
            · refine z_istore dX3_readOneLine_113 (Nat.le_of_ble_eq_true rfl) ?_
              refine z_iload dX3_readOneLine_115 rfl ?_
              try dsimp only [zs0, zsI, zsP, zsN, zsJ, zsS, zst2, Nat.reduceAdd]
              refine z_if_ge (tgt := 122) dX3_readOneLine_117 rfl (fun h => absurd h (by omega)) (fun h117 => ?_)
              refine z_iconst dX3_readOneLine_120 (by decide) ?_
              refine z_zret dX3_readOneLine_121 rfl (by first | omega | exact zb01 _) rfl ?_
              exact lO_bad g3 (show pLin K c n td u p = (3, (kR K (kR K (kR K p))), td, u, p) by unfold pLin; rw [if_neg (fun h => h uA), if_neg (fun h => h vA), if_neg (by omega), if_neg (fun h => h (Or.inl h62)), if_neg (fun h => h uB), if_neg (fun h => h vB), if_neg (fun h => h uS), if_pos vS]) (by decide)
            · refine z_istore dX3_readOneLine_113 (Nat.le_of_ble_eq_true rfl) ?_
              refine z_iload dX3_readOneLine_115 rfl ?_
              try dsimp only [zs0, zsI, zsP, zsN, zsJ, zsS, zst2, Nat.reduceAdd]
              refine z_if_ge (tgt := 122) dX3_readOneLine_117 rfl (fun h117 => ?_) (fun h => absurd vS h)
              have hsr := kSrt_rD hw vS
              refine z_iload dX3_readOneLine_122 rfl ?_
              refine z_aload_n dX3_readOneLine_124 rfl ?_
              refine z_iload dX3_readOneLine_125 rfl ?_
              refine z_callV mlX3_85 dX3_readOneLine_127 (sT0 sT) (av := [_]) rfl rfl (Nat.le_of_ble_eq_true rfl) (c_isPairSort _ t (by omega) sT hS3.2.2.1 c hw hS3.2.2.2.1 (kSrt K c (kR K (kR K (kR K p)))) vS hsr.1) (Nat.le_refl _) (Nat.le_refl _) (Nat.le_refl _) (Nat.le_refl _) ?_
              rintro _ _ ⟨rfl, rfl⟩
              refine z_icmp_eq (tgt := 139) dX3_readOneLine_130 rfl (fun h130 => ?_) (fun h130 => ?_)
              · refine z_aload_n dX3_readOneLine_139 rfl ?_
                refine z_callV mlX3_51 dX3_readOneLine_140 sK.1 (av := _) rfl rfl (Nat.le_of_ble_eq_true rfl) (c_next _ sK K hS3.1 (kR K (kR K (kR K p))) hS3.2.1 (by omega)) (Nat.le_refl _) (Nat.le_refl _) (Nat.le_refl _) (Nat.le_refl _) ?_
                rintro _ y4 ⟨rfl, f4, a4⟩
                have hS4 := lR_tk hS3 f4 a4 t5 hw
                have g4 := fL_tk g3 f4
                have j4 := zfr_tr j3 f4
                refine z_aload_n dX3_readOneLine_143 rfl ?_
                refine z_gP 0 rfl (r := 5) flX3_9 dX3_readOneLine_144 sL rfl hS4.2.2.2.2.2 (by decide) ?_
                refine z_aload_n dX3_readOneLine_147 rfl ?_
                refine z_gIv 3 rfl flX3_23 dX3_readOneLine_148 sL rfl (lQ_fr hP j4).1 ?_
                refine z_aload_n dX3_readOneLine_151 rfl ?_
                refine z_iload_n dX3_readOneLine_152 rfl ?_
                refine z_iload dX3_readOneLine_153 rfl ?_
                refine z_iload dX3_readOneLine_155 rfl ?_
                refine z_callV mlX3_88 dX3_readOneLine_157 (sT0 sT) (av := [_, _, _]) rfl rfl (Nat.le_of_ble_eq_true rfl) (c_codeFor _ t (by omega) sT hS4.2.2.1 c hw hS4.2.2.2.1 (kN K p) (kN K (kR K (kR K p))) (kSrt K c (kR K (kR K (kR K p)))) (by omega) hsr.1 (by omega) (by omega) hsr.2) (Nat.le_refl _) (Nat.le_refl _) (Nat.le_refl _) (Nat.le_refl _) ?_
                rintro _ _ ⟨rfl, rfl⟩
                refine z_iast dX3_readOneLine_160 sC (by omega) (by omega) ?_
                refine z_aload_n dX3_readOneLine_161 rfl ?_
                refine z_dup dX3_readOneLine_162 rfl ?_
                refine z_gIv 3 rfl flX3_23 dX3_readOneLine_163 sL rfl ((zu_a (by decide)).trans (lQ_fr hP j4).1) ?_
                refine z_iconst dX3_readOneLine_166 (by decide) ?_
                refine z_add dX3_readOneLine_167 (by omega) ?_
                refine z_pI 3 rfl (fpX3_23 _) dX3_readOneLine_168 sL rfl ?_
                obtain ⟨m9, em9⟩ : ∃ x, x = zu (zu y4 5 u (kCd c (kN K p) (kN K (kR K (kR K p))) (kSrt K c (kR K (kR K (kR K p)))))) 4 3 (u + 1) := ⟨_, rfl⟩
                rw [← em9]
                have f9 : zfr fL4 y4 m9 := by rw [em9]; exact zfr_uj (zfr_ua zfr_rf (by simp [fL4])) (by simp [fL4])
                have hS9 := lR_4 hS4 f9 t5 hw
                have g9 := fL_4 g4 f9
                have hP9 : lQ m9 (eU td u (kCd c (kN K p) (kN K (kR K (kR K p))) (kSrt K c (kR K (kR K (kR K p)))))) (u + 1) c := lQ_up (lQ_fr hP j4) (by omega) (kCd_ok hC (by omega) (by omega) (by omega)) em9
                refine z_aload_n dX3_readOneLine_171 rfl ?_
                refine z_bipush dX3_readOneLine_172 rfl (by decide) ?_
                refine z_callV mlX3_54 dX3_readOneLine_174 sK.1 (av := [_]) rfl rfl (Nat.le_of_ble_eq_true rfl) (c_passSign _ sK K hS9.1 (kR K (kR K (kR K (kR K p)))) hS9.2.1 59) (Nat.le_refl _) (Nat.le_refl _) (Nat.le_refl _) (Nat.le_refl _) ?_
                rintro r8 y10 (⟨sE, rfl, f10, a10⟩ | ⟨sE, rfl, rfl⟩)
                · have hS10 := lR_tk hS9 f10 a10 t5 hw
                  have g10 := fL_tk g9 f10
                  refine z_zret dX3_readOneLine_177 rfl (by first | omega | exact zb01 _) rfl ?_
                  exact lO_ok (show pLin K c n td u p = (0, 0, eU td u (kCd c (kN K p) (kN K (kR K (kR K p))) (kSrt K c (kR K (kR K (kR K p))))), u + 1, kR K (kR K (kR K (kR K (kR K p))))) by unfold pLin; rw [if_neg (fun h => h uA), if_neg (fun h => h vA), if_neg (by omega), if_neg (fun h => h (Or.inl h62)), if_neg (fun h => h uB), if_neg (fun h => h vB), if_neg (fun h => h uS), if_neg (by omega), if_neg (fun h => h h130.symm), if_neg (fun h => h sE)]) g10 hS10 (lQ_fr hP9 f10)
                · refine z_zret dX3_readOneLine_177 rfl (by first | omega | exact zb01 _) rfl ?_
                  exact lO_bad g9 (show pLin K c n td u p = (kMis K (kR K (kR K (kR K (kR K p)))), (kR K (kR K (kR K (kR K p)))), td, u, p) by unfold pLin; rw [if_neg (fun h => h uA), if_neg (fun h => h vA), if_neg (by omega), if_neg (fun h => h (Or.inl h62)), if_neg (fun h => h uB), if_neg (fun h => h vB), if_neg (fun h => h uS), if_neg (by omega), if_neg (fun h => h h130.symm), if_pos sE]) (kMis_ne)
              · refine z_aload_n dX3_readOneLine_133 rfl ?_
                refine z_iconst dX3_readOneLine_134 (by decide) ?_
                refine z_callV mlX3_47 dX3_readOneLine_135 sK.1 (av := [_]) rfl rfl (Nat.le_of_ble_eq_true rfl) (c_failHere _ sK K (kR K (kR K (kR K p))) hS3.2.1 4) (Nat.le_refl _) (Nat.le_refl _) (Nat.le_refl _) (Nat.le_refl _) ?_
                rintro _ _ ⟨rfl, rfl⟩
                refine z_zret dX3_readOneLine_138 rfl (by first | omega | exact zb01 _) rfl ?_
                exact lO_bad g3 (show pLin K c n td u p = (4, (kR K (kR K (kR K p))), td, u, p) by unfold pLin; rw [if_neg (fun h => h uA), if_neg (fun h => h vA), if_neg (by omega), if_neg (fun h => h (Or.inl h62)), if_neg (fun h => h uB), if_neg (fun h => h vB), if_neg (fun h => h uS), if_neg (by omega), if_pos (fun h => h130 h.symm)]) (by decide)
          · refine z_if_ne (tgt := 97) dX3_readOneLine_92 rfl (fun h => absurd h (fun h => h rfl)) (fun h92 => ?_)
            refine z_iconst dX3_readOneLine_95 (by decide) ?_
            refine z_zret dX3_readOneLine_96 rfl (by first | omega | exact zb01 _) rfl ?_
            exact lO_bad g2 (show pLin K c n td u p = (kMis K (kR K (kR K p)), (kR K (kR K p)), td, u, p) by unfold pLin; rw [if_neg (fun h => h uA), if_neg (fun h => h vA), if_neg (by omega), if_neg (fun h => h (Or.inl h62)), if_pos uB]) (kMis_ne)
          · refine z_if_ne (tgt := 97) dX3_readOneLine_92 rfl (fun h => absurd h (fun h => h rfl)) (fun h92 => ?_)
            refine z_iconst dX3_readOneLine_95 (by decide) ?_
            refine z_zret dX3_readOneLine_96 rfl (by first | omega | exact zb01 _) rfl ?_
            exact lO_bad g2 (show pLin K c n td u p = (3, (kR K (kR K p)), td, u, p) by unfold pLin; rw [if_neg (fun h => h uA), if_neg (fun h => h vA), if_neg (by omega), if_neg (fun h => h (Or.inl h62)), if_neg (fun h => h uB), if_pos vB]) (by decide)
        · refine z_aload_n dX3_readOneLine_65 rfl ?_
          refine z_bipush dX3_readOneLine_66 rfl (by decide) ?_
          refine z_callV mlX3_78 dX3_readOneLine_68 sK.1 (av := [_]) rfl rfl (Nat.le_of_ble_eq_true rfl) (c_isSign _ sK K (kR K p) hS1.2.1 45) (Nat.le_refl _) (Nat.le_refl _) (Nat.le_refl _) (Nat.le_refl _) ?_
          rintro _ _ ⟨rfl, rfl⟩
          refine z_ifz_ne (tgt := 79) dX3_readOneLine_71 rfl (fun h71 => ?_) (fun h71 => ?_)
          · refine z_aload_n dX3_readOneLine_79 rfl ?_
            refine z_callV mlX3_51 dX3_readOneLine_80 sK.1 (av := _) rfl rfl (Nat.le_of_ble_eq_true rfl) (c_next _ sK K hS1.1 (kR K p) hS1.2.1 (by have := h71.1; omega)) (Nat.le_refl _) (Nat.le_refl _) (Nat.le_refl _) (Nat.le_refl _) ?_
            rintro _ y2 ⟨rfl, f2, a2⟩
            have hS2 := lR_tk hS1 f2 a2 t5 hw
            have g2 := fL_tk g1 f2
            have j2 := zfr_tr j1 f2
            refine z_aload_n dX3_readOneLine_83 rfl ?_
            refine z_aload_n dX3_readOneLine_84 rfl ?_
            refine z_aload_n dX3_readOneLine_85 rfl ?_
            refine z_gIv 13 rfl flX3_75 dX3_readOneLine_86 (sT0 sT) rfl hS2.2.2.2.1.2.2.1 ?_
            refine z_callV mlX3_40 dX3_readOneLine_89 sL (av := [_, _]) rfl rfl (Nat.le_of_ble_eq_true rfl) (c_readNumber _ t t5 sK sL sC sT K c w q n hw hl (kR K (kR K p)) (c 2) hS2) (Nat.le_refl _) (Nat.le_refl _) (Nat.le_refl _) (Nat.le_refl _) ?_
            rintro r7 m7 (⟨uB, vB, rfl, rfl⟩ | ⟨uB, rfl, rfl⟩ | ⟨uB, vB, rfl, rfl⟩)
            · refine z_if_ne (tgt := 97) dX3_readOneLine_92 rfl (fun h92 => ?_) (fun h => absurd (by decide) h)
              refine z_aload_n dX3_readOneLine_97 rfl ?_
              have nB98 := kN_rg uB
              refine z_gIv 7 rfl flX3_44 dX3_readOneLine_98 sK.1 rfl (hS2.2.1.2.2.2.2.2.1 uB) ?_
              refine z_istore dX3_readOneLine_101 (Nat.le_of_ble_eq_true rfl) ?_
              refine z_aload_n dX3_readOneLine_103 rfl ?_
              try dsimp only [zs0, zsI, zsP, zsN, zsJ, zsS, zst2, Nat.reduceAdd]
              refine z_callV mlX3_51 dX3_readOneLine_104 sK.1 (av := _) rfl rfl (Nat.le_of_ble_eq_true rfl) (c_next _ sK K hS2.1 (kR K (kR K p)) hS2.2.1 (by omega)) (Nat.le_refl _) (Nat.le_refl _) (Nat.le_refl _) (Nat.le_refl _) ?_
              rintro _ y3 ⟨rfl, f3, a3⟩
              have hS3 := lR_tk hS2 f3 a3 t5 hw
              have g3 := fL_tk g2 f3
              have j3 := zfr_tr j2 f3
              refine z_aload_n dX3_readOneLine_107 rfl ?_
              refine z_aload_n dX3_readOneLine_108 rfl ?_
              refine z_aload_n dX3_readOneLine_109 rfl ?_
              refine z_callV mlX3_81 dX3_readOneLine_110 sL (av := [_, _]) rfl rfl (Nat.le_of_ble_eq_true rfl) (c_readSort _ t t5 sK sL sC sT K c w q n hw hl (kR K (kR K (kR K p))) hS3) (Nat.le_refl _) (Nat.le_refl _) (Nat.le_refl _) (Nat.le_refl _) ?_
              rintro r7 m7 (⟨uS, rfl, rfl⟩ | ⟨uS, vS, ⟨xS, rfl, zS⟩, rfl⟩ | ⟨uS, vS, rfl, rfl⟩)
              · refine z_istore dX3_readOneLine_113 (Nat.le_of_ble_eq_true rfl) ?_
                refine z_iload dX3_readOneLine_115 rfl ?_
                try dsimp only [zs0, zsI, zsP, zsN, zsJ, zsS, zst2, Nat.reduceAdd]
                refine z_if_ge (tgt := 122) dX3_readOneLine_117 rfl (fun h => absurd h (by decide)) (fun h117 => ?_)
                refine z_iconst dX3_readOneLine_120 (by decide) ?_
                refine z_zret dX3_readOneLine_121 rfl (by first | omega | exact zb01 _) rfl ?_
                exact lO_bad g3 (show pLin K c n td u p = (kMis K (kR K (kR K (kR K p))), (kR K (kR K (kR K p))), td, u, p) by unfold pLin; rw [if_neg (fun h => h uA), if_neg (fun h => h vA), if_neg (by omega), if_neg (fun h => h (Or.inr h71)), if_neg (fun h => h uB), if_neg (fun h => h vB), if_pos uS]) (kMis_ne)
              · refine z_istore dX3_readOneLine_113 (Nat.le_of_ble_eq_true rfl) ?_
                refine z_iload dX3_readOneLine_115 rfl ?_
                try dsimp only [zs0, zsI, zsP, zsN, zsJ, zsS, zst2, Nat.reduceAdd]
                refine z_if_ge (tgt := 122) dX3_readOneLine_117 rfl (fun h => absurd h (by omega)) (fun h117 => ?_)
                refine z_iconst dX3_readOneLine_120 (by decide) ?_
                refine z_zret dX3_readOneLine_121 rfl (by first | omega | exact zb01 _) rfl ?_
                exact lO_bad g3 (show pLin K c n td u p = (3, (kR K (kR K (kR K p))), td, u, p) by unfold pLin; rw [if_neg (fun h => h uA), if_neg (fun h => h vA), if_neg (by omega), if_neg (fun h => h (Or.inr h71)), if_neg (fun h => h uB), if_neg (fun h => h vB), if_neg (fun h => h uS), if_pos vS]) (by decide)
              · refine z_istore dX3_readOneLine_113 (Nat.le_of_ble_eq_true rfl) ?_
                refine z_iload dX3_readOneLine_115 rfl ?_
                try dsimp only [zs0, zsI, zsP, zsN, zsJ, zsS, zst2, Nat.reduceAdd]
                refine z_if_ge (tgt := 122) dX3_readOneLine_117 rfl (fun h117 => ?_) (fun h => absurd vS h)
                have hsr := kSrt_rD hw vS
                refine z_iload dX3_readOneLine_122 rfl ?_
                refine z_aload_n dX3_readOneLine_124 rfl ?_
                refine z_iload dX3_readOneLine_125 rfl ?_
                refine z_callV mlX3_85 dX3_readOneLine_127 (sT0 sT) (av := [_]) rfl rfl (Nat.le_of_ble_eq_true rfl) (c_isPairSort _ t (by omega) sT hS3.2.2.1 c hw hS3.2.2.2.1 (kSrt K c (kR K (kR K (kR K p)))) vS hsr.1) (Nat.le_refl _) (Nat.le_refl _) (Nat.le_refl _) (Nat.le_refl _) ?_
                rintro _ _ ⟨rfl, rfl⟩
                refine z_icmp_eq (tgt := 139) dX3_readOneLine_130 rfl (fun h130 => ?_) (fun h130 => ?_)
                · refine z_aload_n dX3_readOneLine_139 rfl ?_
                  refine z_callV mlX3_51 dX3_readOneLine_140 sK.1 (av := _) rfl rfl (Nat.le_of_ble_eq_true rfl) (c_next _ sK K hS3.1 (kR K (kR K (kR K p))) hS3.2.1 (by omega)) (Nat.le_refl _) (Nat.le_refl _) (Nat.le_refl _) (Nat.le_refl _) ?_
                  rintro _ y4 ⟨rfl, f4, a4⟩
                  have hS4 := lR_tk hS3 f4 a4 t5 hw
                  have g4 := fL_tk g3 f4
                  have j4 := zfr_tr j3 f4
                  refine z_aload_n dX3_readOneLine_143 rfl ?_
                  refine z_gP 0 rfl (r := 5) flX3_9 dX3_readOneLine_144 sL rfl hS4.2.2.2.2.2 (by decide) ?_
                  refine z_aload_n dX3_readOneLine_147 rfl ?_
                  refine z_gIv 3 rfl flX3_23 dX3_readOneLine_148 sL rfl (lQ_fr hP j4).1 ?_
                  refine z_aload_n dX3_readOneLine_151 rfl ?_
                  refine z_iload_n dX3_readOneLine_152 rfl ?_
                  refine z_iload dX3_readOneLine_153 rfl ?_
                  refine z_iload dX3_readOneLine_155 rfl ?_
                  refine z_callV mlX3_88 dX3_readOneLine_157 (sT0 sT) (av := [_, _, _]) rfl rfl (Nat.le_of_ble_eq_true rfl) (c_codeFor _ t (by omega) sT hS4.2.2.1 c hw hS4.2.2.2.1 (kN K p) (kN K (kR K (kR K p))) (kSrt K c (kR K (kR K (kR K p)))) (by omega) hsr.1 (by omega) (by omega) hsr.2) (Nat.le_refl _) (Nat.le_refl _) (Nat.le_refl _) (Nat.le_refl _) ?_
                  rintro _ _ ⟨rfl, rfl⟩
                  refine z_iast dX3_readOneLine_160 sC (by omega) (by omega) ?_
                  refine z_aload_n dX3_readOneLine_161 rfl ?_
                  refine z_dup dX3_readOneLine_162 rfl ?_
                  refine z_gIv 3 rfl flX3_23 dX3_readOneLine_163 sL rfl ((zu_a (by decide)).trans (lQ_fr hP j4).1) ?_
                  refine z_iconst dX3_readOneLine_166 (by decide) ?_
                  refine z_add dX3_readOneLine_167 (by omega) ?_
                  refine z_pI 3 rfl (fpX3_23 _) dX3_readOneLine_168 sL rfl ?_
                  obtain ⟨m9, em9⟩ : ∃ x, x = zu (zu y4 5 u (kCd c (kN K p) (kN K (kR K (kR K p))) (kSrt K c (kR K (kR K (kR K p)))))) 4 3 (u + 1) := ⟨_, rfl⟩
                  rw [← em9]
                  have f9 : zfr fL4 y4 m9 := by rw [em9]; exact zfr_uj (zfr_ua zfr_rf (by simp [fL4])) (by simp [fL4])
                  have hS9 := lR_4 hS4 f9 t5 hw
                  have g9 := fL_4 g4 f9
                  have hP9 : lQ m9 (eU td u (kCd c (kN K p) (kN K (kR K (kR K p))) (kSrt K c (kR K (kR K (kR K p)))))) (u + 1) c := lQ_up (lQ_fr hP j4) (by omega) (kCd_ok hC (by omega) (by omega) (by omega)) em9
                  refine z_aload_n dX3_readOneLine_171 rfl ?_
                  refine z_bipush dX3_readOneLine_172 rfl (by decide) ?_
                  refine z_callV mlX3_54 dX3_readOneLine_174 sK.1 (av := [_]) rfl rfl (Nat.le_of_ble_eq_true rfl) (c_passSign _ sK K hS9.1 (kR K (kR K (kR K (kR K p)))) hS9.2.1 59) (Nat.le_refl _) (Nat.le_refl _) (Nat.le_refl _) (Nat.le_refl _) ?_
                  rintro r8 y10 (⟨sE, rfl, f10, a10⟩ | ⟨sE, rfl, rfl⟩)
                  · have hS10 := lR_tk hS9 f10 a10 t5 hw
                    have g10 := fL_tk g9 f10
                    refine z_zret dX3_readOneLine_177 rfl (by first | omega | exact zb01 _) rfl ?_
                    exact lO_ok (show pLin K c n td u p = (0, 0, eU td u (kCd c (kN K p) (kN K (kR K (kR K p))) (kSrt K c (kR K (kR K (kR K p))))), u + 1, kR K (kR K (kR K (kR K (kR K p))))) by unfold pLin; rw [if_neg (fun h => h uA), if_neg (fun h => h vA), if_neg (by omega), if_neg (fun h => h (Or.inr h71)), if_neg (fun h => h uB), if_neg (fun h => h vB), if_neg (fun h => h uS), if_neg (by omega), if_neg (fun h => h h130.symm), if_neg (fun h => h sE)]) g10 hS10 (lQ_fr hP9 f10)
                  · refine z_zret dX3_readOneLine_177 rfl (by first | omega | exact zb01 _) rfl ?_
                    exact lO_bad g9 (show pLin K c n td u p = (kMis K (kR K (kR K (kR K (kR K p)))), (kR K (kR K (kR K (kR K p)))), td, u, p) by unfold pLin; rw [if_neg (fun h => h uA), if_neg (fun h => h vA), if_neg (by omega), if_neg (fun h => h (Or.inr h71)), if_neg (fun h => h uB), if_neg (fun h => h vB), if_neg (fun h => h uS), if_neg (by omega), if_neg (fun h => h h130.symm), if_pos sE]) (kMis_ne)
                · refine z_aload_n dX3_readOneLine_133 rfl ?_
                  refine z_iconst dX3_readOneLine_134 (by decide) ?_
                  refine z_callV mlX3_47 dX3_readOneLine_135 sK.1 (av := [_]) rfl rfl (Nat.le_of_ble_eq_true rfl) (c_failHere _ sK K (kR K (kR K (kR K p))) hS3.2.1 4) (Nat.le_refl _) (Nat.le_refl _) (Nat.le_refl _) (Nat.le_refl _) ?_
                  rintro _ _ ⟨rfl, rfl⟩
                  refine z_zret dX3_readOneLine_138 rfl (by first | omega | exact zb01 _) rfl ?_
                  exact lO_bad g3 (show pLin K c n td u p = (4, (kR K (kR K (kR K p))), td, u, p) by unfold pLin; rw [if_neg (fun h => h uA), if_neg (fun h => h vA), if_neg (by omega), if_neg (fun h => h (Or.inr h71)), if_neg (fun h => h uB), if_neg (fun h => h vB), if_neg (fun h => h uS), if_neg (by omega), if_pos (fun h => h130 h.symm)]) (by decide)
            · refine z_if_ne (tgt := 97) dX3_readOneLine_92 rfl (fun h => absurd h (fun h => h rfl)) (fun h92 => ?_)
              refine z_iconst dX3_readOneLine_95 (by decide) ?_
              refine z_zret dX3_readOneLine_96 rfl (by first | omega | exact zb01 _) rfl ?_
              exact lO_bad g2 (show pLin K c n td u p = (kMis K (kR K (kR K p)), (kR K (kR K p)), td, u, p) by unfold pLin; rw [if_neg (fun h => h uA), if_neg (fun h => h vA), if_neg (by omega), if_neg (fun h => h (Or.inr h71)), if_pos uB]) (kMis_ne)
            · refine z_if_ne (tgt := 97) dX3_readOneLine_92 rfl (fun h => absurd h (fun h => h rfl)) (fun h92 => ?_)
              refine z_iconst dX3_readOneLine_95 (by decide) ?_
              refine z_zret dX3_readOneLine_96 rfl (by first | omega | exact zb01 _) rfl ?_
              exact lO_bad g2 (show pLin K c n td u p = (3, (kR K (kR K p)), td, u, p) by unfold pLin; rw [if_neg (fun h => h uA), if_neg (fun h => h vA), if_neg (by omega), if_neg (fun h => h (Or.inr h71)), if_neg (fun h => h uB), if_pos vB]) (by decide)
          · refine z_aload_n dX3_readOneLine_74 rfl ?_
            refine z_callV mlX3_68 dX3_readOneLine_75 sK.1 (av := _) rfl rfl (Nat.le_of_ble_eq_true rfl) (c_misplaced _ sK K (kR K p) hS1.2.1) (Nat.le_refl _) (Nat.le_refl _) (Nat.le_refl _) (Nat.le_refl _) ?_
            rintro _ _ ⟨rfl, rfl⟩
            refine z_zret dX3_readOneLine_78 rfl (by first | omega | exact zb01 _) rfl ?_
            exact lO_bad g1 (show pLin K c n td u p = (kMis K (kR K p), (kR K p), td, u, p) by unfold pLin; rw [if_neg (fun h => h uA), if_neg (fun h => h vA), if_neg (by omega), if_pos (fun h => h.elim h62 h71)]) (kMis_ne)
      · refine z_aload_n dX3_readOneLine_41 rfl ?_
        refine z_bipush dX3_readOneLine_42 rfl (by decide) ?_
        refine z_callV mlX3_47 dX3_readOneLine_44 sK.1 (av := [_]) rfl rfl (Nat.le_of_ble_eq_true rfl) (c_failHere _ sK K p hS0.2.1 6) (Nat.le_refl _) (Nat.le_refl _) (Nat.le_refl _) (Nat.le_refl _) ?_
        rintro _ _ ⟨rfl, rfl⟩
        refine z_zret dX3_readOneLine_47 rfl (by first | omega | exact zb01 _) rfl ?_
        exact lO_bad g0 (show pLin K c n td u p = (6, p, td, u, p) by unfold pLin; rw [if_neg (fun h => h uA), if_neg (fun h => h vA), if_pos (by omega)]) (by decide)
  · refine z_if_ne (tgt := 14) dX3_readOneLine_9 rfl (fun h => absurd h (fun h => h rfl)) (fun h9 => ?_)
    refine z_iconst dX3_readOneLine_12 (by decide) ?_
    refine z_zret dX3_readOneLine_13 rfl (by first | omega | exact zb01 _) rfl ?_
    exact lO_bad g0 (show pLin K c n td u p = (kMis K p, p, td, u, p) by unfold pLin; rw [if_pos uA]) (kMis_ne)
  · refine z_if_ne (tgt := 14) dX3_readOneLine_9 rfl (fun h => absurd h (fun h => h rfl)) (fun h9 => ?_)
    refine z_iconst dX3_readOneLine_12 (by decide) ?_
    refine z_zret dX3_readOneLine_13 rfl (by first | omega | exact zb01 _) rfl ?_
    exact lO_bad g0 (show pLin K c n td u p = (3, p, td, u, p) by unfold pLin; rw [if_neg (fun h => h uA), if_pos vA]) (by decide)

theorem l_readLines (d : Nat) {E : zE} {m : zM} {P : Option zV → zM → Prop} (t : Int) (t5 : 5 < t) (sK : shK E) (sL : E.1 4 = (9, 4)) (sC : E.1 5 = (1, 6)) (sT : shT E t) (K : zK) (c w q : Int → Int) (n : Int) (hw : wfD c) (hl : wfL c w q n) (hC : wfC c) : ∀ (j : Nat) (l : Nat) (p u : Int) (m1 : zM) (td : Int → Int), (l + j = 400) → ((l : Int) ≤ p) → (lR m1 K t c w q n p) → (lQ m1 td u c) → (zfr fL m m1) → (∀ r m', lO m m' r K t c w q n (fun m' td' u' => lQ m' td' u' c) (pLins K c n (j + 1) td u p) → P r m') → zA zX3_readLines (d + 5) E E P 7 [zP 4, zP 1, zP t, zI (l : Nat)] [] m1 E := by
  intro j
  induction j with
  | zero =>
    intro l p u m1 td hll hlp hS0 hP g0 hR
    have hto := kTo_is K p
    refine z_iload_n dX3_readLines_7 rfl ?_
    refine z_sipush dX3_readLines_8 rfl (by decide) ?_
    refine z_icmp_ge (tgt := 38) dX3_readLines_11 rfl (fun h11 => ?_) (fun h => absurd (by omega) h)
    refine z_iconst dX3_readLines_38 (by decide) ?_
    refine z_zret dX3_readLines_39 rfl (by first | omega | exact zb01 _) rfl ?_
    rw [pLins_s, if_pos (kSo_end hS0.1.1 (by have := hS0.2.1.1; have := hS0.1.1.1; omega))] at hR
    exact hR _ _ (Or.inl ⟨rfl, rfl, g0, hS0, hP⟩)
  | succ j ih =>
    intro l p u m1 td hll hlp hS0 hP g0 hR
    have hto := kTo_is K p
    refine z_iload_n dX3_readLines_7 rfl ?_
    refine z_sipush dX3_readLines_8 rfl (by decide) ?_
    refine z_icmp_ge (tgt := 38) dX3_readLines_11 rfl (fun h => absurd h (by omega)) (fun h11 => ?_)
    refine z_aload_n dX3_readLines_14 rfl ?_
    refine z_gIv 6 rfl flX3_26 dX3_readLines_15 sK.1 rfl hS0.2.1.2.2.2.1 ?_
    refine z_if_eq (tgt := 38) dX3_readLines_18 rfl (fun h18 => ?_) (fun h18 => ?_)
    · refine z_iconst dX3_readLines_38 (by decide) ?_
      refine z_zret dX3_readLines_39 rfl (by first | omega | exact zb01 _) rfl ?_
      rw [pLins_s, if_pos (by omega)] at hR
      exact hR _ _ (Or.inl ⟨rfl, rfl, g0, hS0, hP⟩)
    · have hso : kSo K p ≠ 0 := by omega
      refine z_aload_n dX3_readLines_21 rfl ?_
      refine z_aload_n dX3_readLines_22 rfl ?_
      refine z_aload_n dX3_readLines_23 rfl ?_
      refine z_callV mlX3_72 dX3_readLines_24 sL (av := [_, _]) rfl rfl (Nat.le_of_ble_eq_true rfl) (c_readOneLine d t t5 sK sL sC sT K c w q n hw hl hC p u td hS0 hP) (Nat.le_refl _) (Nat.le_refl _) (Nat.le_refl _) (Nat.le_refl _) ?_
      rintro r7 m7 h7
      rcases h7 with ⟨a1, rfl, a3, a4, a5⟩ | ⟨a1, rfl, a3, a4, a5⟩
      · refine z_if_ne (tgt := 32) dX3_readLines_27 rfl (fun h27 => ?_) (fun h => absurd (by decide) h)
        refine z_inc dX3_readLines_32 rfl (by omega) ?_
        refine z_goto (tgt := 7) dX3_readLines_35 rfl ?_
        try dsimp only [zs0, zsI, zsP, zsN, zsJ, zsS, zst2, Nat.reduceAdd]
        have hk2 := pLin_gt (c := c) (n := n) (td := td) (u := u) (p := p) hS0.1.1 a1
        rw [pLins_s, if_neg hso, if_neg (fun h => h a1)] at hR
        rw [show (l : Int) + 1 = ((l + 1 : Nat) : Int) by omega]
        exact ih (l + 1) _ _ m7 _ (by omega) (by omega) a4 a5 (zfr_tr g0 a3) hR
      · refine z_if_ne (tgt := 32) dX3_readLines_27 rfl (fun h => absurd h (fun h => h rfl)) (fun h27 => ?_)
        refine z_iconst dX3_readLines_30 (by decide) ?_
        refine z_zret dX3_readLines_31 rfl (by first | omega | exact zb01 _) rfl ?_
        rw [pLins_s, if_neg hso, if_pos a1] at hR
        exact hR _ _ (Or.inr ⟨a1, rfl, zfr_tr (fL_B g0) a3, a4, a5⟩)

theorem c_readLines (d : Nat) {E : zE} {m : zM} (t : Int) (t5 : 5 < t) (sK : shK E) (sL : E.1 4 = (9, 4)) (sC : E.1 5 = (1, 6)) (sT : shT E t) (K : zK) (c w q : Int → Int) (n : Int) (hw : wfD c) (hl : wfL c w q n) (hC : wfC c) (p : Int) (td : Int → Int) (hS0 : lR m K t c w q n p) : zR zX3_readLines (d + 5) [zP 4, zP 1, zP t] m E E (fun r m' => lO m m' r K t c w q n (fun m' td' u' => lQ m' td' u' c) (pLins K c n 401 td 0 p)) := by
  refine zR_go [zP 4, zP 1, zP t, zN] (by decide +kernel) (Nat.le_of_ble_eq_true rfl) rfl rfl ?_
  refine z_aload_n dX3_readLines_0 rfl ?_
  refine z_iconst dX3_readLines_1 (by decide) ?_
  refine z_pI 3 rfl (fpX3_23 _) dX3_readLines_2 sL rfl ?_
  obtain ⟨m1, em1⟩ : ∃ x, x = zu m 4 3 0 := ⟨_, rfl⟩
  rw [← em1]
  have f1 : zfr fL4 m m1 := by rw [em1]; exact zfr_uj zfr_rf (by simp [fL4])
  have hP1 : lQ m1 td 0 c := ⟨by rw [em1, zu_s], by decide, fun i q0 q1 => by omega⟩
  refine z_iconst dX3_readLines_5 (by decide) ?_
  refine z_ist 3 dX3_readLines_6 rfl (Nat.le_of_ble_eq_true rfl) ?_
  try dsimp only [zs0, zsI, zsP, zsN, zsJ, zsS, zst2, Nat.reduceAdd]
  exact l_readLines d t t5 sK sL sC sT K c w q n hw hl hC 400 0 p 0 m1 td (by omega) (by have := hS0.2.1.1; omega) (lR_4 hS0 f1 t5 hw) hP1 (fL_4 zfr_rf f1) (fun r m' h => h)

theorem c_sortedKey (d : Nat) {E : zE} {m : zM} (sL : E.1 4 = (9, 4)) (sC : E.1 5 = (1, 6)) (p4 : m 4 0 = 5) (c : Int → Int) (hw : wfD c) (td : Int → Int) (u : Int) (hP : lQ m td u c) : zR zX3_sortedKey (d + 1) [zP 4] m E E (fun r m' => r = some (zJ (sKey td u.toNat)) ∧ zfr fL4 m m') := by
  have hu := hP.2.1
  refine zR_go [zP 4] (by decide +kernel) (Nat.le_of_ble_eq_true rfl) rfl rfl ?_
  refine z_aload_n dX3_sortedKey_0 rfl ?_
  refine z_gP 0 rfl (r := 5) flX3_9 dX3_sortedKey_1 sL rfl p4 (by decide) ?_
  refine z_aload_n dX3_sortedKey_4 rfl ?_
  refine z_gIv 3 rfl flX3_23 dX3_sortedKey_5 sL rfl hP.1 ?_
  rw [show u = ((u.toNat : Nat) : Int) by omega]
  refine z_callS mlX3_107 dX3_sortedKey_8 (av := [_, _]) rfl rfl (Nat.le_of_ble_eq_true rfl) (c_keyOf _ 5 6 (by decide) sC u.toNat (by omega) (by omega) (fun i q0 q1 => by have h := hP.2.2 i q0 (by omega); rw [h.1]; have := cCodeOk_rgD hw h.2; omega)) (Nat.le_refl _) (Nat.le_refl _) (Nat.le_refl _) (Nat.le_refl _) ?_
  rintro _ m1 ⟨rfl, f1, -, -⟩
  refine z_lret dX3_sortedKey_11 rfl rfl ?_
  refine ⟨?_, zfr_sub f1 (by simp [fL4])⟩
  rw [sKey_congr (fun i q0 q1 => (hP.2.2 i q0 (by omega)).1), Int.toNat_natCast]
