theorem cMix_lt {c : Int → Int} {f g : Int} (hw : wfC c) : cMix c f g < c 1 := by
  have h1 := hw.2.1
  rcases zfst_ge (p := cMixP c f g) (j := (c 1).toNat) (k := 0) (by omega) with h | h
  · unfold cMix; rw [h.1]; omega
  · unfold cMix; omega
theorem r_mayBe (d : Nat) {E : zE} {m : zM} (hE : shM E) (hm : ptM m) (i j : Int) (hi0 : 0 ≤ i) (hi1 : i < m aM f_letters) (hj0 : 0 ≤ j) (hj1 : j < m aM f_letters) (hw : wfC (m a_c)) (hl : wfL (m a_c) (m a_what) (m a_pointOf) (m aM f_letters)) : zR zX12_mayBe (d + 2) [zP aM, zI i, zI j] m E E (fun r m' => r = some (zI (zb (cMay (m a_c) (m a_what) (m a_pointOf) i j = true))) ∧ m = m') := by
  refine zR_go [zP aM, zI i, zI j, zN, zN] (by decide +kernel) (Nat.le_of_ble_eq_true rfl) rfl rfl ?_
  refine z_iload_n dX12_mayBe_0 rfl ?_
  refine z_iload_n dX12_mayBe_1 rfl ?_
  refine z_icmp_eq (tgt := 33) dX12_mayBe_2 rfl (fun h2 => ?_) (fun h2 => ?_)
  · refine z_iconst dX12_mayBe_33 (by decide) ?_
    refine z_zret dX12_mayBe_34 rfl (by first | omega | exact zb01 _) rfl ?_
    exact ⟨by rw [zb_f (by simp only [cMay, decide_eq_true_eq]; (try split) <;> omega)], rfl⟩
  · refine z_aload_n dX12_mayBe_5 rfl ?_
    refine z_gP 6 rfl (r := a_pointOf) flX12_22 dX12_mayBe_6 (sh_M hE) rfl (pt_pointOf hm) (by decide) ?_
    refine z_iload_n dX12_mayBe_9 rfl ?_
    refine z_iald dX12_mayBe_10 (sh_pointOf hE) (by have := hl.1; have := (hl.2 i hi0 hi1).1; have := (hl.2 i hi0 hi1).2; have := (hl.2 j hj0 hj1).1; have := (hl.2 j hj0 hj1).2; have := hw.1; have := hw.2.2.1; omega) (by have := hl.1; have := (hl.2 i hi0 hi1).1; have := (hl.2 i hi0 hi1).2; have := (hl.2 j hj0 hj1).1; have := (hl.2 j hj0 hj1).2; have := hw.1; have := hw.2.2.1; omega) ?_
    refine z_aload_n dX12_mayBe_11 rfl ?_
    refine z_gP 6 rfl (r := a_pointOf) flX12_22 dX12_mayBe_12 (sh_M hE) rfl (pt_pointOf hm) (by decide) ?_
    refine z_iload_n dX12_mayBe_15 rfl ?_
    refine z_iald dX12_mayBe_16 (sh_pointOf hE) (by have := hl.1; have := (hl.2 i hi0 hi1).1; have := (hl.2 i hi0 hi1).2; have := (hl.2 j hj0 hj1).1; have := (hl.2 j hj0 hj1).2; have := hw.1; have := hw.2.2.1; omega) (by have := hl.1; have := (hl.2 i hi0 hi1).1; have := (hl.2 i hi0 hi1).2; have := (hl.2 j hj0 hj1).1; have := (hl.2 j hj0 hj1).2; have := hw.1; have := hw.2.2.1; omega) ?_
    refine z_icmp_ne (tgt := 35) dX12_mayBe_17 rfl (fun h17 => ?_) (fun h17 => ?_)
    · refine z_aload_n dX12_mayBe_35 rfl ?_
      refine z_gP 5 rfl (r := a_what) flX12_19 dX12_mayBe_36 (sh_M hE) rfl (pt_what hm) (by decide) ?_
      refine z_iload_n dX12_mayBe_39 rfl ?_
      refine z_iald dX12_mayBe_40 (sh_what hE) (by have := hl.1; have := (hl.2 i hi0 hi1).1; have := (hl.2 i hi0 hi1).2; have := (hl.2 j hj0 hj1).1; have := (hl.2 j hj0 hj1).2; have := hw.1; have := hw.2.2.1; omega) (by have := hl.1; have := (hl.2 i hi0 hi1).1; have := (hl.2 i hi0 hi1).2; have := (hl.2 j hj0 hj1).1; have := (hl.2 j hj0 hj1).2; have := hw.1; have := hw.2.2.1; omega) ?_
      refine z_iconst dX12_mayBe_41 (by decide) ?_
      refine z_div dX12_mayBe_42 (by have := hl.1; have := (hl.2 i hi0 hi1).1; have := (hl.2 i hi0 hi1).2; have := (hl.2 j hj0 hj1).1; have := (hl.2 j hj0 hj1).2; have := hw.1; have := hw.2.2.1; omega) (by have := hl.1; have := (hl.2 i hi0 hi1).1; have := (hl.2 i hi0 hi1).2; have := (hl.2 j hj0 hj1).1; have := (hl.2 j hj0 hj1).2; have := hw.1; have := hw.2.2.1; omega) ?_
      refine z_ist 3 dX12_mayBe_43 rfl (Nat.le_of_ble_eq_true rfl) ?_
      refine z_aload_n dX12_mayBe_44 rfl ?_
      refine z_gP 5 rfl (r := a_what) flX12_19 dX12_mayBe_45 (sh_M hE) rfl (pt_what hm) (by decide) ?_
      refine z_iload_n dX12_mayBe_48 rfl ?_
      refine z_iald dX12_mayBe_49 (sh_what hE) (by have := hl.1; have := (hl.2 i hi0 hi1).1; have := (hl.2 i hi0 hi1).2; have := (hl.2 j hj0 hj1).1; have := (hl.2 j hj0 hj1).2; have := hw.1; have := hw.2.2.1; omega) (by have := hl.1; have := (hl.2 i hi0 hi1).1; have := (hl.2 i hi0 hi1).2; have := (hl.2 j hj0 hj1).1; have := (hl.2 j hj0 hj1).2; have := hw.1; have := hw.2.2.1; omega) ?_
      refine z_iconst dX12_mayBe_50 (by decide) ?_
      refine z_div dX12_mayBe_51 (by have := hl.1; have := (hl.2 i hi0 hi1).1; have := (hl.2 i hi0 hi1).2; have := (hl.2 j hj0 hj1).1; have := (hl.2 j hj0 hj1).2; have := hw.1; have := hw.2.2.1; omega) (by have := hl.1; have := (hl.2 i hi0 hi1).1; have := (hl.2 i hi0 hi1).2; have := (hl.2 j hj0 hj1).1; have := (hl.2 j hj0 hj1).2; have := hw.1; have := hw.2.2.1; omega) ?_
      refine z_istore dX12_mayBe_52 (Nat.le_of_ble_eq_true rfl) ?_
      refine z_iload_n dX12_mayBe_54 rfl ?_
      refine z_iload dX12_mayBe_55 rfl ?_
      try dsimp only [zs0, zsI, zsP, zsN, zsJ, zsS, zst2, Nat.reduceAdd]
      refine z_icmp_eq (tgt := 93) dX12_mayBe_57 rfl (fun h57 => ?_) (fun h57 => ?_)
      · refine z_aload_n dX12_mayBe_93 rfl ?_
        refine z_iload_n dX12_mayBe_94 rfl ?_
        refine z_callV mlX12_148 dX12_mayBe_95 (sh_M hE) (av := [_]) rfl rfl (Nat.le_of_ble_eq_true rfl) (r_isPair _ hE hm _ (by have := hl.1; have := (hl.2 i hi0 hi1).1; have := (hl.2 i hi0 hi1).2; have := (hl.2 j hj0 hj1).1; have := (hl.2 j hj0 hj1).2; have := hw.1; have := hw.2.2.1; omega) (by have := hl.1; have := (hl.2 i hi0 hi1).1; have := (hl.2 i hi0 hi1).2; have := (hl.2 j hj0 hj1).1; have := (hl.2 j hj0 hj1).2; have := hw.1; have := hw.2.2.1; omega)) (Nat.le_refl _) (Nat.le_refl _) (Nat.le_refl _) (Nat.le_refl _) ?_
        rintro _ _ ⟨rfl, rfl⟩
        refine z_ifz_eq (tgt := 116) dX12_mayBe_98 rfl (fun h98 => ?_) (fun h98 => ?_)
        · refine z_iconst dX12_mayBe_116 (by decide) ?_
          refine z_goto (tgt := 121) dX12_mayBe_117 rfl ?_
          refine z_zret dX12_mayBe_121 rfl (by first | omega | exact zb01 _) rfl ?_
          exact ⟨by rw [zb_t (by simp only [cMay, decide_eq_true_eq]; (try split) <;> omega)], rfl⟩
        · refine z_aload_n dX12_mayBe_101 rfl ?_
          refine z_gP 5 rfl (r := a_what) flX12_19 dX12_mayBe_102 (sh_M hE) rfl (pt_what hm) (by decide) ?_
          refine z_iload_n dX12_mayBe_105 rfl ?_
          refine z_iald dX12_mayBe_106 (sh_what hE) (by have := hl.1; have := (hl.2 i hi0 hi1).1; have := (hl.2 i hi0 hi1).2; have := (hl.2 j hj0 hj1).1; have := (hl.2 j hj0 hj1).2; have := hw.1; have := hw.2.2.1; omega) (by have := hl.1; have := (hl.2 i hi0 hi1).1; have := (hl.2 i hi0 hi1).2; have := (hl.2 j hj0 hj1).1; have := (hl.2 j hj0 hj1).2; have := hw.1; have := hw.2.2.1; omega) ?_
          refine z_aload_n dX12_mayBe_107 rfl ?_
          refine z_gP 5 rfl (r := a_what) flX12_19 dX12_mayBe_108 (sh_M hE) rfl (pt_what hm) (by decide) ?_
          refine z_iload_n dX12_mayBe_111 rfl ?_
          refine z_iald dX12_mayBe_112 (sh_what hE) (by have := hl.1; have := (hl.2 i hi0 hi1).1; have := (hl.2 i hi0 hi1).2; have := (hl.2 j hj0 hj1).1; have := (hl.2 j hj0 hj1).2; have := hw.1; have := hw.2.2.1; omega) (by have := hl.1; have := (hl.2 i hi0 hi1).1; have := (hl.2 i hi0 hi1).2; have := (hl.2 j hj0 hj1).1; have := (hl.2 j hj0 hj1).2; have := hw.1; have := hw.2.2.1; omega) ?_
          refine z_icmp_eq (tgt := 120) dX12_mayBe_113 rfl (fun h113 => ?_) (fun h113 => ?_)
          · refine z_iconst dX12_mayBe_120 (by decide) ?_
            refine z_zret dX12_mayBe_121 rfl (by first | omega | exact zb01 _) rfl ?_
            exact ⟨by rw [zb_f (by simp only [cMay, decide_eq_true_eq]; (try split) <;> omega)], rfl⟩
          · refine z_iconst dX12_mayBe_116 (by decide) ?_
            refine z_goto (tgt := 121) dX12_mayBe_117 rfl ?_
            refine z_zret dX12_mayBe_121 rfl (by first | omega | exact zb01 _) rfl ?_
            exact ⟨by rw [zb_t (by simp only [cMay, decide_eq_true_eq]; (try split) <;> omega)], rfl⟩
      · refine z_aload_n dX12_mayBe_60 rfl ?_
        refine z_iload_n dX12_mayBe_61 rfl ?_
        refine z_callV mlX12_148 dX12_mayBe_62 (sh_M hE) (av := [_]) rfl rfl (Nat.le_of_ble_eq_true rfl) (r_isPair _ hE hm _ (by have := hl.1; have := (hl.2 i hi0 hi1).1; have := (hl.2 i hi0 hi1).2; have := (hl.2 j hj0 hj1).1; have := (hl.2 j hj0 hj1).2; have := hw.1; have := hw.2.2.1; omega) (by have := hl.1; have := (hl.2 i hi0 hi1).1; have := (hl.2 i hi0 hi1).2; have := (hl.2 j hj0 hj1).1; have := (hl.2 j hj0 hj1).2; have := hw.1; have := hw.2.2.1; omega)) (Nat.le_refl _) (Nat.le_refl _) (Nat.le_refl _) (Nat.le_refl _) ?_
        rintro _ _ ⟨rfl, rfl⟩
        refine z_ifz_ne (tgt := 91) dX12_mayBe_65 rfl (fun h65 => ?_) (fun h65 => ?_)
        · refine z_iconst dX12_mayBe_91 (by decide) ?_
          refine z_zret dX12_mayBe_92 rfl (by first | omega | exact zb01 _) rfl ?_
          exact ⟨by rw [zb_f (by simp only [cMay, decide_eq_true_eq]; (try split) <;> omega)], rfl⟩
        · refine z_aload_n dX12_mayBe_68 rfl ?_
          refine z_iload dX12_mayBe_69 rfl ?_
          refine z_callV mlX12_148 dX12_mayBe_71 (sh_M hE) (av := [_]) rfl rfl (Nat.le_of_ble_eq_true rfl) (r_isPair _ hE hm _ (by have := hl.1; have := (hl.2 i hi0 hi1).1; have := (hl.2 i hi0 hi1).2; have := (hl.2 j hj0 hj1).1; have := (hl.2 j hj0 hj1).2; have := hw.1; have := hw.2.2.1; omega) (by have := hl.1; have := (hl.2 i hi0 hi1).1; have := (hl.2 i hi0 hi1).2; have := (hl.2 j hj0 hj1).1; have := (hl.2 j hj0 hj1).2; have := hw.1; have := hw.2.2.1; omega)) (Nat.le_refl _) (Nat.le_refl _) (Nat.le_refl _) (Nat.le_refl _) ?_
          rintro _ _ ⟨rfl, rfl⟩
          refine z_ifz_ne (tgt := 91) dX12_mayBe_74 rfl (fun h74 => ?_) (fun h74 => ?_)
          · refine z_iconst dX12_mayBe_91 (by decide) ?_
            refine z_zret dX12_mayBe_92 rfl (by first | omega | exact zb01 _) rfl ?_
            exact ⟨by rw [zb_f (by simp only [cMay, decide_eq_true_eq]; (try split) <;> omega)], rfl⟩
          · refine z_aload_n dX12_mayBe_77 rfl ?_
            refine z_iload_n dX12_mayBe_78 rfl ?_
            refine z_iload dX12_mayBe_79 rfl ?_
            refine z_callV mlX12_151 dX12_mayBe_81 (sh_M hE) (av := [_, _]) rfl rfl (Nat.le_of_ble_eq_true rfl) (r_mixOf _ hE hm _ _ hw) (Nat.le_refl _) (Nat.le_refl _) (Nat.le_refl _) (Nat.le_refl _) ?_
            rintro _ _ ⟨rfl, rfl⟩
            refine z_if_lt (tgt := 91) dX12_mayBe_84 rfl (fun h84 => ?_) (fun h84 => ?_)
            · refine z_iconst dX12_mayBe_91 (by decide) ?_
              refine z_zret dX12_mayBe_92 rfl (by first | omega | exact zb01 _) rfl ?_
              exact ⟨by rw [zb_f (by simp only [cMay, decide_eq_true_eq]; (try split) <;> omega)], rfl⟩
            · refine z_iconst dX12_mayBe_87 (by decide) ?_
              refine z_goto (tgt := 92) dX12_mayBe_88 rfl ?_
              refine z_zret dX12_mayBe_92 rfl (by first | omega | exact zb01 _) rfl ?_
              exact ⟨by rw [zb_t (by simp only [cMay, decide_eq_true_eq]; (try split) <;> omega)], rfl⟩
    · refine z_aload_n dX12_mayBe_20 rfl ?_
      refine z_aload_n dX12_mayBe_21 rfl ?_
      refine z_gP 6 rfl (r := a_pointOf) flX12_22 dX12_mayBe_22 (sh_M hE) rfl (pt_pointOf hm) (by decide) ?_
      refine z_iload_n dX12_mayBe_25 rfl ?_
      refine z_iald dX12_mayBe_26 (sh_pointOf hE) (by have := hl.1; have := (hl.2 i hi0 hi1).1; have := (hl.2 i hi0 hi1).2; have := (hl.2 j hj0 hj1).1; have := (hl.2 j hj0 hj1).2; have := hw.1; have := hw.2.2.1; omega) (by have := hl.1; have := (hl.2 i hi0 hi1).1; have := (hl.2 i hi0 hi1).2; have := (hl.2 j hj0 hj1).1; have := (hl.2 j hj0 hj1).2; have := hw.1; have := hw.2.2.1; omega) ?_
      refine z_callV mlX12_144 dX12_mayBe_27 (sh_M hE) (av := [_]) rfl rfl (Nat.le_of_ble_eq_true rfl) (r_isNormal _ hE hm _ (by have := hl.1; have := (hl.2 i hi0 hi1).1; have := (hl.2 i hi0 hi1).2; have := (hl.2 j hj0 hj1).1; have := (hl.2 j hj0 hj1).2; have := hw.1; have := hw.2.2.1; omega) (by have := hl.1; have := (hl.2 i hi0 hi1).1; have := (hl.2 i hi0 hi1).2; have := (hl.2 j hj0 hj1).1; have := (hl.2 j hj0 hj1).2; have := hw.1; have := hw.2.2.1; omega)) (Nat.le_refl _) (Nat.le_refl _) (Nat.le_refl _) (Nat.le_refl _) ?_
      rintro _ _ ⟨rfl, rfl⟩
      refine z_ifz_eq (tgt := 35) dX12_mayBe_30 rfl (fun h30 => ?_) (fun h30 => ?_)
      · refine z_aload_n dX12_mayBe_35 rfl ?_
        refine z_gP 5 rfl (r := a_what) flX12_19 dX12_mayBe_36 (sh_M hE) rfl (pt_what hm) (by decide) ?_
        refine z_iload_n dX12_mayBe_39 rfl ?_
        refine z_iald dX12_mayBe_40 (sh_what hE) (by have := hl.1; have := (hl.2 i hi0 hi1).1; have := (hl.2 i hi0 hi1).2; have := (hl.2 j hj0 hj1).1; have := (hl.2 j hj0 hj1).2; have := hw.1; have := hw.2.2.1; omega) (by have := hl.1; have := (hl.2 i hi0 hi1).1; have := (hl.2 i hi0 hi1).2; have := (hl.2 j hj0 hj1).1; have := (hl.2 j hj0 hj1).2; have := hw.1; have := hw.2.2.1; omega) ?_
        refine z_iconst dX12_mayBe_41 (by decide) ?_
        refine z_div dX12_mayBe_42 (by have := hl.1; have := (hl.2 i hi0 hi1).1; have := (hl.2 i hi0 hi1).2; have := (hl.2 j hj0 hj1).1; have := (hl.2 j hj0 hj1).2; have := hw.1; have := hw.2.2.1; omega) (by have := hl.1; have := (hl.2 i hi0 hi1).1; have := (hl.2 i hi0 hi1).2; have := (hl.2 j hj0 hj1).1; have := (hl.2 j hj0 hj1).2; have := hw.1; have := hw.2.2.1; omega) ?_
        refine z_ist 3 dX12_mayBe_43 rfl (Nat.le_of_ble_eq_true rfl) ?_
        refine z_aload_n dX12_mayBe_44 rfl ?_
        refine z_gP 5 rfl (r := a_what) flX12_19 dX12_mayBe_45 (sh_M hE) rfl (pt_what hm) (by decide) ?_
        refine z_iload_n dX12_mayBe_48 rfl ?_
        refine z_iald dX12_mayBe_49 (sh_what hE) (by have := hl.1; have := (hl.2 i hi0 hi1).1; have := (hl.2 i hi0 hi1).2; have := (hl.2 j hj0 hj1).1; have := (hl.2 j hj0 hj1).2; have := hw.1; have := hw.2.2.1; omega) (by have := hl.1; have := (hl.2 i hi0 hi1).1; have := (hl.2 i hi0 hi1).2; have := (hl.2 j hj0 hj1).1; have := (hl.2 j hj0 hj1).2; have := hw.1; have := hw.2.2.1; omega) ?_
        refine z_iconst dX12_mayBe_50 (by decide) ?_
        refine z_div dX12_mayBe_51 (by have := hl.1; have := (hl.2 i hi0 hi1).1; have := (hl.2 i hi0 hi1).2; have := (hl.2 j hj0 hj1).1; have := (hl.2 j hj0 hj1).2; have := hw.1; have := hw.2.2.1; omega) (by have := hl.1; have := (hl.2 i hi0 hi1).1; have := (hl.2 i hi0 hi1).2; have := (hl.2 j hj0 hj1).1; have := (hl.2 j hj0 hj1).2; have := hw.1; have := hw.2.2.1; omega) ?_
        refine z_istore dX12_mayBe_52 (Nat.le_of_ble_eq_true rfl) ?_
        refine z_iload_n dX12_mayBe_54 rfl ?_
        refine z_iload dX12_mayBe_55 rfl ?_
        try dsimp only [zs0, zsI, zsP, zsN, zsJ, zsS, zst2, Nat.reduceAdd]
        refine z_icmp_eq (tgt := 93) dX12_mayBe_57 rfl (fun h57 => ?_) (fun h57 => ?_)
        · refine z_aload_n dX12_mayBe_93 rfl ?_
          refine z_iload_n dX12_mayBe_94 rfl ?_
          refine z_callV mlX12_148 dX12_mayBe_95 (sh_M hE) (av := [_]) rfl rfl (Nat.le_of_ble_eq_true rfl) (r_isPair _ hE hm _ (by have := hl.1; have := (hl.2 i hi0 hi1).1; have := (hl.2 i hi0 hi1).2; have := (hl.2 j hj0 hj1).1; have := (hl.2 j hj0 hj1).2; have := hw.1; have := hw.2.2.1; omega) (by have := hl.1; have := (hl.2 i hi0 hi1).1; have := (hl.2 i hi0 hi1).2; have := (hl.2 j hj0 hj1).1; have := (hl.2 j hj0 hj1).2; have := hw.1; have := hw.2.2.1; omega)) (Nat.le_refl _) (Nat.le_refl _) (Nat.le_refl _) (Nat.le_refl _) ?_
          rintro _ _ ⟨rfl, rfl⟩
          refine z_ifz_eq (tgt := 116) dX12_mayBe_98 rfl (fun h98 => ?_) (fun h98 => ?_)
          · refine z_iconst dX12_mayBe_116 (by decide) ?_
            refine z_goto (tgt := 121) dX12_mayBe_117 rfl ?_
            refine z_zret dX12_mayBe_121 rfl (by first | omega | exact zb01 _) rfl ?_
            exact ⟨by rw [zb_t (by simp only [cMay, decide_eq_true_eq]; (try split) <;> omega)], rfl⟩
          · refine z_aload_n dX12_mayBe_101 rfl ?_
            refine z_gP 5 rfl (r := a_what) flX12_19 dX12_mayBe_102 (sh_M hE) rfl (pt_what hm) (by decide) ?_
            refine z_iload_n dX12_mayBe_105 rfl ?_
            refine z_iald dX12_mayBe_106 (sh_what hE) (by have := hl.1; have := (hl.2 i hi0 hi1).1; have := (hl.2 i hi0 hi1).2; have := (hl.2 j hj0 hj1).1; have := (hl.2 j hj0 hj1).2; have := hw.1; have := hw.2.2.1; omega) (by have := hl.1; have := (hl.2 i hi0 hi1).1; have := (hl.2 i hi0 hi1).2; have := (hl.2 j hj0 hj1).1; have := (hl.2 j hj0 hj1).2; have := hw.1; have := hw.2.2.1; omega) ?_
            refine z_aload_n dX12_mayBe_107 rfl ?_
            refine z_gP 5 rfl (r := a_what) flX12_19 dX12_mayBe_108 (sh_M hE) rfl (pt_what hm) (by decide) ?_
            refine z_iload_n dX12_mayBe_111 rfl ?_
            refine z_iald dX12_mayBe_112 (sh_what hE) (by have := hl.1; have := (hl.2 i hi0 hi1).1; have := (hl.2 i hi0 hi1).2; have := (hl.2 j hj0 hj1).1; have := (hl.2 j hj0 hj1).2; have := hw.1; have := hw.2.2.1; omega) (by have := hl.1; have := (hl.2 i hi0 hi1).1; have := (hl.2 i hi0 hi1).2; have := (hl.2 j hj0 hj1).1; have := (hl.2 j hj0 hj1).2; have := hw.1; have := hw.2.2.1; omega) ?_
            refine z_icmp_eq (tgt := 120) dX12_mayBe_113 rfl (fun h113 => ?_) (fun h113 => ?_)
            · refine z_iconst dX12_mayBe_120 (by decide) ?_
              refine z_zret dX12_mayBe_121 rfl (by first | omega | exact zb01 _) rfl ?_
              exact ⟨by rw [zb_f (by simp only [cMay, decide_eq_true_eq]; (try split) <;> omega)], rfl⟩
            · refine z_iconst dX12_mayBe_116 (by decide) ?_
              refine z_goto (tgt := 121) dX12_mayBe_117 rfl ?_
              refine z_zret dX12_mayBe_121 rfl (by first | omega | exact zb01 _) rfl ?_
              exact ⟨by rw [zb_t (by simp only [cMay, decide_eq_true_eq]; (try split) <;> omega)], rfl⟩
        · refine z_aload_n dX12_mayBe_60 rfl ?_
          refine z_iload_n dX12_mayBe_61 rfl ?_
          refine z_callV mlX12_148 dX12_mayBe_62 (sh_M hE) (av := [_]) rfl rfl (Nat.le_of_ble_eq_true rfl) (r_isPair _ hE hm _ (by have := hl.1; have := (hl.2 i hi0 hi1).1; have := (hl.2 i hi0 hi1).2; have := (hl.2 j hj0 hj1).1; have := (hl.2 j hj0 hj1).2; have := hw.1; have := hw.2.2.1; omega) (by have := hl.1; have := (hl.2 i hi0 hi1).1; have := (hl.2 i hi0 hi1).2; have := (hl.2 j hj0 hj1).1; have := (hl.2 j hj0 hj1).2; have := hw.1; have := hw.2.2.1; omega)) (Nat.le_refl _) (Nat.le_refl _) (Nat.le_refl _) (Nat.le_refl _) ?_
          rintro _ _ ⟨rfl, rfl⟩
          refine z_ifz_ne (tgt := 91) dX12_mayBe_65 rfl (fun h65 => ?_) (fun h65 => ?_)
          · refine z_iconst dX12_mayBe_91 (by decide) ?_
            refine z_zret dX12_mayBe_92 rfl (by first | omega | exact zb01 _) rfl ?_
            exact ⟨by rw [zb_f (by simp only [cMay, decide_eq_true_eq]; (try split) <;> omega)], rfl⟩
          · refine z_aload_n dX12_mayBe_68 rfl ?_
            refine z_iload dX12_mayBe_69 rfl ?_
            refine z_callV mlX12_148 dX12_mayBe_71 (sh_M hE) (av := [_]) rfl rfl (Nat.le_of_ble_eq_true rfl) (r_isPair _ hE hm _ (by have := hl.1; have := (hl.2 i hi0 hi1).1; have := (hl.2 i hi0 hi1).2; have := (hl.2 j hj0 hj1).1; have := (hl.2 j hj0 hj1).2; have := hw.1; have := hw.2.2.1; omega) (by have := hl.1; have := (hl.2 i hi0 hi1).1; have := (hl.2 i hi0 hi1).2; have := (hl.2 j hj0 hj1).1; have := (hl.2 j hj0 hj1).2; have := hw.1; have := hw.2.2.1; omega)) (Nat.le_refl _) (Nat.le_refl _) (Nat.le_refl _) (Nat.le_refl _) ?_
            rintro _ _ ⟨rfl, rfl⟩
            refine z_ifz_ne (tgt := 91) dX12_mayBe_74 rfl (fun h74 => ?_) (fun h74 => ?_)
            · refine z_iconst dX12_mayBe_91 (by decide) ?_
              refine z_zret dX12_mayBe_92 rfl (by first | omega | exact zb01 _) rfl ?_
              exact ⟨by rw [zb_f (by simp only [cMay, decide_eq_true_eq]; (try split) <;> omega)], rfl⟩
            · refine z_aload_n dX12_mayBe_77 rfl ?_
              refine z_iload_n dX12_mayBe_78 rfl ?_
              refine z_iload dX12_mayBe_79 rfl ?_
              refine z_callV mlX12_151 dX12_mayBe_81 (sh_M hE) (av := [_, _]) rfl rfl (Nat.le_of_ble_eq_true rfl) (r_mixOf _ hE hm _ _ hw) (Nat.le_refl _) (Nat.le_refl _) (Nat.le_refl _) (Nat.le_refl _) ?_
              rintro _ _ ⟨rfl, rfl⟩
              refine z_if_lt (tgt := 91) dX12_mayBe_84 rfl (fun h84 => ?_) (fun h84 => ?_)
              · refine z_iconst dX12_mayBe_91 (by decide) ?_
                refine z_zret dX12_mayBe_92 rfl (by first | omega | exact zb01 _) rfl ?_
                exact ⟨by rw [zb_f (by simp only [cMay, decide_eq_true_eq]; (try split) <;> omega)], rfl⟩
              · refine z_iconst dX12_mayBe_87 (by decide) ?_
                refine z_goto (tgt := 92) dX12_mayBe_88 rfl ?_
                refine z_zret dX12_mayBe_92 rfl (by first | omega | exact zb01 _) rfl ?_
                exact ⟨by rw [zb_t (by simp only [cMay, decide_eq_true_eq]; (try split) <;> omega)], rfl⟩
      · refine z_iconst dX12_mayBe_33 (by decide) ?_
        refine z_zret dX12_mayBe_34 rfl (by first | omega | exact zb01 _) rfl ?_
        exact ⟨by rw [zb_f (by simp only [cMay, decide_eq_true_eq]; (try split) <;> omega)], rfl⟩

theorem r_codeOf (d : Nat) {E : zE} {m : zM} (hE : shM E) (hm : ptM m) (i j : Int) (hi0 : 0 ≤ i) (hi1 : i < m aM f_letters) (hj0 : 0 ≤ j) (hj1 : j < m aM f_letters) (hw : wfC (m a_c)) (hl : wfL (m a_c) (m a_what) (m a_pointOf) (m aM f_letters)) (hmay : cMay (m a_c) (m a_what) (m a_pointOf) i j = true) : zR zX12_codeOf (d + 1) [zP aM, zI i, zI j] m E E (fun r m' => r = some (zI (cCode (m a_c) (m a_what) (m a_pointOf) i j)) ∧ m = m') := by
  refine zR_go [zP aM, zI i, zI j, zN, zN, zN, zN] (by decide +kernel) (Nat.le_of_ble_eq_true rfl) rfl rfl ?_
  have b1 := hl.1
  have b2 := hl.2 i hi0 hi1
  have b3 := hl.2 j hj0 hj1
  have b4 := hw.1
  have b5 := hw.2.2.1
  have b6 := hw.2.1
  have b7 : m a_what i / 2 ≠ m a_what j / 2 → 0 ≤ cMix (m a_c) (m a_what i / 2) (m a_what j / 2) := fun h => by simp only [cMay, decide_eq_true_eq, if_neg h] at hmay; exact hmay.2.2.2
  have b8 : cMix (m a_c) (m a_what i / 2) (m a_what j / 2) < m a_c 1 := cMix_lt hw
  refine z_aload_n dX12_codeOf_0 rfl ?_
  refine z_gP 5 rfl (r := a_what) flX12_19 dX12_codeOf_1 (sh_M hE) rfl (pt_what hm) (by decide) ?_
  refine z_iload_n dX12_codeOf_4 rfl ?_
  refine z_iald dX12_codeOf_5 (sh_what hE) (by omega) (by omega) ?_
  refine z_iconst dX12_codeOf_6 (by decide) ?_
  refine z_div dX12_codeOf_7 (by omega) (by omega) ?_
  refine z_ist 3 dX12_codeOf_8 rfl (Nat.le_of_ble_eq_true rfl) ?_
  refine z_aload_n dX12_codeOf_9 rfl ?_
  refine z_gP 6 rfl (r := a_pointOf) flX12_22 dX12_codeOf_10 (sh_M hE) rfl (pt_pointOf hm) (by decide) ?_
  refine z_iload_n dX12_codeOf_13 rfl ?_
  refine z_iald dX12_codeOf_14 (sh_pointOf hE) (by omega) (by omega) ?_
  refine z_istore dX12_codeOf_15 (Nat.le_of_ble_eq_true rfl) ?_
  refine z_aload_n dX12_codeOf_17 rfl ?_
  refine z_gP 6 rfl (r := a_pointOf) flX12_22 dX12_codeOf_18 (sh_M hE) rfl (pt_pointOf hm) (by decide) ?_
  refine z_iload_n dX12_codeOf_21 rfl ?_
  refine z_iald dX12_codeOf_22 (sh_pointOf hE) (by omega) (by omega) ?_
  refine z_istore dX12_codeOf_23 (Nat.le_of_ble_eq_true rfl) ?_
  refine z_iload_n dX12_codeOf_25 rfl ?_
  refine z_aload_n dX12_codeOf_26 rfl ?_
  refine z_gP 5 rfl (r := a_what) flX12_19 dX12_codeOf_27 (sh_M hE) rfl (pt_what hm) (by decide) ?_
  refine z_iload_n dX12_codeOf_30 rfl ?_
  refine z_iald dX12_codeOf_31 (sh_what hE) (by omega) (by omega) ?_
  refine z_iconst dX12_codeOf_32 (by decide) ?_
  refine z_div dX12_codeOf_33 (by omega) (by omega) ?_
  try dsimp only [zs0, zsI, zsP, zsN, zsJ, zsS, zst2, Nat.reduceAdd]
  refine z_icmp_eq (tgt := 106) dX12_codeOf_34 rfl (fun h34 => ?_) (fun h34 => ?_)
  · refine z_aload_n dX12_codeOf_106 rfl ?_
    refine z_iload_n dX12_codeOf_107 rfl ?_
    refine z_callV mlX12_148 dX12_codeOf_108 (sh_M hE) (av := [_]) rfl rfl (Nat.le_of_ble_eq_true rfl) (r_isPair _ hE hm _ (by omega) (by omega)) (Nat.le_refl _) (Nat.le_refl _) (Nat.le_refl _) (Nat.le_refl _) ?_
    rintro _ _ ⟨rfl, rfl⟩
    refine z_ifz_eq (tgt := 155) dX12_codeOf_111 rfl (fun h111 => ?_) (fun h111 => ?_)
    · refine z_iload dX12_codeOf_155 rfl ?_
      refine z_iload dX12_codeOf_157 rfl ?_
      refine z_icmp_ge (tgt := 178) dX12_codeOf_159 rfl (fun h159 => ?_) (fun h159 => ?_)
      · refine z_bipush dX12_codeOf_178 rfl (by decide) ?_
        refine z_iload dX12_codeOf_180 rfl ?_
        refine z_mul dX12_codeOf_182 (by omega) ?_
        refine z_bipush dX12_codeOf_183 rfl (by decide) ?_
        refine z_iload dX12_codeOf_185 rfl ?_
        refine z_mul dX12_codeOf_187 (by omega) ?_
        refine z_add dX12_codeOf_188 (by omega) ?_
        refine z_iload_n dX12_codeOf_189 rfl ?_
        refine z_add dX12_codeOf_190 (by omega) ?_
        refine z_iret dX12_codeOf_191 rfl rfl ?_
        refine ⟨?_, rfl⟩
        simp only [cCode]
        (repeat (split <;> (try omega))) <;> rfl
      · refine z_bipush dX12_codeOf_162 rfl (by decide) ?_
        refine z_iload dX12_codeOf_164 rfl ?_
        refine z_mul dX12_codeOf_166 (by omega) ?_
        refine z_bipush dX12_codeOf_167 rfl (by decide) ?_
        refine z_iload dX12_codeOf_169 rfl ?_
        refine z_mul dX12_codeOf_171 (by omega) ?_
        refine z_add dX12_codeOf_172 (by omega) ?_
        refine z_iload_n dX12_codeOf_173 rfl ?_
        refine z_add dX12_codeOf_174 (by omega) ?_
        refine z_goto (tgt := 191) dX12_codeOf_175 rfl ?_
        refine z_iret dX12_codeOf_191 rfl rfl ?_
        refine ⟨?_, rfl⟩
        simp only [cCode]
        (repeat (split <;> (try omega))) <;> rfl
    · refine z_aload_n dX12_codeOf_114 rfl ?_
      refine z_gP 5 rfl (r := a_what) flX12_19 dX12_codeOf_115 (sh_M hE) rfl (pt_what hm) (by decide) ?_
      refine z_iload_n dX12_codeOf_118 rfl ?_
      refine z_iald dX12_codeOf_119 (sh_what hE) (by omega) (by omega) ?_
      refine z_iconst dX12_codeOf_120 (by decide) ?_
      refine z_rem dX12_codeOf_121 (by omega) (by omega) ?_
      refine z_if_ne (tgt := 141) dX12_codeOf_122 rfl (fun h122 => ?_) (fun h122 => ?_)
      · refine z_bipush dX12_codeOf_141 rfl (by decide) ?_
        refine z_iload dX12_codeOf_143 rfl ?_
        refine z_mul dX12_codeOf_145 (by omega) ?_
        refine z_bipush dX12_codeOf_146 rfl (by decide) ?_
        refine z_iload dX12_codeOf_148 rfl ?_
        refine z_mul dX12_codeOf_150 (by omega) ?_
        refine z_add dX12_codeOf_151 (by omega) ?_
        refine z_iload_n dX12_codeOf_152 rfl ?_
        refine z_add dX12_codeOf_153 (by omega) ?_
        refine z_iret dX12_codeOf_154 rfl rfl ?_
        refine ⟨?_, rfl⟩
        simp only [cCode]
        (repeat (split <;> (try omega))) <;> rfl
      · refine z_bipush dX12_codeOf_125 rfl (by decide) ?_
        refine z_iload dX12_codeOf_127 rfl ?_
        refine z_mul dX12_codeOf_129 (by omega) ?_
        refine z_bipush dX12_codeOf_130 rfl (by decide) ?_
        refine z_iload dX12_codeOf_132 rfl ?_
        refine z_mul dX12_codeOf_134 (by omega) ?_
        refine z_add dX12_codeOf_135 (by omega) ?_
        refine z_iload_n dX12_codeOf_136 rfl ?_
        refine z_add dX12_codeOf_137 (by omega) ?_
        refine z_goto (tgt := 154) dX12_codeOf_138 rfl ?_
        refine z_iret dX12_codeOf_154 rfl rfl ?_
        refine ⟨?_, rfl⟩
        simp only [cCode]
        (repeat (split <;> (try omega))) <;> rfl
  · refine z_aload_n dX12_codeOf_37 rfl ?_
    refine z_iload_n dX12_codeOf_38 rfl ?_
    refine z_aload_n dX12_codeOf_39 rfl ?_
    refine z_gP 5 rfl (r := a_what) flX12_19 dX12_codeOf_40 (sh_M hE) rfl (pt_what hm) (by decide) ?_
    refine z_iload_n dX12_codeOf_43 rfl ?_
    refine z_iald dX12_codeOf_44 (sh_what hE) (by omega) (by omega) ?_
    refine z_iconst dX12_codeOf_45 (by decide) ?_
    refine z_div dX12_codeOf_46 (by omega) (by omega) ?_
    refine z_callV mlX12_151 dX12_codeOf_47 (sh_M hE) (av := [_, _]) rfl rfl (Nat.le_of_ble_eq_true rfl) (r_mixOf _ hE hm _ _ hw) (Nat.le_refl _) (Nat.le_refl _) (Nat.le_refl _) (Nat.le_refl _) ?_
    rintro _ _ ⟨rfl, rfl⟩
    have b9 := b7 (by omega)
    refine z_istore dX12_codeOf_50 (Nat.le_of_ble_eq_true rfl) ?_
    refine z_aload_n dX12_codeOf_52 rfl ?_
    refine z_gP 0 rfl (r := a_c) flX12_7 dX12_codeOf_53 (sh_M hE) rfl (pt_c hm) (by decide) ?_
    refine z_bipush dX12_codeOf_56 rfl (by decide) ?_
    refine z_iconst dX12_codeOf_58 (by decide) ?_
    refine z_iload dX12_codeOf_59 rfl ?_
    refine z_mul dX12_codeOf_61 (by omega) ?_
    refine z_add dX12_codeOf_62 (by omega) ?_
    refine z_iald dX12_codeOf_63 (sh_c hE) (by omega) (by omega) ?_
    refine z_iload_n dX12_codeOf_64 rfl ?_
    try dsimp only [zs0, zsI, zsP, zsN, zsJ, zsS, zst2, Nat.reduceAdd]
    refine z_icmp_ne (tgt := 88) dX12_codeOf_65 rfl (fun h65 => ?_) (fun h65 => ?_)
    · refine z_bipush dX12_codeOf_88 rfl (by decide) ?_
      refine z_iload dX12_codeOf_90 rfl ?_
      refine z_mul dX12_codeOf_92 (by omega) ?_
      refine z_bipush dX12_codeOf_93 rfl (by decide) ?_
      refine z_iload dX12_codeOf_95 rfl ?_
      refine z_mul dX12_codeOf_97 (by omega) ?_
      refine z_add dX12_codeOf_98 (by omega) ?_
      refine z_bipush dX12_codeOf_99 rfl (by decide) ?_
      refine z_add dX12_codeOf_101 (by omega) ?_
      refine z_iload dX12_codeOf_102 rfl ?_
      refine z_add dX12_codeOf_104 (by omega) ?_
      refine z_iret dX12_codeOf_105 rfl rfl ?_
      refine ⟨?_, rfl⟩
      simp only [cCode]
      (repeat (split <;> (try omega))) <;> rfl
    · refine z_bipush dX12_codeOf_68 rfl (by decide) ?_
      refine z_iload dX12_codeOf_70 rfl ?_
      refine z_mul dX12_codeOf_72 (by omega) ?_
      refine z_bipush dX12_codeOf_73 rfl (by decide) ?_
      refine z_iload dX12_codeOf_75 rfl ?_
      refine z_mul dX12_codeOf_77 (by omega) ?_
      refine z_add dX12_codeOf_78 (by omega) ?_
      refine z_bipush dX12_codeOf_79 rfl (by decide) ?_
      refine z_add dX12_codeOf_81 (by omega) ?_
      refine z_iload dX12_codeOf_82 rfl ?_
      refine z_add dX12_codeOf_84 (by omega) ?_
      refine z_goto (tgt := 105) dX12_codeOf_85 rfl ?_
      refine z_iret dX12_codeOf_105 rfl rfl ?_
      refine ⟨?_, rfl⟩
      simp only [cCode]
      (repeat (split <;> (try omega))) <;> rfl

theorem r_mateOf (d : Nat) {E : zE} {m : zM} (hE : shM E) (hm : ptM m) (k i : Int) (h0 : 0 ≤ k) (h1 : k < 10395) (h2 : 0 ≤ i) (h3 : i < 12) : zR zX12_mateOf (d) [zP aM, zI k, zI i] m E E (fun r m' => r = some (zI (m a_table (12 * k + i))) ∧ m = m') := by
  refine zR_go [zP aM, zI k, zI i] (by decide +kernel) (Nat.le_of_ble_eq_true rfl) rfl rfl ?_
  refine z_aload_n dX12_mateOf_0 rfl ?_
  refine z_gP 7 rfl (r := a_table) flX12_26 dX12_mateOf_1 (sh_M hE) rfl (pt_table hm) (by decide) ?_
  refine z_bipush dX12_mateOf_4 rfl (by decide) ?_
  refine z_iload_n dX12_mateOf_6 rfl ?_
  refine z_mul dX12_mateOf_7 (by omega) ?_
  refine z_iload_n dX12_mateOf_8 rfl ?_
  refine z_add dX12_mateOf_9 (by omega) ?_
  refine z_iald dX12_mateOf_10 (sh_table hE) (by omega) (by omega) ?_
  refine z_iret dX12_mateOf_11 rfl rfl ?_
  exact ⟨rfl, rfl⟩

theorem r_fromOf (d : Nat) {E : zE} {m : zM} (hE : shM E) (hm : ptM m) (k : Int) (h0 : 0 ≤ k) (h1 : k < 6) (h2 : 0 ≤ m a_codes k) : zR zX12_fromOf (d) [zP aM, zI k] m E E (fun r m' => r = some (zI (m a_codes k / 100)) ∧ m = m') := by
  refine zR_go [zP aM, zI k] (by decide +kernel) (Nat.le_of_ble_eq_true rfl) rfl rfl ?_
  refine z_aload_n dX12_fromOf_0 rfl ?_
  refine z_gP 18 rfl (r := a_codes) flX12_44 dX12_fromOf_1 (sh_M hE) rfl (pt_codes hm) (by decide) ?_
  refine z_iload_n dX12_fromOf_4 rfl ?_
  refine z_iald dX12_fromOf_5 (sh_codes hE) (by omega) (by omega) ?_
  refine z_bipush dX12_fromOf_6 rfl (by decide) ?_
  refine z_div dX12_fromOf_8 (by omega) (by omega) ?_
  refine z_iret dX12_fromOf_9 rfl rfl ?_
  exact ⟨rfl, rfl⟩

theorem r_toOf (d : Nat) {E : zE} {m : zM} (hE : shM E) (hm : ptM m) (k : Int) (h0 : 0 ≤ k) (h1 : k < 6) (h2 : 0 ≤ m a_codes k) : zR zX12_toOf (d) [zP aM, zI k] m E E (fun r m' => r = some (zI (m a_codes k / 10 % 10)) ∧ m = m') := by
  refine zR_go [zP aM, zI k] (by decide +kernel) (Nat.le_of_ble_eq_true rfl) rfl rfl ?_
  refine z_aload_n dX12_toOf_0 rfl ?_
  refine z_gP 18 rfl (r := a_codes) flX12_44 dX12_toOf_1 (sh_M hE) rfl (pt_codes hm) (by decide) ?_
  refine z_iload_n dX12_toOf_4 rfl ?_
  refine z_iald dX12_toOf_5 (sh_codes hE) (by omega) (by omega) ?_
  refine z_bipush dX12_toOf_6 rfl (by decide) ?_
  refine z_div dX12_toOf_8 (by omega) (by omega) ?_
  refine z_bipush dX12_toOf_9 rfl (by decide) ?_
  refine z_rem dX12_toOf_11 (by omega) (by omega) ?_
  refine z_iret dX12_toOf_12 rfl rfl ?_
  exact ⟨rfl, rfl⟩

theorem r_doCross (d : Nat) {E : zE} {m : zM} (hE : shM E) (hm : ptM m) (i j : Int) (h0 : 0 ≤ i) (h1 : i < 12) (h2 : 0 ≤ j) (h3 : j < 12) : zR zX12_doCross (d) [zP aM, zI i, zI j] m E E (fun r m' => r = some (zI (zb (i < j ∧ j < m a_mate i ∧ m a_mate i < m a_mate j))) ∧ m = m') := by
  refine zR_go [zP aM, zI i, zI j] (by decide +kernel) (Nat.le_of_ble_eq_true rfl) rfl rfl ?_
  refine z_iload_n dX12_doCross_0 rfl ?_
  refine z_iload_n dX12_doCross_1 rfl ?_
  refine z_icmp_ge (tgt := 34) dX12_doCross_2 rfl (fun h2 => ?_) (fun h2 => ?_)
  · refine z_iconst dX12_doCross_34 (by decide) ?_
    refine z_zret dX12_doCross_35 rfl (by first | omega | exact zb01 _) rfl ?_
    exact ⟨by rw [zb_f (by omega)], rfl⟩
  · refine z_iload_n dX12_doCross_5 rfl ?_
    refine z_aload_n dX12_doCross_6 rfl ?_
    refine z_gP 16 rfl (r := a_mate) flX12_41 dX12_doCross_7 (sh_M hE) rfl (pt_mate hm) (by decide) ?_
    refine z_iload_n dX12_doCross_10 rfl ?_
    refine z_iald dX12_doCross_11 (sh_mate hE) (by omega) (by omega) ?_
    refine z_icmp_ge (tgt := 34) dX12_doCross_12 rfl (fun h12 => ?_) (fun h12 => ?_)
    · refine z_iconst dX12_doCross_34 (by decide) ?_
      refine z_zret dX12_doCross_35 rfl (by first | omega | exact zb01 _) rfl ?_
      exact ⟨by rw [zb_f (by omega)], rfl⟩
    · refine z_aload_n dX12_doCross_15 rfl ?_
      refine z_gP 16 rfl (r := a_mate) flX12_41 dX12_doCross_16 (sh_M hE) rfl (pt_mate hm) (by decide) ?_
      refine z_iload_n dX12_doCross_19 rfl ?_
      refine z_iald dX12_doCross_20 (sh_mate hE) (by omega) (by omega) ?_
      refine z_aload_n dX12_doCross_21 rfl ?_
      refine z_gP 16 rfl (r := a_mate) flX12_41 dX12_doCross_22 (sh_M hE) rfl (pt_mate hm) (by decide) ?_
      refine z_iload_n dX12_doCross_25 rfl ?_
      refine z_iald dX12_doCross_26 (sh_mate hE) (by omega) (by omega) ?_
      refine z_icmp_le (tgt := 34) dX12_doCross_27 rfl (fun h27 => ?_) (fun h27 => ?_)
      · refine z_iconst dX12_doCross_34 (by decide) ?_
        refine z_zret dX12_doCross_35 rfl (by first | omega | exact zb01 _) rfl ?_
        exact ⟨by rw [zb_f (by omega)], rfl⟩
      · refine z_iconst dX12_doCross_30 (by decide) ?_
        refine z_goto (tgt := 35) dX12_doCross_31 rfl ?_
        refine z_zret dX12_doCross_35 rfl (by first | omega | exact zb01 _) rfl ?_
        exact ⟨by rw [zb_t (by omega)], rfl⟩

theorem r_isRealSort (d : Nat) {E : zE} {m : zM} (hE : shM E) (hm : ptM m) (s : Int) (h0 : 0 ≤ s) (h1 : s < 10) : zR zX12_isRealSort (d + 1) [zP aM, zI s] m E E (fun r m' => r = some (zI (zb (s < 6 ∧ m a_c (4 + 3 * s + 1) ≠ 1))) ∧ m = m') := by
  refine zR_go [zP aM, zI s] (by decide +kernel) (Nat.le_of_ble_eq_true rfl) rfl rfl ?_
  refine z_iload_n dX12_isRealSort_0 rfl ?_
  refine z_bipush dX12_isRealSort_1 rfl (by decide) ?_
  refine z_icmp_ge (tgt := 18) dX12_isRealSort_3 rfl (fun h3 => ?_) (fun h3 => ?_)
  · refine z_iconst dX12_isRealSort_18 (by decide) ?_
    refine z_zret dX12_isRealSort_19 rfl (by first | omega | exact zb01 _) rfl ?_
    exact ⟨by rw [zb_f (by omega)], rfl⟩
  · refine z_aload_n dX12_isRealSort_6 rfl ?_
    refine z_iload_n dX12_isRealSort_7 rfl ?_
    refine z_callV mlX12_148 dX12_isRealSort_8 (sh_M hE) (av := [_]) rfl rfl (Nat.le_of_ble_eq_true rfl) (r_isPair _ hE hm _ (by omega) (by omega)) (Nat.le_refl _) (Nat.le_refl _) (Nat.le_refl _) (Nat.le_refl _) ?_
    rintro _ _ ⟨rfl, rfl⟩
    refine z_ifz_ne (tgt := 18) dX12_isRealSort_11 rfl (fun h11 => ?_) (fun h11 => ?_)
    · refine z_iconst dX12_isRealSort_18 (by decide) ?_
      refine z_zret dX12_isRealSort_19 rfl (by first | omega | exact zb01 _) rfl ?_
      exact ⟨by rw [zb_f (by omega)], rfl⟩
    · refine z_iconst dX12_isRealSort_14 (by decide) ?_
      refine z_goto (tgt := 19) dX12_isRealSort_15 rfl ?_
      refine z_zret dX12_isRealSort_19 rfl (by first | omega | exact zb01 _) rfl ?_
      exact ⟨by rw [zb_t (by omega)], rfl⟩

theorem r_asDiagram (d : Nat) {E : zE} {m : zM} (hE : shM E) (hm : ptM m) (w : Int)  : zR zX12_asDiagram (d) [zI w] m E E (fun r m' => r = some (zI (if w = 0 then 3 else if w = 1 then 5 else if w = 2 then 6 else if w = 3 then 7 else 2)) ∧ m = m') := by
  refine zR_go [zI w] (by decide +kernel) (Nat.le_of_ble_eq_true rfl) rfl rfl ?_
  refine z_iload_n dX12_asDiagram_0 rfl ?_
  refine z_if_ne (tgt := 8) dX12_asDiagram_1 rfl (fun h1 => ?_) (fun h1 => ?_)
  · refine z_iload_n dX12_asDiagram_8 rfl ?_
    refine z_iconst dX12_asDiagram_9 (by decide) ?_
    refine z_icmp_ne (tgt := 17) dX12_asDiagram_10 rfl (fun h10 => ?_) (fun h10 => ?_)
    · refine z_iload_n dX12_asDiagram_17 rfl ?_
      refine z_iconst dX12_asDiagram_18 (by decide) ?_
      refine z_icmp_ne (tgt := 27) dX12_asDiagram_19 rfl (fun h19 => ?_) (fun h19 => ?_)
      · refine z_iload_n dX12_asDiagram_27 rfl ?_
        refine z_iconst dX12_asDiagram_28 (by decide) ?_
        refine z_icmp_ne (tgt := 37) dX12_asDiagram_29 rfl (fun h29 => ?_) (fun h29 => ?_)
        · refine z_iconst dX12_asDiagram_37 (by decide) ?_
          refine z_iret dX12_asDiagram_38 rfl rfl ?_
          refine ⟨?_, rfl⟩
          (repeat (split <;> (try omega))) <;> rfl
        · refine z_bipush dX12_asDiagram_32 rfl (by decide) ?_
          refine z_goto (tgt := 38) dX12_asDiagram_34 rfl ?_
          refine z_iret dX12_asDiagram_38 rfl rfl ?_
          refine ⟨?_, rfl⟩
          (repeat (split <;> (try omega))) <;> rfl
      · refine z_bipush dX12_asDiagram_22 rfl (by decide) ?_
        refine z_goto (tgt := 38) dX12_asDiagram_24 rfl ?_
        refine z_iret dX12_asDiagram_38 rfl rfl ?_
        refine ⟨?_, rfl⟩
        (repeat (split <;> (try omega))) <;> rfl
    · refine z_iconst dX12_asDiagram_13 (by decide) ?_
      refine z_goto (tgt := 38) dX12_asDiagram_14 rfl ?_
      refine z_iret dX12_asDiagram_38 rfl rfl ?_
      refine ⟨?_, rfl⟩
      (repeat (split <;> (try omega))) <;> rfl
  · refine z_iconst dX12_asDiagram_4 (by decide) ?_
    refine z_goto (tgt := 38) dX12_asDiagram_5 rfl ?_
    refine z_iret dX12_asDiagram_38 rfl rfl ?_
    refine ⟨?_, rfl⟩
    (repeat (split <;> (try omega))) <;> rfl

theorem r_refuse (d : Nat) {E : zE} {m : zM} (hE : shM E) (hm : ptM m) (w : Int)  : zR zX12_refuse (d) [zP aM, zI w] m E E (fun r m' => r = some (zI (-1)) ∧ zu m aM f_status w = m') := by
  refine zR_go [zP aM, zI w] (by decide +kernel) (Nat.le_of_ble_eq_true rfl) rfl rfl ?_
  refine z_aload_n dX12_refuse_0 rfl ?_
  refine z_iload_n dX12_refuse_1 rfl ?_
  refine z_pI f_status rfl (fpX12_117 _) dX12_refuse_2 (sh_M hE) rfl ?_
  refine z_iconst dX12_refuse_5 (by decide) ?_
  refine z_iret dX12_refuse_6 rfl rfl ?_
  exact ⟨rfl, rfl⟩

theorem r_is (d : Nat) {E : zE} {m : zM} (hE : shM E) (hm : ptM m) (w : Int)  : zR zX12_is (d) [zP aM, zI w] m E E (fun r m' => r = some (zI (zb (w = 0))) ∧ zu (zu m aM f_thrown 0) aM f_status w = m') := by
  refine zR_go [zP aM, zI w] (by decide +kernel) (Nat.le_of_ble_eq_true rfl) rfl rfl ?_
  refine z_aload_n dX12_is_0 rfl ?_
  refine z_iconst dX12_is_1 (by decide) ?_
  refine z_pI f_thrown rfl (fpX12_114 _) dX12_is_2 (sh_M hE) rfl ?_
  refine z_aload_n dX12_is_5 rfl ?_
  refine z_iload_n dX12_is_6 rfl ?_
  refine z_pI f_status rfl (fpX12_117 _) dX12_is_7 (sh_M hE) rfl ?_
  refine z_iload_n dX12_is_10 rfl ?_
  refine z_if_ne (tgt := 18) dX12_is_11 rfl (fun h11 => ?_) (fun h11 => ?_)
  · refine z_iconst dX12_is_18 (by decide) ?_
    refine z_zret dX12_is_19 rfl (by first | omega | exact zb01 _) rfl ?_
    exact ⟨by rw [zb_f (by omega)], rfl⟩
  · refine z_iconst dX12_is_14 (by decide) ?_
    refine z_goto (tgt := 19) dX12_is_15 rfl ?_
    refine z_zret dX12_is_19 rfl (by first | omega | exact zb01 _) rfl ?_
    exact ⟨by rw [zb_t (by omega)], rfl⟩

theorem r_status (d : Nat) {E : zE} {m : zM} (hE : shM E) (hm : ptM m)   : zR zX12_status (d) [zP aM] m E E (fun r m' => r = some (zI (m aM f_status)) ∧ zu m aM f_thrown 0 = m') := by
  refine zR_go [zP aM] (by decide +kernel) (Nat.le_of_ble_eq_true rfl) rfl rfl ?_
  refine z_aload_n dX12_status_0 rfl ?_
  refine z_iconst dX12_status_1 (by decide) ?_
  refine z_pI f_thrown rfl (fpX12_114 _) dX12_status_2 (sh_M hE) rfl ?_
  refine z_aload_n dX12_status_5 rfl ?_
  refine z_gIv f_status rfl flX12_117 dX12_status_6 (sh_M hE) rfl (zu_j (by decide)) ?_
  refine z_iret dX12_status_9 rfl rfl ?_
  exact ⟨rfl, rfl⟩
