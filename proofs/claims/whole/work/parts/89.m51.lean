theorem x_line (d : Nat) {E : zE} {m : zM} (hE : shM E) (hB : mB m) (hw : m aM f_wrong = 0) (p : Int) (ht : mTk m p) (hwf : wfC (m a_c)) (hne : kSo (mK m) p ≠ 0) : zR zX12_line (d + 5) [zP aM] m E E (fun r m' => r = none ∧ mPr m m' (pLine (mK m) (m a_c) p)) := by
  have hm := hB.1
  have hB0 := hB
  have hw0 := hw
  have ht0 := ht
  have hK0 : mK m = mK m := rfl
  have hn0 : m aM f_end = m aM f_end := rfl
  have hm0 := hm
  have hok := mK_ok hB.2.1
  have z0 : zfr fTh m m := zfr_rf
  refine zR_go [zP aM] (by decide +kernel) (Nat.le_of_ble_eq_true rfl) rfl rfl ?_
  refine z_aload_n dX12_line_0 rfl ?_
  refine z_iconst dX12_line_1 (by decide) ?_
  refine z_callV mlX12_503 dX12_line_2 (sh_M hE) (av := [_]) rfl rfl (Nat.le_of_ble_eq_true rfl) (by have h := x_isWord (d + 4) hE hB0 hw0 p ht0 0 3369766 (by decide) (by decide) hB0.2.2.2.1; rw [hK0] at h; exact h) (Nat.le_refl _) (Nat.le_refl _) (Nat.le_refl _) (Nat.le_refl _) ?_
  rintro _ _ ⟨rfl, rfl⟩
  refine z_ifz_eq (tgt := 15) dX12_line_5 rfl (fun h5 => ?_) (fun h5 => ?_)
  · refine z_aload_n dX12_line_15 rfl ?_
    refine z_iconst dX12_line_16 (by decide) ?_
    refine z_callV mlX12_503 dX12_line_17 (sh_M hE) (av := [_]) rfl rfl (Nat.le_of_ble_eq_true rfl) (by have h := x_isWord (d + 4) hE hB0 hw0 p ht0 4 9744 (by decide) (by decide) hB0.2.2.2.2.2.2.2.1; rw [hK0] at h; exact h) (Nat.le_refl _) (Nat.le_refl _) (Nat.le_refl _) (Nat.le_refl _) ?_
    rintro _ _ ⟨rfl, rfl⟩
    refine z_ifz_eq (tgt := 30) dX12_line_20 rfl (fun h20 => ?_) (fun h20 => ?_)
    · refine z_aload_n dX12_line_30 rfl ?_
      refine z_iconst dX12_line_31 (by decide) ?_
      refine z_callV mlX12_503 dX12_line_32 (sh_M hE) (av := [_]) rfl rfl (Nat.le_of_ble_eq_true rfl) (by have h := x_isWord (d + 4) hE hB0 hw0 p ht0 5 209220123 (by decide) (by decide) hB0.2.2.2.2.2.2.2.2.1; rw [hK0] at h; exact h) (Nat.le_refl _) (Nat.le_refl _) (Nat.le_refl _) (Nat.le_refl _) ?_
      rintro _ _ ⟨rfl, rfl⟩
      refine z_ifz_ne (tgt := 56) dX12_line_35 rfl (fun h35 => ?_) (fun h35 => ?_)
      · refine z_aload_n dX12_line_56 rfl ?_
        refine z_callV mlX12_529 dX12_line_57 (sh_M hE) (av := _) rfl rfl (Nat.le_of_ble_eq_true rfl) (x_readsPoint _ hE hB hw p ht hwf hne) (Nat.le_refl _) (Nat.le_refl _) (Nat.le_refl _) (Nat.le_refl _) ?_
        rintro _ m1 ⟨rfl, g⟩
        obtain ⟨r, er⟩ : ∃ r, r = pPoint (mK m) (m a_c) p := ⟨_, rfl⟩
        rw [← er] at g
        obtain ⟨z1, g1, g2, g3, g4⟩ := g
        have hB1 := mB_fr hB (zfr_sub z1 (by decide))
        have hm1 : ptM m1 := hB1.1
        have hK1 : mK m1 = mK m := mK_fr z1 (by decide)
        have hn1 : m1 aM f_end = m aM f_end := zfr_at z1 (by decide)
        have hnn : 0 ≤ r.1 := er ▸ pPoint_nn _ _ _
        by_cases e0 : r.1 = 0
        · have hw1 : m1 aM f_wrong = 0 := g1.trans e0
          obtain ⟨gc, ht1⟩ := g3 e0
          refine z_goto (tgt := 69) dX12_line_60 rfl ?_
          refine z_aload_n dX12_line_69 rfl ?_
          refine z_aload_n dX12_line_70 rfl ?_
          refine z_bipush dX12_line_71 rfl (by decide) ?_
          refine z_callV mlX12_520 dX12_line_73 (sh_M hE) (av := [_]) rfl rfl (Nat.le_of_ble_eq_true rfl) (by have h := x_isSign (d + 4) hE hB1 hw1 r.2.2.2 ht1 59 (by decide) (by decide); rw [hK1] at h; exact h) (Nat.le_refl _) (Nat.le_refl _) (Nat.le_refl _) (Nat.le_refl _) ?_
          rintro _ _ ⟨rfl, rfl⟩
          by_cases y73 : kSn (mK m) r.2.2.2 59
          · rw [zb_t y73]
            refine z_callV mlX12_506 dX12_line_76 (sh_M hE) (av := [_]) rfl rfl (Nat.le_of_ble_eq_true rfl) (x_takesT _ hE hB1 hw1 r.2.2.2 ht1 (by rw [hn1]; exact kSo_lt hok (by rw [y73.1]; decide))) (Nat.le_refl _) (Nat.le_refl _) (Nat.le_refl _) (Nat.le_refl _) ?_
            rintro _ m2 ⟨rfl, f2, t2⟩
            have hB2 := mB_fr hB1 (zfr_sub f2 (by decide))
            have hK2 : mK m2 = mK m := (mK_fr f2 (by decide)).trans hK1
            have hw2 : m2 aM f_wrong = 0 := (zfr_at f2 (by decide)).trans hw1
            have z2 : zfr fTh m m2 := zfr_tr z1 (zfr_sub f2 (by decide))
            have hn2 : m2 aM f_end = m aM f_end := (zfr_at f2 (by decide)).trans hn1
            have hm2 : ptM m2 := hB2.1
            rw [hK1] at t2
            obtain ⟨p2, e2⟩ : ∃ x, x = kR (mK m) r.2.2.2 := ⟨_, rfl⟩
            rw [← e2] at t2
            have ht2 := t2
            refine z_vret dX12_line_79 rfl rfl ?_
            have eB : pBody (mK m) (m a_c) p = r := by rw [er]; unfold pBody; rw [if_neg h5, if_neg h20, if_pos (Or.inl h35)]
            have eA : pLine (mK m) (m a_c) p = (0, 0, r.2.2.1, kR (mK m) r.2.2.2) := by unfold pLine pEnd; rw [eB, if_neg (not_not_intro e0), if_pos y73]
            rw [eA, ← e2]
            refine ⟨rfl, ?_⟩
            exact ⟨z2, hw2, fun h => absurd rfl h, fun _ => ⟨(zfr_cell f2 (by decide)).trans gc, ht2⟩, fun x hx => (congrFun (zfr_cell f2 (by decide)) x).trans (g4 x hx)⟩
          · rw [zb_f y73]
            refine z_callV mlX12_506 dX12_line_76 (sh_M hE) (av := [_]) rfl rfl (Nat.le_of_ble_eq_true rfl) (by have h := x_takesF (d + 1) hE hB1 hw1 r.2.2.2 ht1; rw [hK1] at h; exact h) (Nat.le_refl _) (Nat.le_refl _) (Nat.le_refl _) (Nat.le_refl _) ?_
            rintro _ m2 ⟨rfl, b2⟩
            have hB2 : mB m2 := b2 ▸ mB_bad hB1
            have hw2 : m2 aM f_wrong = kMis (mK m) r.2.2.2 := b2 ▸ mBad_w
            have ha2 : m2 aM f_wrongAt = r.2.2.2 := b2 ▸ mBad_a
            have z2 : zfr fTh m m2 := b2 ▸ zfr_uj (zfr_uj z1 (by decide)) (by decide)
            have hd2 : 0 < m2 aM f_wrong := by rw [hw2]; first | exact kMis_pos | decide
            have hm2 : ptM m2 := hB2.1
            refine z_vret dX12_line_79 rfl rfl ?_
            have eB : pBody (mK m) (m a_c) p = r := by rw [er]; unfold pBody; rw [if_neg h5, if_neg h20, if_pos (Or.inl h35)]
            have eA : pLine (mK m) (m a_c) p = (kMis (mK m) r.2.2.2, r.2.2.2, r.2.2.1, r.2.2.2) := by unfold pLine pEnd; rw [eB, if_neg (not_not_intro e0), if_neg y73]
            rw [eA]
            refine ⟨rfl, ?_⟩
            exact ⟨z2, hw2, fun _ => ha2, fun h => absurd (show kMis (mK m) r.2.2.2 = 0 from h) kMis_ne, fun x hx => (congrFun (b2 ▸ (zu_fn (by decide)).trans (zu_fn (by decide)) : m2 a_c = m1 a_c) x).trans (g4 x hx)⟩
        · have hw1 : m1 aM f_wrong = r.1 := g1
          have ha1 : m1 aM f_wrongAt = r.2.1 := g2 e0
          have hd1 : 0 < m1 aM f_wrong := by omega
          refine z_goto (tgt := 69) dX12_line_60 rfl ?_
          refine z_aload_n dX12_line_69 rfl ?_
          refine z_aload_n dX12_line_70 rfl ?_
          refine z_bipush dX12_line_71 rfl (by decide) ?_
          refine z_callV mlX12_520 dX12_line_73 (sh_M hE) (av := [_]) rfl rfl (Nat.le_of_ble_eq_true rfl) (w_isSign _ hE hB1 hd1 59) (Nat.le_refl _) (Nat.le_refl _) (Nat.le_refl _) (Nat.le_refl _) ?_
          rintro _ _ ⟨rfl, rfl⟩
          refine z_callV mlX12_506 dX12_line_76 (sh_M hE) (av := [_]) rfl rfl (Nat.le_of_ble_eq_true rfl) (y_takes _ hE hB1 hd1 _) (Nat.le_refl _) (Nat.le_refl _) (Nat.le_refl _) (Nat.le_refl _) ?_
          rintro _ _ ⟨rfl, rfl⟩
          refine z_vret dX12_line_79 rfl rfl ?_
          have eB : pBody (mK m) (m a_c) p = r := by rw [er]; unfold pBody; rw [if_neg h5, if_neg h20, if_pos (Or.inl h35)]
          have eA : pLine (mK m) (m a_c) p = r := by unfold pLine pEnd; rw [eB, if_pos e0]
          rw [eA]
          refine ⟨rfl, ?_⟩
          exact ⟨z1, hw1, fun _ => ha1, fun h => absurd h e0, g4⟩
      · refine z_aload_n dX12_line_38 rfl ?_
        refine z_bipush dX12_line_39 rfl (by decide) ?_
        refine z_callV mlX12_503 dX12_line_41 (sh_M hE) (av := [_]) rfl rfl (Nat.le_of_ble_eq_true rfl) (by have h := x_isWord (d + 4) hE hB0 hw0 p ht0 6 8399691 (by decide) (by decide) hB0.2.2.2.2.2.2.2.2.2.1; rw [hK0] at h; exact h) (Nat.le_refl _) (Nat.le_refl _) (Nat.le_refl _) (Nat.le_refl _) ?_
        rintro _ _ ⟨rfl, rfl⟩
        refine z_ifz_ne (tgt := 56) dX12_line_44 rfl (fun h44 => ?_) (fun h44 => ?_)
        · refine z_aload_n dX12_line_56 rfl ?_
          refine z_callV mlX12_529 dX12_line_57 (sh_M hE) (av := _) rfl rfl (Nat.le_of_ble_eq_true rfl) (x_readsPoint _ hE hB hw p ht hwf hne) (Nat.le_refl _) (Nat.le_refl _) (Nat.le_refl _) (Nat.le_refl _) ?_
          rintro _ m1 ⟨rfl, g⟩
          obtain ⟨r, er⟩ : ∃ r, r = pPoint (mK m) (m a_c) p := ⟨_, rfl⟩
          rw [← er] at g
          obtain ⟨z1, g1, g2, g3, g4⟩ := g
          have hB1 := mB_fr hB (zfr_sub z1 (by decide))
          have hm1 : ptM m1 := hB1.1
          have hK1 : mK m1 = mK m := mK_fr z1 (by decide)
          have hn1 : m1 aM f_end = m aM f_end := zfr_at z1 (by decide)
          have hnn : 0 ≤ r.1 := er ▸ pPoint_nn _ _ _
          by_cases e0 : r.1 = 0
          · have hw1 : m1 aM f_wrong = 0 := g1.trans e0
            obtain ⟨gc, ht1⟩ := g3 e0
            refine z_goto (tgt := 69) dX12_line_60 rfl ?_
            refine z_aload_n dX12_line_69 rfl ?_
            refine z_aload_n dX12_line_70 rfl ?_
            refine z_bipush dX12_line_71 rfl (by decide) ?_
            refine z_callV mlX12_520 dX12_line_73 (sh_M hE) (av := [_]) rfl rfl (Nat.le_of_ble_eq_true rfl) (by have h := x_isSign (d + 4) hE hB1 hw1 r.2.2.2 ht1 59 (by decide) (by decide); rw [hK1] at h; exact h) (Nat.le_refl _) (Nat.le_refl _) (Nat.le_refl _) (Nat.le_refl _) ?_
            rintro _ _ ⟨rfl, rfl⟩
            by_cases y73 : kSn (mK m) r.2.2.2 59
            · rw [zb_t y73]
              refine z_callV mlX12_506 dX12_line_76 (sh_M hE) (av := [_]) rfl rfl (Nat.le_of_ble_eq_true rfl) (x_takesT _ hE hB1 hw1 r.2.2.2 ht1 (by rw [hn1]; exact kSo_lt hok (by rw [y73.1]; decide))) (Nat.le_refl _) (Nat.le_refl _) (Nat.le_refl _) (Nat.le_refl _) ?_
              rintro _ m2 ⟨rfl, f2, t2⟩
              have hB2 := mB_fr hB1 (zfr_sub f2 (by decide))
              have hK2 : mK m2 = mK m := (mK_fr f2 (by decide)).trans hK1
              have hw2 : m2 aM f_wrong = 0 := (zfr_at f2 (by decide)).trans hw1
              have z2 : zfr fTh m m2 := zfr_tr z1 (zfr_sub f2 (by decide))
              have hn2 : m2 aM f_end = m aM f_end := (zfr_at f2 (by decide)).trans hn1
              have hm2 : ptM m2 := hB2.1
              rw [hK1] at t2
              obtain ⟨p2, e2⟩ : ∃ x, x = kR (mK m) r.2.2.2 := ⟨_, rfl⟩
              rw [← e2] at t2
              have ht2 := t2
              refine z_vret dX12_line_79 rfl rfl ?_
              have eB : pBody (mK m) (m a_c) p = r := by rw [er]; unfold pBody; rw [if_neg h5, if_neg h20, if_pos (Or.inr (Or.inl h44))]
              have eA : pLine (mK m) (m a_c) p = (0, 0, r.2.2.1, kR (mK m) r.2.2.2) := by unfold pLine pEnd; rw [eB, if_neg (not_not_intro e0), if_pos y73]
              rw [eA, ← e2]
              refine ⟨rfl, ?_⟩
              exact ⟨z2, hw2, fun h => absurd rfl h, fun _ => ⟨(zfr_cell f2 (by decide)).trans gc, ht2⟩, fun x hx => (congrFun (zfr_cell f2 (by decide)) x).trans (g4 x hx)⟩
            · rw [zb_f y73]
              refine z_callV mlX12_506 dX12_line_76 (sh_M hE) (av := [_]) rfl rfl (Nat.le_of_ble_eq_true rfl) (by have h := x_takesF (d + 1) hE hB1 hw1 r.2.2.2 ht1; rw [hK1] at h; exact h) (Nat.le_refl _) (Nat.le_refl _) (Nat.le_refl _) (Nat.le_refl _) ?_
              rintro _ m2 ⟨rfl, b2⟩
              have hB2 : mB m2 := b2 ▸ mB_bad hB1
              have hw2 : m2 aM f_wrong = kMis (mK m) r.2.2.2 := b2 ▸ mBad_w
              have ha2 : m2 aM f_wrongAt = r.2.2.2 := b2 ▸ mBad_a
              have z2 : zfr fTh m m2 := b2 ▸ zfr_uj (zfr_uj z1 (by decide)) (by decide)
              have hd2 : 0 < m2 aM f_wrong := by rw [hw2]; first | exact kMis_pos | decide
              have hm2 : ptM m2 := hB2.1
              refine z_vret dX12_line_79 rfl rfl ?_
              have eB : pBody (mK m) (m a_c) p = r := by rw [er]; unfold pBody; rw [if_neg h5, if_neg h20, if_pos (Or.inr (Or.inl h44))]
              have eA : pLine (mK m) (m a_c) p = (kMis (mK m) r.2.2.2, r.2.2.2, r.2.2.1, r.2.2.2) := by unfold pLine pEnd; rw [eB, if_neg (not_not_intro e0), if_neg y73]
              rw [eA]
              refine ⟨rfl, ?_⟩
              exact ⟨z2, hw2, fun _ => ha2, fun h => absurd (show kMis (mK m) r.2.2.2 = 0 from h) kMis_ne, fun x hx => (congrFun (b2 ▸ (zu_fn (by decide)).trans (zu_fn (by decide)) : m2 a_c = m1 a_c) x).trans (g4 x hx)⟩
          · have hw1 : m1 aM f_wrong = r.1 := g1
            have ha1 : m1 aM f_wrongAt = r.2.1 := g2 e0
            have hd1 : 0 < m1 aM f_wrong := by omega
            refine z_goto (tgt := 69) dX12_line_60 rfl ?_
            refine z_aload_n dX12_line_69 rfl ?_
            refine z_aload_n dX12_line_70 rfl ?_
            refine z_bipush dX12_line_71 rfl (by decide) ?_
            refine z_callV mlX12_520 dX12_line_73 (sh_M hE) (av := [_]) rfl rfl (Nat.le_of_ble_eq_true rfl) (w_isSign _ hE hB1 hd1 59) (Nat.le_refl _) (Nat.le_refl _) (Nat.le_refl _) (Nat.le_refl _) ?_
            rintro _ _ ⟨rfl, rfl⟩
            refine z_callV mlX12_506 dX12_line_76 (sh_M hE) (av := [_]) rfl rfl (Nat.le_of_ble_eq_true rfl) (y_takes _ hE hB1 hd1 _) (Nat.le_refl _) (Nat.le_refl _) (Nat.le_refl _) (Nat.le_refl _) ?_
            rintro _ _ ⟨rfl, rfl⟩
            refine z_vret dX12_line_79 rfl rfl ?_
            have eB : pBody (mK m) (m a_c) p = r := by rw [er]; unfold pBody; rw [if_neg h5, if_neg h20, if_pos (Or.inr (Or.inl h44))]
            have eA : pLine (mK m) (m a_c) p = r := by unfold pLine pEnd; rw [eB, if_pos e0]
            rw [eA]
            refine ⟨rfl, ?_⟩
            exact ⟨z1, hw1, fun _ => ha1, fun h => absurd h e0, g4⟩
        · refine z_aload_n dX12_line_47 rfl ?_
          refine z_bipush dX12_line_48 rfl (by decide) ?_
          refine z_callV mlX12_503 dX12_line_50 (sh_M hE) (av := [_]) rfl rfl (Nat.le_of_ble_eq_true rfl) (by have h := x_isWord (d + 4) hE hB0 hw0 p ht0 7 318702192 (by decide) (by decide) hB0.2.2.2.2.2.2.2.2.2.2; rw [hK0] at h; exact h) (Nat.le_refl _) (Nat.le_refl _) (Nat.le_refl _) (Nat.le_refl _) ?_
          rintro _ _ ⟨rfl, rfl⟩
          refine z_ifz_eq (tgt := 63) dX12_line_53 rfl (fun h53 => ?_) (fun h53 => ?_)
          · refine z_aload_n dX12_line_63 rfl ?_
            refine z_iconst dX12_line_64 (by decide) ?_
            refine z_iconst dX12_line_65 (by decide) ?_
            refine z_callV mlX12_493 dX12_line_66 (sh_M hE) (av := [_, _]) rfl rfl (Nat.le_of_ble_eq_true rfl) (by have h := x_must2 (d + 4) hE hB0 hw0 p ht0; rw [hK0] at h; exact h) (Nat.le_refl _) (Nat.le_refl _) (Nat.le_refl _) (Nat.le_refl _) ?_
            rintro _ m1 ⟨rfl, b1⟩
            have hB1 : mB m1 := b1 ▸ mB_bad hB0
            have hw1 : m1 aM f_wrong = kMis (mK m) p := b1 ▸ mBad_w
            have ha1 : m1 aM f_wrongAt = p := b1 ▸ mBad_a
            have z1 : zfr fTh m m1 := b1 ▸ zfr_uj (zfr_uj z0 (by decide)) (by decide)
            have hd1 : 0 < m1 aM f_wrong := by rw [hw1]; first | exact kMis_pos | decide
            have hm1 : ptM m1 := hB1.1
            refine z_aload_n dX12_line_69 rfl ?_
            refine z_aload_n dX12_line_70 rfl ?_
            refine z_bipush dX12_line_71 rfl (by decide) ?_
            refine z_callV mlX12_520 dX12_line_73 (sh_M hE) (av := [_]) rfl rfl (Nat.le_of_ble_eq_true rfl) (w_isSign _ hE hB1 hd1 59) (Nat.le_refl _) (Nat.le_refl _) (Nat.le_refl _) (Nat.le_refl _) ?_
            rintro _ _ ⟨rfl, rfl⟩
            refine z_callV mlX12_506 dX12_line_76 (sh_M hE) (av := [_]) rfl rfl (Nat.le_of_ble_eq_true rfl) (y_takes _ hE hB1 hd1 _) (Nat.le_refl _) (Nat.le_refl _) (Nat.le_refl _) (Nat.le_refl _) ?_
            rintro _ _ ⟨rfl, rfl⟩
            refine z_vret dX12_line_79 rfl rfl ?_
            have eB : pBody (mK m) (m a_c) p = (kMis (mK m) p, p, m a_c, p) := by unfold pBody; rw [if_neg h5, if_neg h20, if_neg (by rintro (h | h | h); exact h35 h; exact h44 h; exact h53 h)]
            have eA : pLine (mK m) (m a_c) p = (kMis (mK m) p, p, m a_c, p) := by unfold pLine pEnd; rw [eB, if_pos kMis_ne]
            rw [eA]
            refine ⟨rfl, ?_⟩
            exact ⟨z1, hw1, fun _ => ha1, fun h => absurd (show kMis (mK m) p = 0 from h) kMis_ne, fun x hx => congrFun (b1 ▸ (zu_fn (by decide)).trans (zu_fn (by decide)) : m1 a_c = m a_c) x⟩
          · refine z_aload_n dX12_line_56 rfl ?_
            refine z_callV mlX12_529 dX12_line_57 (sh_M hE) (av := _) rfl rfl (Nat.le_of_ble_eq_true rfl) (x_readsPoint _ hE hB hw p ht hwf hne) (Nat.le_refl _) (Nat.le_refl _) (Nat.le_refl _) (Nat.le_refl _) ?_
            rintro _ m1 ⟨rfl, g⟩
            obtain ⟨r, er⟩ : ∃ r, r = pPoint (mK m) (m a_c) p := ⟨_, rfl⟩
            rw [← er] at g
            obtain ⟨z1, g1, g2, g3, g4⟩ := g
            have hB1 := mB_fr hB (zfr_sub z1 (by decide))
            have hm1 : ptM m1 := hB1.1
            have hK1 : mK m1 = mK m := mK_fr z1 (by decide)
            have hn1 : m1 aM f_end = m aM f_end := zfr_at z1 (by decide)
            have hnn : 0 ≤ r.1 := er ▸ pPoint_nn _ _ _
            by_cases e0 : r.1 = 0
            · have hw1 : m1 aM f_wrong = 0 := g1.trans e0
              obtain ⟨gc, ht1⟩ := g3 e0
              refine z_goto (tgt := 69) dX12_line_60 rfl ?_
              refine z_aload_n dX12_line_69 rfl ?_
              refine z_aload_n dX12_line_70 rfl ?_
              refine z_bipush dX12_line_71 rfl (by decide) ?_
              refine z_callV mlX12_520 dX12_line_73 (sh_M hE) (av := [_]) rfl rfl (Nat.le_of_ble_eq_true rfl) (by have h := x_isSign (d + 4) hE hB1 hw1 r.2.2.2 ht1 59 (by decide) (by decide); rw [hK1] at h; exact h) (Nat.le_refl _) (Nat.le_refl _) (Nat.le_refl _) (Nat.le_refl _) ?_
              rintro _ _ ⟨rfl, rfl⟩
              by_cases y73 : kSn (mK m) r.2.2.2 59
              · rw [zb_t y73]
                refine z_callV mlX12_506 dX12_line_76 (sh_M hE) (av := [_]) rfl rfl (Nat.le_of_ble_eq_true rfl) (x_takesT _ hE hB1 hw1 r.2.2.2 ht1 (by rw [hn1]; exact kSo_lt hok (by rw [y73.1]; decide))) (Nat.le_refl _) (Nat.le_refl _) (Nat.le_refl _) (Nat.le_refl _) ?_
                rintro _ m2 ⟨rfl, f2, t2⟩
                have hB2 := mB_fr hB1 (zfr_sub f2 (by decide))
                have hK2 : mK m2 = mK m := (mK_fr f2 (by decide)).trans hK1
                have hw2 : m2 aM f_wrong = 0 := (zfr_at f2 (by decide)).trans hw1
                have z2 : zfr fTh m m2 := zfr_tr z1 (zfr_sub f2 (by decide))
                have hn2 : m2 aM f_end = m aM f_end := (zfr_at f2 (by decide)).trans hn1
                have hm2 : ptM m2 := hB2.1
                rw [hK1] at t2
                obtain ⟨p2, e2⟩ : ∃ x, x = kR (mK m) r.2.2.2 := ⟨_, rfl⟩
                rw [← e2] at t2
                have ht2 := t2
                refine z_vret dX12_line_79 rfl rfl ?_
                have eB : pBody (mK m) (m a_c) p = r := by rw [er]; unfold pBody; rw [if_neg h5, if_neg h20, if_pos (Or.inr (Or.inr h53))]
                have eA : pLine (mK m) (m a_c) p = (0, 0, r.2.2.1, kR (mK m) r.2.2.2) := by unfold pLine pEnd; rw [eB, if_neg (not_not_intro e0), if_pos y73]
                rw [eA, ← e2]
                refine ⟨rfl, ?_⟩
                exact ⟨z2, hw2, fun h => absurd rfl h, fun _ => ⟨(zfr_cell f2 (by decide)).trans gc, ht2⟩, fun x hx => (congrFun (zfr_cell f2 (by decide)) x).trans (g4 x hx)⟩
              · rw [zb_f y73]
                refine z_callV mlX12_506 dX12_line_76 (sh_M hE) (av := [_]) rfl rfl (Nat.le_of_ble_eq_true rfl) (by have h := x_takesF (d + 1) hE hB1 hw1 r.2.2.2 ht1; rw [hK1] at h; exact h) (Nat.le_refl _) (Nat.le_refl _) (Nat.le_refl _) (Nat.le_refl _) ?_
                rintro _ m2 ⟨rfl, b2⟩
                have hB2 : mB m2 := b2 ▸ mB_bad hB1
                have hw2 : m2 aM f_wrong = kMis (mK m) r.2.2.2 := b2 ▸ mBad_w
                have ha2 : m2 aM f_wrongAt = r.2.2.2 := b2 ▸ mBad_a
                have z2 : zfr fTh m m2 := b2 ▸ zfr_uj (zfr_uj z1 (by decide)) (by decide)
                have hd2 : 0 < m2 aM f_wrong := by rw [hw2]; first | exact kMis_pos | decide
                have hm2 : ptM m2 := hB2.1
                refine z_vret dX12_line_79 rfl rfl ?_
                have eB : pBody (mK m) (m a_c) p = r := by rw [er]; unfold pBody; rw [if_neg h5, if_neg h20, if_pos (Or.inr (Or.inr h53))]
                have eA : pLine (mK m) (m a_c) p = (kMis (mK m) r.2.2.2, r.2.2.2, r.2.2.1, r.2.2.2) := by unfold pLine pEnd; rw [eB, if_neg (not_not_intro e0), if_neg y73]
                rw [eA]
                refine ⟨rfl, ?_⟩
                exact ⟨z2, hw2, fun _ => ha2, fun h => absurd (show kMis (mK m) r.2.2.2 = 0 from h) kMis_ne, fun x hx => (congrFun (b2 ▸ (zu_fn (by decide)).trans (zu_fn (by decide)) : m2 a_c = m1 a_c) x).trans (g4 x hx)⟩
            · have hw1 : m1 aM f_wrong = r.1 := g1
              have ha1 : m1 aM f_wrongAt = r.2.1 := g2 e0
              have hd1 : 0 < m1 aM f_wrong := by omega
              refine z_goto (tgt := 69) dX12_line_60 rfl ?_
              refine z_aload_n dX12_line_69 rfl ?_
              refine z_aload_n dX12_line_70 rfl ?_
              refine z_bipush dX12_line_71 rfl (by decide) ?_
              refine z_callV mlX12_520 dX12_line_73 (sh_M hE) (av := [_]) rfl rfl (Nat.le_of_ble_eq_true rfl) (w_isSign _ hE hB1 hd1 59) (Nat.le_refl _) (Nat.le_refl _) (Nat.le_refl _) (Nat.le_refl _) ?_
              rintro _ _ ⟨rfl, rfl⟩
              refine z_callV mlX12_506 dX12_line_76 (sh_M hE) (av := [_]) rfl rfl (Nat.le_of_ble_eq_true rfl) (y_takes _ hE hB1 hd1 _) (Nat.le_refl _) (Nat.le_refl _) (Nat.le_refl _) (Nat.le_refl _) ?_
              rintro _ _ ⟨rfl, rfl⟩
              refine z_vret dX12_line_79 rfl rfl ?_
              have eB : pBody (mK m) (m a_c) p = r := by rw [er]; unfold pBody; rw [if_neg h5, if_neg h20, if_pos (Or.inr (Or.inr h53))]
              have eA : pLine (mK m) (m a_c) p = r := by unfold pLine pEnd; rw [eB, if_pos e0]
              rw [eA]
              refine ⟨rfl, ?_⟩
              exact ⟨z1, hw1, fun _ => ha1, fun h => absurd h e0, g4⟩
    · refine z_aload_n dX12_line_23 rfl ?_
      refine z_callV mlX12_526 dX12_line_24 (sh_M hE) (av := _) rfl rfl (Nat.le_of_ble_eq_true rfl) (x_readsMix _ hE hB hw p ht hwf hne) (Nat.le_refl _) (Nat.le_refl _) (Nat.le_refl _) (Nat.le_refl _) ?_
      rintro _ m1 ⟨rfl, g⟩
      obtain ⟨r, er⟩ : ∃ r, r = pMix (mK m) (m a_c) p := ⟨_, rfl⟩
      rw [← er] at g
      obtain ⟨z1, g1, g2, g3, g4⟩ := g
      have hB1 := mB_fr hB (zfr_sub z1 (by decide))
      have hm1 : ptM m1 := hB1.1
      have hK1 : mK m1 = mK m := mK_fr z1 (by decide)
      have hn1 : m1 aM f_end = m aM f_end := zfr_at z1 (by decide)
      have hnn : 0 ≤ r.1 := er ▸ pMix_nn _ _ _
      by_cases e0 : r.1 = 0
      · have hw1 : m1 aM f_wrong = 0 := g1.trans e0
        obtain ⟨gc, ht1⟩ := g3 e0
        refine z_goto (tgt := 69) dX12_line_27 rfl ?_
        refine z_aload_n dX12_line_69 rfl ?_
        refine z_aload_n dX12_line_70 rfl ?_
        refine z_bipush dX12_line_71 rfl (by decide) ?_
        refine z_callV mlX12_520 dX12_line_73 (sh_M hE) (av := [_]) rfl rfl (Nat.le_of_ble_eq_true rfl) (by have h := x_isSign (d + 4) hE hB1 hw1 r.2.2.2 ht1 59 (by decide) (by decide); rw [hK1] at h; exact h) (Nat.le_refl _) (Nat.le_refl _) (Nat.le_refl _) (Nat.le_refl _) ?_
        rintro _ _ ⟨rfl, rfl⟩
        by_cases y73 : kSn (mK m) r.2.2.2 59
        · rw [zb_t y73]
          refine z_callV mlX12_506 dX12_line_76 (sh_M hE) (av := [_]) rfl rfl (Nat.le_of_ble_eq_true rfl) (x_takesT _ hE hB1 hw1 r.2.2.2 ht1 (by rw [hn1]; exact kSo_lt hok (by rw [y73.1]; decide))) (Nat.le_refl _) (Nat.le_refl _) (Nat.le_refl _) (Nat.le_refl _) ?_
          rintro _ m2 ⟨rfl, f2, t2⟩
          have hB2 := mB_fr hB1 (zfr_sub f2 (by decide))
          have hK2 : mK m2 = mK m := (mK_fr f2 (by decide)).trans hK1
          have hw2 : m2 aM f_wrong = 0 := (zfr_at f2 (by decide)).trans hw1
          have z2 : zfr fTh m m2 := zfr_tr z1 (zfr_sub f2 (by decide))
          have hn2 : m2 aM f_end = m aM f_end := (zfr_at f2 (by decide)).trans hn1
          have hm2 : ptM m2 := hB2.1
          rw [hK1] at t2
          obtain ⟨p2, e2⟩ : ∃ x, x = kR (mK m) r.2.2.2 := ⟨_, rfl⟩
          rw [← e2] at t2
          have ht2 := t2
          refine z_vret dX12_line_79 rfl rfl ?_
          have eB : pBody (mK m) (m a_c) p = r := by rw [er]; unfold pBody; rw [if_neg h5, if_pos h20]
          have eA : pLine (mK m) (m a_c) p = (0, 0, r.2.2.1, kR (mK m) r.2.2.2) := by unfold pLine pEnd; rw [eB, if_neg (not_not_intro e0), if_pos y73]
          rw [eA, ← e2]
          refine ⟨rfl, ?_⟩
          exact ⟨z2, hw2, fun h => absurd rfl h, fun _ => ⟨(zfr_cell f2 (by decide)).trans gc, ht2⟩, fun x hx => (congrFun (zfr_cell f2 (by decide)) x).trans (g4 x hx)⟩
        · rw [zb_f y73]
          refine z_callV mlX12_506 dX12_line_76 (sh_M hE) (av := [_]) rfl rfl (Nat.le_of_ble_eq_true rfl) (by have h := x_takesF (d + 1) hE hB1 hw1 r.2.2.2 ht1; rw [hK1] at h; exact h) (Nat.le_refl _) (Nat.le_refl _) (Nat.le_refl _) (Nat.le_refl _) ?_
          rintro _ m2 ⟨rfl, b2⟩
          have hB2 : mB m2 := b2 ▸ mB_bad hB1
          have hw2 : m2 aM f_wrong = kMis (mK m) r.2.2.2 := b2 ▸ mBad_w
          have ha2 : m2 aM f_wrongAt = r.2.2.2 := b2 ▸ mBad_a
          have z2 : zfr fTh m m2 := b2 ▸ zfr_uj (zfr_uj z1 (by decide)) (by decide)
          have hd2 : 0 < m2 aM f_wrong := by rw [hw2]; first | exact kMis_pos | decide
          have hm2 : ptM m2 := hB2.1
          refine z_vret dX12_line_79 rfl rfl ?_
          have eB : pBody (mK m) (m a_c) p = r := by rw [er]; unfold pBody; rw [if_neg h5, if_pos h20]
          have eA : pLine (mK m) (m a_c) p = (kMis (mK m) r.2.2.2, r.2.2.2, r.2.2.1, r.2.2.2) := by unfold pLine pEnd; rw [eB, if_neg (not_not_intro e0), if_neg y73]
          rw [eA]
          refine ⟨rfl, ?_⟩
          exact ⟨z2, hw2, fun _ => ha2, fun h => absurd (show kMis (mK m) r.2.2.2 = 0 from h) kMis_ne, fun x hx => (congrFun (b2 ▸ (zu_fn (by decide)).trans (zu_fn (by decide)) : m2 a_c = m1 a_c) x).trans (g4 x hx)⟩
      · have hw1 : m1 aM f_wrong = r.1 := g1
        have ha1 : m1 aM f_wrongAt = r.2.1 := g2 e0
        have hd1 : 0 < m1 aM f_wrong := by omega
        refine z_goto (tgt := 69) dX12_line_27 rfl ?_
        refine z_aload_n dX12_line_69 rfl ?_
        refine z_aload_n dX12_line_70 rfl ?_
        refine z_bipush dX12_line_71 rfl (by decide) ?_
        refine z_callV mlX12_520 dX12_line_73 (sh_M hE) (av := [_]) rfl rfl (Nat.le_of_ble_eq_true rfl) (w_isSign _ hE hB1 hd1 59) (Nat.le_refl _) (Nat.le_refl _) (Nat.le_refl _) (Nat.le_refl _) ?_
        rintro _ _ ⟨rfl, rfl⟩
        refine z_callV mlX12_506 dX12_line_76 (sh_M hE) (av := [_]) rfl rfl (Nat.le_of_ble_eq_true rfl) (y_takes _ hE hB1 hd1 _) (Nat.le_refl _) (Nat.le_refl _) (Nat.le_refl _) (Nat.le_refl _) ?_
        rintro _ _ ⟨rfl, rfl⟩
        refine z_vret dX12_line_79 rfl rfl ?_
        have eB : pBody (mK m) (m a_c) p = r := by rw [er]; unfold pBody; rw [if_neg h5, if_pos h20]
        have eA : pLine (mK m) (m a_c) p = r := by unfold pLine pEnd; rw [eB, if_pos e0]
        rw [eA]
        refine ⟨rfl, ?_⟩
        exact ⟨z1, hw1, fun _ => ha1, fun h => absurd h e0, g4⟩
  · refine z_aload_n dX12_line_8 rfl ?_
    refine z_callV mlX12_523 dX12_line_9 (sh_M hE) (av := _) rfl rfl (Nat.le_of_ble_eq_true rfl) (x_readsField _ hE hB hw p ht hwf.1 hne) (Nat.le_refl _) (Nat.le_refl _) (Nat.le_refl _) (Nat.le_refl _) ?_
    rintro _ m1 ⟨rfl, g⟩
    obtain ⟨r, er⟩ : ∃ r, r = pField (mK m) (m a_c) p := ⟨_, rfl⟩
    rw [← er] at g
    obtain ⟨z1, g1, g2, g3, g4⟩ := g
    have hB1 := mB_fr hB (zfr_sub z1 (by decide))
    have hm1 : ptM m1 := hB1.1
    have hK1 : mK m1 = mK m := mK_fr z1 (by decide)
    have hn1 : m1 aM f_end = m aM f_end := zfr_at z1 (by decide)
    have hnn : 0 ≤ r.1 := er ▸ pField_nn _ _ _
    by_cases e0 : r.1 = 0
    · have hw1 : m1 aM f_wrong = 0 := g1.trans e0
      obtain ⟨gc, ht1⟩ := g3 e0
      refine z_goto (tgt := 69) dX12_line_12 rfl ?_
      refine z_aload_n dX12_line_69 rfl ?_
      refine z_aload_n dX12_line_70 rfl ?_
      refine z_bipush dX12_line_71 rfl (by decide) ?_
      refine z_callV mlX12_520 dX12_line_73 (sh_M hE) (av := [_]) rfl rfl (Nat.le_of_ble_eq_true rfl) (by have h := x_isSign (d + 4) hE hB1 hw1 r.2.2.2 ht1 59 (by decide) (by decide); rw [hK1] at h; exact h) (Nat.le_refl _) (Nat.le_refl _) (Nat.le_refl _) (Nat.le_refl _) ?_
      rintro _ _ ⟨rfl, rfl⟩
      by_cases y73 : kSn (mK m) r.2.2.2 59
      · rw [zb_t y73]
        refine z_callV mlX12_506 dX12_line_76 (sh_M hE) (av := [_]) rfl rfl (Nat.le_of_ble_eq_true rfl) (x_takesT _ hE hB1 hw1 r.2.2.2 ht1 (by rw [hn1]; exact kSo_lt hok (by rw [y73.1]; decide))) (Nat.le_refl _) (Nat.le_refl _) (Nat.le_refl _) (Nat.le_refl _) ?_
        rintro _ m2 ⟨rfl, f2, t2⟩
        have hB2 := mB_fr hB1 (zfr_sub f2 (by decide))
        have hK2 : mK m2 = mK m := (mK_fr f2 (by decide)).trans hK1
        have hw2 : m2 aM f_wrong = 0 := (zfr_at f2 (by decide)).trans hw1
        have z2 : zfr fTh m m2 := zfr_tr z1 (zfr_sub f2 (by decide))
        have hn2 : m2 aM f_end = m aM f_end := (zfr_at f2 (by decide)).trans hn1
        have hm2 : ptM m2 := hB2.1
        rw [hK1] at t2
        obtain ⟨p2, e2⟩ : ∃ x, x = kR (mK m) r.2.2.2 := ⟨_, rfl⟩
        rw [← e2] at t2
        have ht2 := t2
        refine z_vret dX12_line_79 rfl rfl ?_
        have eB : pBody (mK m) (m a_c) p = r := by rw [er]; unfold pBody; rw [if_pos h5]
        have eA : pLine (mK m) (m a_c) p = (0, 0, r.2.2.1, kR (mK m) r.2.2.2) := by unfold pLine pEnd; rw [eB, if_neg (not_not_intro e0), if_pos y73]
        rw [eA, ← e2]
        refine ⟨rfl, ?_⟩
        exact ⟨z2, hw2, fun h => absurd rfl h, fun _ => ⟨(zfr_cell f2 (by decide)).trans gc, ht2⟩, fun x hx => (congrFun (zfr_cell f2 (by decide)) x).trans (g4 x hx)⟩
      · rw [zb_f y73]
        refine z_callV mlX12_506 dX12_line_76 (sh_M hE) (av := [_]) rfl rfl (Nat.le_of_ble_eq_true rfl) (by have h := x_takesF (d + 1) hE hB1 hw1 r.2.2.2 ht1; rw [hK1] at h; exact h) (Nat.le_refl _) (Nat.le_refl _) (Nat.le_refl _) (Nat.le_refl _) ?_
        rintro _ m2 ⟨rfl, b2⟩
        have hB2 : mB m2 := b2 ▸ mB_bad hB1
        have hw2 : m2 aM f_wrong = kMis (mK m) r.2.2.2 := b2 ▸ mBad_w
        have ha2 : m2 aM f_wrongAt = r.2.2.2 := b2 ▸ mBad_a
        have z2 : zfr fTh m m2 := b2 ▸ zfr_uj (zfr_uj z1 (by decide)) (by decide)
        have hd2 : 0 < m2 aM f_wrong := by rw [hw2]; first | exact kMis_pos | decide
        have hm2 : ptM m2 := hB2.1
        refine z_vret dX12_line_79 rfl rfl ?_
        have eB : pBody (mK m) (m a_c) p = r := by rw [er]; unfold pBody; rw [if_pos h5]
        have eA : pLine (mK m) (m a_c) p = (kMis (mK m) r.2.2.2, r.2.2.2, r.2.2.1, r.2.2.2) := by unfold pLine pEnd; rw [eB, if_neg (not_not_intro e0), if_neg y73]
        rw [eA]
        refine ⟨rfl, ?_⟩
        exact ⟨z2, hw2, fun _ => ha2, fun h => absurd (show kMis (mK m) r.2.2.2 = 0 from h) kMis_ne, fun x hx => (congrFun (b2 ▸ (zu_fn (by decide)).trans (zu_fn (by decide)) : m2 a_c = m1 a_c) x).trans (g4 x hx)⟩
    · have hw1 : m1 aM f_wrong = r.1 := g1
      have ha1 : m1 aM f_wrongAt = r.2.1 := g2 e0
      have hd1 : 0 < m1 aM f_wrong := by omega
      refine z_goto (tgt := 69) dX12_line_12 rfl ?_
      refine z_aload_n dX12_line_69 rfl ?_
      refine z_aload_n dX12_line_70 rfl ?_
      refine z_bipush dX12_line_71 rfl (by decide) ?_
      refine z_callV mlX12_520 dX12_line_73 (sh_M hE) (av := [_]) rfl rfl (Nat.le_of_ble_eq_true rfl) (w_isSign _ hE hB1 hd1 59) (Nat.le_refl _) (Nat.le_refl _) (Nat.le_refl _) (Nat.le_refl _) ?_
      rintro _ _ ⟨rfl, rfl⟩
      refine z_callV mlX12_506 dX12_line_76 (sh_M hE) (av := [_]) rfl rfl (Nat.le_of_ble_eq_true rfl) (y_takes _ hE hB1 hd1 _) (Nat.le_refl _) (Nat.le_refl _) (Nat.le_refl _) (Nat.le_refl _) ?_
      rintro _ _ ⟨rfl, rfl⟩
      refine z_vret dX12_line_79 rfl rfl ?_
      have eB : pBody (mK m) (m a_c) p = r := by rw [er]; unfold pBody; rw [if_pos h5]
      have eA : pLine (mK m) (m a_c) p = r := by unfold pLine pEnd; rw [eB, if_pos e0]
      rw [eA]
      refine ⟨rfl, ?_⟩
      exact ⟨z1, hw1, fun _ => ha1, fun h => absurd h e0, g4⟩
