theorem ed_fl {T1 : zT} (h : tI T1.1) (hf : isFlat T1.1 T1.2.1 T1.2.2.1 T1.2.2.2) : wfD T1.1 ∧ cMz T1.1 ∧ T1.2.2.2 ≤ 12 := ⟨wfD_of h.1.1, h.2.1, by rw [hf.1]; exact h.1.2.1⟩
theorem sw_0 {T : zT} {i : Int} (h : sSwap T i = 0) : ((0 ≤ i ∧ i ≤ T.2.2.2 - 1) ∧ (0 ≤ i + 1 ∧ i + 1 ≤ T.2.2.2 - 1)) ∧ T.2.2.1 i = T.2.2.1 (i + 1) ∧ T.2.1 i ≠ T.2.1 (i + 1) := by
  unfold sSwap at h
  split at h
  · omega
  · split at h
    · omega
    · split at h
      · omega
      · rename_i a b c
        exact ⟨by omega, by omega, c⟩
theorem bA_ed {m m1 : zM} {t s : Int} (h : bA m t s) (f : zfr (fE t) m m1) (p1 : ptT m1 t) : bA m1 t s := by
  obtain ⟨⟨h0, h1, h2, h3, h4, h5, h6, h7, h8, h9, h10⟩, k1, k4, kp, kt, ks, hts, htl⟩ := h
  have g : ∀ x k : Int, x < 39 → m1 x k = m x k := fun x k q => fE_at f (by omega)
  exact ⟨⟨(g 0 0 (by omega)).trans h0, (g 0 1 (by omega)).trans h1, (g 0 2 (by omega)).trans h2, (g 0 3 (by omega)).trans h3, (g 0 4 (by omega)).trans h4, (g 0 5 (by omega)).trans h5, (g 0 6 (by omega)).trans h6, (g 0 7 (by omega)).trans h7, (g 0 8 (by omega)).trans h8, (g 0 9 (by omega)).trans h9, (g 0 10 (by omega)).trans h10⟩, (g 1 0 (by omega)).trans k1, (g 4 0 (by omega)).trans k4, (g 37 0 (by omega)).trans kp, p1, ptT_in ks (fun a j q0 q1 => fE_at f (by omega)), hts, by rw [g 1 1 (by omega)]; exact htl⟩
abbrev fgA (m : zM) : zM := zu (zu (zu (zu m 6 2 0) 8 5 0) 8 6 0) 14 19 0
theorem fgA_o {m : zM} {x k : Int} (h1 : ¬ (x = 6 ∧ k = 2)) (h2 : ¬ (x = 8 ∧ k = 5)) (h3 : ¬ (x = 8 ∧ k = 6)) (h4 : ¬ (x = 14 ∧ k = 19)) : fgA m x k = m x k := by
  show (if x = 14 ∧ k = 19 then 0 else if x = 8 ∧ k = 6 then 0 else if x = 8 ∧ k = 5 then 0 else if x = 6 ∧ k = 2 then 0 else m x k) = m x k
  rw [if_neg h4, if_neg h3, if_neg h2, if_neg h1]
/-- another theory, all tables forgotten -/
theorem cJ_fg {m1 : zM} {E : zE} {T1 : zT} {X1 : Int → Int} {t s a cap a2 cap2 ka kcap b bcap : Int} (hA : bA m1 t s) (hT : bT m1 t T1 X1) (hW : m1 6 0 = 7) (hQ : m1 8 0 = a ∧ m1 8 1 = a + 1) (hU : bU m1 a2) (hD : (m1 14 0 = 15 ∧ m1 14 1 = 18 ∧ m1 14 2 = 22 ∧ m1 14 3 = 23 ∧ m1 14 4 = 24) ∧ ptG m1 18 ∧ m1 15 0 = ka ∧ m1 15 1 = ka + 1 ∧ qDg m1 14 b) (hG : ptG m1 33) (hE : bE E a cap a2 cap2 ka kcap b bcap) (hP : tA T1 X1) : cJ (fgA m1) E T1 X1 t s a cap a2 cap2 ka kcap b bcap := by
  have ht := hA.2.2.2.2.2.2.1
  have g : ∀ x k : Int, ¬ (x = 6 ∧ k = 2) → ¬ (x = 8 ∧ k = 5) → ¬ (x = 8 ∧ k = 6) → ¬ (x = 14 ∧ k = 19) → fgA m1 x k = m1 x k := fun x k => fgA_o
  have e1 : fgA m1 6 2 = 0 := rfl
  have e2 : fgA m1 8 5 = 0 := rfl
  have e3 : fgA m1 8 6 = 0 := rfl
  have e4 : fgA m1 14 19 = 0 := rfl
  obtain ⟨h0, h1, h2, h3, h4⟩ := hD
  refine ⟨bA_in hA (fun x k q => g x k (by omega) (by omega) (by omega) (by omega)), bT_in hT hA.2.2.2.2.1 hP.1.1.1 (fun x k q0 q1 => g x k (by omega) (by omega) (by omega) (by omega)), ⟨(g 6 0 (by omega) (by omega) (by omega) (by omega)).trans hW, Or.inl e1, fun h => absurd (e1.symm.trans h) (by decide)⟩, ⟨(g 8 0 (by omega) (by omega) (by omega) (by omega)).trans hQ.1, (g 8 1 (by omega) (by omega) (by omega) (by omega)).trans hQ.2, Or.inl e2, fun h => absurd (e2.symm.trans h) (by decide), fun _ => e3⟩, bU_in hU (fun k q => g 11 k (by omega) (by omega) (by omega) (by omega)), ⟨⟨(g 14 0 (by omega) (by omega) (by omega) (by omega)).trans h0.1, (g 14 1 (by omega) (by omega) (by omega) (by omega)).trans h0.2.1, (g 14 2 (by omega) (by omega) (by omega) (by omega)).trans h0.2.2.1, (g 14 3 (by omega) (by omega) (by omega) (by omega)).trans h0.2.2.2.1, (g 14 4 (by omega) (by omega) (by omega) (by omega)).trans h0.2.2.2.2⟩, ptG_in h1 (fun k q => g 18 k (by omega) (by omega) (by omega) (by omega)), (g 15 0 (by omega) (by omega) (by omega) (by omega)).trans h2, (g 15 1 (by omega) (by omega) (by omega) (by omega)).trans h3, qDg_in h4 (fun k _ _ => g 14 k (by omega) (by omega) (by omega) (by omega)), Or.inl e4, fun h => absurd (e4.symm.trans h) (by decide)⟩, ptG_in hG (fun k q => g 33 k (by omega) (by omega) (by omega) (by omega)), hE, hP, fun h => absurd (e4.symm.trans h) (by decide)⟩
theorem cJ_ed {m m1 : zM} {E : zE} {T T1 : zT} {X : Int → Int} {t s a cap a2 cap2 ka kcap b bcap : Int} (h : cJ m E T X t s a cap a2 cap2 ka kcap b bcap) (f : zfr (fE t) m m1) (p1 : ptT m1 t) (c1 : cTh m1 t T1.1) (l1 : cFl m1 t T1.1 T1.2.1 T1.2.2.1 T1.2.2.2) (o1 : ∀ i, 0 ≤ i → i < 800 → m1 (t + 11) i = 1) (hI : tI T1.1) (hfl : isFlat T1.1 T1.2.1 T1.2.2.1 T1.2.2.2) : cJ (fgA m1) E T1 (fun _ => 1) t s a cap a2 cap2 ka kcap b bcap := by
  obtain ⟨hA, hT, hW, hQ, hU, hD, hG, hE, hP, hR⟩ := h
  have ht := hA.2.2.2.2.2.2.1
  have g : ∀ x k : Int, x < 39 → m1 x k = m x k := fun x k q => fE_at f (by omega)
  exact cJ_fg (bA_ed hA f p1) ⟨c1, l1, o1⟩ ((g 6 0 (by omega)).trans hW.1) ⟨(g 8 0 (by omega)).trans hQ.1, (g 8 1 (by omega)).trans hQ.2.1⟩ (bU_in hU (fun k q => g 11 k (by omega))) ⟨⟨(g 14 0 (by omega)).trans hD.1.1, (g 14 1 (by omega)).trans hD.1.2.1, (g 14 2 (by omega)).trans hD.1.2.2.1, (g 14 3 (by omega)).trans hD.1.2.2.2.1, (g 14 4 (by omega)).trans hD.1.2.2.2.2⟩, ptG_in hD.2.1 (fun k q => g 18 k (by omega)), (g 15 0 (by omega)).trans hD.2.2.1, (g 15 1 (by omega)).trans hD.2.2.2.1, qDg_in hD.2.2.2.2.1 (fun k _ _ => g 14 k (by omega))⟩ (ptG_in hG (fun k q => g 33 k (by omega))) hE ⟨hI, hfl, fun _ _ _ => (⟨by decide, by decide⟩ : (-9 : Int) ≤ 1 ∧ (1 : Int) ≤ 9)⟩
theorem eFr_ed {m m1 : zM} {E : zE} {T : zT} {X : Int → Int} {t s a cap a2 cap2 ka kcap b bcap : Int} (h : cJ m E T X t s a cap a2 cap2 ka kcap b bcap) (f : zfr (fE t) m m1) : eFr m (fgA m1) := by
  have ht := h.1.2.2.2.2.2.2.1
  exact fun x k q => by rw [fgA_o (by omega) (by omega) (by omega) (by omega)]; exact fE_at f (by omega)
theorem eFr_qr {m m1 m2 : zM} (h : eFr m m1) (q : qFr m1 m2) : eFr m m2 := fun x k g => (q x k (by omega)).trans (h x k g)
theorem cEd_st {m m1 : zM} {E : zE} {T : zT} {X : Int → Int} {t s a cap a2 cap2 ka kcap b bcap : Int} (h : cJ m1 E T X t s a cap a2 cap2 ka kcap b bcap) (q : eFr m m1) : cEd m (zu m1 0 11 0) E T X 0 := ⟨⟨t, s, a, cap, a2, cap2, ka, kcap, b, bcap, cJ_st h 0⟩, fun x k g => by rw [zu_a (by omega)]; exact q x k g, zu_s⟩
theorem p_drop (d : Nat) {E : zE} {m : zM} (T : zT) (X : Int → Int) (t s a cap a2 cap2 ka kcap b bcap : Int) (hJ : cJ m E T X t s a cap a2 cap2 ka kcap b bcap) (p : Int) (T1 : zT) (hed : sDrop T p = 0 → isFlat T1.1 T1.2.1 T1.2.2.1 T1.2.2.2 ∧ T1.1 = eN (eBlk T.1 (gD p (T.1 2 - 1))) (T.1 2 - 1)) : zR zX11_drop (d + 16) [zP 0, zI p] m E E (fun r m' => r = some (zI (if sDrop T p = 0 then T.1 2 - 1 else -1)) ∧ (sDrop T p = 0 → cEd m m' E T1 (fun _ => 1) 0 ∧ m' 14 19 = 0) ∧ (sDrop T p ≠ 0 → cEd m m' E T X (sDrop T p))) := by
  have htt := cJ_t hJ
  have hln := (tA_l hJ.2.2.2.2.2.2.2.2.1).1
  have hw3 := (tA_w hJ.2.2.2.2.2.2.2.2.1).2.2.1
  refine zR_go [zP 0, zI p] (by decide +kernel) (Nat.le_of_ble_eq_true rfl) rfl rfl ?_
  refine z_aload_n dX11_drop_0 rfl ?_
  refine z_gP 9 rfl (r := t) flX11_71 dX11_drop_1 (sx_0 hJ.2.2.2.2.2.2.2.1.1) rfl (hJ.1.1.2.2.2.2.2.2.2.2.2.1) (by omega) ?_
  refine z_iload_n dX11_drop_4 rfl ?_
  refine z_callV mlX11_204 dX11_drop_5 (sx_T hJ.2.2.2.2.2.2.2.1.1 (cJ_t hJ)).1 (av := [_]) rfl rfl (Nat.le_of_ble_eq_true rfl) (c_hasPoint _ t (cJ_t0 hJ) (sx_T hJ.2.2.2.2.2.2.2.1.1 (cJ_t hJ)) (hJ.1.2.2.2.2.1) T.1 (wfD_of (tA_w hJ.2.2.2.2.2.2.2.2.1)) (hJ.2.1.1) _) (Nat.le_refl _) (Nat.le_refl _) (by first | exact Nat.le_refl _ | exact le.1) (by first | exact Nat.le_refl _ | exact le.2) ?_
  rintro _ _ ⟨rfl, rfl⟩
  refine z_ifz_ne (tgt := 17) dX11_drop_8 rfl (fun h8 => ?_) (fun h8 => ?_)
  · have es : sDrop T p = 0 := by unfold sDrop; rw [if_neg (not_not_intro h8)]
    obtain ⟨hfl1, e1⟩ := hed es
    have hI1 : tI T1.1 := by rw [e1]; exact tI_drop hJ.2.2.2.2.2.2.2.2.1.1 (by omega) (by omega)
    have hd1 := ed_fl hI1 hfl1
    
    refine z_aload_n dX11_drop_17 rfl ?_
    refine z_gP 9 rfl (r := t) flX11_71 dX11_drop_18 (sx_0 hJ.2.2.2.2.2.2.2.1.1) rfl (hJ.1.1.2.2.2.2.2.2.2.2.2.1) (by omega) ?_
    refine z_iload_n dX11_drop_21 rfl ?_
    refine z_callV mlX11_217 dX11_drop_22 (sx_T hJ.2.2.2.2.2.2.2.1.1 (cJ_t hJ)).1 (av := [_]) rfl rfl (Nat.le_of_ble_eq_true rfl) (c_removePoint _ t (cJ_t0 hJ) (sx_T hJ.2.2.2.2.2.2.2.1.1 (cJ_t hJ)) (hJ.1.2.2.2.2.1) T.1 (wfD_of (tA_w hJ.2.2.2.2.2.2.2.2.1)) (hJ.2.1.1) hJ.2.2.2.2.2.2.2.2.1.1.2.1 hJ.2.2.2.2.2.2.2.2.1.1.1.2.1 p (by omega) (by omega) T1.1 hd1.1 hd1.2.1 T1.2.1 T1.2.2.1 T1.2.2.2 hfl1 hd1.2.2 e1) (Nat.le_refl _) (Nat.le_refl _) (by first | exact Nat.le_refl _ | exact le.1) (by first | exact Nat.le_refl _ | exact le.2) ?_
    rintro _ m1 ⟨rfl, f1, p1, c1, l1, o1⟩
    refine z_aload_n dX11_drop_25 rfl ?_
    refine z_callV mlX11_105 dX11_drop_26 (sx_0 hJ.2.2.2.2.2.2.2.1.1) (av := _) rfl rfl (Nat.le_of_ble_eq_true rfl) (c_forgetAll _ hJ.2.2.2.2.2.2.2.1.1 t s (bA_ed hJ.1 f1 p1)) (Nat.le_refl _) (Nat.le_refl _) (by first | exact Nat.le_refl _ | exact le.1) (by first | exact Nat.le_refl _ | exact le.2) ?_
    rintro _ m2 ⟨rfl, e2⟩
    have j2 : cJ m2 E T1 (fun _ => 1) t s a cap a2 cap2 ka kcap b bcap := by rw [e2]; exact cJ_ed hJ f1 p1 c1 l1 o1 hI1 hfl1
    have q2 : eFr m m2 := by rw [e2]; exact eFr_ed hJ f1
    have n2 : m2 14 19 = 0 := by rw [e2]; rfl
    refine z_aload_n dX11_drop_29 rfl ?_
    refine z_aload_n dX11_drop_30 rfl ?_
    refine z_gP 9 rfl (r := t) flX11_71 dX11_drop_31 (sx_0 j2.2.2.2.2.2.2.2.1.1) rfl (j2.1.1.2.2.2.2.2.2.2.2.2.1) (by omega) ?_
    refine z_gIv 13 rfl flX11_163 dX11_drop_34 (sx_T j2.2.2.2.2.2.2.2.1.1 (cJ_t j2)).1 rfl j2.2.1.1.2.2.1 ?_
    refine z_callV mlX11_111 dX11_drop_37 (sx_0 j2.2.2.2.2.2.2.2.1.1) (av := [_]) rfl rfl (Nat.le_of_ble_eq_true rfl) (c_answer _ (sx_0 j2.2.2.2.2.2.2.2.1.1) _) (Nat.le_refl _) (Nat.le_refl _) (by first | exact Nat.le_refl _ | exact le.1) (by first | exact Nat.le_refl _ | exact le.2) ?_
    rintro _ _ ⟨rfl, rfl⟩
    refine z_iret dX11_drop_40 rfl rfl ?_
    rw [es, if_pos rfl]
    exact ⟨congrArg (fun z => some (zI z)) (by rw [e1, eN_2]), fun _ => ⟨cEd_st j2 q2, (zu_a (by decide)).trans n2⟩, fun h => absurd rfl h⟩
  · refine z_aload_n dX11_drop_11 rfl ?_
    refine z_iconst dX11_drop_12 (by decide) ?_
    refine z_callV mlX11_93 dX11_drop_13 (sx_0 hJ.2.2.2.2.2.2.2.1.1) (av := [_]) rfl rfl (Nat.le_of_ble_eq_true rfl) (c_refuse _ (sx_0 hJ.2.2.2.2.2.2.2.1.1) _) (Nat.le_refl _) (Nat.le_refl _) (by first | exact Nat.le_refl _ | exact le.1) (by first | exact Nat.le_refl _ | exact le.2) ?_
    rintro _ _ ⟨rfl, rfl⟩
    refine z_iret dX11_drop_16 rfl rfl ?_
    rw [show sDrop T p = 2 from by unfold sDrop; rw [if_pos h8]]
    exact ⟨by rw [if_neg (by decide)], fun h => absurd h (by decide), fun _ => cEd_q (cQ_st hJ qFr_rf _)⟩

theorem p_move (d : Nat) {E : zE} {m : zM} (T : zT) (X : Int → Int) (t s a cap a2 cap2 ka kcap b bcap : Int) (hJ : cJ m E T X t s a cap a2 cap2 ka kcap b bcap) (p pl : Int) (T1 : zT) (hed : sMove T p pl = 0 → isFlat T1.1 T1.2.1 T1.2.2.1 T1.2.2.2 ∧ T1.1 = eN (eBlk T.1 (gM p pl)) (T.1 2)) : zR zX11_move (d + 16) [zP 0, zI p, zI pl] m E E (fun r m' => r = some (zI (if sMove T p pl = 0 then cPre T1.1 pl.toNat else -1)) ∧ (sMove T p pl = 0 → cEd m m' E T1 (fun _ => 1) 0 ∧ m' 14 19 = 0) ∧ (sMove T p pl ≠ 0 → cEd m m' E T X (sMove T p pl))) := by
  have htt := cJ_t hJ
  have hln := (tA_l hJ.2.2.2.2.2.2.2.2.1).1
  have hw3 := (tA_w hJ.2.2.2.2.2.2.2.2.1).2.2.1
  refine zR_go [zP 0, zI p, zI pl] (by decide +kernel) (Nat.le_of_ble_eq_true rfl) rfl rfl ?_
  refine z_iload_n dX11_move_0 rfl ?_
  refine z_if_lt (tgt := 15) dX11_move_1 rfl (fun h1 => ?_) (fun h1 => ?_)
  · refine z_aload_n dX11_move_15 rfl ?_
    refine z_iconst dX11_move_16 (by decide) ?_
    refine z_callV mlX11_93 dX11_move_17 (sx_0 hJ.2.2.2.2.2.2.2.1.1) (av := [_]) rfl rfl (Nat.le_of_ble_eq_true rfl) (c_refuse _ (sx_0 hJ.2.2.2.2.2.2.2.1.1) _) (Nat.le_refl _) (Nat.le_refl _) (by first | exact Nat.le_refl _ | exact le.1) (by first | exact Nat.le_refl _ | exact le.2) ?_
    rintro _ _ ⟨rfl, rfl⟩
    refine z_iret dX11_move_20 rfl rfl ?_
    rw [show sMove T p pl = 1 from by unfold sMove; rw [if_pos (by omega)]]
    exact ⟨by rw [if_neg (by decide)], fun h => absurd h (by decide), fun _ => cEd_q (cQ_st hJ qFr_rf _)⟩
  · refine z_iload_n dX11_move_4 rfl ?_
    refine z_aload_n dX11_move_5 rfl ?_
    refine z_gP 9 rfl (r := t) flX11_71 dX11_move_6 (sx_0 hJ.2.2.2.2.2.2.2.1.1) rfl (hJ.1.1.2.2.2.2.2.2.2.2.2.1) (by omega) ?_
    refine z_gIv 13 rfl flX11_163 dX11_move_9 (sx_T hJ.2.2.2.2.2.2.2.1.1 (cJ_t hJ)).1 rfl hJ.2.1.1.2.2.1 ?_
    refine z_icmp_lt (tgt := 21) dX11_move_12 rfl (fun h12 => ?_) (fun h12 => ?_)
    · refine z_aload_n dX11_move_21 rfl ?_
      refine z_gP 9 rfl (r := t) flX11_71 dX11_move_22 (sx_0 hJ.2.2.2.2.2.2.2.1.1) rfl (hJ.1.1.2.2.2.2.2.2.2.2.2.1) (by omega) ?_
      refine z_iload_n dX11_move_25 rfl ?_
      refine z_callV mlX11_204 dX11_move_26 (sx_T hJ.2.2.2.2.2.2.2.1.1 (cJ_t hJ)).1 (av := [_]) rfl rfl (Nat.le_of_ble_eq_true rfl) (c_hasPoint _ t (cJ_t0 hJ) (sx_T hJ.2.2.2.2.2.2.2.1.1 (cJ_t hJ)) (hJ.1.2.2.2.2.1) T.1 (wfD_of (tA_w hJ.2.2.2.2.2.2.2.2.1)) (hJ.2.1.1) _) (Nat.le_refl _) (Nat.le_refl _) (by first | exact Nat.le_refl _ | exact le.1) (by first | exact Nat.le_refl _ | exact le.2) ?_
      rintro _ _ ⟨rfl, rfl⟩
      refine z_ifz_ne (tgt := 38) dX11_move_29 rfl (fun h29 => ?_) (fun h29 => ?_)
      · refine z_iload_n dX11_move_38 rfl ?_
        refine z_iload_n dX11_move_39 rfl ?_
        refine z_icmp_ne (tgt := 49) dX11_move_40 rfl (fun h40 => ?_) (fun h40 => ?_)
        · have es : sMove T p pl = 0 := by unfold sMove; rw [if_neg (by omega), if_neg (not_not_intro h29), if_neg (by omega)]
          obtain ⟨hfl1, e1⟩ := hed es
          have hI1 : tI T1.1 := by rw [e1]; exact tI_move hJ.2.2.2.2.2.2.2.2.1.1 (by omega) (by omega) (by omega) (by omega)
          have hd1 := ed_fl hI1 hfl1
          have ec2 : T1.1 2 = T.1 2 := by rw [e1, eN_2]
          refine z_aload_n dX11_move_49 rfl ?_
          refine z_gP 9 rfl (r := t) flX11_71 dX11_move_50 (sx_0 hJ.2.2.2.2.2.2.2.1.1) rfl (hJ.1.1.2.2.2.2.2.2.2.2.2.1) (by omega) ?_
          refine z_iload_n dX11_move_53 rfl ?_
          refine z_iload_n dX11_move_54 rfl ?_
          refine z_callV mlX11_220 dX11_move_55 (sx_T hJ.2.2.2.2.2.2.2.1.1 (cJ_t hJ)).1 (av := [_, _]) rfl rfl (Nat.le_of_ble_eq_true rfl) (c_shiftPoint _ t (cJ_t0 hJ) (sx_T hJ.2.2.2.2.2.2.2.1.1 (cJ_t hJ)) (hJ.1.2.2.2.2.1) T.1 (wfD_of (tA_w hJ.2.2.2.2.2.2.2.2.1)) (hJ.2.1.1) p pl (by omega) (by omega) (by omega) (by omega) T1.1 hd1.1 hd1.2.1 T1.2.1 T1.2.2.1 T1.2.2.2 hfl1 hd1.2.2 e1) (Nat.le_refl _) (Nat.le_refl _) (by first | exact Nat.le_refl _ | exact le.1) (by first | exact Nat.le_refl _ | exact le.2) ?_
          rintro _ m1 ⟨rfl, f1, p1, c1, l1, o1⟩
          refine z_aload_n dX11_move_58 rfl ?_
          refine z_callV mlX11_105 dX11_move_59 (sx_0 hJ.2.2.2.2.2.2.2.1.1) (av := _) rfl rfl (Nat.le_of_ble_eq_true rfl) (c_forgetAll _ hJ.2.2.2.2.2.2.2.1.1 t s (bA_ed hJ.1 f1 p1)) (Nat.le_refl _) (Nat.le_refl _) (by first | exact Nat.le_refl _ | exact le.1) (by first | exact Nat.le_refl _ | exact le.2) ?_
          rintro _ m2 ⟨rfl, e2⟩
          have j2 : cJ m2 E T1 (fun _ => 1) t s a cap a2 cap2 ka kcap b bcap := by rw [e2]; exact cJ_ed hJ f1 p1 c1 l1 o1 hI1 hfl1
          have q2 : eFr m m2 := by rw [e2]; exact eFr_ed hJ f1
          have n2 : m2 14 19 = 0 := by rw [e2]; rfl
          refine z_aload_n dX11_move_62 rfl ?_
          refine z_aload_n dX11_move_63 rfl ?_
          refine z_gP 9 rfl (r := t) flX11_71 dX11_move_64 (sx_0 j2.2.2.2.2.2.2.2.1.1) rfl (j2.1.1.2.2.2.2.2.2.2.2.2.1) (by omega) ?_
          refine z_iload_n dX11_move_67 rfl ?_
          refine z_callV mlX11_224 dX11_move_68 (sx_T j2.2.2.2.2.2.2.2.1.1 (cJ_t j2)).1 (av := [_]) rfl rfl (Nat.le_of_ble_eq_true rfl) (c_firstLetter _ t (cJ_t0 j2) (sx_T j2.2.2.2.2.2.2.2.1.1 (cJ_t j2)) j2.1.2.2.2.2.1 T1.1 hd1.1 j2.2.1.1 pl (by omega) (by omega)) (Nat.le_refl _) (Nat.le_refl _) (by first | exact Nat.le_refl _ | exact le.1) (by first | exact Nat.le_refl _ | exact le.2) ?_
          rintro _ _ ⟨rfl, rfl⟩
          refine z_callV mlX11_111 dX11_move_71 (sx_0 j2.2.2.2.2.2.2.2.1.1) (av := [_]) rfl rfl (Nat.le_of_ble_eq_true rfl) (c_answer _ (sx_0 j2.2.2.2.2.2.2.2.1.1) _) (Nat.le_refl _) (Nat.le_refl _) (by first | exact Nat.le_refl _ | exact le.1) (by first | exact Nat.le_refl _ | exact le.2) ?_
          rintro _ _ ⟨rfl, rfl⟩
          refine z_iret dX11_move_74 rfl rfl ?_
          rw [es, if_pos rfl]
          exact ⟨congrArg (fun z => some (zI z)) (rfl), fun _ => ⟨cEd_st j2 q2, (zu_a (by decide)).trans n2⟩, fun h => absurd rfl h⟩
        · refine z_aload_n dX11_move_43 rfl ?_
          refine z_iconst dX11_move_44 (by decide) ?_
          refine z_callV mlX11_93 dX11_move_45 (sx_0 hJ.2.2.2.2.2.2.2.1.1) (av := [_]) rfl rfl (Nat.le_of_ble_eq_true rfl) (c_refuse _ (sx_0 hJ.2.2.2.2.2.2.2.1.1) _) (Nat.le_refl _) (Nat.le_refl _) (by first | exact Nat.le_refl _ | exact le.1) (by first | exact Nat.le_refl _ | exact le.2) ?_
          rintro _ _ ⟨rfl, rfl⟩
          refine z_iret dX11_move_48 rfl rfl ?_
          rw [show sMove T p pl = 4 from by unfold sMove; rw [if_neg (by omega), if_neg (not_not_intro h29), if_pos (by omega)]]
          exact ⟨by rw [if_neg (by decide)], fun h => absurd h (by decide), fun _ => cEd_q (cQ_st hJ qFr_rf _)⟩
      · refine z_aload_n dX11_move_32 rfl ?_
        refine z_iconst dX11_move_33 (by decide) ?_
        refine z_callV mlX11_93 dX11_move_34 (sx_0 hJ.2.2.2.2.2.2.2.1.1) (av := [_]) rfl rfl (Nat.le_of_ble_eq_true rfl) (c_refuse _ (sx_0 hJ.2.2.2.2.2.2.2.1.1) _) (Nat.le_refl _) (Nat.le_refl _) (by first | exact Nat.le_refl _ | exact le.1) (by first | exact Nat.le_refl _ | exact le.2) ?_
        rintro _ _ ⟨rfl, rfl⟩
        refine z_iret dX11_move_37 rfl rfl ?_
        rw [show sMove T p pl = 2 from by unfold sMove; rw [if_neg (by omega), if_pos h29]]
        exact ⟨by rw [if_neg (by decide)], fun h => absurd h (by decide), fun _ => cEd_q (cQ_st hJ qFr_rf _)⟩
    · refine z_aload_n dX11_move_15 rfl ?_
      refine z_iconst dX11_move_16 (by decide) ?_
      refine z_callV mlX11_93 dX11_move_17 (sx_0 hJ.2.2.2.2.2.2.2.1.1) (av := [_]) rfl rfl (Nat.le_of_ble_eq_true rfl) (c_refuse _ (sx_0 hJ.2.2.2.2.2.2.2.1.1) _) (Nat.le_refl _) (Nat.le_refl _) (by first | exact Nat.le_refl _ | exact le.1) (by first | exact Nat.le_refl _ | exact le.2) ?_
      rintro _ _ ⟨rfl, rfl⟩
      refine z_iret dX11_move_20 rfl rfl ?_
      rw [show sMove T p pl = 1 from by unfold sMove; rw [if_pos (by omega)]]
      exact ⟨by rw [if_neg (by decide)], fun h => absurd h (by decide), fun _ => cEd_q (cQ_st hJ qFr_rf _)⟩

theorem p_copy (d : Nat) {E : zE} {m : zM} (T : zT) (X : Int → Int) (t s a cap a2 cap2 ka kcap b bcap : Int) (hJ : cJ m E T X t s a cap a2 cap2 ka kcap b bcap) (p : Int) (T1 : zT) (hed : sCopy T p = 0 → isFlat T1.1 T1.2.1 T1.2.2.1 T1.2.2.2 ∧ T1.1 = eN (eBlk T.1 (fun b => if b = T.1 2 then p else b)) (T.1 2 + 1)) : zR zX11_copy (d + 16) [zP 0, zI p] m E E (fun r m' => r = some (zI (if sCopy T p = 0 then T.1 2 else -1)) ∧ (sCopy T p = 0 → cEd m m' E T1 (fun _ => 1) 0 ∧ m' 14 19 = 0) ∧ (sCopy T p ≠ 0 → cEd m m' E T X (sCopy T p))) := by
  have htt := cJ_t hJ
  have hln := (tA_l hJ.2.2.2.2.2.2.2.2.1).1
  have hw3 := (tA_w hJ.2.2.2.2.2.2.2.2.1).2.2.1
  refine zR_go [zP 0, zI p] (by decide +kernel) (Nat.le_of_ble_eq_true rfl) rfl rfl ?_
  refine z_aload_n dX11_copy_0 rfl ?_
  refine z_gP 9 rfl (r := t) flX11_71 dX11_copy_1 (sx_0 hJ.2.2.2.2.2.2.2.1.1) rfl (hJ.1.1.2.2.2.2.2.2.2.2.2.1) (by omega) ?_
  refine z_iload_n dX11_copy_4 rfl ?_
  refine z_callV mlX11_204 dX11_copy_5 (sx_T hJ.2.2.2.2.2.2.2.1.1 (cJ_t hJ)).1 (av := [_]) rfl rfl (Nat.le_of_ble_eq_true rfl) (c_hasPoint _ t (cJ_t0 hJ) (sx_T hJ.2.2.2.2.2.2.2.1.1 (cJ_t hJ)) (hJ.1.2.2.2.2.1) T.1 (wfD_of (tA_w hJ.2.2.2.2.2.2.2.2.1)) (hJ.2.1.1) _) (Nat.le_refl _) (Nat.le_refl _) (by first | exact Nat.le_refl _ | exact le.1) (by first | exact Nat.le_refl _ | exact le.2) ?_
  rintro _ _ ⟨rfl, rfl⟩
  refine z_ifz_ne (tgt := 17) dX11_copy_8 rfl (fun h8 => ?_) (fun h8 => ?_)
  · refine z_aload_n dX11_copy_17 rfl ?_
    refine z_gP 9 rfl (r := t) flX11_71 dX11_copy_18 (sx_0 hJ.2.2.2.2.2.2.2.1.1) rfl (hJ.1.1.2.2.2.2.2.2.2.2.2.1) (by omega) ?_
    refine z_iload_n dX11_copy_21 rfl ?_
    refine z_callV mlX11_250 dX11_copy_22 (sx_T hJ.2.2.2.2.2.2.2.1.1 (cJ_t hJ)).1 (av := [_]) rfl rfl (Nat.le_of_ble_eq_true rfl) (c_hasRoom _ t (cJ_t0 hJ) (sx_T hJ.2.2.2.2.2.2.2.1.1 (cJ_t hJ)) (hJ.1.2.2.2.2.1) T.1 (wfD_of (tA_w hJ.2.2.2.2.2.2.2.2.1)) (hJ.2.1.1) T.2.2.2 hln hJ.2.1.2.1.1 p (by omega) (by omega) hJ.2.2.2.2.2.2.2.2.1.1.1.2.2) (Nat.le_refl _) (Nat.le_refl _) (by first | exact Nat.le_refl _ | exact le.1) (by first | exact Nat.le_refl _ | exact le.2) ?_
    rintro _ _ ⟨rfl, rfl⟩
    refine z_ifz_ne (tgt := 34) dX11_copy_25 rfl (fun h25 => ?_) (fun h25 => ?_)
    · have hef := hJ.2.2.2.2.2.2.2.2.1.2.1.1
      have h8c : T.1 2 < 8 := by omega
      have es : sCopy T p = 0 := by unfold sCopy; rw [if_neg (not_not_intro h8)]; exact if_neg h25
      obtain ⟨hfl1, e1⟩ := hed es
      have hI1 : tI T1.1 := by rw [e1]; exact tI_copy hJ.2.2.2.2.2.2.2.2.1.1 (by omega) (by omega) h8c (by omega) (fun h => h25 (Or.inr (Or.inl h)))
      have hd1 := ed_fl hI1 hfl1
      have ec2 : T1.1 2 = T.1 2 + 1 := by rw [e1, eN_2]
      refine z_aload_n dX11_copy_34 rfl ?_
      refine z_gP 9 rfl (r := t) flX11_71 dX11_copy_35 (sx_0 hJ.2.2.2.2.2.2.2.1.1) rfl (hJ.1.1.2.2.2.2.2.2.2.2.2.1) (by omega) ?_
      refine z_iload_n dX11_copy_38 rfl ?_
      refine z_callV mlX11_253 dX11_copy_39 (sx_T hJ.2.2.2.2.2.2.2.1.1 (cJ_t hJ)).1 (av := [_]) rfl rfl (Nat.le_of_ble_eq_true rfl) (c_copyPoint _ t (cJ_t0 hJ) (sx_T hJ.2.2.2.2.2.2.2.1.1 (cJ_t hJ)) (hJ.1.2.2.2.2.1) T.1 (wfD_of (tA_w hJ.2.2.2.2.2.2.2.2.1)) (hJ.2.1.1) p (by omega) (by omega) (by omega) T1.1 hd1.1 hd1.2.1 T1.2.1 T1.2.2.1 T1.2.2.2 hfl1 hd1.2.2 e1) (Nat.le_refl _) (Nat.le_refl _) (by first | exact Nat.le_refl _ | exact le.1) (by first | exact Nat.le_refl _ | exact le.2) ?_
      rintro _ m1 ⟨rfl, f1, p1, c1, l1, o1⟩
      refine z_aload_n dX11_copy_42 rfl ?_
      refine z_callV mlX11_105 dX11_copy_43 (sx_0 hJ.2.2.2.2.2.2.2.1.1) (av := _) rfl rfl (Nat.le_of_ble_eq_true rfl) (c_forgetAll _ hJ.2.2.2.2.2.2.2.1.1 t s (bA_ed hJ.1 f1 p1)) (Nat.le_refl _) (Nat.le_refl _) (by first | exact Nat.le_refl _ | exact le.1) (by first | exact Nat.le_refl _ | exact le.2) ?_
      rintro _ m2 ⟨rfl, e2⟩
      have j2 : cJ m2 E T1 (fun _ => 1) t s a cap a2 cap2 ka kcap b bcap := by rw [e2]; exact cJ_ed hJ f1 p1 c1 l1 o1 hI1 hfl1
      have q2 : eFr m m2 := by rw [e2]; exact eFr_ed hJ f1
      have n2 : m2 14 19 = 0 := by rw [e2]; rfl
      refine z_aload_n dX11_copy_46 rfl ?_
      refine z_aload_n dX11_copy_47 rfl ?_
      refine z_gP 9 rfl (r := t) flX11_71 dX11_copy_48 (sx_0 j2.2.2.2.2.2.2.2.1.1) rfl (j2.1.1.2.2.2.2.2.2.2.2.2.1) (by omega) ?_
      refine z_gIv 13 rfl flX11_163 dX11_copy_51 (sx_T j2.2.2.2.2.2.2.2.1.1 (cJ_t j2)).1 rfl j2.2.1.1.2.2.1 ?_
      refine z_iconst dX11_copy_54 (by decide) ?_
      refine z_sub dX11_copy_55 (by omega) ?_
      refine z_callV mlX11_111 dX11_copy_56 (sx_0 j2.2.2.2.2.2.2.2.1.1) (av := [_]) rfl rfl (Nat.le_of_ble_eq_true rfl) (c_answer _ (sx_0 j2.2.2.2.2.2.2.2.1.1) _) (Nat.le_refl _) (Nat.le_refl _) (by first | exact Nat.le_refl _ | exact le.1) (by first | exact Nat.le_refl _ | exact le.2) ?_
      rintro _ _ ⟨rfl, rfl⟩
      refine z_iret dX11_copy_59 rfl rfl ?_
      rw [es, if_pos rfl]
      exact ⟨congrArg (fun z => some (zI z)) (by omega), fun _ => ⟨cEd_st j2 q2, (zu_a (by decide)).trans n2⟩, fun h => absurd rfl h⟩
    · refine z_aload_n dX11_copy_28 rfl ?_
      refine z_iconst dX11_copy_29 (by decide) ?_
      refine z_callV mlX11_93 dX11_copy_30 (sx_0 hJ.2.2.2.2.2.2.2.1.1) (av := [_]) rfl rfl (Nat.le_of_ble_eq_true rfl) (c_refuse _ (sx_0 hJ.2.2.2.2.2.2.2.1.1) _) (Nat.le_refl _) (Nat.le_refl _) (by first | exact Nat.le_refl _ | exact le.1) (by first | exact Nat.le_refl _ | exact le.2) ?_
      rintro _ _ ⟨rfl, rfl⟩
      refine z_iret dX11_copy_33 rfl rfl ?_
      rw [show sCopy T p = 3 from by unfold sCopy; rw [if_neg (not_not_intro h8)]; exact if_pos (Classical.not_not.mp h25)]
      exact ⟨by rw [if_neg (by decide)], fun h => absurd h (by decide), fun _ => cEd_q (cQ_st hJ qFr_rf _)⟩
  · refine z_aload_n dX11_copy_11 rfl ?_
    refine z_iconst dX11_copy_12 (by decide) ?_
    refine z_callV mlX11_93 dX11_copy_13 (sx_0 hJ.2.2.2.2.2.2.2.1.1) (av := [_]) rfl rfl (Nat.le_of_ble_eq_true rfl) (c_refuse _ (sx_0 hJ.2.2.2.2.2.2.2.1.1) _) (Nat.le_refl _) (Nat.le_refl _) (by first | exact Nat.le_refl _ | exact le.1) (by first | exact Nat.le_refl _ | exact le.2) ?_
    rintro _ _ ⟨rfl, rfl⟩
    refine z_iret dX11_copy_16 rfl rfl ?_
    rw [show sCopy T p = 2 from by unfold sCopy; rw [if_pos h8]]
    exact ⟨by rw [if_neg (by decide)], fun h => absurd h (by decide), fun _ => cEd_q (cQ_st hJ qFr_rf _)⟩

theorem p_normal (d : Nat) {E : zE} {m : zM} (T : zT) (X : Int → Int) (t s a cap a2 cap2 ka kcap b bcap : Int) (hJ : cJ m E T X t s a cap a2 cap2 ka kcap b bcap) (p v : Int) (hv : v = 0 ∨ v = 1) (T1 : zT) (hed : sNormal T p v = 0 → isFlat T1.1 T1.2.1 T1.2.2.1 T1.2.2.2 ∧ T1.1 = eU T.1 (32 + 9 * p + 2) v) : zR zX11_normal (d + 16) [zP 0, zI p, zI v] m E E (fun r m' => r = some (zI (if sNormal T p v = 0 then lT T1 else -1)) ∧ (sNormal T p v = 0 → cEd m m' E T1 (fun _ => 1) 0 ∧ m' 14 19 = 0) ∧ (sNormal T p v ≠ 0 → cEd m m' E T X (sNormal T p v))) := by
  have htt := cJ_t hJ
  have hln := (tA_l hJ.2.2.2.2.2.2.2.2.1).1
  have hw3 := (tA_w hJ.2.2.2.2.2.2.2.2.1).2.2.1
  refine zR_go [zP 0, zI p, zI v] (by decide +kernel) (Nat.le_of_ble_eq_true rfl) rfl rfl ?_
  refine z_aload_n dX11_normal_0 rfl ?_
  refine z_gP 9 rfl (r := t) flX11_71 dX11_normal_1 (sx_0 hJ.2.2.2.2.2.2.2.1.1) rfl (hJ.1.1.2.2.2.2.2.2.2.2.2.1) (by omega) ?_
  refine z_iload_n dX11_normal_4 rfl ?_
  refine z_callV mlX11_204 dX11_normal_5 (sx_T hJ.2.2.2.2.2.2.2.1.1 (cJ_t hJ)).1 (av := [_]) rfl rfl (Nat.le_of_ble_eq_true rfl) (c_hasPoint _ t (cJ_t0 hJ) (sx_T hJ.2.2.2.2.2.2.2.1.1 (cJ_t hJ)) (hJ.1.2.2.2.2.1) T.1 (wfD_of (tA_w hJ.2.2.2.2.2.2.2.2.1)) (hJ.2.1.1) _) (Nat.le_refl _) (Nat.le_refl _) (by first | exact Nat.le_refl _ | exact le.1) (by first | exact Nat.le_refl _ | exact le.2) ?_
  rintro _ _ ⟨rfl, rfl⟩
  refine z_ifz_ne (tgt := 17) dX11_normal_8 rfl (fun h8 => ?_) (fun h8 => ?_)
  · refine z_aload_n dX11_normal_17 rfl ?_
    refine z_gP 9 rfl (r := t) flX11_71 dX11_normal_18 (sx_0 hJ.2.2.2.2.2.2.2.1.1) rfl (hJ.1.1.2.2.2.2.2.2.2.2.2.1) (by omega) ?_
    refine z_gP 5 rfl (r := t + 6) flX11_237 dX11_normal_21 (sx_T hJ.2.2.2.2.2.2.2.1.1 (cJ_t hJ)).1 rfl hJ.1.2.2.2.2.1.1.2.2.2.2.2.1 (by omega) ?_
    refine z_iload_n dX11_normal_24 rfl ?_
    obtain ⟨ip, ip0, ip1, ep⟩ := hJ.1.2.2.2.2.1.2.2.1 p (by omega) (by omega)
    have hcp := hJ.2.1.1.2.2.2.2.2 p (by omega) (by omega)
    rw [ep] at hcp
    have hx01 := ((tA_w hJ.2.2.2.2.2.2.2.2.1).2.2.2.2.2 p (by omega) (by omega)).2.2.1
    have ezb : zb (T.1 (32 + 9 * p + 2) = 1) = T.1 (32 + 9 * p + 2) := by rcases hx01 with e | e <;> (rw [e]; rfl)
    refine z_aald dX11_normal_25 (sx_T hJ.2.2.2.2.2.2.2.1.1 (cJ_t hJ)).2.2.2.2.2.2.1 (by omega) (by omega) (r := t + 12 + 2 * ip) ep (by omega) ?_
    refine z_gIv 3 rfl flX11_241 dX11_normal_26 ((sx_T hJ.2.2.2.2.2.2.2.1.1 (cJ_t hJ)).2.2.2.2.2.2.2.2.2.2.2.2 ip ip0 ip1).1 rfl hcp.2.2.1 ?_
    refine z_iload_n dX11_normal_29 rfl ?_
    refine z_icmp_ne (tgt := 39) dX11_normal_30 rfl (fun h30 => ?_) (fun h30 => ?_)
    · have es : sNormal T p v = 0 := by unfold sNormal; rw [if_neg (not_not_intro h8), if_neg (by omega)]
      obtain ⟨hfl1, e1⟩ := hed es
      have hI1 : tI T1.1 := by rw [e1]; exact tI_no hJ.2.2.2.2.2.2.2.2.1.1 (by omega) (by omega) hv
      have hd1 := ed_fl hI1 hfl1
      
      refine z_aload_n dX11_normal_39 rfl ?_
      refine z_gP 9 rfl (r := t) flX11_71 dX11_normal_40 (sx_0 hJ.2.2.2.2.2.2.2.1.1) rfl (hJ.1.1.2.2.2.2.2.2.2.2.2.1) (by omega) ?_
      refine z_iload_n dX11_normal_43 rfl ?_
      refine z_iload_n dX11_normal_44 rfl ?_
      refine z_callV mlX11_247 dX11_normal_45 (sx_T hJ.2.2.2.2.2.2.2.1.1 (cJ_t hJ)).1 (av := [_, _]) rfl rfl (Nat.le_of_ble_eq_true rfl) (c_setNormal _ t (cJ_t0 hJ) (sx_T hJ.2.2.2.2.2.2.2.1.1 (cJ_t hJ)) (hJ.1.2.2.2.2.1) T.1 (wfD_of (tA_w hJ.2.2.2.2.2.2.2.2.1)) (hJ.2.1.1) p v (by omega) (by omega) hv T1.1 hd1.1 hd1.2.1 T1.2.1 T1.2.2.1 T1.2.2.2 hfl1 hd1.2.2 e1) (Nat.le_refl _) (Nat.le_refl _) (by first | exact Nat.le_refl _ | exact le.1) (by first | exact Nat.le_refl _ | exact le.2) ?_
      rintro _ m1 ⟨rfl, f1, p1, c1, l1, o1⟩
      refine z_aload_n dX11_normal_48 rfl ?_
      refine z_callV mlX11_105 dX11_normal_49 (sx_0 hJ.2.2.2.2.2.2.2.1.1) (av := _) rfl rfl (Nat.le_of_ble_eq_true rfl) (c_forgetAll _ hJ.2.2.2.2.2.2.2.1.1 t s (bA_ed hJ.1 f1 p1)) (Nat.le_refl _) (Nat.le_refl _) (by first | exact Nat.le_refl _ | exact le.1) (by first | exact Nat.le_refl _ | exact le.2) ?_
      rintro _ m2 ⟨rfl, e2⟩
      have j2 : cJ m2 E T1 (fun _ => 1) t s a cap a2 cap2 ka kcap b bcap := by rw [e2]; exact cJ_ed hJ f1 p1 c1 l1 o1 hI1 hfl1
      have q2 : eFr m m2 := by rw [e2]; exact eFr_ed hJ f1
      have n2 : m2 14 19 = 0 := by rw [e2]; rfl
      refine z_aload_n dX11_normal_52 rfl ?_
      refine z_aload_n dX11_normal_53 rfl ?_
      refine z_callV mlX11_169 dX11_normal_54 (sx_0 j2.2.2.2.2.2.2.2.1.1) (av := _) rfl rfl (Nat.le_of_ble_eq_true rfl) (c_pairingCount _ T1 (fun _ => 1) _ _ _ _ _ _ _ _ _ _ j2) (Nat.le_refl _) (Nat.le_refl _) (by first | exact Nat.le_refl _ | exact le.1) (by first | exact Nat.le_refl _ | exact le.2) ?_
      rintro _ m3 ⟨rfl, j3, _, q3, _, n3⟩
      have q3 := eFr_qr q2 q3
      have n3 := n3.trans n2
      refine z_callV mlX11_111 dX11_normal_57 (sx_0 j3.2.2.2.2.2.2.2.1.1) (av := [_]) rfl rfl (Nat.le_of_ble_eq_true rfl) (c_answer _ (sx_0 j3.2.2.2.2.2.2.2.1.1) _) (Nat.le_refl _) (Nat.le_refl _) (by first | exact Nat.le_refl _ | exact le.1) (by first | exact Nat.le_refl _ | exact le.2) ?_
      rintro _ _ ⟨rfl, rfl⟩
      refine z_iret dX11_normal_60 rfl rfl ?_
      rw [es, if_pos rfl]
      exact ⟨congrArg (fun z => some (zI z)) (rfl), fun _ => ⟨cEd_st j3 q3, (zu_a (by decide)).trans n3⟩, fun h => absurd rfl h⟩
    · refine z_aload_n dX11_normal_33 rfl ?_
      refine z_iconst dX11_normal_34 (by decide) ?_
      refine z_callV mlX11_93 dX11_normal_35 (sx_0 hJ.2.2.2.2.2.2.2.1.1) (av := [_]) rfl rfl (Nat.le_of_ble_eq_true rfl) (c_refuse _ (sx_0 hJ.2.2.2.2.2.2.2.1.1) _) (Nat.le_refl _) (Nat.le_refl _) (by first | exact Nat.le_refl _ | exact le.1) (by first | exact Nat.le_refl _ | exact le.2) ?_
      rintro _ _ ⟨rfl, rfl⟩
      refine z_iret dX11_normal_38 rfl rfl ?_
      rw [show sNormal T p v = 4 from by unfold sNormal; rw [if_neg (not_not_intro h8), if_pos (by omega)]]
      exact ⟨by rw [if_neg (by decide)], fun h => absurd h (by decide), fun _ => cEd_q (cQ_st hJ qFr_rf _)⟩
  · refine z_aload_n dX11_normal_11 rfl ?_
    refine z_iconst dX11_normal_12 (by decide) ?_
    refine z_callV mlX11_93 dX11_normal_13 (sx_0 hJ.2.2.2.2.2.2.2.1.1) (av := [_]) rfl rfl (Nat.le_of_ble_eq_true rfl) (c_refuse _ (sx_0 hJ.2.2.2.2.2.2.2.1.1) _) (Nat.le_refl _) (Nat.le_refl _) (by first | exact Nat.le_refl _ | exact le.1) (by first | exact Nat.le_refl _ | exact le.2) ?_
    rintro _ _ ⟨rfl, rfl⟩
    refine z_iret dX11_normal_16 rfl rfl ?_
    rw [show sNormal T p v = 2 from by unfold sNormal; rw [if_pos h8]]
    exact ⟨by rw [if_neg (by decide)], fun h => absurd h (by decide), fun _ => cEd_q (cQ_st hJ qFr_rf _)⟩

theorem p_swap (d : Nat) {E : zE} {m : zM} (T : zT) (X : Int → Int) (t s a cap a2 cap2 ka kcap b bcap : Int) (hJ : cJ m E T X t s a cap a2 cap2 ka kcap b bcap) (i : Int) (T1 : zT) (hed : sSwap T i = 0 → isFlat T1.1 T1.2.1 T1.2.2.1 T1.2.2.2 ∧ T1.1 = eSw T.1 (32 + 9 * T.2.2.1 i + 3 + i - cPre T.1 (T.2.2.1 i).toNat)) : ∃ E1 : zE, (E.2.1 ≤ E1.2.1 ∧ E.2.2 ≤ E1.2.2) ∧ EB E1 ∧ zR zX11_swap (d + 16) [zP 0, zI i] m E E1 (fun r m' => r = some (zI (if sSwap T i = 0 then tS T1 (tSign T1) else -1)) ∧ (sSwap T i = 0 → cEd m m' E1 T1 (fun _ => 1) 0 ∧ m' 14 19 = 0) ∧ (sSwap T i ≠ 0 → cEd m m' E1 T X (sSwap T i))) := by
  have htt := cJ_t hJ
  have hln := (tA_l hJ.2.2.2.2.2.2.2.2.1).1
  have hw3 := (tA_w hJ.2.2.2.2.2.2.2.2.1).2.2.1
  by_cases hc0 : sSwap T i = 0
  · have hsw := sw_0 hc0
    have le := pE_le E T1 cap
    refine ⟨pE E T1 cap, le, EB_p hJ T1, ?_⟩
    refine zR_go [zP 0, zI i, zN] (by decide +kernel) (Nat.le_of_ble_eq_true rfl) rfl rfl ?_
    refine z_aload_n dX11_swap_0 rfl ?_
    refine z_gP 9 rfl (r := t) flX11_71 dX11_swap_1 (sx_0 hJ.2.2.2.2.2.2.2.1.1) rfl (hJ.1.1.2.2.2.2.2.2.2.2.2.1) (by omega) ?_
    refine z_iload_n dX11_swap_4 rfl ?_
    refine z_callV mlX11_195 dX11_swap_5 (sx_T hJ.2.2.2.2.2.2.2.1.1 (cJ_t hJ)).1 (av := [_]) rfl rfl (Nat.le_of_ble_eq_true rfl) (c_hasLetter _ t (cJ_t0 hJ) (sx_T hJ.2.2.2.2.2.2.2.1.1 (cJ_t hJ)) (hJ.1.2.2.2.2.1) T.2.2.2 _ (hJ.2.1.2.1.1)) (Nat.le_refl _) (Nat.le_refl _) (by first | exact Nat.le_refl _ | exact le.1) (by first | exact Nat.le_refl _ | exact le.2) ?_
    rintro _ _ ⟨rfl, rfl⟩
    refine z_ifz_eq (tgt := 24) dX11_swap_8 rfl (fun h => absurd hsw.1.1 h) (fun h8 => ?_)
    refine z_aload_n dX11_swap_11 rfl ?_
    refine z_gP 9 rfl (r := t) flX11_71 dX11_swap_12 (sx_0 hJ.2.2.2.2.2.2.2.1.1) rfl (hJ.1.1.2.2.2.2.2.2.2.2.2.1) (by omega) ?_
    refine z_iload_n dX11_swap_15 rfl ?_
    refine z_iconst dX11_swap_16 (by decide) ?_
    refine z_add dX11_swap_17 (by omega) ?_
    refine z_callV mlX11_195 dX11_swap_18 (sx_T hJ.2.2.2.2.2.2.2.1.1 (cJ_t hJ)).1 (av := [_]) rfl rfl (Nat.le_of_ble_eq_true rfl) (c_hasLetter _ t (cJ_t0 hJ) (sx_T hJ.2.2.2.2.2.2.2.1.1 (cJ_t hJ)) (hJ.1.2.2.2.2.1) T.2.2.2 _ (hJ.2.1.2.1.1)) (Nat.le_refl _) (Nat.le_refl _) (by first | exact Nat.le_refl _ | exact le.1) (by first | exact Nat.le_refl _ | exact le.2) ?_
    rintro _ _ ⟨rfl, rfl⟩
    refine z_ifz_ne (tgt := 30) dX11_swap_21 rfl (fun h21 => ?_) (fun h => absurd hsw.1.2 h)
    refine z_aload_n dX11_swap_30 rfl ?_
    refine z_gP 9 rfl (r := t) flX11_71 dX11_swap_31 (sx_0 hJ.2.2.2.2.2.2.2.1.1) rfl (hJ.1.1.2.2.2.2.2.2.2.2.2.1) (by omega) ?_
    refine z_gP 7 rfl (r := t + 8) flX11_227 dX11_swap_34 (sx_T hJ.2.2.2.2.2.2.2.1.1 (cJ_t hJ)).1 rfl hJ.1.2.2.2.2.1.1.2.2.2.2.2.2.2.1 (by omega) ?_
    refine z_iload_n dX11_swap_37 rfl ?_
    refine z_ialv dX11_swap_38 (sx_T hJ.2.2.2.2.2.2.2.1.1 (cJ_t hJ)).2.2.2.2.2.2.2.2.1 (by omega) (by omega) (hJ.2.1.2.1.2.1 i (by omega) (by omega)).2.1 ?_
    refine z_aload_n dX11_swap_39 rfl ?_
    refine z_gP 9 rfl (r := t) flX11_71 dX11_swap_40 (sx_0 hJ.2.2.2.2.2.2.2.1.1) rfl (hJ.1.1.2.2.2.2.2.2.2.2.2.1) (by omega) ?_
    refine z_gP 7 rfl (r := t + 8) flX11_227 dX11_swap_43 (sx_T hJ.2.2.2.2.2.2.2.1.1 (cJ_t hJ)).1 rfl hJ.1.2.2.2.2.1.1.2.2.2.2.2.2.2.1 (by omega) ?_
    refine z_iload_n dX11_swap_46 rfl ?_
    refine z_iconst dX11_swap_47 (by decide) ?_
    refine z_add dX11_swap_48 (by omega) ?_
    refine z_ialv dX11_swap_49 (sx_T hJ.2.2.2.2.2.2.2.1.1 (cJ_t hJ)).2.2.2.2.2.2.2.2.1 (by omega) (by omega) (hJ.2.1.2.1.2.1 (i + 1) (by omega) (by omega)).2.1 ?_
    refine z_icmp_ne (tgt := 57) dX11_swap_50 rfl (fun h => absurd h (by omega)) (fun h50 => ?_)
    refine z_iconst dX11_swap_53 (by decide) ?_
    refine z_goto (tgt := 58) dX11_swap_54 rfl ?_
    refine z_ist 2 dX11_swap_58 rfl (Nat.le_of_ble_eq_true rfl) ?_
    refine z_iload_n dX11_swap_59 rfl ?_
    try dsimp only [zs0, zsI, zsP, zsN, zsJ, zsS, zst2, Nat.reduceAdd]
    refine z_if_eq (tgt := 92) dX11_swap_60 rfl (fun h => absurd h (by decide)) (fun h60 => ?_)
    refine z_aload_n dX11_swap_63 rfl ?_
    refine z_gP 9 rfl (r := t) flX11_71 dX11_swap_64 (sx_0 hJ.2.2.2.2.2.2.2.1.1) rfl (hJ.1.1.2.2.2.2.2.2.2.2.2.1) (by omega) ?_
    refine z_gP 6 rfl (r := t + 7) flX11_231 dX11_swap_67 (sx_T hJ.2.2.2.2.2.2.2.1.1 (cJ_t hJ)).1 rfl hJ.1.2.2.2.2.1.1.2.2.2.2.2.2.1 (by omega) ?_
    refine z_iload_n dX11_swap_70 rfl ?_
    refine z_ialv dX11_swap_71 (sx_T hJ.2.2.2.2.2.2.2.1.1 (cJ_t hJ)).2.2.2.2.2.2.2.1 (by omega) (by omega) (hJ.2.1.2.1.2.1 i (by omega) (by omega)).1 ?_
    refine z_aload_n dX11_swap_72 rfl ?_
    refine z_gP 9 rfl (r := t) flX11_71 dX11_swap_73 (sx_0 hJ.2.2.2.2.2.2.2.1.1) rfl (hJ.1.1.2.2.2.2.2.2.2.2.2.1) (by omega) ?_
    refine z_gP 6 rfl (r := t + 7) flX11_231 dX11_swap_76 (sx_T hJ.2.2.2.2.2.2.2.1.1 (cJ_t hJ)).1 rfl hJ.1.2.2.2.2.1.1.2.2.2.2.2.2.1 (by omega) ?_
    refine z_iload_n dX11_swap_79 rfl ?_
    refine z_iconst dX11_swap_80 (by decide) ?_
    refine z_add dX11_swap_81 (by omega) ?_
    refine z_ialv dX11_swap_82 (sx_T hJ.2.2.2.2.2.2.2.1.1 (cJ_t hJ)).2.2.2.2.2.2.2.1 (by omega) (by omega) (hJ.2.1.2.1.2.1 (i + 1) (by omega) (by omega)).1 ?_
    refine z_icmp_ne (tgt := 92) dX11_swap_83 rfl (fun h83 => ?_) (fun h => absurd (by omega) h)
    refine z_iload_n dX11_swap_92 rfl ?_
    refine z_if_ne (tgt := 102) dX11_swap_93 rfl (fun h93 => ?_) (fun h => absurd (by decide) h)
    refine z_aload_n dX11_swap_102 rfl ?_
    refine z_gP 9 rfl (r := t) flX11_71 dX11_swap_103 (sx_0 hJ.2.2.2.2.2.2.2.1.1) rfl (hJ.1.1.2.2.2.2.2.2.2.2.2.1) (by omega) ?_
    obtain ⟨hfl1, e1⟩ := hed hc0
    have hft := flat_two (tA_w hJ.2.2.2.2.2.2.2.2.1) hJ.2.2.2.2.2.2.2.2.1.2.1 (show 0 ≤ i by omega) (show i + 1 < T.2.2.2 by omega) hsw.2.1
    rw [show 32 + 9 * T.2.2.1 i + 3 + i - cPre T.1 (T.2.2.1 i).toNat = 32 + 9 * T.2.2.1 i + 3 + (i - cPre T.1 (T.2.2.1 i).toNat) by omega] at e1
    have hI1 : tI T1.1 := by rw [e1]; exact tI_sw hJ.2.2.2.2.2.2.2.2.1.1 hft.1 hft.2.1 hft.2.2.1 hft.2.2.2
    have hd1 := ed_fl hI1 hfl1
    refine z_iload_n dX11_swap_106 rfl ?_
    refine z_callV mlX11_234 dX11_swap_107 (sx_T hJ.2.2.2.2.2.2.2.1.1 (cJ_t hJ)).1 (av := [_]) rfl rfl (Nat.le_of_ble_eq_true rfl) (c_exchange _ t (cJ_t0 hJ) (sx_T hJ.2.2.2.2.2.2.2.1.1 (cJ_t hJ)) (hJ.1.2.2.2.2.1) T.1 (wfD_of (tA_w hJ.2.2.2.2.2.2.2.2.1)) (hJ.2.1.1) T.2.1 T.2.2.1 T.2.2.2 (tA_l hJ.2.2.2.2.2.2.2.2.1) (fun x x0 x1 => ⟨(hJ.2.1.2.1.2.1 x x0 x1).1, (hJ.2.1.2.1.2.1 x x0 x1).2.1⟩) i (i - cPre T.1 (T.2.2.1 i).toNat) (by omega) (by omega) rfl hft.2.2.1 hft.2.2.2 T1.1 hd1.1 hd1.2.1 T1.2.1 T1.2.2.1 T1.2.2.2 hfl1 hd1.2.2 e1) (Nat.le_refl _) (Nat.le_refl _) (by first | exact Nat.le_refl _ | exact le.1) (by first | exact Nat.le_refl _ | exact le.2) ?_
    rintro _ m1 ⟨rfl, f1, p1, c1, l1, o1⟩
    refine z_aload_n dX11_swap_110 rfl ?_
    refine z_callV mlX11_105 dX11_swap_111 (sx_0 hJ.2.2.2.2.2.2.2.1.1) (av := _) rfl rfl (Nat.le_of_ble_eq_true rfl) (c_forgetAll _ hJ.2.2.2.2.2.2.2.1.1 t s (bA_ed hJ.1 f1 p1)) (Nat.le_refl _) (Nat.le_refl _) (by first | exact Nat.le_refl _ | exact le.1) (by first | exact Nat.le_refl _ | exact le.2) ?_
    rintro _ m2 ⟨rfl, e2⟩
    have j2 : cJ m2 E T1 (fun _ => 1) t s a cap a2 cap2 ka kcap b bcap := by rw [e2]; exact cJ_ed hJ f1 p1 c1 l1 o1 hI1 hfl1
    have q2 : eFr m m2 := by rw [e2]; exact eFr_ed hJ f1
    have n2 : m2 14 19 = 0 := by rw [e2]; rfl
    refine z_aload_n dX11_swap_114 rfl ?_
    refine z_aload_n dX11_swap_115 rfl ?_
    refine z_callV mlX11_124 dX11_swap_116 (sx_0 j2.2.2.2.2.2.2.2.1.1) (av := _) rfl rfl (Nat.le_of_ble_eq_true rfl) (c_kPx _ T1 (fun _ => 1) _ _ _ _ _ _ _ _ _ _ j2) (by first | exact Nat.le_refl _ | exact le.1) (by first | exact Nat.le_refl _ | exact le.2) (Nat.le_refl _) (Nat.le_refl _) ?_
    rintro _ m3 ⟨rfl, j3, h5, q3, n3⟩
    have q3 := eFr_qr q2 q3
    have n3 := n3.trans n2
    refine z_callV mlX11_175 dX11_swap_119 (sx_8 j3.2.2.2.2.2.2.2.1.1) (av := _) rfl rfl (Nat.le_of_ble_eq_true rfl) (x_signs _ T1 (fun _ => 1) _ _ _ _ _ _ _ _ _ _ j3 h5) (Nat.le_refl _) (Nat.le_refl _) (by first | exact Nat.le_refl _ | exact le.1) (by first | exact Nat.le_refl _ | exact le.2) ?_
    rintro _ _ ⟨rfl, rfl⟩
    refine z_callV mlX11_111 dX11_swap_122 (sx_0 j3.2.2.2.2.2.2.2.1.1) (av := [_]) rfl rfl (Nat.le_of_ble_eq_true rfl) (c_answer _ (sx_0 j3.2.2.2.2.2.2.2.1.1) _) (Nat.le_refl _) (Nat.le_refl _) (by first | exact Nat.le_refl _ | exact le.1) (by first | exact Nat.le_refl _ | exact le.2) ?_
    rintro _ _ ⟨rfl, rfl⟩
    refine z_iret dX11_swap_125 rfl rfl ?_
    rw [hc0, if_pos rfl]
    exact ⟨rfl, fun _ => ⟨cEd_st j3 q3, (zu_a (by decide)).trans n3⟩, fun h => absurd rfl h⟩
  refine ⟨E, ⟨Nat.le_refl _, Nat.le_refl _⟩, EB_e hJ, ?_⟩
  refine zR_go [zP 0, zI i, zN] (by decide +kernel) (Nat.le_of_ble_eq_true rfl) rfl rfl ?_
  refine z_aload_n dX11_swap_0 rfl ?_
  refine z_gP 9 rfl (r := t) flX11_71 dX11_swap_1 (sx_0 hJ.2.2.2.2.2.2.2.1.1) rfl (hJ.1.1.2.2.2.2.2.2.2.2.2.1) (by omega) ?_
  refine z_iload_n dX11_swap_4 rfl ?_
  refine z_callV mlX11_195 dX11_swap_5 (sx_T hJ.2.2.2.2.2.2.2.1.1 (cJ_t hJ)).1 (av := [_]) rfl rfl (Nat.le_of_ble_eq_true rfl) (c_hasLetter _ t (cJ_t0 hJ) (sx_T hJ.2.2.2.2.2.2.2.1.1 (cJ_t hJ)) (hJ.1.2.2.2.2.1) T.2.2.2 _ (hJ.2.1.2.1.1)) (Nat.le_refl _) (Nat.le_refl _) (by first | exact Nat.le_refl _ | exact le.1) (by first | exact Nat.le_refl _ | exact le.2) ?_
  rintro _ _ ⟨rfl, rfl⟩
  refine z_ifz_eq (tgt := 24) dX11_swap_8 rfl (fun h8 => ?_) (fun h8 => ?_)
  · refine z_aload_n dX11_swap_24 rfl ?_
    refine z_iconst dX11_swap_25 (by decide) ?_
    refine z_callV mlX11_93 dX11_swap_26 (sx_0 hJ.2.2.2.2.2.2.2.1.1) (av := [_]) rfl rfl (Nat.le_of_ble_eq_true rfl) (c_refuse _ (sx_0 hJ.2.2.2.2.2.2.2.1.1) _) (Nat.le_refl _) (Nat.le_refl _) (by first | exact Nat.le_refl _ | exact le.1) (by first | exact Nat.le_refl _ | exact le.2) ?_
    rintro _ _ ⟨rfl, rfl⟩
    refine z_iret dX11_swap_29 rfl rfl ?_
    rw [show sSwap T i = 2 from by unfold sSwap; rw [if_pos (by omega)]]
    exact ⟨by rw [if_neg (by decide)], fun h => absurd h (by decide), fun _ => cEd_q (cQ_st hJ qFr_rf _)⟩
  · refine z_aload_n dX11_swap_11 rfl ?_
    refine z_gP 9 rfl (r := t) flX11_71 dX11_swap_12 (sx_0 hJ.2.2.2.2.2.2.2.1.1) rfl (hJ.1.1.2.2.2.2.2.2.2.2.2.1) (by omega) ?_
    refine z_iload_n dX11_swap_15 rfl ?_
    refine z_iconst dX11_swap_16 (by decide) ?_
    refine z_add dX11_swap_17 (by omega) ?_
    refine z_callV mlX11_195 dX11_swap_18 (sx_T hJ.2.2.2.2.2.2.2.1.1 (cJ_t hJ)).1 (av := [_]) rfl rfl (Nat.le_of_ble_eq_true rfl) (c_hasLetter _ t (cJ_t0 hJ) (sx_T hJ.2.2.2.2.2.2.2.1.1 (cJ_t hJ)) (hJ.1.2.2.2.2.1) T.2.2.2 _ (hJ.2.1.2.1.1)) (Nat.le_refl _) (Nat.le_refl _) (by first | exact Nat.le_refl _ | exact le.1) (by first | exact Nat.le_refl _ | exact le.2) ?_
    rintro _ _ ⟨rfl, rfl⟩
    refine z_ifz_ne (tgt := 30) dX11_swap_21 rfl (fun h21 => ?_) (fun h21 => ?_)
    · refine z_aload_n dX11_swap_30 rfl ?_
      refine z_gP 9 rfl (r := t) flX11_71 dX11_swap_31 (sx_0 hJ.2.2.2.2.2.2.2.1.1) rfl (hJ.1.1.2.2.2.2.2.2.2.2.2.1) (by omega) ?_
      refine z_gP 7 rfl (r := t + 8) flX11_227 dX11_swap_34 (sx_T hJ.2.2.2.2.2.2.2.1.1 (cJ_t hJ)).1 rfl hJ.1.2.2.2.2.1.1.2.2.2.2.2.2.2.1 (by omega) ?_
      refine z_iload_n dX11_swap_37 rfl ?_
      refine z_ialv dX11_swap_38 (sx_T hJ.2.2.2.2.2.2.2.1.1 (cJ_t hJ)).2.2.2.2.2.2.2.2.1 (by omega) (by omega) (hJ.2.1.2.1.2.1 i (by omega) (by omega)).2.1 ?_
      refine z_aload_n dX11_swap_39 rfl ?_
      refine z_gP 9 rfl (r := t) flX11_71 dX11_swap_40 (sx_0 hJ.2.2.2.2.2.2.2.1.1) rfl (hJ.1.1.2.2.2.2.2.2.2.2.2.1) (by omega) ?_
      refine z_gP 7 rfl (r := t + 8) flX11_227 dX11_swap_43 (sx_T hJ.2.2.2.2.2.2.2.1.1 (cJ_t hJ)).1 rfl hJ.1.2.2.2.2.1.1.2.2.2.2.2.2.2.1 (by omega) ?_
      refine z_iload_n dX11_swap_46 rfl ?_
      refine z_iconst dX11_swap_47 (by decide) ?_
      refine z_add dX11_swap_48 (by omega) ?_
      refine z_ialv dX11_swap_49 (sx_T hJ.2.2.2.2.2.2.2.1.1 (cJ_t hJ)).2.2.2.2.2.2.2.2.1 (by omega) (by omega) (hJ.2.1.2.1.2.1 (i + 1) (by omega) (by omega)).2.1 ?_
      refine z_icmp_ne (tgt := 57) dX11_swap_50 rfl (fun h50 => ?_) (fun h50 => ?_)
      · refine z_iconst dX11_swap_57 (by decide) ?_
        refine z_ist 2 dX11_swap_58 rfl (Nat.le_of_ble_eq_true rfl) ?_
        refine z_iload_n dX11_swap_59 rfl ?_
        try dsimp only [zs0, zsI, zsP, zsN, zsJ, zsS, zst2, Nat.reduceAdd]
        refine z_if_eq (tgt := 92) dX11_swap_60 rfl (fun h60 => ?_) (fun h => absurd rfl h)
        refine z_iload_n dX11_swap_92 rfl ?_
        refine z_if_ne (tgt := 102) dX11_swap_93 rfl (fun h => absurd h (by decide)) (fun h93 => ?_)
        refine z_aload_n dX11_swap_96 rfl ?_
        refine z_iconst dX11_swap_97 (by decide) ?_
        refine z_callV mlX11_93 dX11_swap_98 (sx_0 hJ.2.2.2.2.2.2.2.1.1) (av := [_]) rfl rfl (Nat.le_of_ble_eq_true rfl) (c_refuse _ (sx_0 hJ.2.2.2.2.2.2.2.1.1) _) (Nat.le_refl _) (Nat.le_refl _) (by first | exact Nat.le_refl _ | exact le.1) (by first | exact Nat.le_refl _ | exact le.2) ?_
        rintro _ _ ⟨rfl, rfl⟩
        refine z_iret dX11_swap_101 rfl rfl ?_
        rw [show sSwap T i = 5 from by unfold sSwap; rw [if_neg (by omega), if_pos (by omega)]]
        exact ⟨by rw [if_neg (by decide)], fun h => absurd h (by decide), fun _ => cEd_q (cQ_st hJ qFr_rf _)⟩
      · refine z_iconst dX11_swap_53 (by decide) ?_
        refine z_goto (tgt := 58) dX11_swap_54 rfl ?_
        refine z_ist 2 dX11_swap_58 rfl (Nat.le_of_ble_eq_true rfl) ?_
        refine z_iload_n dX11_swap_59 rfl ?_
        try dsimp only [zs0, zsI, zsP, zsN, zsJ, zsS, zst2, Nat.reduceAdd]
        refine z_if_eq (tgt := 92) dX11_swap_60 rfl (fun h => absurd h (by decide)) (fun h60 => ?_)
        refine z_aload_n dX11_swap_63 rfl ?_
        refine z_gP 9 rfl (r := t) flX11_71 dX11_swap_64 (sx_0 hJ.2.2.2.2.2.2.2.1.1) rfl (hJ.1.1.2.2.2.2.2.2.2.2.2.1) (by omega) ?_
        refine z_gP 6 rfl (r := t + 7) flX11_231 dX11_swap_67 (sx_T hJ.2.2.2.2.2.2.2.1.1 (cJ_t hJ)).1 rfl hJ.1.2.2.2.2.1.1.2.2.2.2.2.2.1 (by omega) ?_
        refine z_iload_n dX11_swap_70 rfl ?_
        refine z_ialv dX11_swap_71 (sx_T hJ.2.2.2.2.2.2.2.1.1 (cJ_t hJ)).2.2.2.2.2.2.2.1 (by omega) (by omega) (hJ.2.1.2.1.2.1 i (by omega) (by omega)).1 ?_
        refine z_aload_n dX11_swap_72 rfl ?_
        refine z_gP 9 rfl (r := t) flX11_71 dX11_swap_73 (sx_0 hJ.2.2.2.2.2.2.2.1.1) rfl (hJ.1.1.2.2.2.2.2.2.2.2.2.1) (by omega) ?_
        refine z_gP 6 rfl (r := t + 7) flX11_231 dX11_swap_76 (sx_T hJ.2.2.2.2.2.2.2.1.1 (cJ_t hJ)).1 rfl hJ.1.2.2.2.2.1.1.2.2.2.2.2.2.1 (by omega) ?_
        refine z_iload_n dX11_swap_79 rfl ?_
        refine z_iconst dX11_swap_80 (by decide) ?_
        refine z_add dX11_swap_81 (by omega) ?_
        refine z_ialv dX11_swap_82 (sx_T hJ.2.2.2.2.2.2.2.1.1 (cJ_t hJ)).2.2.2.2.2.2.2.1 (by omega) (by omega) (hJ.2.1.2.1.2.1 (i + 1) (by omega) (by omega)).1 ?_
        refine z_icmp_ne (tgt := 92) dX11_swap_83 rfl (fun h => absurd h (fun h => hc0 (by unfold sSwap; rw [if_neg (by omega), if_neg (by omega), if_neg h]))) (fun h83 => ?_)
        refine z_aload_n dX11_swap_86 rfl ?_
        refine z_iconst dX11_swap_87 (by decide) ?_
        refine z_callV mlX11_93 dX11_swap_88 (sx_0 hJ.2.2.2.2.2.2.2.1.1) (av := [_]) rfl rfl (Nat.le_of_ble_eq_true rfl) (c_refuse _ (sx_0 hJ.2.2.2.2.2.2.2.1.1) _) (Nat.le_refl _) (Nat.le_refl _) (by first | exact Nat.le_refl _ | exact le.1) (by first | exact Nat.le_refl _ | exact le.2) ?_
        rintro _ _ ⟨rfl, rfl⟩
        refine z_iret dX11_swap_91 rfl rfl ?_
        rw [show sSwap T i = 4 from by unfold sSwap; rw [if_neg (by omega), if_neg (by omega), if_pos (by omega)]]
        exact ⟨by rw [if_neg (by decide)], fun h => absurd h (by decide), fun _ => cEd_q (cQ_st hJ qFr_rf _)⟩
    · refine z_aload_n dX11_swap_24 rfl ?_
      refine z_iconst dX11_swap_25 (by decide) ?_
      refine z_callV mlX11_93 dX11_swap_26 (sx_0 hJ.2.2.2.2.2.2.2.1.1) (av := [_]) rfl rfl (Nat.le_of_ble_eq_true rfl) (c_refuse _ (sx_0 hJ.2.2.2.2.2.2.2.1.1) _) (Nat.le_refl _) (Nat.le_refl _) (by first | exact Nat.le_refl _ | exact le.1) (by first | exact Nat.le_refl _ | exact le.2) ?_
      rintro _ _ ⟨rfl, rfl⟩
      refine z_iret dX11_swap_29 rfl rfl ?_
      rw [show sSwap T i = 2 from by unfold sSwap; rw [if_pos (by omega)]]
      exact ⟨by rw [if_neg (by decide)], fun h => absurd h (by decide), fun _ => cEd_q (cQ_st hJ qFr_rf _)⟩
