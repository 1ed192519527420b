theorem tA_w {T : zT} {X : Int → Int} (h : tA T X) : wfC T.1 := h.1.1.1
theorem tA_l {T : zT} {X : Int → Int} (h : tA T X) : wfL T.1 T.2.1 T.2.2.1 T.2.2.2 := flat_wfL h.1.1.1 h.2.1 (by rw [h.2.1.1]; exact h.1.1.2.1)
theorem tA_n {T : zT} {X : Int → Int} (h : tA T X) : nT T ≤ 12 := by have := (tA_l h).1; show T.2.2.2.toNat ≤ 12; omega
theorem cJ_t {m : zM} {E : zE} {T : zT} {X : Int → Int} {t s a cap a2 cap2 ka kcap b bcap : Int} (h : cJ m E T X t s a cap a2 cap2 ka kcap b bcap) : t = 39 ∨ t = 67 := by have := h.1.2.2.2.2.2.2.1; omega
theorem cJ_t0 {m : zM} {E : zE} {T : zT} {X : Int → Int} {t s a cap a2 cap2 ka kcap b bcap : Int} (h : cJ m E T X t s a cap a2 cap2 ka kcap b bcap) : 0 < t := by have := cJ_t h; omega
theorem tb_all {T : zT} {X : Int → Int} (h : tA T X) : tb (nT T) (mayT T) (fA (nT T)) = lT T := by
  unfold tb
  rw [agL_len (tab_ag (tA_n h))]
  rfl
theorem prs_len {T : zT} {X : Int → Int} (h : tA T X) : (tPairs T).length ≤ 10395 := by
  have := (tb_rg (may := mayT T) (tA_n h) (fA (nT T))).2
  rw [tb_all h] at this
  unfold lT at this
  omega
theorem prs_cap {T : zT} {X : Int → Int} (h : tA T X) {cap : Int} (hr : rm (lT T) ≤ cap) : ((tPairs T).length : Int) ≤ cap := by
  have := prs_len h
  have := rm_ge (x := lT T) (by unfold lT; omega)
  unfold lT at this hr
  omega
theorem prs_ok {T : zT} {X : Int → Int} (h : tA T X) : ∀ r ∈ tPairs T, rOk (nT T) (mayT T) (fA (nT T)) r := rOk_ag (tab_ag (tA_n h)) (tab_ok (tA_n h) (fA_lt _)).1
theorem cJ_ways {m m' : zM} {E : zE} {T : zT} {X : Int → Int} {t s a cap a2 cap2 ka kcap b bcap : Int} (h : cJ m E T X t s a cap a2 cap2 ka kcap b bcap) (hw : bW m' T) (f : ∀ x k : Int, x ≠ 6 → x ≠ 7 → m' x k = m x k) : cJ m' E T X t s a cap a2 cap2 ka kcap b bcap ∧ qFr m m' ∧ m' 8 5 = m 8 5 ∧ m' 14 19 = m 14 19 := by
  obtain ⟨hA, hT, hW, hQ, hU, hD, hG, hE, hP, hR⟩ := h
  have ho := bE_pos hE
  have ht := hA.2.2.2.2.2.2.1
  refine ⟨⟨bA_in hA (fun x k q => f x k (by omega) (by omega)), bT_in hT hA.2.2.2.2.1 hP.1.1.1 (fun x k q0 q1 => f x k (by omega) (by omega)), hw, bQ_in hQ (fun x k q => f x k (by omega) (by omega)), bU_in hU (fun k q => f 11 k (by omega) (by omega)), bD_in hD (fun x k q => f x k (by omega) (by omega)), ptG_in hG (fun k q => f 33 k (by omega) (by omega)), hE, hP, ?_⟩, fun x k q => f x k (by omega) (by omega), f 8 5 (by omega) (by omega), f 14 19 (by omega) (by omega)⟩
  rw [f 14 19 (by omega) (by omega), f 8 5 (by omega) (by omega)]
  exact hR
theorem cJ_fill {m m' : zM} {E E1 : zE} {T : zT} {X : Int → Int} {t s a cap a2 cap2 ka kcap b bcap a1 cap1 : Int} (h : cJ m E T X t s a cap a2 cap2 ka kcap b bcap) (hE1 : bE E1 a1 cap1 a2 cap2 ka kcap b bcap) (hq : bQ m' T a1 cap1) (h5 : m' 8 5 = 1) (f : ∀ x k : Int, x ≠ 8 → x ≠ a1 → x ≠ a1 + 1 → m' x k = m x k) : cJ m' E1 T X t s a1 cap1 a2 cap2 ka kcap b bcap ∧ qFr m m' ∧ m' 14 19 = m 14 19 := by
  obtain ⟨hA, hT, hW, hQ, hU, hD, hG, hE, hP, hR⟩ := h
  have ho := bE_pos hE1
  have hd := hE1.2.2.2.2.2.2.2.1
  have ht := hA.2.2.2.2.2.2.1
  have ff : ∀ x k : Int, (x ≠ 8 ∧ x ≠ a1 ∧ x ≠ a1 + 1) → m' x k = m x k := fun x k q => f x k q.1 q.2.1 q.2.2
  exact ⟨⟨bA_in hA (fun x k q => ff x k (by omega)), bT_in hT hA.2.2.2.2.1 hP.1.1.1 (fun x k q0 q1 => ff x k (by omega)), bW_in hW (fun x k q => ff x k (by omega)), hq, bU_in hU (fun k q => ff 11 k (by omega)), bD_in hD (fun x k q => ff x k (by omega)), ptG_in hG (fun k q => ff 33 k (by omega)), hE1, hP, fun _ => h5⟩, fun x k q => ff x k (by omega), ff 14 19 (by omega)⟩
theorem bQ_new {m : zM} {T : zT} {X : Int → Int} {a cap : Int} (h : tA T X) (b : pTb m 8 a (nT T) (cOd T.1 T.2.1) (cBr T.1 T.2.1) (fA (nT T)) (sLay (nT T) (mayT T) 6 (mtA (fA (nT T)))) 0) (h5 : m 8 5 = 1) (hr : rm (lT T) ≤ cap) : bQ m T a cap := by
  have b2 : pTb m 8 a (nT T) (cOd T.1 T.2.1) (cBr T.1 T.2.1) (fA (nT T)) (tPairs T) 0 := pTb_ag (tab_ag (tA_n h)) b
  have e6 : m 8 6 = 0 := b2.2.2.2.2.2.1
  refine ⟨b2.1, b2.2.1, Or.inr h5, fun _ => ⟨by omega, ?_, hr⟩, fun e => by omega⟩
  rw [e6]
  exact b2
theorem bQ_rho {m : zM} {T : zT} {X : Int → Int} {a cap : Int} (h : tA T X) (b2 : pTb m 8 a (nT T) (cOd T.1 T.2.1) (cBr T.1 T.2.1) (fA (nT T)) (tPairs T) 1) (h5 : m 8 5 = 1) (hr : rm (lT T) ≤ cap) : bQ m T a cap := by
  have e6 : m 8 6 = 1 := b2.2.2.2.2.2.1
  refine ⟨b2.1, b2.2.1, Or.inr h5, fun _ => ⟨by omega, ?_, hr⟩, fun e => by omega⟩
  rw [e6]
  exact b2
theorem c_answer (d : Nat) {E : zE} {m : zM} (s0 : E.1 0 = (17, 12)) (v : Int) : zR zX11_answer (d) [zP 0, zI v] m E E (fun r m' => r = some (zI v) ∧ m' = zu m 0 11 0) := by
  refine zR_go [zP 0, zI v] (by decide +kernel) (Nat.le_of_ble_eq_true rfl) rfl rfl ?_
  refine z_aload_n dX11_answer_0 rfl ?_
  refine z_iconst dX11_answer_1 (by decide) ?_
  refine z_pI 11 rfl (fpX11_78 _) dX11_answer_2 s0 rfl ?_
  refine z_iload_n dX11_answer_5 rfl ?_
  refine z_iret dX11_answer_6 rfl rfl ?_
  exact ⟨rfl, rfl⟩

theorem c_refuse (d : Nat) {E : zE} {m : zM} (s0 : E.1 0 = (17, 12)) (v : Int) : zR zX11_refuse (d) [zP 0, zI v] m E E (fun r m' => r = some (zI (-1)) ∧ m' = zu m 0 11 v) := by
  refine zR_go [zP 0, zI v] (by decide +kernel) (Nat.le_of_ble_eq_true rfl) rfl rfl ?_
  refine z_aload_n dX11_refuse_0 rfl ?_
  refine z_iload_n dX11_refuse_1 rfl ?_
  refine z_pI 11 rfl (fpX11_78 _) dX11_refuse_2 s0 rfl ?_
  refine z_iconst dX11_refuse_5 (by decide) ?_
  refine z_iret dX11_refuse_6 rfl rfl ?_
  exact ⟨rfl, rfl⟩

theorem c_isOnTape (d : Nat) {E : zE} {m : zM} (T : zT) (X : Int → Int) (t s a cap a2 cap2 ka kcap b bcap : Int) (hJ : cJ m E T X t s a cap a2 cap2 ka kcap b bcap) (n : Int) : zR zX11_isOnTape (d) [zP 0, zI n] m E E (fun r m' => r = some (zI (zb (0 ≤ n ∧ n ≤ m 1 1))) ∧ m = m') := by
  refine zR_go [zP 0, zI n] (by decide +kernel) (Nat.le_of_ble_eq_true rfl) rfl rfl ?_
  refine z_iload_n dX11_isOnTape_0 rfl ?_
  refine z_if_lt (tgt := 19) dX11_isOnTape_1 rfl (fun h1 => ?_) (fun h1 => ?_)
  · refine z_iconst dX11_isOnTape_19 (by decide) ?_
    refine z_zret dX11_isOnTape_20 rfl (by first | omega | exact zb01 _) rfl ?_
    exact ⟨by rw [zb_f (by omega)], rfl⟩
  · refine z_iload_n dX11_isOnTape_4 rfl ?_
    refine z_aload_n dX11_isOnTape_5 rfl ?_
    refine z_gP 0 rfl (r := 1) flX11_10 dX11_isOnTape_6 (sx_0 hJ.2.2.2.2.2.2.2.1.1) rfl (hJ.1.1.1) (by omega) ?_
    refine z_gI 1 rfl flX11_82 dX11_isOnTape_9 (sx_K hJ.2.2.2.2.2.2.2.1.1).1 rfl ?_
    refine z_icmp_gt (tgt := 19) dX11_isOnTape_12 rfl (fun h12 => ?_) (fun h12 => ?_)
    · refine z_iconst dX11_isOnTape_19 (by decide) ?_
      refine z_zret dX11_isOnTape_20 rfl (by first | omega | exact zb01 _) rfl ?_
      exact ⟨by rw [zb_f (by omega)], rfl⟩
    · refine z_iconst dX11_isOnTape_15 (by decide) ?_
      refine z_goto (tgt := 20) dX11_isOnTape_16 rfl ?_
      refine z_zret dX11_isOnTape_20 rfl (by first | omega | exact zb01 _) rfl ?_
      exact ⟨by rw [zb_t (by omega)], rfl⟩

theorem c_knownWays (d : Nat) {E : zE} {m : zM} (T : zT) (X : Int → Int) (t s a cap a2 cap2 ka kcap b bcap : Int) (hJ : cJ m E T X t s a cap a2 cap2 ka kcap b bcap) : zR zX11_knownWays (d + 3) [zP 0] m E E (fun r m' => r = some (zP 6) ∧ cJ m' E T X t s a cap a2 cap2 ka kcap b bcap ∧ m' 6 2 = 1 ∧ qFr m m' ∧ m' 8 5 = m 8 5 ∧ m' 14 19 = m 14 19) := by
  have htt := cJ_t hJ
  refine zR_go [zP 0] (by decide +kernel) (Nat.le_of_ble_eq_true rfl) rfl rfl ?_
  refine z_aload_n dX11_knownWays_0 rfl ?_
  refine z_gP 3 rfl (r := 6) flX11_33 dX11_knownWays_1 (sx_0 hJ.2.2.2.2.2.2.2.1.1) rfl (hJ.1.1.2.2.2.1) (by omega) ?_
  refine z_gI 2 rfl flX11_374 dX11_knownWays_4 (sx_6 hJ.2.2.2.2.2.2.2.1.1) rfl ?_
  refine z_if_ne (tgt := 21) dX11_knownWays_7 rfl (fun h7 => ?_) (fun h7 => ?_)
  · refine z_aload_n dX11_knownWays_21 rfl ?_
    refine z_gP 3 rfl (r := 6) flX11_33 dX11_knownWays_22 (sx_0 hJ.2.2.2.2.2.2.2.1.1) rfl (hJ.1.1.2.2.2.1) (by omega) ?_
    refine z_aret dX11_knownWays_25 rfl rfl ?_
    exact ⟨rfl, hJ, by have := hJ.2.2.1.2.1; omega, qFr_rf, rfl, rfl⟩
  · refine z_aload_n dX11_knownWays_10 rfl ?_
    refine z_gP 3 rfl (r := 6) flX11_33 dX11_knownWays_11 (sx_0 hJ.2.2.2.2.2.2.2.1.1) rfl (hJ.1.1.2.2.2.1) (by omega) ?_
    refine z_aload_n dX11_knownWays_14 rfl ?_
    refine z_gP 9 rfl (r := t) flX11_71 dX11_knownWays_15 (sx_0 hJ.2.2.2.2.2.2.2.1.1) rfl (hJ.1.1.2.2.2.2.2.2.2.2.2.1) (by omega) ?_
    refine z_callV mlX11_382 dX11_knownWays_18 (sx_6 hJ.2.2.2.2.2.2.2.1.1) (av := [_]) rfl rfl (Nat.le_of_ble_eq_true rfl) (c_wfill _ (sx_6 hJ.2.2.2.2.2.2.2.1.1) (sx_7 hJ.2.2.2.2.2.2.2.1.1) t (by have := cJ_t hJ; omega) (sx_T hJ.2.2.2.2.2.2.2.1.1 (cJ_t hJ)) T.1 T.2.1 T.2.2.1 T.2.2.2 (wfD_of (tA_w hJ.2.2.2.2.2.2.2.2.1)) (tA_l hJ.2.2.2.2.2.2.2.2.1) hJ.1.2.2.2.2.1 hJ.2.1.1 hJ.2.1.2.1 hJ.2.2.1.1) (Nat.le_refl _) (Nat.le_refl _) (Nat.le_refl _) (Nat.le_refl _) ?_
    rintro _ m1 b1
    obtain ⟨j1, q1⟩ := cJ_ways hJ (m' := m1) ⟨b1.2.2.2.1, Or.inr b1.2.2.2.2, fun _ => b1.2.2.1⟩ (fun x k h6 h7 => b1.2.1 x k (by simp [fWr]; omega) (by simp [fWr]; omega))
    obtain ⟨rfl, _⟩ := id b1
    refine z_aload_n dX11_knownWays_21 rfl ?_
    refine z_gP 3 rfl (r := 6) flX11_33 dX11_knownWays_22 (sx_0 j1.2.2.2.2.2.2.2.1.1) rfl (j1.1.1.2.2.2.1) (by omega) ?_
    refine z_aret dX11_knownWays_25 rfl rfl ?_
    exact ⟨rfl, j1, b1.2.2.2.2, q1⟩

theorem c_pairingCount (d : Nat) {E : zE} {m : zM} (T : zT) (X : Int → Int) (t s a cap a2 cap2 ka kcap b bcap : Int) (hJ : cJ m E T X t s a cap a2 cap2 ka kcap b bcap) : zR zX11_pairingCount (d + 4) [zP 0] m E E (fun r m' => r = some (zI (lT T)) ∧ cJ m' E T X t s a cap a2 cap2 ka kcap b bcap ∧ m' 6 2 = 1 ∧ qFr m m' ∧ m' 8 5 = m 8 5 ∧ m' 14 19 = m 14 19) := by
  have htt := cJ_t hJ
  refine zR_go [zP 0] (by decide +kernel) (Nat.le_of_ble_eq_true rfl) rfl rfl ?_
  refine z_aload_n dX11_pairingCount_0 rfl ?_
  refine z_callV mlX11_296 dX11_pairingCount_1 (sx_0 hJ.2.2.2.2.2.2.2.1.1) (av := _) rfl rfl (Nat.le_of_ble_eq_true rfl) (c_knownWays _ T X t s a cap a2 cap2 ka kcap b bcap hJ) (Nat.le_refl _) (Nat.le_refl _) (Nat.le_refl _) (Nat.le_refl _) ?_
  rintro _ m1 ⟨rfl, j1, h62, q1⟩
  refine z_aload_n dX11_pairingCount_4 rfl ?_
  refine z_gP 9 rfl (r := t) flX11_71 dX11_pairingCount_5 (sx_0 j1.2.2.2.2.2.2.2.1.1) rfl (j1.1.1.2.2.2.2.2.2.2.2.2.1) (by omega) ?_
  refine z_callV mlX11_120 dX11_pairingCount_8 (sx_T j1.2.2.2.2.2.2.2.1.1 (cJ_t j1)).1 (av := _) rfl rfl (Nat.le_of_ble_eq_true rfl) (c_allLetters _ t (cJ_t0 j1) (sx_T j1.2.2.2.2.2.2.2.1.1 (cJ_t j1)) (j1.1.2.2.2.2.1) T.2.2.2 (tA_l j1.2.2.2.2.2.2.2.2.1).1 (j1.2.1.2.1.1)) (Nat.le_refl _) (Nat.le_refl _) (Nat.le_refl _) (Nat.le_refl _) ?_
  rintro _ _ ⟨rfl, rfl⟩
  refine z_callV mlX11_309 dX11_pairingCount_11 (sx_6 j1.2.2.2.2.2.2.2.1.1) (av := [_]) rfl rfl (Nat.le_of_ble_eq_true rfl) (c_of _ (sx_6 j1.2.2.2.2.2.2.2.1.1) (sx_7 j1.2.2.2.2.2.2.2.1.1) j1.2.2.1.1 (nT T) (tA_n j1.2.2.2.2.2.2.2.2.1) (mayT T) (j1.2.2.1.2.2 h62) (fA (nT T)) (fA_lt _)) (Nat.le_refl _) (Nat.le_refl _) (Nat.le_refl _) (Nat.le_refl _) ?_
  rintro _ _ ⟨rfl, rfl⟩
  refine z_iret dX11_pairingCount_14 rfl rfl ?_
  exact ⟨by rw [tb_all hJ.2.2.2.2.2.2.2.2.1], j1, h62, q1⟩

theorem c_hasPairing (d : Nat) {E : zE} {m : zM} (T : zT) (X : Int → Int) (t s a cap a2 cap2 ka kcap b bcap : Int) (hJ : cJ m E T X t s a cap a2 cap2 ka kcap b bcap) (k : Int) : zR zX11_hasPairing (d + 5) [zP 0, zI k] m E E (fun r m' => r = some (zI (zb (0 ≤ k ∧ k < lT T))) ∧ cJ m' E T X t s a cap a2 cap2 ka kcap b bcap ∧ qFr m m' ∧ m' 8 5 = m 8 5 ∧ m' 14 19 = m 14 19) := by
  refine zR_go [zP 0, zI k] (by decide +kernel) (Nat.le_of_ble_eq_true rfl) rfl rfl ?_
  refine z_iload_n dX11_hasPairing_0 rfl ?_
  refine z_if_lt (tgt := 16) dX11_hasPairing_1 rfl (fun h1 => ?_) (fun h1 => ?_)
  · refine z_iconst dX11_hasPairing_16 (by decide) ?_
    refine z_zret dX11_hasPairing_17 rfl (by first | omega | exact zb01 _) rfl ?_
    exact ⟨by rw [zb_f (by omega)], hJ, qFr_rf, rfl, rfl⟩
  · refine z_iload_n dX11_hasPairing_4 rfl ?_
    refine z_aload_n dX11_hasPairing_5 rfl ?_
    refine z_callV mlX11_169 dX11_hasPairing_6 (sx_0 hJ.2.2.2.2.2.2.2.1.1) (av := _) rfl rfl (Nat.le_of_ble_eq_true rfl) (c_pairingCount _ T X t s a cap a2 cap2 ka kcap b bcap hJ) (Nat.le_refl _) (Nat.le_refl _) (Nat.le_refl _) (Nat.le_refl _) ?_
    rintro _ m1 ⟨rfl, j1, h62, q1⟩
    refine z_icmp_ge (tgt := 16) dX11_hasPairing_9 rfl (fun h9 => ?_) (fun h9 => ?_)
    · refine z_iconst dX11_hasPairing_16 (by decide) ?_
      refine z_zret dX11_hasPairing_17 rfl (by first | omega | exact zb01 _) rfl ?_
      exact ⟨by rw [zb_f (by omega)], j1, q1⟩
    · refine z_iconst dX11_hasPairing_12 (by decide) ?_
      refine z_goto (tgt := 17) dX11_hasPairing_13 rfl ?_
      refine z_zret dX11_hasPairing_17 rfl (by first | omega | exact zb01 _) rfl ?_
      exact ⟨by rw [zb_t (by omega)], j1, q1⟩

theorem c_kP1 (d : Nat) {E : zE} {m : zM} (T : zT) (X : Int → Int) (t s a cap a2 cap2 ka kcap b bcap : Int) (hJ : cJ m E T X t s a cap a2 cap2 ka kcap b bcap) (h5 : m 8 5 = 1) : zR zX11_knownPairings (d) [zP 0] m E E (fun r m' => r = some (zP 8) ∧ m = m') := by
  refine zR_go [zP 0] (by decide +kernel) (Nat.le_of_ble_eq_true rfl) rfl rfl ?_
  refine z_aload_n dX11_knownPairings_0 rfl ?_
  refine z_gP 4 rfl (r := 8) flX11_40 dX11_knownPairings_1 (sx_0 hJ.2.2.2.2.2.2.2.1.1) rfl (hJ.1.1.2.2.2.2.1) (by omega) ?_
  refine z_gI 5 rfl flX11_377 dX11_knownPairings_4 (sx_8 hJ.2.2.2.2.2.2.2.1.1) rfl ?_
  refine z_if_ne (tgt := 32) dX11_knownPairings_7 rfl (fun h7 => ?_) (fun h => absurd (by omega) h)
  refine z_aload_n dX11_knownPairings_32 rfl ?_
  refine z_gP 4 rfl (r := 8) flX11_40 dX11_knownPairings_33 (sx_0 hJ.2.2.2.2.2.2.2.1.1) rfl (hJ.1.1.2.2.2.2.1) (by omega) ?_
  refine z_aret dX11_knownPairings_36 rfl rfl ?_
  exact ⟨rfl, rfl⟩

theorem c_kP0 (d : Nat) {E : zE} {m : zM} (T : zT) (X : Int → Int) (t s a cap a2 cap2 ka kcap b bcap : Int) (hJ : cJ m E T X t s a cap a2 cap2 ka kcap b bcap) (h5 : m 8 5 = 0) (hr : rm (lT T) ≤ cap) : zR zX11_knownPairings (d + 11) [zP 0] m E E (fun r m' => r = some (zP 8) ∧ cJ m' E T X t s a cap a2 cap2 ka kcap b bcap ∧ m' 8 5 = 1 ∧ qFr m m' ∧ m' 14 19 = m 14 19) := by
  have ho := bE_pos hJ.2.2.2.2.2.2.2.1
  have hN := hJ.2.2.2.2.2.2.2.1.2.2.2.2.2.2.2.2.1
  have htt := cJ_t hJ
  have etb := tb_all hJ.2.2.2.2.2.2.2.2.1
  refine zR_go [zP 0] (by decide +kernel) (Nat.le_of_ble_eq_true rfl) rfl rfl ?_
  refine z_aload_n dX11_knownPairings_0 rfl ?_
  refine z_gP 4 rfl (r := 8) flX11_40 dX11_knownPairings_1 (sx_0 hJ.2.2.2.2.2.2.2.1.1) rfl (hJ.1.1.2.2.2.2.1) (by omega) ?_
  refine z_gI 5 rfl flX11_377 dX11_knownPairings_4 (sx_8 hJ.2.2.2.2.2.2.2.1.1) rfl ?_
  refine z_if_ne (tgt := 32) dX11_knownPairings_7 rfl (fun h => absurd h (by omega)) (fun h7 => ?_)
  refine z_aload_n dX11_knownPairings_10 rfl ?_
  refine z_gP 4 rfl (r := 8) flX11_40 dX11_knownPairings_11 (sx_0 hJ.2.2.2.2.2.2.2.1.1) rfl (hJ.1.1.2.2.2.2.1) (by omega) ?_
  refine z_aload_n dX11_knownPairings_14 rfl ?_
  refine z_gP 9 rfl (r := t) flX11_71 dX11_knownPairings_15 (sx_0 hJ.2.2.2.2.2.2.2.1.1) rfl (hJ.1.1.2.2.2.2.2.2.2.2.2.1) (by omega) ?_
  refine z_aload_n dX11_knownPairings_18 rfl ?_
  refine z_callV mlX11_296 dX11_knownPairings_19 (sx_0 hJ.2.2.2.2.2.2.2.1.1) (av := _) rfl rfl (Nat.le_of_ble_eq_true rfl) (c_knownWays (d + 7) T X t s a cap a2 cap2 ka kcap b bcap hJ) (Nat.le_refl _) (Nat.le_refl _) (Nat.le_refl _) (Nat.le_refl _) ?_
  rintro _ m1 ⟨rfl, j1, h62, q1⟩
  refine z_aload_n dX11_knownPairings_22 rfl ?_
  refine z_gP 9 rfl (r := t) flX11_71 dX11_knownPairings_23 (sx_0 j1.2.2.2.2.2.2.2.1.1) rfl (j1.1.1.2.2.2.2.2.2.2.2.2.1) (by omega) ?_
  refine z_callV mlX11_120 dX11_knownPairings_26 (sx_T j1.2.2.2.2.2.2.2.1.1 (cJ_t j1)).1 (av := _) rfl rfl (Nat.le_of_ble_eq_true rfl) (c_allLetters _ t (cJ_t0 j1) (sx_T j1.2.2.2.2.2.2.2.1.1 (cJ_t j1)) (j1.1.2.2.2.2.1) T.2.2.2 (tA_l j1.2.2.2.2.2.2.2.2.1).1 (j1.2.1.2.1.1)) (Nat.le_refl _) (Nat.le_refl _) (Nat.le_refl _) (Nat.le_refl _) ?_
  rintro _ _ ⟨rfl, rfl⟩
  refine z_callV mlX11_386 dX11_knownPairings_29 (sx_8 j1.2.2.2.2.2.2.2.1.1) (av := [_, _, _]) rfl rfl (Nat.le_of_ble_eq_true rfl) (c_fill0 d 8 a cap (sx_8 j1.2.2.2.2.2.2.2.1.1) j1.2.2.2.2.2.2.2.1.2.1.1 j1.2.2.2.2.2.2.2.1.2.1.2 (by omega) (by omega) (by omega) (by omega) (by omega) (by omega) (sx_6 j1.2.2.2.2.2.2.2.1.1) (sx_7 j1.2.2.2.2.2.2.2.1.1) t (by omega) (sx_T j1.2.2.2.2.2.2.2.1.1 (cJ_t j1)) (by omega) (by omega) T.1 T.2.1 T.2.2.1 T.2.2.2 (wfD_of (tA_w j1.2.2.2.2.2.2.2.2.1)) (tA_l j1.2.2.2.2.2.2.2.2.1) (bar_of (tA_w j1.2.2.2.2.2.2.2.2.1) j1.2.2.2.2.2.2.2.2.1.2.1 j1.2.2.2.2.2.2.2.2.1.1.2.2) (fA (nT T)) (fA_lt _) j1.2.2.2.1.1 j1.2.2.2.1.2.1 j1.2.2.1.1 (j1.2.2.1.2.2 h62) j1.1.2.2.2.2.1 j1.2.1.2.1 (by rw [etb]; exact hr)) (Nat.le_refl _) (Nat.le_refl _) (Nat.le_refl _) (Nat.le_refl _) ?_
  rintro _ m2 ⟨rfl, f2, b2, h2⟩
  obtain ⟨j2, q2⟩ := cJ_fill j1 (m' := m2) j1.2.2.2.2.2.2.2.1 (bQ_new hJ.2.2.2.2.2.2.2.2.1 b2 h2 hr) h2 (fun x k n8 na nb => f2 x k (by simp [fPt]; omega) (by simp [fPt]))
  refine z_aload_n dX11_knownPairings_32 rfl ?_
  refine z_gP 4 rfl (r := 8) flX11_40 dX11_knownPairings_33 (sx_0 j2.2.2.2.2.2.2.2.1.1) rfl (j2.1.1.2.2.2.2.1) (by omega) ?_
  refine z_aret dX11_knownPairings_36 rfl rfl ?_
  exact ⟨rfl, j2, h2, qFr_tr q1.1 q2.1, q2.2.trans q1.2.2⟩

theorem c_kPg (d : Nat) {E : zE} {m : zM} (T : zT) (X : Int → Int) (t s a cap a2 cap2 ka kcap b bcap : Int) (hJ : cJ m E T X t s a cap a2 cap2 ka kcap b bcap) (h5 : m 8 5 = 0) (hr : cap < rm (lT T)) : zR zX11_knownPairings (d + 11) [zP 0] m E (znew (znew E 2 (rm (lT T)) (rm (lT T)).toNat) 1 (rm (lT T)) (rm (lT T)).toNat) (fun r m' => r = some (zP 8) ∧ cJ m' (znew (znew E 2 (rm (lT T)) (rm (lT T)).toNat) 1 (rm (lT T)) (rm (lT T)).toNat) T X t s (E.2.1 : Int) (rm (lT T)) a2 cap2 ka kcap b bcap ∧ m' 8 5 = 1 ∧ qFr m m' ∧ m' 14 19 = m 14 19) := by
  have ho := bE_pos hJ.2.2.2.2.2.2.2.1
  have hN := hJ.2.2.2.2.2.2.2.1.2.2.2.2.2.2.2.2.1
  have htt := cJ_t hJ
  have etb := tb_all hJ.2.2.2.2.2.2.2.2.1
  have lA : E.2.1 ≤ (znew (znew E 2 (rm (lT T)) (rm (lT T)).toNat) 1 (rm (lT T)) (rm (lT T)).toNat).2.1 := by show E.2.1 ≤ E.2.1 + 2; omega
  have lB : E.2.2 ≤ (znew (znew E 2 (rm (lT T)) (rm (lT T)).toNat) 1 (rm (lT T)) (rm (lT T)).toNat).2.2 := by show E.2.2 ≤ E.2.2 + _ + _; omega
  refine zR_go [zP 0] (by decide +kernel) (Nat.le_of_ble_eq_true rfl) rfl rfl ?_
  refine z_aload_n dX11_knownPairings_0 rfl ?_
  refine z_gP 4 rfl (r := 8) flX11_40 dX11_knownPairings_1 (sx_0 hJ.2.2.2.2.2.2.2.1.1) rfl (hJ.1.1.2.2.2.2.1) (by omega) ?_
  refine z_gI 5 rfl flX11_377 dX11_knownPairings_4 (sx_8 hJ.2.2.2.2.2.2.2.1.1) rfl ?_
  refine z_if_ne (tgt := 32) dX11_knownPairings_7 rfl (fun h => absurd h (by omega)) (fun h7 => ?_)
  refine z_aload_n dX11_knownPairings_10 rfl ?_
  refine z_gP 4 rfl (r := 8) flX11_40 dX11_knownPairings_11 (sx_0 hJ.2.2.2.2.2.2.2.1.1) rfl (hJ.1.1.2.2.2.2.1) (by omega) ?_
  refine z_aload_n dX11_knownPairings_14 rfl ?_
  refine z_gP 9 rfl (r := t) flX11_71 dX11_knownPairings_15 (sx_0 hJ.2.2.2.2.2.2.2.1.1) rfl (hJ.1.1.2.2.2.2.2.2.2.2.2.1) (by omega) ?_
  refine z_aload_n dX11_knownPairings_18 rfl ?_
  refine z_callV mlX11_296 dX11_knownPairings_19 (sx_0 hJ.2.2.2.2.2.2.2.1.1) (av := _) rfl rfl (Nat.le_of_ble_eq_true rfl) (c_knownWays (d + 7) T X t s a cap a2 cap2 ka kcap b bcap hJ) (Nat.le_refl _) (Nat.le_refl _) lA lB ?_
  rintro _ m1 ⟨rfl, j1, h62, q1⟩
  refine z_aload_n dX11_knownPairings_22 rfl ?_
  refine z_gP 9 rfl (r := t) flX11_71 dX11_knownPairings_23 (sx_0 j1.2.2.2.2.2.2.2.1.1) rfl (j1.1.1.2.2.2.2.2.2.2.2.2.1) (by omega) ?_
  refine z_callV mlX11_120 dX11_knownPairings_26 (sx_T j1.2.2.2.2.2.2.2.1.1 (cJ_t j1)).1 (av := _) rfl rfl (Nat.le_of_ble_eq_true rfl) (c_allLetters _ t (cJ_t0 j1) (sx_T j1.2.2.2.2.2.2.2.1.1 (cJ_t j1)) (j1.1.2.2.2.2.1) T.2.2.2 (tA_l j1.2.2.2.2.2.2.2.2.1).1 (j1.2.1.2.1.1)) (Nat.le_refl _) (Nat.le_refl _) lA lB ?_
  rintro _ _ ⟨rfl, rfl⟩
  refine z_callV mlX11_386 dX11_knownPairings_29 (sx_8 j1.2.2.2.2.2.2.2.1.1) (av := [_, _, _]) rfl rfl (Nat.le_of_ble_eq_true rfl) (c_fill1 d 8 a cap (sx_8 j1.2.2.2.2.2.2.2.1.1) j1.2.2.2.2.2.2.2.1.2.1.1 j1.2.2.2.2.2.2.2.1.2.1.2 (by omega) (by omega) (by omega) (by omega) (by omega) (by omega) (sx_6 j1.2.2.2.2.2.2.2.1.1) (sx_7 j1.2.2.2.2.2.2.2.1.1) t (by omega) (sx_T j1.2.2.2.2.2.2.2.1.1 (cJ_t j1)) (by omega) (by omega) T.1 T.2.1 T.2.2.1 T.2.2.2 (wfD_of (tA_w j1.2.2.2.2.2.2.2.2.1)) (tA_l j1.2.2.2.2.2.2.2.2.1) (bar_of (tA_w j1.2.2.2.2.2.2.2.2.1) j1.2.2.2.2.2.2.2.2.1.2.1 j1.2.2.2.2.2.2.2.2.1.1.2.2) (fA (nT T)) (fA_lt _) j1.2.2.2.1.1 j1.2.2.2.1.2.1 j1.2.2.1.1 (j1.2.2.1.2.2 h62) j1.1.2.2.2.2.1 j1.2.1.2.1 (by omega) (by omega) (by omega) (rm (lT T)) (by rw [etb]) hr) lA lB (Nat.le_refl _) (Nat.le_refl _) ?_
  rintro _ m2 ⟨rfl, f2, b2, h2⟩
  obtain ⟨j2, q2⟩ := cJ_fill j1 (m' := m2) (bE_fill j1.2.2.2.2.2.2.2.1 (rm_cp _) hr) (bQ_new hJ.2.2.2.2.2.2.2.2.1 b2 h2 (Int.le_refl _)) h2 (fun x k n8 na nb => f2 x k (by simp [fPt]; omega) (by simp [fPt]))
  refine z_aload_n dX11_knownPairings_32 rfl ?_
  refine z_gP 4 rfl (r := 8) flX11_40 dX11_knownPairings_33 (sx_0 j2.2.2.2.2.2.2.2.1.1) rfl (j2.1.1.2.2.2.2.1) (by omega) ?_
  refine z_aret dX11_knownPairings_36 rfl rfl ?_
  exact ⟨rfl, j2, h2, qFr_tr q1.1 q2.1, q2.2.trans q1.2.2⟩

theorem c_kP (d : Nat) {E : zE} {m : zM} (T : zT) (X : Int → Int) (t s a cap a2 cap2 ka kcap b bcap : Int) (hJ : cJ m E T X t s a cap a2 cap2 ka kcap b bcap) : ∃ (E1 : zE) (a1 cap1 : Int), (E.2.1 ≤ E1.2.1 ∧ E.2.2 ≤ E1.2.2) ∧ (m 8 5 = 1 → E1 = E) ∧ zR zX11_knownPairings (d + 11) [zP 0] m E E1 (fun r m' => r = some (zP 8) ∧ cJ m' E1 T X t s a1 cap1 a2 cap2 ka kcap b bcap ∧ m' 8 5 = 1 ∧ qFr m m' ∧ m' 14 19 = m 14 19) := by
  rcases hJ.2.2.2.1.2.2.1 with h5 | h5
  · by_cases hr : rm (lT T) ≤ cap
    · exact ⟨E, a, cap, ⟨Nat.le_refl _, Nat.le_refl _⟩, fun h => rfl, c_kP0 d T X t s a cap a2 cap2 ka kcap b bcap hJ h5 hr⟩
    · refine ⟨(znew (znew E 2 (rm (lT T)) (rm (lT T)).toNat) 1 (rm (lT T)) (rm (lT T)).toNat), (E.2.1 : Int), rm (lT T), ⟨?_, ?_⟩, fun h => absurd h (by omega), c_kPg d T X t s a cap a2 cap2 ka kcap b bcap hJ h5 (by omega)⟩
      · show E.2.1 ≤ E.2.1 + 2; omega
      · show E.2.2 ≤ E.2.2 + _ + _; omega
  · refine ⟨E, a, cap, ⟨Nat.le_refl _, Nat.le_refl _⟩, fun h => rfl, zR_imp (c_kP1 (d + 11) T X t s a cap a2 cap2 ka kcap b bcap hJ h5) ?_⟩
    rintro r m' ⟨rfl, rfl⟩
    exact ⟨rfl, hJ, h5, qFr_rf, rfl⟩

theorem c_kR (d : Nat) {E : zE} {m : zM} (T : zT) (X : Int → Int) (t s a cap a2 cap2 ka kcap b bcap : Int) (hJ : cJ m E T X t s a cap a2 cap2 ka kcap b bcap) : ∃ (E1 : zE) (a1 cap1 : Int), (E.2.1 ≤ E1.2.1 ∧ E.2.2 ≤ E1.2.2) ∧ (m 8 5 = 1 → E1 = E) ∧ zR zX11_knownRounds (d + 12) [zP 0] m E E1 (fun r m' => r = some (zP 8) ∧ cJ m' E1 T X t s a1 cap1 a2 cap2 ka kcap b bcap ∧ m' 8 5 = 1 ∧ m' 8 6 = 1 ∧ qFr m m' ∧ m' 14 19 = m 14 19) := by
  obtain ⟨E1, a1, cap1, le, he, hk⟩ := c_kP d T X t s a cap a2 cap2 ka kcap b bcap hJ
  refine ⟨E1, a1, cap1, le, he, ?_⟩
  refine zR_go [zP 0, zN] (by decide +kernel) (Nat.le_of_ble_eq_true rfl) rfl rfl ?_
  refine z_aload_n dX11_knownRounds_0 rfl ?_
  refine z_callV mlX11_124 dX11_knownRounds_1 (sx_0 hJ.2.2.2.2.2.2.2.1.1) (av := _) rfl rfl (Nat.le_of_ble_eq_true rfl) hk le.1 le.2 (Nat.le_refl _) (Nat.le_refl _) ?_
  rintro _ m1 ⟨rfl, j1, h51, q1⟩
  have z1 := j1.2.2.2.1.2.2.2.1 h51
  refine z_ast 1 dX11_knownRounds_4 rfl (Nat.le_of_ble_eq_true rfl) ?_
  refine z_aload_n dX11_knownRounds_5 rfl ?_
  refine z_gI 6 rfl flX11_378 dX11_knownRounds_6 (sx_8 j1.2.2.2.2.2.2.2.1.1) rfl ?_
  try dsimp only [zs0, zsI, zsP, zsN, zsJ, zsS, zst2, Nat.reduceAdd]
  refine z_if_ne (tgt := 16) dX11_knownRounds_9 rfl (fun h9 => ?_) (fun h9 => ?_)
  · refine z_aload_n dX11_knownRounds_16 rfl ?_
    refine z_aret dX11_knownRounds_17 rfl rfl ?_
    exact ⟨rfl, j1, h51, by have := z1.1; omega, q1⟩
  · refine z_aload_n dX11_knownRounds_12 rfl ?_
    refine z_callV mlX11_389 dX11_knownRounds_13 (sx_8 j1.2.2.2.2.2.2.2.1.1) (av := _) rfl rfl (Nat.le_of_ble_eq_true rfl) (c_traceRounds _ 8 a1 cap1 (sx_8 j1.2.2.2.2.2.2.2.1.1) j1.2.2.2.2.2.2.2.1.2.1.1 j1.2.2.2.2.2.2.2.1.2.1.2 (by have := bE_pos j1.2.2.2.2.2.2.2.1; omega) (by have := bE_pos j1.2.2.2.2.2.2.2.1; omega) (by have := bE_pos j1.2.2.2.2.2.2.2.1; omega) (nT T) (tA_n j1.2.2.2.2.2.2.2.2.1) (mayT T) (cOd T.1 T.2.1) (cBr T.1 T.2.1) (fA (nT T)) (fun x hx => by rw [fA_bit]; exact decide_eq_true hx) (tPairs T) ((show m1 8 6 = 0 by omega) ▸ z1.2.1) (prs_ok j1.2.2.2.2.2.2.2.2.1) (prs_cap j1.2.2.2.2.2.2.2.2.1 z1.2.2) (prs_len j1.2.2.2.2.2.2.2.2.1)) (Nat.le_refl _) (Nat.le_refl _) (Nat.le_refl _) (Nat.le_refl _) ?_
    rintro _ m2 ⟨rfl, f2, b2⟩
    have e2 : m2 8 5 = 1 := (f2 8 5 (by simp; have := bE_pos j1.2.2.2.2.2.2.2.1; omega) (by simp)).trans h51
    have e3 : m2 8 6 = 1 := b2.2.2.2.2.2.1
    obtain ⟨j2, q2⟩ := cJ_fill j1 (m' := m2) j1.2.2.2.2.2.2.2.1 (bQ_rho j1.2.2.2.2.2.2.2.2.1 b2 e2 z1.2.2) e2 (fun x k n8 na nb => f2 x k (by simp; omega) (by simp; omega))
    refine z_aload_n dX11_knownRounds_16 rfl ?_
    refine z_aret dX11_knownRounds_17 rfl rfl ?_
    exact ⟨rfl, j2, e2, e3, qFr_tr q1.1 q2.1, q2.2.trans q1.2⟩
