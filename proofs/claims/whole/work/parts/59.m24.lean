theorem q_opens (d : Nat) {E : zE} {m : zM} (hE : shM E) (hI : mI m) (dd : Int) (hN : mN m) (h0 : 0 ≤ dd) (h1 : dd < ((tD (mT m)).length : Int)) : zR zX12_opens (d + 1) [zP aM, zI dd] m E E (fun r m' => r = none ∧ zfr fW m m' ∧ mOp m' (tCo (mT m) dd) (tH (mT m))) := by
  have hm := hI.1.1
  obtain ⟨hw, hl, hn0⟩ := mI_wl hI
  have b1 := hw.1
  have b2 := hw.2.1
  have b3 := hw.2.2.1
  obtain ⟨g, e, hr⟩ := tD_row hI.1 h0 h1
  have nD := mN_D hN
  have hh : m aM f_letters / 2 = ((tH (mT m) : Nat) : Int) := by show _ = (((m aM f_letters / 2).toNat : Nat) : Int); omega
  have hco := tCo_row hI.1 h0 h1
  refine zR_go [zP aM, zI dd] (by decide +kernel) (Nat.le_of_ble_eq_true rfl) rfl rfl ?_
  refine z_aload_n dX12_opens_0 rfl ?_
  refine z_aload_n dX12_opens_1 rfl ?_
  refine z_gP 28 rfl (r := a_names) flX12_63 dX12_opens_2 (sh_M hE) rfl (pt_names hm) (by decide) ?_
  refine z_iload_n dX12_opens_5 rfl ?_
  refine z_lalv dX12_opens_6 (sh_names hE) (by omega) (by omega) ((nD.2.2.1 dd h0 h1).trans e) ?_
  refine z_aload_n dX12_opens_7 rfl ?_
  refine z_gI f_letters rfl flX12_124 dX12_opens_8 (sh_M hE) rfl ?_
  refine z_iconst dX12_opens_11 (by decide) ?_
  refine z_div dX12_opens_12 (by omega) (by omega) ?_
  rw [hh]
  refine z_callV mlX12_258 dX12_opens_13 (sh_M hE) (av := [_, _]) rfl rfl (Nat.le_of_ble_eq_true rfl) (r_unpacks _ hE hm g (tH (mT m)) (by omega) (cRow_rg hw hr)) (Nat.le_refl _) (Nat.le_refl _) (Nat.le_refl _) (Nat.le_refl _) ?_
  rintro _ m2 ⟨rfl, u1, u2, u3⟩
  refine z_vret dX12_opens_16 rfl rfl ?_
  refine ⟨rfl, zfr_sub u1 (by decide), u2, by omega, fun i q1 q2 => ?_, fun i q1 q2 => ?_⟩
  · rw [u3 i q1 q2]
    unfold tCo
    rw [e, uF_eq (cRow_rg hw hr) q1 q2]
  · rw [zfr_cell (a := a_c) u1 (by decide)]
    exact hco.1 i q1 q2

theorem q_isPairing (d : Nat) {E : zE} {m : zM} (hE : shM E) (hI : mI m) (k : Int)  : zR zX12_isPairing (d + 11) [zP aM, zI k] m E E (fun r m' => r = some (zI (zb (0 ≤ k ∧ k < ((tPairs (mT m)).length : Int)))) ∧ mI m' ∧ zfr fLays m m' ∧ mL m') := by
  have hm := hI.1.1
  obtain ⟨hw, hl, hn0⟩ := mI_wl hI
  have b1 := hw.1
  have b2 := hw.2.1
  have b3 := hw.2.2.1
  refine zR_go [zP aM, zI k] (by decide +kernel) (Nat.le_of_ble_eq_true rfl) rfl rfl ?_
  refine z_aload_n dX12_isPairing_0 rfl ?_
  refine z_callV mlX12_194 dX12_isPairing_1 (sh_M hE) (av := _) rfl rfl (Nat.le_of_ble_eq_true rfl) (q_lays _ hE hI) (Nat.le_refl _) (Nat.le_refl _) (Nat.le_refl _) (Nat.le_refl _) ?_
  rintro _ m1 ⟨rfl, hI1, f1, hL1⟩
  have hm1 := hI1.1.1
  have hlen := mL_len hI1.1 hL1
  rw [mT_fr f1 (by decide)] at hlen
  refine z_iload_n dX12_isPairing_4 rfl ?_
  refine z_iconst dX12_isPairing_5 (by decide) ?_
  refine z_aload_n dX12_isPairing_6 rfl ?_
  refine z_gI f_laid rfl flX12_172 dX12_isPairing_7 (sh_M hE) rfl ?_
  refine z_iconst dX12_isPairing_10 (by decide) ?_
  refine z_sub dX12_isPairing_11 (by omega) ?_
  refine z_callS mlX12_140 dX12_isPairing_12 (av := [_, _, _]) rfl rfl (Nat.le_of_ble_eq_true rfl) (r_isIn _ hE hm1 k 0 _) (Nat.le_refl _) (Nat.le_refl _) (Nat.le_refl _) (Nat.le_refl _) ?_
  rintro _ _ ⟨rfl, rfl⟩
  refine z_zret dX12_isPairing_15 rfl (by first | omega | exact zb01 _) rfl ?_
  exact ⟨by rw [zb_cong (show (0 ≤ k ∧ k ≤ m1 aM f_laid - 1) ↔ (0 ≤ k ∧ k < ((tPairs (mT m)).length : Int)) by omega)], hI1, f1, hL1⟩

theorem q_isDiagram (d : Nat) {E : zE} {m : zM} (hE : shM E) (hI : mI m) (k : Int)  : zR zX12_isDiagram (d + 14) [zP aM, zI k] m E E (fun r m' => r = some (zI (zb (0 ≤ k ∧ k < ((tD (mT m)).length : Int)))) ∧ mI m' ∧ zfr fNames m m' ∧ mL m' ∧ mN m') := by
  have hm := hI.1.1
  obtain ⟨hw, hl, hn0⟩ := mI_wl hI
  have b1 := hw.1
  have b2 := hw.2.1
  have b3 := hw.2.2.1
  refine zR_go [zP aM, zI k] (by decide +kernel) (Nat.le_of_ble_eq_true rfl) rfl rfl ?_
  refine z_aload_n dX12_isDiagram_0 rfl ?_
  refine z_callV mlX12_273 dX12_isDiagram_1 (sh_M hE) (av := _) rfl rfl (Nat.le_of_ble_eq_true rfl) (q_names _ hE hI) (Nat.le_refl _) (Nat.le_refl _) (Nat.le_refl _) (Nat.le_refl _) ?_
  rintro _ m1 ⟨rfl, hI1, f1, hL1, hN1⟩
  have hm1 := hI1.1.1
  have nD := mN_D hN1
  rw [mT_fr f1 (by decide)] at nD
  refine z_iload_n dX12_isDiagram_4 rfl ?_
  refine z_iconst dX12_isDiagram_5 (by decide) ?_
  refine z_aload_n dX12_isDiagram_6 rfl ?_
  refine z_gI f_diagrams rfl flX12_266 dX12_isDiagram_7 (sh_M hE) rfl ?_
  refine z_iconst dX12_isDiagram_10 (by decide) ?_
  refine z_sub dX12_isDiagram_11 (by omega) ?_
  refine z_callS mlX12_140 dX12_isDiagram_12 (av := [_, _, _]) rfl rfl (Nat.le_of_ble_eq_true rfl) (r_isIn _ hE hm1 k 0 _) (Nat.le_refl _) (Nat.le_refl _) (Nat.le_refl _) (Nat.le_refl _) ?_
  rintro _ _ ⟨rfl, rfl⟩
  refine z_zret dX12_isDiagram_15 rfl (by first | omega | exact zb01 _) rfl ?_
  exact ⟨by rw [zb_cong (show (0 ≤ k ∧ k ≤ m1 aM f_diagrams - 1) ↔ (0 ≤ k ∧ k < ((tD (mT m)).length : Int)) by omega)], hI1, f1, hL1, hN1⟩

theorem q_diagramMany (d : Nat) {E : zE} {m : zM} (hE : shM E) (hI : mI m)   : zR zX12_diagramMany (d + 14) [zP aM] m E E (fun r m' => r = some (zI ((tD (mT m)).length : Int)) ∧ mI m' ∧ zfr fNames m m') := by
  have hm := hI.1.1
  obtain ⟨hw, hl, hn0⟩ := mI_wl hI
  have b1 := hw.1
  have b2 := hw.2.1
  have b3 := hw.2.2.1
  refine zR_go [zP aM] (by decide +kernel) (Nat.le_of_ble_eq_true rfl) rfl rfl ?_
  refine z_aload_n dX12_diagramMany_0 rfl ?_
  refine z_callV mlX12_273 dX12_diagramMany_1 (sh_M hE) (av := _) rfl rfl (Nat.le_of_ble_eq_true rfl) (q_names _ hE hI) (Nat.le_refl _) (Nat.le_refl _) (Nat.le_refl _) (Nat.le_refl _) ?_
  rintro _ m1 ⟨rfl, hI1, f1, hL1, hN1⟩
  have hm1 := hI1.1.1
  have nD := mN_D hN1
  rw [mT_fr f1 (by decide)] at nD
  refine z_aload_n dX12_diagramMany_4 rfl ?_
  refine z_gI f_diagrams rfl flX12_266 dX12_diagramMany_5 (sh_M hE) rfl ?_
  refine z_iret dX12_diagramMany_8 rfl rfl ?_
  exact ⟨by rw [nD.1], hI1, f1⟩

theorem q_isLinked (d : Nat) {E : zE} {m : zM} (hE : shM E) (hI : mI m) (dd : Int) (hN : mN m) (h0 : 0 ≤ dd) (h1 : dd < ((tD (mT m)).length : Int)) : zR zX12_isLinked (d + 5) [zP aM, zI dd] m E E (fun r m' => r = some (zI (zb (tLost (m a_c) (tH (mT m)) (tCo (mT m) dd) (tAll (m a_c)) = 0))) ∧ zfr fW m m') := by
  have hm := hI.1.1
  obtain ⟨hw, hl, hn0⟩ := mI_wl hI
  have b1 := hw.1
  have b2 := hw.2.1
  have b3 := hw.2.2.1
  refine zR_go [zP aM, zI dd] (by decide +kernel) (Nat.le_of_ble_eq_true rfl) rfl rfl ?_
  refine z_aload_n dX12_isLinked_0 rfl ?_
  refine z_iload_n dX12_isLinked_1 rfl ?_
  refine z_callV mlX12_289 dX12_isLinked_2 (sh_M hE) (av := [_]) rfl rfl (Nat.le_of_ble_eq_true rfl) (q_opens _ hE hI dd hN h0 h1) (Nat.le_refl _) (Nat.le_refl _) (Nat.le_refl _) (Nat.le_refl _) ?_
  rintro _ m1 ⟨rfl, f1, o1⟩
  have hm1 : ptM m1 := (mI_fr hI (zfr_sub f1 (by decide))).1.1
  have ec : m1 a_c = m a_c := zfr_cell f1 (by decide)
  have hw1 : wfC (m1 a_c) := by rw [ec]; exact hw
  have hA := tAll_lt hw1
  refine z_aload_n dX12_isLinked_5 rfl ?_
  refine z_aload_n dX12_isLinked_6 rfl ?_
  refine z_callV mlX12_292 dX12_isLinked_7 (sh_M hE) (av := _) rfl rfl (Nat.le_of_ble_eq_true rfl) (r_allPoints _ hE hm1 hw1) (Nat.le_refl _) (Nat.le_refl _) (Nat.le_refl _) (Nat.le_refl _) ?_
  rintro _ _ ⟨rfl, rfl⟩
  refine z_callV mlX12_295 dX12_isLinked_10 (sh_M hE) (av := [_]) rfl rfl (Nat.le_of_ble_eq_true rfl) (q_lost _ hE hm1 hw1 o1 (tAll (m1 a_c)) hA) (Nat.le_refl _) (Nat.le_refl _) (Nat.le_refl _) (Nat.le_refl _) ?_
  rintro _ _ ⟨rfl, rfl⟩
  refine z_if_ne (tgt := 20) dX12_isLinked_13 rfl (fun h13 => ?_) (fun h13 => ?_)
  · refine z_iconst dX12_isLinked_20 (by decide) ?_
    refine z_zret dX12_isLinked_21 rfl (by first | omega | exact zb01 _) rfl ?_
    rw [ec] at h13
    exact ⟨by rw [zb_f (by omega)], f1⟩
  · refine z_iconst dX12_isLinked_16 (by decide) ?_
    refine z_goto (tgt := 21) dX12_isLinked_17 rfl ?_
    refine z_zret dX12_isLinked_21 rfl (by first | omega | exact zb01 _) rfl ?_
    rw [ec] at h13
    exact ⟨by rw [zb_t (by omega)], f1⟩

theorem q_isConnected (d : Nat) {E : zE} {m : zM} (hE : shM E) (hI : mI m) (dd : Int) (hN : mN m) (h0 : 0 ≤ dd) (h1 : dd < ((tD (mT m)).length : Int)) : zR zX12_isConnected (d + 5) [zP aM, zI dd] m E E (fun r m' => r = some (zI (zb (tParts (tH (mT m)) (tCo (mT m) dd) (-1) (tAll (m a_c)) = 1))) ∧ zfr fW m m') := by
  have hm := hI.1.1
  obtain ⟨hw, hl, hn0⟩ := mI_wl hI
  have b1 := hw.1
  have b2 := hw.2.1
  have b3 := hw.2.2.1
  refine zR_go [zP aM, zI dd] (by decide +kernel) (Nat.le_of_ble_eq_true rfl) rfl rfl ?_
  refine z_aload_n dX12_isConnected_0 rfl ?_
  refine z_iload_n dX12_isConnected_1 rfl ?_
  refine z_callV mlX12_289 dX12_isConnected_2 (sh_M hE) (av := [_]) rfl rfl (Nat.le_of_ble_eq_true rfl) (q_opens _ hE hI dd hN h0 h1) (Nat.le_refl _) (Nat.le_refl _) (Nat.le_refl _) (Nat.le_refl _) ?_
  rintro _ m1 ⟨rfl, f1, o1⟩
  have hm1 : ptM m1 := (mI_fr hI (zfr_sub f1 (by decide))).1.1
  have ec : m1 a_c = m a_c := zfr_cell f1 (by decide)
  have hw1 : wfC (m1 a_c) := by rw [ec]; exact hw
  have hA := tAll_lt hw1
  refine z_aload_n dX12_isConnected_5 rfl ?_
  refine z_aload_n dX12_isConnected_6 rfl ?_
  refine z_callV mlX12_292 dX12_isConnected_7 (sh_M hE) (av := _) rfl rfl (Nat.le_of_ble_eq_true rfl) (r_allPoints _ hE hm1 hw1) (Nat.le_refl _) (Nat.le_refl _) (Nat.le_refl _) (Nat.le_refl _) ?_
  rintro _ _ ⟨rfl, rfl⟩
  refine z_iconst dX12_isConnected_10 (by decide) ?_
  refine z_callV mlX12_298 dX12_isConnected_11 (sh_M hE) (av := [_, _]) rfl rfl (Nat.le_of_ble_eq_true rfl) (q_partsOf _ hE hm1 hw1 o1 (tAll (m1 a_c)) (-1) hA) (Nat.le_refl _) (Nat.le_refl _) (Nat.le_refl _) (Nat.le_refl _) ?_
  rintro _ _ ⟨rfl, rfl⟩
  refine z_iconst dX12_isConnected_14 (by decide) ?_
  refine z_icmp_ne (tgt := 22) dX12_isConnected_15 rfl (fun h15 => ?_) (fun h15 => ?_)
  · refine z_iconst dX12_isConnected_22 (by decide) ?_
    refine z_zret dX12_isConnected_23 rfl (by first | omega | exact zb01 _) rfl ?_
    rw [ec] at h15
    exact ⟨by rw [zb_f (by omega)], f1⟩
  · refine z_iconst dX12_isConnected_18 (by decide) ?_
    refine z_goto (tgt := 23) dX12_isConnected_19 rfl ?_
    refine z_zret dX12_isConnected_23 rfl (by first | omega | exact zb01 _) rfl ?_
    rw [ec] at h15
    exact ⟨by rw [zb_t (by omega)], f1⟩

theorem q_countOf (d : Nat) {E : zE} {m : zM} (hE : shM E) (hm : ptM m) (hk : mOK m) (hL : mL m) (hN : mN m) (dd : Int) (h0 : 0 ≤ dd) (h1 : dd < ((tD (mT m)).length : Int)) : zR zX12_countOf d [zP aM, zI dd] m E E (fun r m' => r = some (zI (tCnt (mT m) dd)) ∧ m = m') := by
  have hl := mL_len hk hL
  have h := r_countOf d hE hm dd hl.2.1
  have e : zsum (fun k => zb (m a_diagramOf k = dd)) (m aM f_laid).toNat 0 = tCnt (mT m) dd := zsum_lS0 hl.2.2.symm (fun t x ht => zb_cong (((mN_D hN).2.2.2 t x ht).2.2 dd h0 h1))
  rw [e] at h
  exact h
theorem lS_bd {α : Type} {f : α → Int} : ∀ {l : List α}, (∀ x, 0 ≤ f x ∧ f x ≤ 1) → 0 ≤ lS f l ∧ lS f l ≤ l.length
  | [], _ => by simp [lS]
  | x :: l, h => by
    have := h x
    have := lS_bd (l := l) h
    rw [lS, List.length_cons]
    omega
theorem tCnt_bd (T : zT) (d : Int) : 0 ≤ tCnt T d ∧ tCnt T d ≤ (tPairs T).length := lS_bd (fun x => by have := zb01 (tName T x = tNm T d); omega)
