theorem x_rings (d : Nat) {E : zE} {m : zM} (T : zT) (X : Int → Int) (t s a cap a2 cap2 ka kcap b bcap : Int) (hJ : cJ m E T X t s a cap a2 cap2 ka kcap b bcap) (h5 : m 8 5 = 1) (k : Int) (k0 : 0 ≤ k) (k1 : k < lT T) (o : Int) (o0 : 0 ≤ o) (o1 : o < lT T) : zR zX4_commonRings (d + 2) [zP 8, zI k, zI o] m E E (fun r m' => r = some (zI ((tRg T k o : Nat) : Int)) ∧ m = m') := by
  have hP := hJ.2.2.2.2.2.2.2.2.1
  have hn := tA_n hP
  have hni := nT_i hP
  obtain ⟨kn, rfl⟩ := Int.eq_ofNat_of_zero_le k0
  obtain ⟨oN, rfl⟩ := Int.eq_ofNat_of_zero_le o0
  have hk := tMt_k (T := T) (k := kn) (by unfold lT at k1; omega)
  have hko := tMt_k (T := T) (k := oN) (by unfold lT at o1; omega)
  have hr := prs_ok hP _ (List.mem_of_getElem? hk)
  have hro := prs_ok hP _ (List.mem_of_getElem? hko)
  have z := hJ.2.2.2.1.2.2.2.1 h5
  have hc := prs_cap hP z.2.2
  have e1 : ∀ x, x < nT T → dg (sMk (fA (nT T)) (tMt T (kn : Int))) (nT T) x = (tMt T (kn : Int) (x : Int)).toNat := fun x hx => by have := mate_is hn hr hx; omega
  have e2 : ∀ x, x < nT T → dg (sMk (fA (nT T)) (tMt T (oN : Int))) (nT T) x = (tMt T (oN : Int) (x : Int)).toNat := fun x hx => by have := mate_is hn hro hx; omega
  have l1 : ∀ x, x < nT T → dg (sMk (fA (nT T)) (tMt T (kn : Int))) (nT T) x < nT T := fun x hx => dg_n hr.1 hx
  have l2 : ∀ x, x < nT T → dg (sMk (fA (nT T)) (tMt T (oN : Int))) (nT T) x < nT T := fun x hx => dg_n hro.1 hx
  refine zR_imp (c_commonRings d 8 a cap (sx_8 hJ.2.2.2.2.2.2.2.1.1) hJ.2.2.2.2.2.2.2.1.2.1.1 hJ.2.2.2.2.2.2.2.1.2.1.2 (by have := bE_pos hJ.2.2.2.2.2.2.2.1; omega) z.2.1.1 z.2.1.2.1 (nT T) hn z.2.1.2.2.2.2.1 (kn : Int) (by omega) (by unfold lT at k1; omega) _ (dg_16 hr.1 hn) (z.2.1.2.2.2.2.2.2 kn _ hk).1 l1 (oN : Int) (by omega) (by unfold lT at o1; omega) _ (dg_16 hro.1 hn) (z.2.1.2.2.2.2.2.2 oN _ hko).1 l2) ?_
  rintro r m' ⟨rfl, rfl⟩
  refine ⟨?_, rfl⟩
  unfold tRg
  rw [sRiG_cg (fun x hx => l2 _ (l1 x hx)) (fun x hx => by rw [e1 x hx]) (fun x hx => by rw [e2 _ (l1 x hx), e1 x hx]) (nT T) 0 0 (by omega)]
theorem x_dof (d : Nat) {E : zE} {m : zM} (T : zT) (X : Int → Int) (t s a cap a2 cap2 ka kcap b bcap : Int) (hJ : cJ m E T X t s a cap a2 cap2 ka kcap b bcap) (h9 : m 14 19 = 1) (k : Int) (k0 : 0 ≤ k) (k1 : k < lT T) : zR zX0_diagramOf (d) [zP 14, zI k] m E E (fun r m' => r = some (zI (tIx T (tName T (tMt T k)))) ∧ m = m') := by
  have hP := hJ.2.2.2.2.2.2.2.2.1
  obtain ⟨⟨D, F, cc, z1, z2, z3⟩, z4⟩ := hJ.2.2.2.2.2.1.2.2.2.2.2.2 h9
  obtain ⟨kn, rfl⟩ := Int.eq_ofNat_of_zero_le k0
  have hk := tMt_k (T := T) (k := kn) (by unfold lT at k1; omega)
  obtain ⟨i, hi, hD⟩ := z1.1.2.2.1 kn _ hk
  obtain ⟨x, x1, x2, x3, x4, x5⟩ := dG_rk z1.1 hD
  have hc := prs_cap hP z4.2.2
  have hl := z1.1.2.2.2.2.1
  have hil := (List.getElem?_eq_some_iff.mp hD).1
  refine zR_imp (c_diagramOf d 14 b bcap (sx_14 hJ.2.2.2.2.2.2.2.1.1) hJ.2.2.2.2.2.2.2.1.2.2.2.2.1 (by have := bE_pos hJ.2.2.2.2.2.2.2.1; omega) z1.2.1 (kn : Int) (i : Int) (x : Int) (by omega) (by unfold lT at k1; omega) hi (by omega) (by omega) x1) ?_
  rintro r m' ⟨rfl, rfl⟩
  exact ⟨by rw [x5], rfl⟩
theorem dM_18 {m : zM} {b : Int} {T : zT} {D : List Int} (h : dM m b T D) : m 14 18 = ((tD T).length : Int) := by rw [← (dG_ord h.1).1]; exact h.1.2.2.2.1
theorem cw_01 {T : zT} : zsum (fun k => zb (tOf T k (ffr 0) = 1)) (tD T).length 0 = tMany T 1 1 := zsum_congr (fun k _ _ => by
  rw [show ffr 0 = 3 from rfl, tOf_3]
  by_cases z : ((paV T (tNm T k) : Nat) : Int) = 1
  · rw [zb_t z, if_pos (gd_1.mpr z)]; rfl
  · rw [zb_f z, if_neg (fun y => z (gd_1.mp y))])
theorem cJ_sh {m m' : zM} {E : zE} {T : zT} {X : Int → Int} {t s a cap a2 cap2 ka kcap b bcap : Int} (h : cJ m E T X t s a cap a2 cap2 ka kcap b bcap) (h9 : m 14 19 = 1) {D : List Int} {F : Int → Int} {cc : Int} (z2 : bS T (tPairs T) D F) (z3 : kT m ka (kEx (lT T) 10 0) F cc) (f : zfr (fSh b) m m') (hM : dM m' b T D) : cJ m' E T X t s a cap a2 cap2 ka kcap b bcap ∧ qFr m m' ∧ m' 14 19 = 1 := by
  obtain ⟨hA, hT, hW, hQ, hU, hD, hG, hE, hP, hR⟩ := h
  have ho := bE_pos hE
  have hd := hE.2.2.2.2.2.2.2.1
  have ht := hA.2.2.2.2.2.2.1
  obtain ⟨o1, o2, o3, o4, _⟩ := ho
  obtain ⟨d1, d2, d3, d4, d5, d6⟩ := hd
  have ff : ∀ x k : Int, x ≠ b + 4 → (x < 18 ∨ 21 < x ∨ (x = 18 ∧ k < 3)) → m' x k = m x k := fun x k q0 q1 => f x k (by simp [fSh, fG]; omega) (by simp [fSh, fG]; omega)
  have fa : ∀ x k : Int, (x = a ∨ x = a + 1) → m' x k = m x k := fun x k q => ff x k (by omega) (by omega)
  have fk : ∀ x k : Int, (x = ka ∨ x = ka + 1) → m' x k = m x k := fun x k q => ff x k (by omega) (by omega)
  clear d1 d2 d3 d4 d5 d6 o1 o2 o3
  obtain ⟨h0, h1, h2, h3, h4, h5, h6⟩ := hD
  have e9 : m' 14 19 = 1 := (ff 14 19 (by omega) (by omega)).trans h9
  have e15 : ∀ k, m' 15 k = m 15 k := fun k => ff 15 k (by omega) (by omega)
  have e14 : ∀ k, m' 14 k = m 14 k := fun k => ff 14 k (by omega) (by omega)
  refine ⟨⟨bA_in hA (fun x k q => ff x k (by omega) (by omega)), bT_in hT hA.2.2.2.2.1 hP.1.1.1 (fun x k q0 q1 => ff x k (by omega) (by omega)), bW_in hW (fun x k q => ff x k (by omega) (by omega)), bQ_in hQ ?_, bU_in hU (fun k q => ff 11 k (by omega) (by omega)), ⟨⟨(e14 0).trans h0.1, (e14 1).trans h0.2.1, (e14 2).trans h0.2.2.1, (e14 3).trans h0.2.2.2.1, (e14 4).trans h0.2.2.2.2⟩, ptG_in h1 (fun k q => ff 18 k (by omega) (by omega)), (e15 0).trans h2, (e15 1).trans h3, qDg_in h4 (fun k _ _ => e14 k), Or.inr e9, fun _ => ⟨⟨D, F, cc, hM, z2, kT_in z3 fk⟩, (e15 2).trans (h6 h9).2.1, (h6 h9).2.2⟩⟩, ptG_in hG (fun k q => ff 33 k (by omega) (by omega)), hE, hP, fun _ => ?_⟩, fun x k q => ff x k (by omega) (by omega), e9⟩
  · intro x k q
    by_cases e : x = 8
    · exact ff x k (by omega) (by omega)
    · exact fa x k (by omega)
  · exact (ff 8 5 (by omega) (by omega)).trans (hR h9)
theorem or_1 {T : zT} {X : Int → Int} (h : tA T X) : sOrd T.1 (T.1 2).toNat 0 0 1 = oTh T.1 (T.1 2).toNat := (sOrd_oTh (tA_w h) h.1.1.2.1 (tA_v h)).1
theorem or_2 {T : zT} {X : Int → Int} (h : tA T X) : 0 ≤ oTh T.1 (T.1 2).toNat ∧ oTh T.1 (T.1 2).toNat ≤ 2147483647 := (sOrd_oTh (tA_w h) h.1.1.2.1 (tA_v h)).2
theorem p_mate (d : Nat) {E : zE} {m : zM} (T : zT) (X : Int → Int) (t s a cap a2 cap2 ka kcap b bcap : Int) (hJ : cJ m E T X t s a cap a2 cap2 ka kcap b bcap) (k i : Int) : ∃ E1 : zE, (E.2.1 ≤ E1.2.1 ∧ E.2.2 ≤ E1.2.2) ∧ EB E1 ∧ zR zX11_mate (d + 16) [zP 0, zI k, zI i] m E E1 (fun r m' => r = some (zI (aMate T k i).2) ∧ cQ m m' E1 T X (aMate T k i).1) := by
  have htt := cJ_t hJ
  have hln := (tA_l hJ.2.2.2.2.2.2.2.2.1).1
  have hni := nT_i hJ.2.2.2.2.2.2.2.2.1
  by_cases hc0 : (0 ≤ k ∧ k < lT T) ∧ (0 ≤ i ∧ i ≤ T.2.2.2 - 1)
  · have le := pE_le E T cap
    refine ⟨pE E T cap, le, EB_p hJ T, ?_⟩
    refine zR_go [zP 0, zI k, zI i] (by decide +kernel) (Nat.le_of_ble_eq_true rfl) rfl rfl ?_
    refine z_aload_n dX11_mate_0 rfl ?_
    refine z_iload_n dX11_mate_1 rfl ?_
    refine z_callV mlX11_262 dX11_mate_2 (sx_0 hJ.2.2.2.2.2.2.2.1.1) (av := [_]) rfl rfl (Nat.le_of_ble_eq_true rfl) (c_hasPairing _ T X _ _ _ _ _ _ _ _ _ _ hJ _) (Nat.le_refl _) (Nat.le_refl _) (by first | exact Nat.le_refl _ | exact le.1) (by first | exact Nat.le_refl _ | exact le.2) ?_
    rintro _ m1 ⟨rfl, j1, q1, _⟩
    refine z_ifz_eq (tgt := 19) dX11_mate_5 rfl (fun h => absurd hc0.1 h) (fun h5 => ?_)
    refine z_aload_n dX11_mate_8 rfl ?_
    refine z_gP 9 rfl (r := t) flX11_71 dX11_mate_9 (sx_0 j1.2.2.2.2.2.2.2.1.1) rfl (j1.1.1.2.2.2.2.2.2.2.2.2.1) (by omega) ?_
    refine z_iload_n dX11_mate_12 rfl ?_
    refine z_callV mlX11_195 dX11_mate_13 (sx_T j1.2.2.2.2.2.2.2.1.1 (cJ_t j1)).1 (av := [_]) rfl rfl (Nat.le_of_ble_eq_true rfl) (c_hasLetter _ t (cJ_t0 j1) (sx_T j1.2.2.2.2.2.2.2.1.1 (cJ_t j1)) (j1.1.2.2.2.2.1) T.2.2.2 _ (j1.2.1.2.1.1)) (Nat.le_refl _) (Nat.le_refl _) (by first | exact Nat.le_refl _ | exact le.1) (by first | exact Nat.le_refl _ | exact le.2) ?_
    rintro _ _ ⟨rfl, rfl⟩
    refine z_ifz_ne (tgt := 25) dX11_mate_16 rfl (fun h16 => ?_) (fun h => absurd hc0.2 h)
    refine z_aload_n dX11_mate_25 rfl ?_
    refine z_aload_n dX11_mate_26 rfl ?_
    refine z_callV mlX11_124 dX11_mate_27 (sx_0 j1.2.2.2.2.2.2.2.1.1) (av := _) rfl rfl (Nat.le_of_ble_eq_true rfl) (c_kPx _ T X _ _ _ _ _ _ _ _ _ _ j1) (by first | exact Nat.le_refl _ | exact le.1) (by first | exact Nat.le_refl _ | exact le.2) (Nat.le_refl _) (Nat.le_refl _) ?_
    rintro _ m2 ⟨rfl, j2, h5, q2, _⟩
    refine z_iload_n dX11_mate_30 rfl ?_
    refine z_iload_n dX11_mate_31 rfl ?_
    refine z_callV mlX11_265 dX11_mate_32 (sx_8 j2.2.2.2.2.2.2.2.1.1) (av := [_, _]) rfl rfl (Nat.le_of_ble_eq_true rfl) (x_mate _ T X _ _ _ _ _ _ _ _ _ _ j2 h5 k (by omega) (by omega) i (by omega) (by omega)) (Nat.le_refl _) (Nat.le_refl _) (by first | exact Nat.le_refl _ | exact le.1) (by first | exact Nat.le_refl _ | exact le.2) ?_
    rintro _ _ ⟨rfl, rfl⟩
    refine z_callV mlX11_111 dX11_mate_35 (sx_0 j2.2.2.2.2.2.2.2.1.1) (av := [_]) rfl rfl (Nat.le_of_ble_eq_true rfl) (c_answer _ (sx_0 j2.2.2.2.2.2.2.2.1.1) _) (Nat.le_refl _) (Nat.le_refl _) (by first | exact Nat.le_refl _ | exact le.1) (by first | exact Nat.le_refl _ | exact le.2) ?_
    rintro _ _ ⟨rfl, rfl⟩
    refine z_iret dX11_mate_38 rfl rfl ?_
    rw [show aMate T k i = (0, tMt T k i) from by unfold aMate; rw [if_neg (not_not_intro hc0)]]
    exact ⟨rfl, cQ_st j2 (qFr_tr q1 q2) _⟩
  refine ⟨E, ⟨Nat.le_refl _, Nat.le_refl _⟩, EB_e hJ, ?_⟩
  refine zR_go [zP 0, zI k, zI i] (by decide +kernel) (Nat.le_of_ble_eq_true rfl) rfl rfl ?_
  refine z_aload_n dX11_mate_0 rfl ?_
  refine z_iload_n dX11_mate_1 rfl ?_
  refine z_callV mlX11_262 dX11_mate_2 (sx_0 hJ.2.2.2.2.2.2.2.1.1) (av := [_]) rfl rfl (Nat.le_of_ble_eq_true rfl) (c_hasPairing _ T X _ _ _ _ _ _ _ _ _ _ hJ _) (Nat.le_refl _) (Nat.le_refl _) (by first | exact Nat.le_refl _ | exact le.1) (by first | exact Nat.le_refl _ | exact le.2) ?_
  rintro _ m1 ⟨rfl, j1, q1, _⟩
  refine z_ifz_eq (tgt := 19) dX11_mate_5 rfl (fun h5 => ?_) (fun h5 => ?_)
  · refine z_aload_n dX11_mate_19 rfl ?_
    refine z_iconst dX11_mate_20 (by decide) ?_
    refine z_callV mlX11_93 dX11_mate_21 (sx_0 j1.2.2.2.2.2.2.2.1.1) (av := [_]) rfl rfl (Nat.le_of_ble_eq_true rfl) (c_refuse _ (sx_0 j1.2.2.2.2.2.2.2.1.1) _) (Nat.le_refl _) (Nat.le_refl _) (by first | exact Nat.le_refl _ | exact le.1) (by first | exact Nat.le_refl _ | exact le.2) ?_
    rintro _ _ ⟨rfl, rfl⟩
    refine z_iret dX11_mate_24 rfl rfl ?_
    rw [show aMate T k i = (2, -1) from by unfold aMate; rw [if_pos hc0]]
    exact ⟨rfl, cQ_st j1 q1 _⟩
  · refine z_aload_n dX11_mate_8 rfl ?_
    refine z_gP 9 rfl (r := t) flX11_71 dX11_mate_9 (sx_0 j1.2.2.2.2.2.2.2.1.1) rfl (j1.1.1.2.2.2.2.2.2.2.2.2.1) (by omega) ?_
    refine z_iload_n dX11_mate_12 rfl ?_
    refine z_callV mlX11_195 dX11_mate_13 (sx_T j1.2.2.2.2.2.2.2.1.1 (cJ_t j1)).1 (av := [_]) rfl rfl (Nat.le_of_ble_eq_true rfl) (c_hasLetter _ t (cJ_t0 j1) (sx_T j1.2.2.2.2.2.2.2.1.1 (cJ_t j1)) (j1.1.2.2.2.2.1) T.2.2.2 _ (j1.2.1.2.1.1)) (Nat.le_refl _) (Nat.le_refl _) (by first | exact Nat.le_refl _ | exact le.1) (by first | exact Nat.le_refl _ | exact le.2) ?_
    rintro _ _ ⟨rfl, rfl⟩
    refine z_ifz_ne (tgt := 25) dX11_mate_16 rfl (fun h => absurd h (fun h => hc0 ⟨h5, h⟩)) (fun h16 => ?_)
    refine z_aload_n dX11_mate_19 rfl ?_
    refine z_iconst dX11_mate_20 (by decide) ?_
    refine z_callV mlX11_93 dX11_mate_21 (sx_0 j1.2.2.2.2.2.2.2.1.1) (av := [_]) rfl rfl (Nat.le_of_ble_eq_true rfl) (c_refuse _ (sx_0 j1.2.2.2.2.2.2.2.1.1) _) (Nat.le_refl _) (Nat.le_refl _) (by first | exact Nat.le_refl _ | exact le.1) (by first | exact Nat.le_refl _ | exact le.2) ?_
    rintro _ _ ⟨rfl, rfl⟩
    refine z_iret dX11_mate_24 rfl rfl ?_
    rw [show aMate T k i = (2, -1) from by unfold aMate; rw [if_pos hc0]]
    exact ⟨rfl, cQ_st j1 q1 _⟩

theorem p_ways (d : Nat) {E : zE} {m : zM} (T : zT) (X : Int → Int) (t s a cap a2 cap2 ka kcap b bcap : Int) (hJ : cJ m E T X t s a cap a2 cap2 ka kcap b bcap) (i j w : Int) : ∃ E1 : zE, (E.2.1 ≤ E1.2.1 ∧ E.2.2 ≤ E1.2.2) ∧ EB E1 ∧ zR zX11_ways (d + 16) [zP 0, zI i, zI j, zI w] m E E1 (fun r m' => r = some (zI (aWays T i j w).2) ∧ cQ m m' E1 T X (aWays T i j w).1) := by
  have htt := cJ_t hJ
  have hln := (tA_l hJ.2.2.2.2.2.2.2.2.1).1
  have hni := nT_i hJ.2.2.2.2.2.2.2.2.1
  by_cases hc0 : ((0 ≤ w ∧ w ≤ 1) ∧ ((0 ≤ i ∧ i ≤ T.2.2.2 - 1) ∧ (0 ≤ j ∧ j ≤ T.2.2.2 - 1))) ∧ i ≠ j
  · have le := pE_le E T cap
    refine ⟨pE E T cap, le, EB_p hJ T, ?_⟩
    refine zR_go [zP 0, zI i, zI j, zI w] (by decide +kernel) (Nat.le_of_ble_eq_true rfl) rfl rfl ?_
    refine z_iload_n dX11_ways_0 rfl ?_
    refine z_if_lt (tgt := 9) dX11_ways_1 rfl (fun h => absurd h (by omega)) (fun h1 => ?_)
    refine z_iload_n dX11_ways_4 rfl ?_
    refine z_iconst dX11_ways_5 (by decide) ?_
    refine z_icmp_le (tgt := 15) dX11_ways_6 rfl (fun h6 => ?_) (fun h => absurd (by omega) h)
    refine z_aload_n dX11_ways_15 rfl ?_
    refine z_gP 9 rfl (r := t) flX11_71 dX11_ways_16 (sx_0 hJ.2.2.2.2.2.2.2.1.1) rfl (hJ.1.1.2.2.2.2.2.2.2.2.2.1) (by omega) ?_
    refine z_iload_n dX11_ways_19 rfl ?_
    refine z_callV mlX11_195 dX11_ways_20 (sx_T hJ.2.2.2.2.2.2.2.1.1 (cJ_t hJ)).1 (av := [_]) rfl rfl (Nat.le_of_ble_eq_true rfl) (c_hasLetter _ t (cJ_t0 hJ) (sx_T hJ.2.2.2.2.2.2.2.1.1 (cJ_t hJ)) (hJ.1.2.2.2.2.1) T.2.2.2 _ (hJ.2.1.2.1.1)) (Nat.le_refl _) (Nat.le_refl _) (by first | exact Nat.le_refl _ | exact le.1) (by first | exact Nat.le_refl _ | exact le.2) ?_
    rintro _ _ ⟨rfl, rfl⟩
    refine z_ifz_eq (tgt := 37) dX11_ways_23 rfl (fun h => absurd hc0.1.2.1 h) (fun h23 => ?_)
    refine z_aload_n dX11_ways_26 rfl ?_
    refine z_gP 9 rfl (r := t) flX11_71 dX11_ways_27 (sx_0 hJ.2.2.2.2.2.2.2.1.1) rfl (hJ.1.1.2.2.2.2.2.2.2.2.2.1) (by omega) ?_
    refine z_iload_n dX11_ways_30 rfl ?_
    refine z_callV mlX11_195 dX11_ways_31 (sx_T hJ.2.2.2.2.2.2.2.1.1 (cJ_t hJ)).1 (av := [_]) rfl rfl (Nat.le_of_ble_eq_true rfl) (c_hasLetter _ t (cJ_t0 hJ) (sx_T hJ.2.2.2.2.2.2.2.1.1 (cJ_t hJ)) (hJ.1.2.2.2.2.1) T.2.2.2 _ (hJ.2.1.2.1.1)) (Nat.le_refl _) (Nat.le_refl _) (by first | exact Nat.le_refl _ | exact le.1) (by first | exact Nat.le_refl _ | exact le.2) ?_
    rintro _ _ ⟨rfl, rfl⟩
    refine z_ifz_ne (tgt := 43) dX11_ways_34 rfl (fun h34 => ?_) (fun h => absurd hc0.1.2.2 h)
    refine z_iload_n dX11_ways_43 rfl ?_
    refine z_iload_n dX11_ways_44 rfl ?_
    refine z_icmp_ne (tgt := 54) dX11_ways_45 rfl (fun h45 => ?_) (fun h => absurd hc0.2 h)
    refine z_aload_n dX11_ways_54 rfl ?_
    refine z_aload_n dX11_ways_55 rfl ?_
    refine z_callV mlX11_124 dX11_ways_56 (sx_0 hJ.2.2.2.2.2.2.2.1.1) (av := _) rfl rfl (Nat.le_of_ble_eq_true rfl) (c_kPx _ T X _ _ _ _ _ _ _ _ _ _ hJ) (by first | exact Nat.le_refl _ | exact le.1) (by first | exact Nat.le_refl _ | exact le.2) (Nat.le_refl _) (Nat.le_refl _) ?_
    rintro _ m1 ⟨rfl, j1, h5, q1, _⟩
    refine z_iload_n dX11_ways_59 rfl ?_
    refine z_iload_n dX11_ways_60 rfl ?_
    refine z_iload_n dX11_ways_61 rfl ?_
    refine z_iconst dX11_ways_62 (by decide) ?_
    refine z_icmp_ne (tgt := 70) dX11_ways_63 rfl (fun h63 => ?_) (fun h63 => ?_)
    · refine z_iconst dX11_ways_70 (by decide) ?_
      refine z_callV mlX11_286 dX11_ways_71 (sx_8 j1.2.2.2.2.2.2.2.1.1) (av := [_, _, _]) rfl rfl (Nat.le_of_ble_eq_true rfl) (x_tog _ T X _ _ _ _ _ _ _ _ _ _ j1 h5 i j _ (by omega) (by omega)) (Nat.le_refl _) (Nat.le_refl _) (by first | exact Nat.le_refl _ | exact le.1) (by first | exact Nat.le_refl _ | exact le.2) ?_
      rintro _ _ ⟨rfl, rfl⟩
      refine z_callV mlX11_111 dX11_ways_74 (sx_0 j1.2.2.2.2.2.2.2.1.1) (av := [_]) rfl rfl (Nat.le_of_ble_eq_true rfl) (c_answer _ (sx_0 j1.2.2.2.2.2.2.2.1.1) _) (Nat.le_refl _) (Nat.le_refl _) (by first | exact Nat.le_refl _ | exact le.1) (by first | exact Nat.le_refl _ | exact le.2) ?_
      rintro _ _ ⟨rfl, rfl⟩
      refine z_iret dX11_ways_77 rfl rfl ?_
      have hw : w = 0 := by omega
      rw [show aWays T i j w = (0, tS T (fun mt => if mt i = j then (if (0 : Int) = 0 then 1 else tSign T mt) else 0)) from by rw [hw]; unfold aWays; rw [if_neg (by omega), if_neg (by omega), if_neg (by omega)]]
      exact ⟨rfl, cQ_st j1 q1 _⟩
    · refine z_iconst dX11_ways_66 (by decide) ?_
      refine z_goto (tgt := 71) dX11_ways_67 rfl ?_
      refine z_callV mlX11_286 dX11_ways_71 (sx_8 j1.2.2.2.2.2.2.2.1.1) (av := [_, _, _]) rfl rfl (Nat.le_of_ble_eq_true rfl) (x_tog _ T X _ _ _ _ _ _ _ _ _ _ j1 h5 i j _ (by omega) (by omega)) (Nat.le_refl _) (Nat.le_refl _) (by first | exact Nat.le_refl _ | exact le.1) (by first | exact Nat.le_refl _ | exact le.2) ?_
      rintro _ _ ⟨rfl, rfl⟩
      refine z_callV mlX11_111 dX11_ways_74 (sx_0 j1.2.2.2.2.2.2.2.1.1) (av := [_]) rfl rfl (Nat.le_of_ble_eq_true rfl) (c_answer _ (sx_0 j1.2.2.2.2.2.2.2.1.1) _) (Nat.le_refl _) (Nat.le_refl _) (by first | exact Nat.le_refl _ | exact le.1) (by first | exact Nat.le_refl _ | exact le.2) ?_
      rintro _ _ ⟨rfl, rfl⟩
      refine z_iret dX11_ways_77 rfl rfl ?_
      have hw : w = 1 := by omega
      rw [show aWays T i j w = (0, tS T (fun mt => if mt i = j then (if (1 : Int) = 0 then 1 else tSign T mt) else 0)) from by rw [hw]; unfold aWays; rw [if_neg (by omega), if_neg (by omega), if_neg (by omega)]]
      exact ⟨rfl, cQ_st j1 q1 _⟩
  refine ⟨E, ⟨Nat.le_refl _, Nat.le_refl _⟩, EB_e hJ, ?_⟩
  refine zR_go [zP 0, zI i, zI j, zI w] (by decide +kernel) (Nat.le_of_ble_eq_true rfl) rfl rfl ?_
  refine z_iload_n dX11_ways_0 rfl ?_
  refine z_if_lt (tgt := 9) dX11_ways_1 rfl (fun h1 => ?_) (fun h1 => ?_)
  · refine z_aload_n dX11_ways_9 rfl ?_
    refine z_iconst dX11_ways_10 (by decide) ?_
    refine z_callV mlX11_93 dX11_ways_11 (sx_0 hJ.2.2.2.2.2.2.2.1.1) (av := [_]) rfl rfl (Nat.le_of_ble_eq_true rfl) (c_refuse _ (sx_0 hJ.2.2.2.2.2.2.2.1.1) _) (Nat.le_refl _) (Nat.le_refl _) (by first | exact Nat.le_refl _ | exact le.1) (by first | exact Nat.le_refl _ | exact le.2) ?_
    rintro _ _ ⟨rfl, rfl⟩
    refine z_iret dX11_ways_14 rfl rfl ?_
    rw [show aWays T i j w = (1, -1) from by unfold aWays; rw [if_pos (by omega)]]
    exact ⟨rfl, cQ_st hJ qFr_rf _⟩
  · refine z_iload_n dX11_ways_4 rfl ?_
    refine z_iconst dX11_ways_5 (by decide) ?_
    refine z_icmp_le (tgt := 15) dX11_ways_6 rfl (fun h6 => ?_) (fun h6 => ?_)
    · refine z_aload_n dX11_ways_15 rfl ?_
      refine z_gP 9 rfl (r := t) flX11_71 dX11_ways_16 (sx_0 hJ.2.2.2.2.2.2.2.1.1) rfl (hJ.1.1.2.2.2.2.2.2.2.2.2.1) (by omega) ?_
      refine z_iload_n dX11_ways_19 rfl ?_
      refine z_callV mlX11_195 dX11_ways_20 (sx_T hJ.2.2.2.2.2.2.2.1.1 (cJ_t hJ)).1 (av := [_]) rfl rfl (Nat.le_of_ble_eq_true rfl) (c_hasLetter _ t (cJ_t0 hJ) (sx_T hJ.2.2.2.2.2.2.2.1.1 (cJ_t hJ)) (hJ.1.2.2.2.2.1) T.2.2.2 _ (hJ.2.1.2.1.1)) (Nat.le_refl _) (Nat.le_refl _) (by first | exact Nat.le_refl _ | exact le.1) (by first | exact Nat.le_refl _ | exact le.2) ?_
      rintro _ _ ⟨rfl, rfl⟩
      refine z_ifz_eq (tgt := 37) dX11_ways_23 rfl (fun h23 => ?_) (fun h23 => ?_)
      · refine z_aload_n dX11_ways_37 rfl ?_
        refine z_iconst dX11_ways_38 (by decide) ?_
        refine z_callV mlX11_93 dX11_ways_39 (sx_0 hJ.2.2.2.2.2.2.2.1.1) (av := [_]) rfl rfl (Nat.le_of_ble_eq_true rfl) (c_refuse _ (sx_0 hJ.2.2.2.2.2.2.2.1.1) _) (Nat.le_refl _) (Nat.le_refl _) (by first | exact Nat.le_refl _ | exact le.1) (by first | exact Nat.le_refl _ | exact le.2) ?_
        rintro _ _ ⟨rfl, rfl⟩
        refine z_iret dX11_ways_42 rfl rfl ?_
        rw [show aWays T i j w = (2, -1) from by unfold aWays; rw [if_neg (by omega), if_pos (by omega)]]
        exact ⟨rfl, cQ_st hJ qFr_rf _⟩
      · refine z_aload_n dX11_ways_26 rfl ?_
        refine z_gP 9 rfl (r := t) flX11_71 dX11_ways_27 (sx_0 hJ.2.2.2.2.2.2.2.1.1) rfl (hJ.1.1.2.2.2.2.2.2.2.2.2.1) (by omega) ?_
        refine z_iload_n dX11_ways_30 rfl ?_
        refine z_callV mlX11_195 dX11_ways_31 (sx_T hJ.2.2.2.2.2.2.2.1.1 (cJ_t hJ)).1 (av := [_]) rfl rfl (Nat.le_of_ble_eq_true rfl) (c_hasLetter _ t (cJ_t0 hJ) (sx_T hJ.2.2.2.2.2.2.2.1.1 (cJ_t hJ)) (hJ.1.2.2.2.2.1) T.2.2.2 _ (hJ.2.1.2.1.1)) (Nat.le_refl _) (Nat.le_refl _) (by first | exact Nat.le_refl _ | exact le.1) (by first | exact Nat.le_refl _ | exact le.2) ?_
        rintro _ _ ⟨rfl, rfl⟩
        refine z_ifz_ne (tgt := 43) dX11_ways_34 rfl (fun h34 => ?_) (fun h34 => ?_)
        · refine z_iload_n dX11_ways_43 rfl ?_
          refine z_iload_n dX11_ways_44 rfl ?_
          refine z_icmp_ne (tgt := 54) dX11_ways_45 rfl (fun h => absurd h (fun h => hc0 ⟨⟨by omega, h23, h34⟩, h⟩)) (fun h45 => ?_)
          refine z_aload_n dX11_ways_48 rfl ?_
          refine z_iconst dX11_ways_49 (by decide) ?_
          refine z_callV mlX11_93 dX11_ways_50 (sx_0 hJ.2.2.2.2.2.2.2.1.1) (av := [_]) rfl rfl (Nat.le_of_ble_eq_true rfl) (c_refuse _ (sx_0 hJ.2.2.2.2.2.2.2.1.1) _) (Nat.le_refl _) (Nat.le_refl _) (by first | exact Nat.le_refl _ | exact le.1) (by first | exact Nat.le_refl _ | exact le.2) ?_
          rintro _ _ ⟨rfl, rfl⟩
          refine z_iret dX11_ways_53 rfl rfl ?_
          rw [show aWays T i j w = (4, -1) from by unfold aWays; rw [if_neg (by omega), if_neg (by omega), if_pos (by omega)]]
          exact ⟨rfl, cQ_st hJ qFr_rf _⟩
        · refine z_aload_n dX11_ways_37 rfl ?_
          refine z_iconst dX11_ways_38 (by decide) ?_
          refine z_callV mlX11_93 dX11_ways_39 (sx_0 hJ.2.2.2.2.2.2.2.1.1) (av := [_]) rfl rfl (Nat.le_of_ble_eq_true rfl) (c_refuse _ (sx_0 hJ.2.2.2.2.2.2.2.1.1) _) (Nat.le_refl _) (Nat.le_refl _) (by first | exact Nat.le_refl _ | exact le.1) (by first | exact Nat.le_refl _ | exact le.2) ?_
          rintro _ _ ⟨rfl, rfl⟩
          refine z_iret dX11_ways_42 rfl rfl ?_
          rw [show aWays T i j w = (2, -1) from by unfold aWays; rw [if_neg (by omega), if_pos (by omega)]]
          exact ⟨rfl, cQ_st hJ qFr_rf _⟩
    · refine z_aload_n dX11_ways_9 rfl ?_
      refine z_iconst dX11_ways_10 (by decide) ?_
      refine z_callV mlX11_93 dX11_ways_11 (sx_0 hJ.2.2.2.2.2.2.2.1.1) (av := [_]) rfl rfl (Nat.le_of_ble_eq_true rfl) (c_refuse _ (sx_0 hJ.2.2.2.2.2.2.2.1.1) _) (Nat.le_refl _) (Nat.le_refl _) (by first | exact Nat.le_refl _ | exact le.1) (by first | exact Nat.le_refl _ | exact le.2) ?_
      rintro _ _ ⟨rfl, rfl⟩
      refine z_iret dX11_ways_14 rfl rfl ?_
      rw [show aWays T i j w = (1, -1) from by unfold aWays; rw [if_pos (by omega)]]
      exact ⟨rfl, cQ_st hJ qFr_rf _⟩

theorem p_by (d : Nat) {E : zE} {m : zM} (T : zT) (X : Int → Int) (t s a cap a2 cap2 ka kcap b bcap : Int) (hJ : cJ m E T X t s a cap a2 cap2 ka kcap b bcap) (wh nu : Int) : ∃ E1 : zE, (E.2.1 ≤ E1.2.1 ∧ E.2.2 ≤ E1.2.2) ∧ EB E1 ∧ zR zX11_by (d + 16) [zP 0, zI wh, zI nu] m E E1 (fun r m' => r = some (zI (aBy T wh nu 0).2) ∧ cQ m m' E1 T X (aBy T wh nu 0).1) := by
  have htt := cJ_t hJ
  have hln := (tA_l hJ.2.2.2.2.2.2.2.2.1).1
  have hni := nT_i hJ.2.2.2.2.2.2.2.2.1
  by_cases hc0 : (0 ≤ wh ∧ wh ≤ 1) ∧ 0 ≤ nu
  · have le := pE_le E T cap
    refine ⟨pE E T cap, le, EB_p hJ T, ?_⟩
    refine zR_go [zP 0, zI wh, zI nu] (by decide +kernel) (Nat.le_of_ble_eq_true rfl) rfl rfl ?_
    refine z_iload_n dX11_by_0 rfl ?_
    refine z_if_lt (tgt := 13) dX11_by_1 rfl (fun h => absurd h (by omega)) (fun h1 => ?_)
    refine z_iload_n dX11_by_4 rfl ?_
    refine z_iconst dX11_by_5 (by decide) ?_
    refine z_icmp_gt (tgt := 13) dX11_by_6 rfl (fun h => absurd h (by omega)) (fun h6 => ?_)
    refine z_iload_n dX11_by_9 rfl ?_
    refine z_if_ge (tgt := 19) dX11_by_10 rfl (fun h10 => ?_) (fun h => absurd (by omega) h)
    refine z_aload_n dX11_by_19 rfl ?_
    refine z_aload_n dX11_by_20 rfl ?_
    refine z_callV mlX11_274 dX11_by_21 (sx_0 hJ.2.2.2.2.2.2.2.1.1) (av := _) rfl rfl (Nat.le_of_ble_eq_true rfl) (c_kRx _ T X _ _ _ _ _ _ _ _ _ _ hJ) (by first | exact Nat.le_refl _ | exact le.1) (by first | exact Nat.le_refl _ | exact le.2) (Nat.le_refl _) (Nat.le_refl _) ?_
    rintro _ m1 ⟨rfl, j1, h5, h6, q1, _⟩
    refine z_iload_n dX11_by_24 rfl ?_
    refine z_iconst dX11_by_25 (by decide) ?_
    refine z_icmp_ne (tgt := 33) dX11_by_26 rfl (fun h26 => ?_) (fun h26 => ?_)
    · refine z_iconst dX11_by_33 (by decide) ?_
      refine z_iload_n dX11_by_34 rfl ?_
      refine z_iconst dX11_by_35 (by decide) ?_
      refine z_callV mlX11_184 dX11_by_36 (sx_8 j1.2.2.2.2.2.2.2.1.1) (av := [_, _, _]) rfl rfl (Nat.le_of_ble_eq_true rfl) (x_tally _ T X _ _ _ _ _ _ _ _ _ _ j1 h5 h6 _ nu _) (Nat.le_refl _) (Nat.le_refl _) (by first | exact Nat.le_refl _ | exact le.1) (by first | exact Nat.le_refl _ | exact le.2) ?_
      rintro _ _ ⟨rfl, rfl⟩
      refine z_callV mlX11_111 dX11_by_39 (sx_0 j1.2.2.2.2.2.2.2.1.1) (av := [_]) rfl rfl (Nat.le_of_ble_eq_true rfl) (c_answer _ (sx_0 j1.2.2.2.2.2.2.2.1.1) _) (Nat.le_refl _) (Nat.le_refl _) (by first | exact Nat.le_refl _ | exact le.1) (by first | exact Nat.le_refl _ | exact le.2) ?_
      rintro _ _ ⟨rfl, rfl⟩
      refine z_iret dX11_by_42 rfl rfl ?_
      have hw : wh = 0 := by omega
      rw [show aBy T wh nu 0 = (0, tS T (fun mt => if (if (0 : Int) = 0 then tCr T mt else tHo T mt) = nu then (if (0 : Int) = 0 then 1 else tSign T mt) else 0)) from by rw [hw]; unfold aBy; rw [if_neg (by omega)]]
      exact ⟨rfl, cQ_st j1 q1 _⟩
    · refine z_iconst dX11_by_29 (by decide) ?_
      refine z_goto (tgt := 34) dX11_by_30 rfl ?_
      refine z_iload_n dX11_by_34 rfl ?_
      refine z_iconst dX11_by_35 (by decide) ?_
      refine z_callV mlX11_184 dX11_by_36 (sx_8 j1.2.2.2.2.2.2.2.1.1) (av := [_, _, _]) rfl rfl (Nat.le_of_ble_eq_true rfl) (x_tally _ T X _ _ _ _ _ _ _ _ _ _ j1 h5 h6 _ nu _) (Nat.le_refl _) (Nat.le_refl _) (by first | exact Nat.le_refl _ | exact le.1) (by first | exact Nat.le_refl _ | exact le.2) ?_
      rintro _ _ ⟨rfl, rfl⟩
      refine z_callV mlX11_111 dX11_by_39 (sx_0 j1.2.2.2.2.2.2.2.1.1) (av := [_]) rfl rfl (Nat.le_of_ble_eq_true rfl) (c_answer _ (sx_0 j1.2.2.2.2.2.2.2.1.1) _) (Nat.le_refl _) (Nat.le_refl _) (by first | exact Nat.le_refl _ | exact le.1) (by first | exact Nat.le_refl _ | exact le.2) ?_
      rintro _ _ ⟨rfl, rfl⟩
      refine z_iret dX11_by_42 rfl rfl ?_
      have hw : wh = 1 := by omega
      rw [show aBy T wh nu 0 = (0, tS T (fun mt => if (if (1 : Int) = 0 then tCr T mt else tHo T mt) = nu then (if (0 : Int) = 0 then 1 else tSign T mt) else 0)) from by rw [hw]; unfold aBy; rw [if_neg (by omega)]]
      exact ⟨rfl, cQ_st j1 q1 _⟩
  refine ⟨E, ⟨Nat.le_refl _, Nat.le_refl _⟩, EB_e hJ, ?_⟩
  refine zR_go [zP 0, zI wh, zI nu] (by decide +kernel) (Nat.le_of_ble_eq_true rfl) rfl rfl ?_
  refine z_iload_n dX11_by_0 rfl ?_
  refine z_if_lt (tgt := 13) dX11_by_1 rfl (fun h1 => ?_) (fun h1 => ?_)
  · refine z_aload_n dX11_by_13 rfl ?_
    refine z_iconst dX11_by_14 (by decide) ?_
    refine z_callV mlX11_93 dX11_by_15 (sx_0 hJ.2.2.2.2.2.2.2.1.1) (av := [_]) rfl rfl (Nat.le_of_ble_eq_true rfl) (c_refuse _ (sx_0 hJ.2.2.2.2.2.2.2.1.1) _) (Nat.le_refl _) (Nat.le_refl _) (by first | exact Nat.le_refl _ | exact le.1) (by first | exact Nat.le_refl _ | exact le.2) ?_
    rintro _ _ ⟨rfl, rfl⟩
    refine z_iret dX11_by_18 rfl rfl ?_
    rw [show aBy T wh nu 0 = (1, -1) from by unfold aBy; rw [if_pos hc0]]
    exact ⟨rfl, cQ_st hJ qFr_rf _⟩
  · refine z_iload_n dX11_by_4 rfl ?_
    refine z_iconst dX11_by_5 (by decide) ?_
    refine z_icmp_gt (tgt := 13) dX11_by_6 rfl (fun h6 => ?_) (fun h6 => ?_)
    · refine z_aload_n dX11_by_13 rfl ?_
      refine z_iconst dX11_by_14 (by decide) ?_
      refine z_callV mlX11_93 dX11_by_15 (sx_0 hJ.2.2.2.2.2.2.2.1.1) (av := [_]) rfl rfl (Nat.le_of_ble_eq_true rfl) (c_refuse _ (sx_0 hJ.2.2.2.2.2.2.2.1.1) _) (Nat.le_refl _) (Nat.le_refl _) (by first | exact Nat.le_refl _ | exact le.1) (by first | exact Nat.le_refl _ | exact le.2) ?_
      rintro _ _ ⟨rfl, rfl⟩
      refine z_iret dX11_by_18 rfl rfl ?_
      rw [show aBy T wh nu 0 = (1, -1) from by unfold aBy; rw [if_pos hc0]]
      exact ⟨rfl, cQ_st hJ qFr_rf _⟩
    · refine z_iload_n dX11_by_9 rfl ?_
      refine z_if_ge (tgt := 19) dX11_by_10 rfl (fun h => absurd h (by omega)) (fun h10 => ?_)
      refine z_aload_n dX11_by_13 rfl ?_
      refine z_iconst dX11_by_14 (by decide) ?_
      refine z_callV mlX11_93 dX11_by_15 (sx_0 hJ.2.2.2.2.2.2.2.1.1) (av := [_]) rfl rfl (Nat.le_of_ble_eq_true rfl) (c_refuse _ (sx_0 hJ.2.2.2.2.2.2.2.1.1) _) (Nat.le_refl _) (Nat.le_refl _) (by first | exact Nat.le_refl _ | exact le.1) (by first | exact Nat.le_refl _ | exact le.2) ?_
      rintro _ _ ⟨rfl, rfl⟩
      refine z_iret dX11_by_18 rfl rfl ?_
      rw [show aBy T wh nu 0 = (1, -1) from by unfold aBy; rw [if_pos hc0]]
      exact ⟨rfl, cQ_st hJ qFr_rf _⟩

theorem p_signedBy (d : Nat) {E : zE} {m : zM} (T : zT) (X : Int → Int) (t s a cap a2 cap2 ka kcap b bcap : Int) (hJ : cJ m E T X t s a cap a2 cap2 ka kcap b bcap) (wh nu : Int) : ∃ E1 : zE, (E.2.1 ≤ E1.2.1 ∧ E.2.2 ≤ E1.2.2) ∧ EB E1 ∧ zR zX11_signedBy (d + 16) [zP 0, zI wh, zI nu] m E E1 (fun r m' => r = some (zI (aBy T wh nu 1).2) ∧ cQ m m' E1 T X (aBy T wh nu 1).1) := by
  have htt := cJ_t hJ
  have hln := (tA_l hJ.2.2.2.2.2.2.2.2.1).1
  have hni := nT_i hJ.2.2.2.2.2.2.2.2.1
  by_cases hc0 : (0 ≤ wh ∧ wh ≤ 1) ∧ 0 ≤ nu
  · have le := pE_le E T cap
    refine ⟨pE E T cap, le, EB_p hJ T, ?_⟩
    refine zR_go [zP 0, zI wh, zI nu] (by decide +kernel) (Nat.le_of_ble_eq_true rfl) rfl rfl ?_
    refine z_iload_n dX11_signedBy_0 rfl ?_
    refine z_if_lt (tgt := 13) dX11_signedBy_1 rfl (fun h => absurd h (by omega)) (fun h1 => ?_)
    refine z_iload_n dX11_signedBy_4 rfl ?_
    refine z_iconst dX11_signedBy_5 (by decide) ?_
    refine z_icmp_gt (tgt := 13) dX11_signedBy_6 rfl (fun h => absurd h (by omega)) (fun h6 => ?_)
    refine z_iload_n dX11_signedBy_9 rfl ?_
    refine z_if_ge (tgt := 19) dX11_signedBy_10 rfl (fun h10 => ?_) (fun h => absurd (by omega) h)
    refine z_aload_n dX11_signedBy_19 rfl ?_
    refine z_aload_n dX11_signedBy_20 rfl ?_
    refine z_callV mlX11_274 dX11_signedBy_21 (sx_0 hJ.2.2.2.2.2.2.2.1.1) (av := _) rfl rfl (Nat.le_of_ble_eq_true rfl) (c_kRx _ T X _ _ _ _ _ _ _ _ _ _ hJ) (by first | exact Nat.le_refl _ | exact le.1) (by first | exact Nat.le_refl _ | exact le.2) (Nat.le_refl _) (Nat.le_refl _) ?_
    rintro _ m1 ⟨rfl, j1, h5, h6, q1, _⟩
    refine z_iload_n dX11_signedBy_24 rfl ?_
    refine z_iconst dX11_signedBy_25 (by decide) ?_
    refine z_icmp_ne (tgt := 33) dX11_signedBy_26 rfl (fun h26 => ?_) (fun h26 => ?_)
    · refine z_iconst dX11_signedBy_33 (by decide) ?_
      refine z_iload_n dX11_signedBy_34 rfl ?_
      refine z_iconst dX11_signedBy_35 (by decide) ?_
      refine z_callV mlX11_184 dX11_signedBy_36 (sx_8 j1.2.2.2.2.2.2.2.1.1) (av := [_, _, _]) rfl rfl (Nat.le_of_ble_eq_true rfl) (x_tally _ T X _ _ _ _ _ _ _ _ _ _ j1 h5 h6 _ nu _) (Nat.le_refl _) (Nat.le_refl _) (by first | exact Nat.le_refl _ | exact le.1) (by first | exact Nat.le_refl _ | exact le.2) ?_
      rintro _ _ ⟨rfl, rfl⟩
      refine z_callV mlX11_111 dX11_signedBy_39 (sx_0 j1.2.2.2.2.2.2.2.1.1) (av := [_]) rfl rfl (Nat.le_of_ble_eq_true rfl) (c_answer _ (sx_0 j1.2.2.2.2.2.2.2.1.1) _) (Nat.le_refl _) (Nat.le_refl _) (by first | exact Nat.le_refl _ | exact le.1) (by first | exact Nat.le_refl _ | exact le.2) ?_
      rintro _ _ ⟨rfl, rfl⟩
      refine z_iret dX11_signedBy_42 rfl rfl ?_
      have hw : wh = 0 := by omega
      rw [show aBy T wh nu 1 = (0, tS T (fun mt => if (if (0 : Int) = 0 then tCr T mt else tHo T mt) = nu then (if (1 : Int) = 0 then 1 else tSign T mt) else 0)) from by rw [hw]; unfold aBy; rw [if_neg (by omega)]]
      exact ⟨rfl, cQ_st j1 q1 _⟩
    · refine z_iconst dX11_signedBy_29 (by decide) ?_
      refine z_goto (tgt := 34) dX11_signedBy_30 rfl ?_
      refine z_iload_n dX11_signedBy_34 rfl ?_
      refine z_iconst dX11_signedBy_35 (by decide) ?_
      refine z_callV mlX11_184 dX11_signedBy_36 (sx_8 j1.2.2.2.2.2.2.2.1.1) (av := [_, _, _]) rfl rfl (Nat.le_of_ble_eq_true rfl) (x_tally _ T X _ _ _ _ _ _ _ _ _ _ j1 h5 h6 _ nu _) (Nat.le_refl _) (Nat.le_refl _) (by first | exact Nat.le_refl _ | exact le.1) (by first | exact Nat.le_refl _ | exact le.2) ?_
      rintro _ _ ⟨rfl, rfl⟩
      refine z_callV mlX11_111 dX11_signedBy_39 (sx_0 j1.2.2.2.2.2.2.2.1.1) (av := [_]) rfl rfl (Nat.le_of_ble_eq_true rfl) (c_answer _ (sx_0 j1.2.2.2.2.2.2.2.1.1) _) (Nat.le_refl _) (Nat.le_refl _) (by first | exact Nat.le_refl _ | exact le.1) (by first | exact Nat.le_refl _ | exact le.2) ?_
      rintro _ _ ⟨rfl, rfl⟩
      refine z_iret dX11_signedBy_42 rfl rfl ?_
      have hw : wh = 1 := by omega
      rw [show aBy T wh nu 1 = (0, tS T (fun mt => if (if (1 : Int) = 0 then tCr T mt else tHo T mt) = nu then (if (1 : Int) = 0 then 1 else tSign T mt) else 0)) from by rw [hw]; unfold aBy; rw [if_neg (by omega)]]
      exact ⟨rfl, cQ_st j1 q1 _⟩
  refine ⟨E, ⟨Nat.le_refl _, Nat.le_refl _⟩, EB_e hJ, ?_⟩
  refine zR_go [zP 0, zI wh, zI nu] (by decide +kernel) (Nat.le_of_ble_eq_true rfl) rfl rfl ?_
  refine z_iload_n dX11_signedBy_0 rfl ?_
  refine z_if_lt (tgt := 13) dX11_signedBy_1 rfl (fun h1 => ?_) (fun h1 => ?_)
  · refine z_aload_n dX11_signedBy_13 rfl ?_
    refine z_iconst dX11_signedBy_14 (by decide) ?_
    refine z_callV mlX11_93 dX11_signedBy_15 (sx_0 hJ.2.2.2.2.2.2.2.1.1) (av := [_]) rfl rfl (Nat.le_of_ble_eq_true rfl) (c_refuse _ (sx_0 hJ.2.2.2.2.2.2.2.1.1) _) (Nat.le_refl _) (Nat.le_refl _) (by first | exact Nat.le_refl _ | exact le.1) (by first | exact Nat.le_refl _ | exact le.2) ?_
    rintro _ _ ⟨rfl, rfl⟩
    refine z_iret dX11_signedBy_18 rfl rfl ?_
    rw [show aBy T wh nu 1 = (1, -1) from by unfold aBy; rw [if_pos hc0]]
    exact ⟨rfl, cQ_st hJ qFr_rf _⟩
  · refine z_iload_n dX11_signedBy_4 rfl ?_
    refine z_iconst dX11_signedBy_5 (by decide) ?_
    refine z_icmp_gt (tgt := 13) dX11_signedBy_6 rfl (fun h6 => ?_) (fun h6 => ?_)
    · refine z_aload_n dX11_signedBy_13 rfl ?_
      refine z_iconst dX11_signedBy_14 (by decide) ?_
      refine z_callV mlX11_93 dX11_signedBy_15 (sx_0 hJ.2.2.2.2.2.2.2.1.1) (av := [_]) rfl rfl (Nat.le_of_ble_eq_true rfl) (c_refuse _ (sx_0 hJ.2.2.2.2.2.2.2.1.1) _) (Nat.le_refl _) (Nat.le_refl _) (by first | exact Nat.le_refl _ | exact le.1) (by first | exact Nat.le_refl _ | exact le.2) ?_
      rintro _ _ ⟨rfl, rfl⟩
      refine z_iret dX11_signedBy_18 rfl rfl ?_
      rw [show aBy T wh nu 1 = (1, -1) from by unfold aBy; rw [if_pos hc0]]
      exact ⟨rfl, cQ_st hJ qFr_rf _⟩
    · refine z_iload_n dX11_signedBy_9 rfl ?_
      refine z_if_ge (tgt := 19) dX11_signedBy_10 rfl (fun h => absurd h (by omega)) (fun h10 => ?_)
      refine z_aload_n dX11_signedBy_13 rfl ?_
      refine z_iconst dX11_signedBy_14 (by decide) ?_
      refine z_callV mlX11_93 dX11_signedBy_15 (sx_0 hJ.2.2.2.2.2.2.2.1.1) (av := [_]) rfl rfl (Nat.le_of_ble_eq_true rfl) (c_refuse _ (sx_0 hJ.2.2.2.2.2.2.2.1.1) _) (Nat.le_refl _) (Nat.le_refl _) (by first | exact Nat.le_refl _ | exact le.1) (by first | exact Nat.le_refl _ | exact le.2) ?_
      rintro _ _ ⟨rfl, rfl⟩
      refine z_iret dX11_signedBy_18 rfl rfl ?_
      rw [show aBy T wh nu 1 = (1, -1) from by unfold aBy; rw [if_pos hc0]]
      exact ⟨rfl, cQ_st hJ qFr_rf _⟩

theorem p_overlay (d : Nat) {E : zE} {m : zM} (T : zT) (X : Int → Int) (t s a cap a2 cap2 ka kcap b bcap : Int) (hJ : cJ m E T X t s a cap a2 cap2 ka kcap b bcap) (k o w : Int) : ∃ E1 : zE, (E.2.1 ≤ E1.2.1 ∧ E.2.2 ≤ E1.2.2) ∧ EB E1 ∧ zR zX11_overlay (d + 16) [zP 0, zI k, zI o, zI w] m E E1 (fun r m' => r = some (zI (aOverlay T k o w).2) ∧ cQ m m' E1 T X (aOverlay T k o w).1) := by
  have htt := cJ_t hJ
  have hln := (tA_l hJ.2.2.2.2.2.2.2.2.1).1
  have hni := nT_i hJ.2.2.2.2.2.2.2.2.1
  by_cases hc0 : (0 ≤ w ∧ w ≤ 1) ∧ (0 ≤ k ∧ k < lT T) ∧ (0 ≤ o ∧ o < lT T)
  · have le := pE_le E T cap
    refine ⟨pE E T cap, le, EB_p hJ T, ?_⟩
    refine zR_go [zP 0, zI k, zI o, zI w, zN] (by decide +kernel) (Nat.le_of_ble_eq_true rfl) rfl rfl ?_
    refine z_iload_n dX11_overlay_0 rfl ?_
    refine z_if_lt (tgt := 9) dX11_overlay_1 rfl (fun h => absurd h (by omega)) (fun h1 => ?_)
    refine z_iload_n dX11_overlay_4 rfl ?_
    refine z_iconst dX11_overlay_5 (by decide) ?_
    refine z_icmp_le (tgt := 15) dX11_overlay_6 rfl (fun h6 => ?_) (fun h => absurd (by omega) h)
    refine z_aload_n dX11_overlay_15 rfl ?_
    refine z_iload_n dX11_overlay_16 rfl ?_
    refine z_callV mlX11_262 dX11_overlay_17 (sx_0 hJ.2.2.2.2.2.2.2.1.1) (av := [_]) rfl rfl (Nat.le_of_ble_eq_true rfl) (c_hasPairing _ T X _ _ _ _ _ _ _ _ _ _ hJ _) (Nat.le_refl _) (Nat.le_refl _) (by first | exact Nat.le_refl _ | exact le.1) (by first | exact Nat.le_refl _ | exact le.2) ?_
    rintro _ m1 ⟨rfl, j1, q1, _⟩
    refine z_ifz_eq (tgt := 31) dX11_overlay_20 rfl (fun h => absurd hc0.2.1 h) (fun h20 => ?_)
    refine z_aload_n dX11_overlay_23 rfl ?_
    refine z_iload_n dX11_overlay_24 rfl ?_
    refine z_callV mlX11_262 dX11_overlay_25 (sx_0 j1.2.2.2.2.2.2.2.1.1) (av := [_]) rfl rfl (Nat.le_of_ble_eq_true rfl) (c_hasPairing _ T X _ _ _ _ _ _ _ _ _ _ j1 _) (Nat.le_refl _) (Nat.le_refl _) (by first | exact Nat.le_refl _ | exact le.1) (by first | exact Nat.le_refl _ | exact le.2) ?_
    rintro _ m2 ⟨rfl, j2, q2, _⟩
    refine z_ifz_ne (tgt := 37) dX11_overlay_28 rfl (fun h28 => ?_) (fun h => absurd hc0.2.2 h)
    refine z_aload_n dX11_overlay_37 rfl ?_
    refine z_callV mlX11_124 dX11_overlay_38 (sx_0 j2.2.2.2.2.2.2.2.1.1) (av := _) rfl rfl (Nat.le_of_ble_eq_true rfl) (c_kPx _ T X _ _ _ _ _ _ _ _ _ _ j2) (by first | exact Nat.le_refl _ | exact le.1) (by first | exact Nat.le_refl _ | exact le.2) (Nat.le_refl _) (Nat.le_refl _) ?_
    rintro _ m3 ⟨rfl, j3, h5, q3, _⟩
    refine z_astore dX11_overlay_41 (Nat.le_of_ble_eq_true rfl) ?_
    refine z_aload_n dX11_overlay_43 rfl ?_
    refine z_iload_n dX11_overlay_44 rfl ?_
    try dsimp only [zs0, zsI, zsP, zsN, zsJ, zsS, zst2, Nat.reduceAdd]
    refine z_if_ne (tgt := 58) dX11_overlay_45 rfl (fun h45 => ?_) (fun h45 => ?_)
    · refine z_aload dX11_overlay_58 rfl ?_
      refine z_iload_n dX11_overlay_60 rfl ?_
      refine z_iload_n dX11_overlay_61 rfl ?_
      refine z_callV mlX11_293 dX11_overlay_62 (sx_8 j3.2.2.2.2.2.2.2.1.1) (av := [_, _]) rfl rfl (Nat.le_of_ble_eq_true rfl) (x_rings _ T X _ _ _ _ _ _ _ _ _ _ j3 h5 k (by omega) (by omega) o (by omega) (by omega)) (Nat.le_refl _) (Nat.le_refl _) (by first | exact Nat.le_refl _ | exact le.1) (by first | exact Nat.le_refl _ | exact le.2) ?_
      rintro _ _ ⟨rfl, rfl⟩
      refine z_callV mlX11_111 dX11_overlay_65 (sx_0 j3.2.2.2.2.2.2.2.1.1) (av := [_]) rfl rfl (Nat.le_of_ble_eq_true rfl) (c_answer _ (sx_0 j3.2.2.2.2.2.2.2.1.1) _) (Nat.le_refl _) (Nat.le_refl _) (by first | exact Nat.le_refl _ | exact le.1) (by first | exact Nat.le_refl _ | exact le.2) ?_
      rintro _ _ ⟨rfl, rfl⟩
      refine z_iret dX11_overlay_68 rfl rfl ?_
      rw [show aOverlay T k o w = (0, (tRg T k o : Int)) from by unfold aOverlay; rw [if_neg (by omega), if_neg (not_not_intro hc0.2), if_pos (by omega)]]
      exact ⟨rfl, cQ_st j3 (qFr_tr (qFr_tr q1 q2) q3) _⟩
    · refine z_aload dX11_overlay_48 rfl ?_
      refine z_iload_n dX11_overlay_50 rfl ?_
      refine z_iload_n dX11_overlay_51 rfl ?_
      refine z_callV mlX11_290 dX11_overlay_52 (sx_8 j3.2.2.2.2.2.2.2.1.1) (av := [_, _]) rfl rfl (Nat.le_of_ble_eq_true rfl) (x_lines _ T X _ _ _ _ _ _ _ _ _ _ j3 h5 k (by omega) (by omega) o (by omega) (by omega)) (Nat.le_refl _) (Nat.le_refl _) (by first | exact Nat.le_refl _ | exact le.1) (by first | exact Nat.le_refl _ | exact le.2) ?_
      rintro _ _ ⟨rfl, rfl⟩
      refine z_goto (tgt := 65) dX11_overlay_55 rfl ?_
      refine z_callV mlX11_111 dX11_overlay_65 (sx_0 j3.2.2.2.2.2.2.2.1.1) (av := [_]) rfl rfl (Nat.le_of_ble_eq_true rfl) (c_answer _ (sx_0 j3.2.2.2.2.2.2.2.1.1) _) (Nat.le_refl _) (Nat.le_refl _) (by first | exact Nat.le_refl _ | exact le.1) (by first | exact Nat.le_refl _ | exact le.2) ?_
      rintro _ _ ⟨rfl, rfl⟩
      refine z_iret dX11_overlay_68 rfl rfl ?_
      rw [show aOverlay T k o w = (0, zsum (fun i => zb (tMt T k i = tMt T o i)) T.2.2.2.toNat 0 / 2) from by unfold aOverlay; rw [if_neg (by omega), if_neg (not_not_intro hc0.2), if_neg (by omega)]]
      exact ⟨rfl, cQ_st j3 (qFr_tr (qFr_tr q1 q2) q3) _⟩
  refine ⟨E, ⟨Nat.le_refl _, Nat.le_refl _⟩, EB_e hJ, ?_⟩
  refine zR_go [zP 0, zI k, zI o, zI w, zN] (by decide +kernel) (Nat.le_of_ble_eq_true rfl) rfl rfl ?_
  refine z_iload_n dX11_overlay_0 rfl ?_
  refine z_if_lt (tgt := 9) dX11_overlay_1 rfl (fun h1 => ?_) (fun h1 => ?_)
  · refine z_aload_n dX11_overlay_9 rfl ?_
    refine z_iconst dX11_overlay_10 (by decide) ?_
    refine z_callV mlX11_93 dX11_overlay_11 (sx_0 hJ.2.2.2.2.2.2.2.1.1) (av := [_]) rfl rfl (Nat.le_of_ble_eq_true rfl) (c_refuse _ (sx_0 hJ.2.2.2.2.2.2.2.1.1) _) (Nat.le_refl _) (Nat.le_refl _) (by first | exact Nat.le_refl _ | exact le.1) (by first | exact Nat.le_refl _ | exact le.2) ?_
    rintro _ _ ⟨rfl, rfl⟩
    refine z_iret dX11_overlay_14 rfl rfl ?_
    rw [show aOverlay T k o w = (1, -1) from by unfold aOverlay; rw [if_pos (by omega)]]
    exact ⟨rfl, cQ_st hJ qFr_rf _⟩
  · refine z_iload_n dX11_overlay_4 rfl ?_
    refine z_iconst dX11_overlay_5 (by decide) ?_
    refine z_icmp_le (tgt := 15) dX11_overlay_6 rfl (fun h6 => ?_) (fun h6 => ?_)
    · refine z_aload_n dX11_overlay_15 rfl ?_
      refine z_iload_n dX11_overlay_16 rfl ?_
      refine z_callV mlX11_262 dX11_overlay_17 (sx_0 hJ.2.2.2.2.2.2.2.1.1) (av := [_]) rfl rfl (Nat.le_of_ble_eq_true rfl) (c_hasPairing _ T X _ _ _ _ _ _ _ _ _ _ hJ _) (Nat.le_refl _) (Nat.le_refl _) (by first | exact Nat.le_refl _ | exact le.1) (by first | exact Nat.le_refl _ | exact le.2) ?_
      rintro _ m1 ⟨rfl, j1, q1, _⟩
      refine z_ifz_eq (tgt := 31) dX11_overlay_20 rfl (fun h20 => ?_) (fun h20 => ?_)
      · refine z_aload_n dX11_overlay_31 rfl ?_
        refine z_iconst dX11_overlay_32 (by decide) ?_
        refine z_callV mlX11_93 dX11_overlay_33 (sx_0 j1.2.2.2.2.2.2.2.1.1) (av := [_]) rfl rfl (Nat.le_of_ble_eq_true rfl) (c_refuse _ (sx_0 j1.2.2.2.2.2.2.2.1.1) _) (Nat.le_refl _) (Nat.le_refl _) (by first | exact Nat.le_refl _ | exact le.1) (by first | exact Nat.le_refl _ | exact le.2) ?_
        rintro _ _ ⟨rfl, rfl⟩
        refine z_iret dX11_overlay_36 rfl rfl ?_
        rw [show aOverlay T k o w = (2, -1) from by unfold aOverlay; rw [if_neg (by omega), if_pos (fun h => hc0 ⟨by omega, h⟩)]]
        exact ⟨rfl, cQ_st j1 q1 _⟩
      · refine z_aload_n dX11_overlay_23 rfl ?_
        refine z_iload_n dX11_overlay_24 rfl ?_
        refine z_callV mlX11_262 dX11_overlay_25 (sx_0 j1.2.2.2.2.2.2.2.1.1) (av := [_]) rfl rfl (Nat.le_of_ble_eq_true rfl) (c_hasPairing _ T X _ _ _ _ _ _ _ _ _ _ j1 _) (Nat.le_refl _) (Nat.le_refl _) (by first | exact Nat.le_refl _ | exact le.1) (by first | exact Nat.le_refl _ | exact le.2) ?_
        rintro _ m2 ⟨rfl, j2, q2, _⟩
        refine z_ifz_ne (tgt := 37) dX11_overlay_28 rfl (fun h => absurd h (fun h => hc0 ⟨by omega, h20, h⟩)) (fun h28 => ?_)
        refine z_aload_n dX11_overlay_31 rfl ?_
        refine z_iconst dX11_overlay_32 (by decide) ?_
        refine z_callV mlX11_93 dX11_overlay_33 (sx_0 j2.2.2.2.2.2.2.2.1.1) (av := [_]) rfl rfl (Nat.le_of_ble_eq_true rfl) (c_refuse _ (sx_0 j2.2.2.2.2.2.2.2.1.1) _) (Nat.le_refl _) (Nat.le_refl _) (by first | exact Nat.le_refl _ | exact le.1) (by first | exact Nat.le_refl _ | exact le.2) ?_
        rintro _ _ ⟨rfl, rfl⟩
        refine z_iret dX11_overlay_36 rfl rfl ?_
        rw [show aOverlay T k o w = (2, -1) from by unfold aOverlay; rw [if_neg (by omega), if_pos (fun h => hc0 ⟨by omega, h⟩)]]
        exact ⟨rfl, cQ_st j2 (qFr_tr q1 q2) _⟩
    · refine z_aload_n dX11_overlay_9 rfl ?_
      refine z_iconst dX11_overlay_10 (by decide) ?_
      refine z_callV mlX11_93 dX11_overlay_11 (sx_0 hJ.2.2.2.2.2.2.2.1.1) (av := [_]) rfl rfl (Nat.le_of_ble_eq_true rfl) (c_refuse _ (sx_0 hJ.2.2.2.2.2.2.2.1.1) _) (Nat.le_refl _) (Nat.le_refl _) (by first | exact Nat.le_refl _ | exact le.1) (by first | exact Nat.le_refl _ | exact le.2) ?_
      rintro _ _ ⟨rfl, rfl⟩
      refine z_iret dX11_overlay_14 rfl rfl ?_
      rw [show aOverlay T k o w = (1, -1) from by unfold aOverlay; rw [if_pos (by omega)]]
      exact ⟨rfl, cQ_st hJ qFr_rf _⟩

theorem p_pairing (d : Nat) {E : zE} {m : zM} (T : zT) (X : Int → Int) (t s a cap a2 cap2 ka kcap b bcap : Int) (hJ : cJ m E T X t s a cap a2 cap2 ka kcap b bcap) (k w : Int) : ∃ E1 : zE, (E.2.1 ≤ E1.2.1 ∧ E.2.2 ≤ E1.2.2) ∧ EB E1 ∧ zR zX11_pairing (d + 16) [zP 0, zI k, zI w] m E E1 (fun r m' => r = some (zI (aPairing T k w).2) ∧ cQ m m' E1 T X (aPairing T k w).1) := by
  have htt := cJ_t hJ
  have hln := (tA_l hJ.2.2.2.2.2.2.2.2.1).1
  have hni := nT_i hJ.2.2.2.2.2.2.2.2.1
  by_cases hc0 : ((0 ≤ w ∧ w ≤ 4) ∧ w ≠ 3) ∧ (0 ≤ k ∧ k < lT T)
  · have le := pE_le E T cap
    refine ⟨pE E T cap, le, EB_p hJ T, ?_⟩
    refine zR_go [zP 0, zI k, zI w] (by decide +kernel) (Nat.le_of_ble_eq_true rfl) rfl rfl ?_
    refine z_iload_n dX11_pairing_0 rfl ?_
    refine z_if_lt (tgt := 9) dX11_pairing_1 rfl (fun h => absurd h (by omega)) (fun h1 => ?_)
    refine z_iload_n dX11_pairing_4 rfl ?_
    refine z_iconst dX11_pairing_5 (by decide) ?_
    refine z_icmp_le (tgt := 15) dX11_pairing_6 rfl (fun h6 => ?_) (fun h => absurd (by omega) h)
    refine z_aload_n dX11_pairing_15 rfl ?_
    refine z_iload_n dX11_pairing_16 rfl ?_
    refine z_callV mlX11_262 dX11_pairing_17 (sx_0 hJ.2.2.2.2.2.2.2.1.1) (av := [_]) rfl rfl (Nat.le_of_ble_eq_true rfl) (c_hasPairing _ T X _ _ _ _ _ _ _ _ _ _ hJ _) (Nat.le_refl _) (Nat.le_refl _) (by first | exact Nat.le_refl _ | exact le.1) (by first | exact Nat.le_refl _ | exact le.2) ?_
    rintro _ m1 ⟨rfl, j1, q1, _⟩
    refine z_ifz_ne (tgt := 29) dX11_pairing_20 rfl (fun h20 => ?_) (fun h => absurd hc0.2 h)
    refine z_iload_n dX11_pairing_29 rfl ?_
    by_cases hs0 : w = 0
    · refine z_tabIn (tgt := 60) dX11_pairing_30 (by omega) (by omega) (by rw [hs0]; rfl) rfl ?_
      refine z_aload_n dX11_pairing_60 rfl ?_
      refine z_aload_n dX11_pairing_61 rfl ?_
      refine z_callV mlX11_124 dX11_pairing_62 (sx_0 j1.2.2.2.2.2.2.2.1.1) (av := _) rfl rfl (Nat.le_of_ble_eq_true rfl) (c_kPx _ T X _ _ _ _ _ _ _ _ _ _ j1) (by first | exact Nat.le_refl _ | exact le.1) (by first | exact Nat.le_refl _ | exact le.2) (Nat.le_refl _) (Nat.le_refl _) ?_
      rintro _ m2 ⟨rfl, j2, h5, q2, _⟩
      refine z_iload_n dX11_pairing_65 rfl ?_
      refine z_callV mlX11_268 dX11_pairing_66 (sx_8 j2.2.2.2.2.2.2.2.1.1) (av := [_]) rfl rfl (Nat.le_of_ble_eq_true rfl) (x_sign _ T X _ _ _ _ _ _ _ _ _ _ j2 h5 k (by omega) (by omega)) (Nat.le_refl _) (Nat.le_refl _) (by first | exact Nat.le_refl _ | exact le.1) (by first | exact Nat.le_refl _ | exact le.2) ?_
      rintro _ _ ⟨rfl, rfl⟩
      refine z_callV mlX11_111 dX11_pairing_69 (sx_0 j2.2.2.2.2.2.2.2.1.1) (av := [_]) rfl rfl (Nat.le_of_ble_eq_true rfl) (c_answer _ (sx_0 j2.2.2.2.2.2.2.2.1.1) _) (Nat.le_refl _) (Nat.le_refl _) (by first | exact Nat.le_refl _ | exact le.1) (by first | exact Nat.le_refl _ | exact le.2) ?_
      rintro _ _ ⟨rfl, rfl⟩
      refine z_iret dX11_pairing_72 rfl rfl ?_
      have hk := hc0.2
      rw [show aPairing T k w = (0, tSign T (tMt T k)) from by unfold aPairing; rw [if_neg (by omega), if_neg (not_not_intro hk), if_pos hs0]]
      exact ⟨rfl, cQ_st j2 (qFr_tr q1 q2) _⟩
    by_cases hs1 : w = 1
    · refine z_tabIn (tgt := 73) dX11_pairing_30 (by omega) (by omega) (by rw [hs1]; rfl) rfl ?_
      refine z_aload_n dX11_pairing_73 rfl ?_
      refine z_aload_n dX11_pairing_74 rfl ?_
      refine z_callV mlX11_124 dX11_pairing_75 (sx_0 j1.2.2.2.2.2.2.2.1.1) (av := _) rfl rfl (Nat.le_of_ble_eq_true rfl) (c_kPx _ T X _ _ _ _ _ _ _ _ _ _ j1) (by first | exact Nat.le_refl _ | exact le.1) (by first | exact Nat.le_refl _ | exact le.2) (Nat.le_refl _) (Nat.le_refl _) ?_
      rintro _ m2 ⟨rfl, j2, h5, q2, _⟩
      refine z_iload_n dX11_pairing_78 rfl ?_
      refine z_callV mlX11_271 dX11_pairing_79 (sx_8 j2.2.2.2.2.2.2.2.1.1) (av := [_]) rfl rfl (Nat.le_of_ble_eq_true rfl) (x_cross _ T X _ _ _ _ _ _ _ _ _ _ j2 h5 k (by omega) (by omega)) (Nat.le_refl _) (Nat.le_refl _) (by first | exact Nat.le_refl _ | exact le.1) (by first | exact Nat.le_refl _ | exact le.2) ?_
      rintro _ _ ⟨rfl, rfl⟩
      refine z_callV mlX11_111 dX11_pairing_82 (sx_0 j2.2.2.2.2.2.2.2.1.1) (av := [_]) rfl rfl (Nat.le_of_ble_eq_true rfl) (c_answer _ (sx_0 j2.2.2.2.2.2.2.2.1.1) _) (Nat.le_refl _) (Nat.le_refl _) (by first | exact Nat.le_refl _ | exact le.1) (by first | exact Nat.le_refl _ | exact le.2) ?_
      rintro _ _ ⟨rfl, rfl⟩
      refine z_iret dX11_pairing_85 rfl rfl ?_
      have hk := hc0.2
      rw [show aPairing T k w = (0, tCr T (tMt T k)) from by unfold aPairing; rw [if_neg (by omega), if_neg (not_not_intro hk), if_neg (by omega), if_pos hs1]]
      exact ⟨rfl, cQ_st j2 (qFr_tr q1 q2) _⟩
    by_cases hs2 : w = 2
    · refine z_tabIn (tgt := 86) dX11_pairing_30 (by omega) (by omega) (by rw [hs2]; rfl) rfl ?_
      refine z_aload_n dX11_pairing_86 rfl ?_
      refine z_aload_n dX11_pairing_87 rfl ?_
      refine z_callV mlX11_274 dX11_pairing_88 (sx_0 j1.2.2.2.2.2.2.2.1.1) (av := _) rfl rfl (Nat.le_of_ble_eq_true rfl) (c_kRx _ T X _ _ _ _ _ _ _ _ _ _ j1) (by first | exact Nat.le_refl _ | exact le.1) (by first | exact Nat.le_refl _ | exact le.2) (Nat.le_refl _) (Nat.le_refl _) ?_
      rintro _ m2 ⟨rfl, j2, h5, h6, q2, _⟩
      refine z_iload_n dX11_pairing_91 rfl ?_
      refine z_callV mlX11_277 dX11_pairing_92 (sx_8 j2.2.2.2.2.2.2.2.1.1) (av := [_]) rfl rfl (Nat.le_of_ble_eq_true rfl) (x_holes _ T X _ _ _ _ _ _ _ _ _ _ j2 h5 h6 k (by omega) (by omega)) (Nat.le_refl _) (Nat.le_refl _) (by first | exact Nat.le_refl _ | exact le.1) (by first | exact Nat.le_refl _ | exact le.2) ?_
      rintro _ _ ⟨rfl, rfl⟩
      refine z_callV mlX11_111 dX11_pairing_95 (sx_0 j2.2.2.2.2.2.2.2.1.1) (av := [_]) rfl rfl (Nat.le_of_ble_eq_true rfl) (c_answer _ (sx_0 j2.2.2.2.2.2.2.2.1.1) _) (Nat.le_refl _) (Nat.le_refl _) (by first | exact Nat.le_refl _ | exact le.1) (by first | exact Nat.le_refl _ | exact le.2) ?_
      rintro _ _ ⟨rfl, rfl⟩
      refine z_iret dX11_pairing_98 rfl rfl ?_
      have hk := hc0.2
      rw [show aPairing T k w = (0, tHo T (tMt T k)) from by unfold aPairing; rw [if_neg (by omega), if_neg (not_not_intro hk), if_neg (by omega), if_neg (by omega), if_pos hs2]]
      exact ⟨rfl, cQ_st j2 (qFr_tr q1 q2) _⟩
    refine z_tabOut (tgt := 112) dX11_pairing_30 (by omega) rfl ?_
    refine z_aload_n dX11_pairing_112 rfl ?_
    refine z_aload_n dX11_pairing_113 rfl ?_
    refine z_callV mlX11_274 dX11_pairing_114 (sx_0 j1.2.2.2.2.2.2.2.1.1) (av := _) rfl rfl (Nat.le_of_ble_eq_true rfl) (c_kRx _ T X _ _ _ _ _ _ _ _ _ _ j1) (by first | exact Nat.le_refl _ | exact le.1) (by first | exact Nat.le_refl _ | exact le.2) (Nat.le_refl _) (Nat.le_refl _) ?_
    rintro _ m2 ⟨rfl, j2, h5, h6, q2, _⟩
    refine z_iload_n dX11_pairing_117 rfl ?_
    refine z_callV mlX11_283 dX11_pairing_118 (sx_8 j2.2.2.2.2.2.2.2.1.1) (av := [_]) rfl rfl (Nat.le_of_ble_eq_true rfl) (x_rounds _ T X _ _ _ _ _ _ _ _ _ _ j2 h5 h6 k (by omega) (by omega)) (Nat.le_refl _) (Nat.le_refl _) (by first | exact Nat.le_refl _ | exact le.1) (by first | exact Nat.le_refl _ | exact le.2) ?_
    rintro _ _ ⟨rfl, rfl⟩
    refine z_callV mlX11_111 dX11_pairing_121 (sx_0 j2.2.2.2.2.2.2.2.1.1) (av := [_]) rfl rfl (Nat.le_of_ble_eq_true rfl) (c_answer _ (sx_0 j2.2.2.2.2.2.2.2.1.1) _) (Nat.le_refl _) (Nat.le_refl _) (by first | exact Nat.le_refl _ | exact le.1) (by first | exact Nat.le_refl _ | exact le.2) ?_
    rintro _ _ ⟨rfl, rfl⟩
    refine z_iret dX11_pairing_124 rfl rfl ?_
    have hk := hc0.2
    rw [show aPairing T k w = (0, tRo T (tMt T k)) from by unfold aPairing; rw [if_neg (by omega), if_neg (not_not_intro hk), if_neg (by omega), if_neg (by omega), if_neg (by omega), if_neg (by omega)]]
    exact ⟨rfl, cQ_st j2 (qFr_tr q1 q2) _⟩
  by_cases hc1 : w = 3 ∧ (0 ≤ k ∧ k < lT T)
  · have le := dE_le E T cap kcap bcap
    refine ⟨dE E T cap kcap bcap, le, EB_d hJ, ?_⟩
    refine zR_go [zP 0, zI k, zI w] (by decide +kernel) (Nat.le_of_ble_eq_true rfl) rfl rfl ?_
    refine z_iload_n dX11_pairing_0 rfl ?_
    refine z_if_lt (tgt := 9) dX11_pairing_1 rfl (fun h => absurd h (by omega)) (fun h1 => ?_)
    refine z_iload_n dX11_pairing_4 rfl ?_
    refine z_iconst dX11_pairing_5 (by decide) ?_
    refine z_icmp_le (tgt := 15) dX11_pairing_6 rfl (fun h6 => ?_) (fun h => absurd (by omega) h)
    refine z_aload_n dX11_pairing_15 rfl ?_
    refine z_iload_n dX11_pairing_16 rfl ?_
    refine z_callV mlX11_262 dX11_pairing_17 (sx_0 hJ.2.2.2.2.2.2.2.1.1) (av := [_]) rfl rfl (Nat.le_of_ble_eq_true rfl) (c_hasPairing _ T X _ _ _ _ _ _ _ _ _ _ hJ _) (Nat.le_refl _) (Nat.le_refl _) (by first | exact Nat.le_refl _ | exact le.1) (by first | exact Nat.le_refl _ | exact le.2) ?_
    rintro _ m1 ⟨rfl, j1, q1, _⟩
    refine z_ifz_ne (tgt := 29) dX11_pairing_20 rfl (fun h20 => ?_) (fun h => absurd hc1.2 h)
    refine z_iload_n dX11_pairing_29 rfl ?_
    by_cases hs3 : w = 3
    · refine z_tabIn (tgt := 99) dX11_pairing_30 (by omega) (by omega) (by rw [hs3]; rfl) rfl ?_
      refine z_aload_n dX11_pairing_99 rfl ?_
      refine z_aload_n dX11_pairing_100 rfl ?_
      refine z_callV mlX11_142 dX11_pairing_101 (sx_0 j1.2.2.2.2.2.2.2.1.1) (av := _) rfl rfl (Nat.le_of_ble_eq_true rfl) (c_kDx _ T X _ _ _ _ _ _ _ _ _ _ j1) (by first | exact Nat.le_refl _ | exact le.1) (by first | exact Nat.le_refl _ | exact le.2) (Nat.le_refl _) (Nat.le_refl _) ?_
      rintro _ m2 ⟨rfl, ka1, kc1, b1, bc1, j2, h9, q2⟩
      obtain ⟨⟨D, F, cc, z1, z2, z3⟩, z4⟩ := j2.2.2.2.2.2.1.2.2.2.2.2.2 h9
      refine z_iload_n dX11_pairing_104 rfl ?_
      refine z_callV mlX11_280 dX11_pairing_105 (sx_14 j2.2.2.2.2.2.2.2.1.1) (av := [_]) rfl rfl (Nat.le_of_ble_eq_true rfl) (x_dof _ T X _ _ _ _ _ _ _ _ _ _ j2 h9 k (by omega) (by omega)) (Nat.le_refl _) (Nat.le_refl _) (by first | exact Nat.le_refl _ | exact le.1) (by first | exact Nat.le_refl _ | exact le.2) ?_
      rintro _ _ ⟨rfl, rfl⟩
      refine z_callV mlX11_111 dX11_pairing_108 (sx_0 j2.2.2.2.2.2.2.2.1.1) (av := [_]) rfl rfl (Nat.le_of_ble_eq_true rfl) (c_answer _ (sx_0 j2.2.2.2.2.2.2.2.1.1) _) (Nat.le_refl _) (Nat.le_refl _) (by first | exact Nat.le_refl _ | exact le.1) (by first | exact Nat.le_refl _ | exact le.2) ?_
      rintro _ _ ⟨rfl, rfl⟩
      refine z_iret dX11_pairing_111 rfl rfl ?_
      have hk := hc1.2
      rw [show aPairing T k w = (0, tIx T (tName T (tMt T k))) from by unfold aPairing; rw [if_neg (by omega), if_neg (not_not_intro hk), if_neg (by omega), if_neg (by omega), if_neg (by omega), if_pos hs3]]
      exact ⟨rfl, cQ_st j2 (qFr_tr q1 q2) _⟩
    exfalso; omega
  refine ⟨E, ⟨Nat.le_refl _, Nat.le_refl _⟩, EB_e hJ, ?_⟩
  refine zR_go [zP 0, zI k, zI w] (by decide +kernel) (Nat.le_of_ble_eq_true rfl) rfl rfl ?_
  refine z_iload_n dX11_pairing_0 rfl ?_
  refine z_if_lt (tgt := 9) dX11_pairing_1 rfl (fun h1 => ?_) (fun h1 => ?_)
  · refine z_aload_n dX11_pairing_9 rfl ?_
    refine z_iconst dX11_pairing_10 (by decide) ?_
    refine z_callV mlX11_93 dX11_pairing_11 (sx_0 hJ.2.2.2.2.2.2.2.1.1) (av := [_]) rfl rfl (Nat.le_of_ble_eq_true rfl) (c_refuse _ (sx_0 hJ.2.2.2.2.2.2.2.1.1) _) (Nat.le_refl _) (Nat.le_refl _) (by first | exact Nat.le_refl _ | exact le.1) (by first | exact Nat.le_refl _ | exact le.2) ?_
    rintro _ _ ⟨rfl, rfl⟩
    refine z_iret dX11_pairing_14 rfl rfl ?_
    rw [show aPairing T k w = (1, -1) from by unfold aPairing; rw [if_pos (by omega)]]
    exact ⟨rfl, cQ_st hJ qFr_rf _⟩
  · refine z_iload_n dX11_pairing_4 rfl ?_
    refine z_iconst dX11_pairing_5 (by decide) ?_
    refine z_icmp_le (tgt := 15) dX11_pairing_6 rfl (fun h6 => ?_) (fun h6 => ?_)
    · refine z_aload_n dX11_pairing_15 rfl ?_
      refine z_iload_n dX11_pairing_16 rfl ?_
      refine z_callV mlX11_262 dX11_pairing_17 (sx_0 hJ.2.2.2.2.2.2.2.1.1) (av := [_]) rfl rfl (Nat.le_of_ble_eq_true rfl) (c_hasPairing _ T X _ _ _ _ _ _ _ _ _ _ hJ _) (Nat.le_refl _) (Nat.le_refl _) (by first | exact Nat.le_refl _ | exact le.1) (by first | exact Nat.le_refl _ | exact le.2) ?_
      rintro _ m1 ⟨rfl, j1, q1, _⟩
      refine z_ifz_ne (tgt := 29) dX11_pairing_20 rfl (fun h => absurd h (fun h => by omega)) (fun h20 => ?_)
      refine z_aload_n dX11_pairing_23 rfl ?_
      refine z_iconst dX11_pairing_24 (by decide) ?_
      refine z_callV mlX11_93 dX11_pairing_25 (sx_0 j1.2.2.2.2.2.2.2.1.1) (av := [_]) rfl rfl (Nat.le_of_ble_eq_true rfl) (c_refuse _ (sx_0 j1.2.2.2.2.2.2.2.1.1) _) (Nat.le_refl _) (Nat.le_refl _) (by first | exact Nat.le_refl _ | exact le.1) (by first | exact Nat.le_refl _ | exact le.2) ?_
      rintro _ _ ⟨rfl, rfl⟩
      refine z_iret dX11_pairing_28 rfl rfl ?_
      rw [show aPairing T k w = (2, -1) from by unfold aPairing; rw [if_neg (by omega), if_pos h20]]
      exact ⟨rfl, cQ_st j1 q1 _⟩
    · refine z_aload_n dX11_pairing_9 rfl ?_
      refine z_iconst dX11_pairing_10 (by decide) ?_
      refine z_callV mlX11_93 dX11_pairing_11 (sx_0 hJ.2.2.2.2.2.2.2.1.1) (av := [_]) rfl rfl (Nat.le_of_ble_eq_true rfl) (c_refuse _ (sx_0 hJ.2.2.2.2.2.2.2.1.1) _) (Nat.le_refl _) (Nat.le_refl _) (by first | exact Nat.le_refl _ | exact le.1) (by first | exact Nat.le_refl _ | exact le.2) ?_
      rintro _ _ ⟨rfl, rfl⟩
      refine z_iret dX11_pairing_14 rfl rfl ?_
      rw [show aPairing T k w = (1, -1) from by unfold aPairing; rw [if_pos (by omega)]]
      exact ⟨rfl, cQ_st hJ qFr_rf _⟩

theorem p_many (d : Nat) {E : zE} {m : zM} (T : zT) (X : Int → Int) (t s a cap a2 cap2 ka kcap b bcap : Int) (hJ : cJ m E T X t s a cap a2 cap2 ka kcap b bcap) (w : Int) : ∃ E1 : zE, (E.2.1 ≤ E1.2.1 ∧ E.2.2 ≤ E1.2.2) ∧ EB E1 ∧ zR zX11_many (d + 16) [zP 0, zI w] m E E1 (fun r m' => r = some (zI (aMany T w).2) ∧ cQ m m' E1 T X (aMany T w).1) := by
  have htt := cJ_t hJ
  have hln := (tA_l hJ.2.2.2.2.2.2.2.2.1).1
  have hni := nT_i hJ.2.2.2.2.2.2.2.2.1
  by_cases hc0 : w = 7 ∨ w = 10
  · have le := pE_le E T cap
    refine ⟨pE E T cap, le, EB_p hJ T, ?_⟩
    refine zR_go [zP 0, zI w] (by decide +kernel) (Nat.le_of_ble_eq_true rfl) rfl rfl ?_
    refine z_iload_n dX11_many_0 rfl ?_
    by_cases hs7 : w = 7
    · refine z_tabIn (tgt := 149) dX11_many_1 (by omega) (by omega) (by rw [hs7]; rfl) rfl ?_
      refine z_aload_n dX11_many_149 rfl ?_
      refine z_aload_n dX11_many_150 rfl ?_
      refine z_callV mlX11_124 dX11_many_151 (sx_0 hJ.2.2.2.2.2.2.2.1.1) (av := _) rfl rfl (Nat.le_of_ble_eq_true rfl) (c_kPx _ T X _ _ _ _ _ _ _ _ _ _ hJ) (by first | exact Nat.le_refl _ | exact le.1) (by first | exact Nat.le_refl _ | exact le.2) (Nat.le_refl _) (Nat.le_refl _) ?_
      rintro _ m1 ⟨rfl, j1, h5, q1, _⟩
      refine z_callV mlX11_175 dX11_many_154 (sx_8 j1.2.2.2.2.2.2.2.1.1) (av := _) rfl rfl (Nat.le_of_ble_eq_true rfl) (x_signs _ T X _ _ _ _ _ _ _ _ _ _ j1 h5 ) (Nat.le_refl _) (Nat.le_refl _) (by first | exact Nat.le_refl _ | exact le.1) (by first | exact Nat.le_refl _ | exact le.2) ?_
      rintro _ _ ⟨rfl, rfl⟩
      refine z_callV mlX11_111 dX11_many_157 (sx_0 j1.2.2.2.2.2.2.2.1.1) (av := [_]) rfl rfl (Nat.le_of_ble_eq_true rfl) (c_answer _ (sx_0 j1.2.2.2.2.2.2.2.1.1) _) (Nat.le_refl _) (Nat.le_refl _) (by first | exact Nat.le_refl _ | exact le.1) (by first | exact Nat.le_refl _ | exact le.2) ?_
      rintro _ _ ⟨rfl, rfl⟩
      refine z_iret dX11_many_160 rfl rfl ?_
      rw [show aMany T w = (0, tS T (tSign T)) from by unfold aMany; rw [if_neg (by omega), if_neg (by omega), if_neg (by omega), if_neg (by omega), if_neg (by omega), if_neg (by omega), if_pos (by omega)]]
      exact ⟨rfl, cQ_st j1 q1 _⟩
    by_cases hs10 : w = 10
    · refine z_tabIn (tgt := 185) dX11_many_1 (by omega) (by omega) (by rw [hs10]; rfl) rfl ?_
      refine z_aload_n dX11_many_185 rfl ?_
      refine z_aload_n dX11_many_186 rfl ?_
      refine z_callV mlX11_124 dX11_many_187 (sx_0 hJ.2.2.2.2.2.2.2.1.1) (av := _) rfl rfl (Nat.le_of_ble_eq_true rfl) (c_kPx _ T X _ _ _ _ _ _ _ _ _ _ hJ) (by first | exact Nat.le_refl _ | exact le.1) (by first | exact Nat.le_refl _ | exact le.2) (Nat.le_refl _) (Nat.le_refl _) ?_
      rintro _ m1 ⟨rfl, j1, h5, q1, _⟩
      refine z_iconst dX11_many_190 (by decide) ?_
      refine z_iconst dX11_many_191 (by decide) ?_
      refine z_iconst dX11_many_192 (by decide) ?_
      refine z_callV mlX11_184 dX11_many_193 (sx_8 j1.2.2.2.2.2.2.2.1.1) (av := [_, _, _]) rfl rfl (Nat.le_of_ble_eq_true rfl) (x_tally0 _ T X _ _ _ _ _ _ _ _ _ _ j1 h5 0) (Nat.le_refl _) (Nat.le_refl _) (by first | exact Nat.le_refl _ | exact le.1) (by first | exact Nat.le_refl _ | exact le.2) ?_
      rintro _ _ ⟨rfl, rfl⟩
      refine z_callV mlX11_111 dX11_many_196 (sx_0 j1.2.2.2.2.2.2.2.1.1) (av := [_]) rfl rfl (Nat.le_of_ble_eq_true rfl) (c_answer _ (sx_0 j1.2.2.2.2.2.2.2.1.1) _) (Nat.le_refl _) (Nat.le_refl _) (by first | exact Nat.le_refl _ | exact le.1) (by first | exact Nat.le_refl _ | exact le.2) ?_
      rintro _ _ ⟨rfl, rfl⟩
      refine z_iret dX11_many_199 rfl rfl ?_
      rw [show aMany T w = (0, tS T (fun mt => zb (tCr T mt = 0))) from by unfold aMany; rw [if_neg (by omega), if_neg (by omega), if_neg (by omega), if_neg (by omega), if_neg (by omega), if_neg (by omega), if_neg (by omega), if_pos (by omega)]]
      exact ⟨rfl, cQ_st j1 q1 _⟩
    exfalso; omega
  by_cases hc1 : w = 6 ∨ w = 8 ∨ w = 9 ∨ w = 11 ∨ w = 12
  · have le := dE_le E T cap kcap bcap
    refine ⟨dE E T cap kcap bcap, le, EB_d hJ, ?_⟩
    refine zR_go [zP 0, zI w] (by decide +kernel) (Nat.le_of_ble_eq_true rfl) rfl rfl ?_
    refine z_iload_n dX11_many_0 rfl ?_
    by_cases hs6 : w = 6
    · refine z_tabIn (tgt := 137) dX11_many_1 (by omega) (by omega) (by rw [hs6]; rfl) rfl ?_
      refine z_aload_n dX11_many_137 rfl ?_
      refine z_aload_n dX11_many_138 rfl ?_
      refine z_callV mlX11_142 dX11_many_139 (sx_0 hJ.2.2.2.2.2.2.2.1.1) (av := _) rfl rfl (Nat.le_of_ble_eq_true rfl) (c_kDx _ T X _ _ _ _ _ _ _ _ _ _ hJ) (by first | exact Nat.le_refl _ | exact le.1) (by first | exact Nat.le_refl _ | exact le.2) (Nat.le_refl _) (Nat.le_refl _) ?_
      rintro _ m1 ⟨rfl, ka1, kc1, b1, bc1, j1, h9, q1⟩
      obtain ⟨⟨D, F, cc, z1, z2, z3⟩, z4⟩ := j1.2.2.2.2.2.1.2.2.2.2.2.2 h9
      refine z_gIv 18 rfl flX11_172 dX11_many_142 (sx_14 j1.2.2.2.2.2.2.2.1.1) rfl (dM_18 z1) ?_
      refine z_callV mlX11_111 dX11_many_145 (sx_0 j1.2.2.2.2.2.2.2.1.1) (av := [_]) rfl rfl (Nat.le_of_ble_eq_true rfl) (c_answer _ (sx_0 j1.2.2.2.2.2.2.2.1.1) _) (Nat.le_refl _) (Nat.le_refl _) (by first | exact Nat.le_refl _ | exact le.1) (by first | exact Nat.le_refl _ | exact le.2) ?_
      rintro _ _ ⟨rfl, rfl⟩
      refine z_iret dX11_many_148 rfl rfl ?_
      rw [show aMany T w = (0, ((tD T).length : Int)) from by unfold aMany; rw [if_neg (by omega), if_neg (by omega), if_neg (by omega), if_neg (by omega), if_neg (by omega), if_pos (by omega)]]
      exact ⟨rfl, cQ_st j1 q1 _⟩
    by_cases hs8 : w = 8
    · refine z_tabIn (tgt := 161) dX11_many_1 (by omega) (by omega) (by rw [hs8]; rfl) rfl ?_
      refine z_aload_n dX11_many_161 rfl ?_
      refine z_aload_n dX11_many_162 rfl ?_
      refine z_callV mlX11_142 dX11_many_163 (sx_0 hJ.2.2.2.2.2.2.2.1.1) (av := _) rfl rfl (Nat.le_of_ble_eq_true rfl) (c_kDx _ T X _ _ _ _ _ _ _ _ _ _ hJ) (by first | exact Nat.le_refl _ | exact le.1) (by first | exact Nat.le_refl _ | exact le.2) (Nat.le_refl _) (Nat.le_refl _) ?_
      rintro _ m1 ⟨rfl, ka1, kc1, b1, bc1, j1, h9, q1⟩
      obtain ⟨⟨D, F, cc, z1, z2, z3⟩, z4⟩ := j1.2.2.2.2.2.1.2.2.2.2.2.2 h9
      refine z_callV mlX11_178 dX11_many_166 (sx_14 j1.2.2.2.2.2.2.2.1.1) (av := _) rfl rfl (Nat.le_of_ble_eq_true rfl) (c_linkedPairings _ (sx_14 j1.2.2.2.2.2.2.2.1.1) T (tA_w j1.2.2.2.2.2.2.2.2.1) (tA_l j1.2.2.2.2.2.2.2.2.1) (tA_v j1.2.2.2.2.2.2.2.2.1) b1 bc1 j1.2.2.2.2.2.2.2.1.2.2.2.2.1 (by have := bE_pos j1.2.2.2.2.2.2.2.1; omega) (prs_cap j1.2.2.2.2.2.2.2.2.1 z4.2.2) (prs_len j1.2.2.2.2.2.2.2.2.1) (sx_G18 j1.2.2.2.2.2.2.2.1.1) D z1) (Nat.le_refl _) (Nat.le_refl _) (by first | exact Nat.le_refl _ | exact le.1) (by first | exact Nat.le_refl _ | exact le.2) ?_
      rintro _ m2 ⟨rfl, f2, y2⟩
      obtain ⟨j2, q2, h9_⟩ := cJ_sh j1 h9 z2 z3 f2 y2
      refine z_callV mlX11_111 dX11_many_169 (sx_0 j2.2.2.2.2.2.2.2.1.1) (av := [_]) rfl rfl (Nat.le_of_ble_eq_true rfl) (c_answer _ (sx_0 j2.2.2.2.2.2.2.2.1.1) _) (Nat.le_refl _) (Nat.le_refl _) (by first | exact Nat.le_refl _ | exact le.1) (by first | exact Nat.le_refl _ | exact le.2) ?_
      rintro _ _ ⟨rfl, rfl⟩
      refine z_iret dX11_many_172 rfl rfl ?_
      rw [show aMany T w = (0, tMany T 0 0) from by unfold aMany; rw [if_neg (by omega), if_neg (by omega), if_neg (by omega), if_neg (by omega), if_neg (by omega), if_neg (by omega), if_neg (by omega), if_neg (by omega), if_pos (by omega)]]
      exact ⟨rfl, cQ_st j2 (qFr_tr q1 q2) _⟩
    by_cases hs9 : w = 9
    · refine z_tabIn (tgt := 173) dX11_many_1 (by omega) (by omega) (by rw [hs9]; rfl) rfl ?_
      refine z_aload_n dX11_many_173 rfl ?_
      refine z_aload_n dX11_many_174 rfl ?_
      refine z_callV mlX11_142 dX11_many_175 (sx_0 hJ.2.2.2.2.2.2.2.1.1) (av := _) rfl rfl (Nat.le_of_ble_eq_true rfl) (c_kDx _ T X _ _ _ _ _ _ _ _ _ _ hJ) (by first | exact Nat.le_refl _ | exact le.1) (by first | exact Nat.le_refl _ | exact le.2) (Nat.le_refl _) (Nat.le_refl _) ?_
      rintro _ m1 ⟨rfl, ka1, kc1, b1, bc1, j1, h9, q1⟩
      obtain ⟨⟨D, F, cc, z1, z2, z3⟩, z4⟩ := j1.2.2.2.2.2.1.2.2.2.2.2.2 h9
      refine z_callV mlX11_181 dX11_many_178 (sx_14 j1.2.2.2.2.2.2.2.1.1) (av := _) rfl rfl (Nat.le_of_ble_eq_true rfl) (c_connectedPairings _ (sx_14 j1.2.2.2.2.2.2.2.1.1) T (tA_w j1.2.2.2.2.2.2.2.2.1) (tA_l j1.2.2.2.2.2.2.2.2.1) (tA_v j1.2.2.2.2.2.2.2.2.1) b1 bc1 j1.2.2.2.2.2.2.2.1.2.2.2.2.1 (by have := bE_pos j1.2.2.2.2.2.2.2.1; omega) (prs_cap j1.2.2.2.2.2.2.2.2.1 z4.2.2) (prs_len j1.2.2.2.2.2.2.2.2.1) (sx_G18 j1.2.2.2.2.2.2.2.1.1) D z1) (Nat.le_refl _) (Nat.le_refl _) (by first | exact Nat.le_refl _ | exact le.1) (by first | exact Nat.le_refl _ | exact le.2) ?_
      rintro _ m2 ⟨rfl, f2, y2⟩
      obtain ⟨j2, q2, h9_⟩ := cJ_sh j1 h9 z2 z3 f2 y2
      refine z_callV mlX11_111 dX11_many_181 (sx_0 j2.2.2.2.2.2.2.2.1.1) (av := [_]) rfl rfl (Nat.le_of_ble_eq_true rfl) (c_answer _ (sx_0 j2.2.2.2.2.2.2.2.1.1) _) (Nat.le_refl _) (Nat.le_refl _) (by first | exact Nat.le_refl _ | exact le.1) (by first | exact Nat.le_refl _ | exact le.2) ?_
      rintro _ _ ⟨rfl, rfl⟩
      refine z_iret dX11_many_184 rfl rfl ?_
      rw [show aMany T w = (0, tMany T 1 0) from by unfold aMany; rw [if_neg (by omega), if_neg (by omega), if_neg (by omega), if_neg (by omega), if_neg (by omega), if_neg (by omega), if_neg (by omega), if_neg (by omega), if_neg (by omega), if_pos (by omega)]]
      exact ⟨rfl, cQ_st j2 (qFr_tr q1 q2) _⟩
    by_cases hs11 : w = 11
    · refine z_tabIn (tgt := 200) dX11_many_1 (by omega) (by omega) (by rw [hs11]; rfl) rfl ?_
      refine z_aload_n dX11_many_200 rfl ?_
      refine z_aload_n dX11_many_201 rfl ?_
      refine z_callV mlX11_142 dX11_many_202 (sx_0 hJ.2.2.2.2.2.2.2.1.1) (av := _) rfl rfl (Nat.le_of_ble_eq_true rfl) (c_kDx _ T X _ _ _ _ _ _ _ _ _ _ hJ) (by first | exact Nat.le_refl _ | exact le.1) (by first | exact Nat.le_refl _ | exact le.2) (Nat.le_refl _) (Nat.le_refl _) ?_
      rintro _ m1 ⟨rfl, ka1, kc1, b1, bc1, j1, h9, q1⟩
      obtain ⟨⟨D, F, cc, z1, z2, z3⟩, z4⟩ := j1.2.2.2.2.2.1.2.2.2.2.2.2 h9
      refine z_callV mlX11_188 dX11_many_205 (sx_14 j1.2.2.2.2.2.2.2.1.1) (av := _) rfl rfl (Nat.le_of_ble_eq_true rfl) (c_linkedDiagrams _ (sx_14 j1.2.2.2.2.2.2.2.1.1) T (tA_w j1.2.2.2.2.2.2.2.2.1) (tA_l j1.2.2.2.2.2.2.2.2.1) (tA_v j1.2.2.2.2.2.2.2.2.1) b1 bc1 j1.2.2.2.2.2.2.2.1.2.2.2.2.1 (by have := bE_pos j1.2.2.2.2.2.2.2.1; omega) (prs_cap j1.2.2.2.2.2.2.2.2.1 z4.2.2) (prs_len j1.2.2.2.2.2.2.2.2.1) (sx_G18 j1.2.2.2.2.2.2.2.1.1) D z1) (Nat.le_refl _) (Nat.le_refl _) (by first | exact Nat.le_refl _ | exact le.1) (by first | exact Nat.le_refl _ | exact le.2) ?_
      rintro _ m2 ⟨rfl, f2, y2⟩
      obtain ⟨j2, q2, h9_⟩ := cJ_sh j1 h9 z2 z3 f2 y2
      refine z_callV mlX11_111 dX11_many_208 (sx_0 j2.2.2.2.2.2.2.2.1.1) (av := [_]) rfl rfl (Nat.le_of_ble_eq_true rfl) (c_answer _ (sx_0 j2.2.2.2.2.2.2.2.1.1) _) (Nat.le_refl _) (Nat.le_refl _) (by first | exact Nat.le_refl _ | exact le.1) (by first | exact Nat.le_refl _ | exact le.2) ?_
      rintro _ _ ⟨rfl, rfl⟩
      refine z_iret dX11_many_211 rfl rfl ?_
      rw [show aMany T w = (0, tMany T 0 1) from by unfold aMany; rw [if_neg (by omega), if_neg (by omega), if_neg (by omega), if_neg (by omega), if_neg (by omega), if_neg (by omega), if_neg (by omega), if_neg (by omega), if_neg (by omega), if_neg (by omega), if_pos (by omega)]]
      exact ⟨rfl, cQ_st j2 (qFr_tr q1 q2) _⟩
    by_cases hs12 : w = 12
    · refine z_tabIn (tgt := 212) dX11_many_1 (by omega) (by omega) (by rw [hs12]; rfl) rfl ?_
      refine z_aload_n dX11_many_212 rfl ?_
      refine z_aload_n dX11_many_213 rfl ?_
      refine z_callV mlX11_142 dX11_many_214 (sx_0 hJ.2.2.2.2.2.2.2.1.1) (av := _) rfl rfl (Nat.le_of_ble_eq_true rfl) (c_kDx _ T X _ _ _ _ _ _ _ _ _ _ hJ) (by first | exact Nat.le_refl _ | exact le.1) (by first | exact Nat.le_refl _ | exact le.2) (Nat.le_refl _) (Nat.le_refl _) ?_
      rintro _ m1 ⟨rfl, ka1, kc1, b1, bc1, j1, h9, q1⟩
      obtain ⟨⟨D, F, cc, z1, z2, z3⟩, z4⟩ := j1.2.2.2.2.2.1.2.2.2.2.2.2 h9
      refine z_iconst dX11_many_217 (by decide) ?_
      refine z_iconst dX11_many_218 (by decide) ?_
      refine z_callV mlX11_191 dX11_many_219 (sx_14 j1.2.2.2.2.2.2.2.1.1) (av := [_, _]) rfl rfl (Nat.le_of_ble_eq_true rfl) (c_countWith _ (sx_14 j1.2.2.2.2.2.2.2.1.1) T (tA_w j1.2.2.2.2.2.2.2.2.1) (tA_l j1.2.2.2.2.2.2.2.2.1) (tA_v j1.2.2.2.2.2.2.2.2.1) b1 bc1 j1.2.2.2.2.2.2.2.1.2.2.2.2.1 (by have := bE_pos j1.2.2.2.2.2.2.2.1; omega) (prs_cap j1.2.2.2.2.2.2.2.2.1 z4.2.2) (prs_len j1.2.2.2.2.2.2.2.2.1) (sx_G18 j1.2.2.2.2.2.2.2.1.1) D z1 (or_1 j1.2.2.2.2.2.2.2.2.1) (or_2 j1.2.2.2.2.2.2.2.2.1) 0 1 (by omega)) (Nat.le_refl _) (Nat.le_refl _) (by first | exact Nat.le_refl _ | exact le.1) (by first | exact Nat.le_refl _ | exact le.2) ?_
      rintro _ m2 ⟨rfl, f2, y2⟩
      obtain ⟨j2, q2, h9_⟩ := cJ_sh j1 h9 z2 z3 f2 y2
      rw [cw_01]
      refine z_callV mlX11_111 dX11_many_222 (sx_0 j2.2.2.2.2.2.2.2.1.1) (av := [_]) rfl rfl (Nat.le_of_ble_eq_true rfl) (c_answer _ (sx_0 j2.2.2.2.2.2.2.2.1.1) _) (Nat.le_refl _) (Nat.le_refl _) (by first | exact Nat.le_refl _ | exact le.1) (by first | exact Nat.le_refl _ | exact le.2) ?_
      rintro _ _ ⟨rfl, rfl⟩
      refine z_iret dX11_many_225 rfl rfl ?_
      rw [show aMany T w = (0, tMany T 1 1) from by unfold aMany; rw [if_neg (by omega), if_neg (by omega), if_neg (by omega), if_neg (by omega), if_neg (by omega), if_neg (by omega), if_neg (by omega), if_neg (by omega), if_neg (by omega), if_neg (by omega), if_neg (by omega)]]
      exact ⟨rfl, cQ_st j2 (qFr_tr q1 q2) _⟩
    exfalso; omega
  refine ⟨E, ⟨Nat.le_refl _, Nat.le_refl _⟩, EB_e hJ, ?_⟩
  refine zR_go [zP 0, zI w] (by decide +kernel) (Nat.le_of_ble_eq_true rfl) rfl rfl ?_
  refine z_iload_n dX11_many_0 rfl ?_
  by_cases hs0 : w = 0
  · refine z_tabIn (tgt := 68) dX11_many_1 (by omega) (by omega) (by rw [hs0]; rfl) rfl ?_
    refine z_aload_n dX11_many_68 rfl ?_
    refine z_aload_n dX11_many_69 rfl ?_
    refine z_gP 9 rfl (r := t) flX11_71 dX11_many_70 (sx_0 hJ.2.2.2.2.2.2.2.1.1) rfl (hJ.1.1.2.2.2.2.2.2.2.2.2.1) (by omega) ?_
    refine z_gIv 11 rfl flX11_157 dX11_many_73 (sx_T hJ.2.2.2.2.2.2.2.1.1 (cJ_t hJ)).1 rfl hJ.2.1.1.1 ?_
    refine z_callV mlX11_111 dX11_many_76 (sx_0 hJ.2.2.2.2.2.2.2.1.1) (av := [_]) rfl rfl (Nat.le_of_ble_eq_true rfl) (c_answer _ (sx_0 hJ.2.2.2.2.2.2.2.1.1) _) (Nat.le_refl _) (Nat.le_refl _) (by first | exact Nat.le_refl _ | exact le.1) (by first | exact Nat.le_refl _ | exact le.2) ?_
    rintro _ _ ⟨rfl, rfl⟩
    refine z_iret dX11_many_79 rfl rfl ?_
    rw [show T.1 0 = T.1 w by rw [hs0]]
    rw [show aMany T w = (0, T.1 w) from by unfold aMany; rw [if_neg (by omega), if_pos (by omega)]]
    exact ⟨rfl, cQ_st hJ qFr_rf _⟩
  by_cases hs1 : w = 1
  · refine z_tabIn (tgt := 80) dX11_many_1 (by omega) (by omega) (by rw [hs1]; rfl) rfl ?_
    refine z_aload_n dX11_many_80 rfl ?_
    refine z_aload_n dX11_many_81 rfl ?_
    refine z_gP 9 rfl (r := t) flX11_71 dX11_many_82 (sx_0 hJ.2.2.2.2.2.2.2.1.1) rfl (hJ.1.1.2.2.2.2.2.2.2.2.2.1) (by omega) ?_
    refine z_gIv 12 rfl flX11_160 dX11_many_85 (sx_T hJ.2.2.2.2.2.2.2.1.1 (cJ_t hJ)).1 rfl hJ.2.1.1.2.1 ?_
    refine z_callV mlX11_111 dX11_many_88 (sx_0 hJ.2.2.2.2.2.2.2.1.1) (av := [_]) rfl rfl (Nat.le_of_ble_eq_true rfl) (c_answer _ (sx_0 hJ.2.2.2.2.2.2.2.1.1) _) (Nat.le_refl _) (Nat.le_refl _) (by first | exact Nat.le_refl _ | exact le.1) (by first | exact Nat.le_refl _ | exact le.2) ?_
    rintro _ _ ⟨rfl, rfl⟩
    refine z_iret dX11_many_91 rfl rfl ?_
    rw [show T.1 1 = T.1 w by rw [hs1]]
    rw [show aMany T w = (0, T.1 w) from by unfold aMany; rw [if_neg (by omega), if_pos (by omega)]]
    exact ⟨rfl, cQ_st hJ qFr_rf _⟩
  by_cases hs2 : w = 2
  · refine z_tabIn (tgt := 92) dX11_many_1 (by omega) (by omega) (by rw [hs2]; rfl) rfl ?_
    refine z_aload_n dX11_many_92 rfl ?_
    refine z_aload_n dX11_many_93 rfl ?_
    refine z_gP 9 rfl (r := t) flX11_71 dX11_many_94 (sx_0 hJ.2.2.2.2.2.2.2.1.1) rfl (hJ.1.1.2.2.2.2.2.2.2.2.2.1) (by omega) ?_
    refine z_gIv 13 rfl flX11_163 dX11_many_97 (sx_T hJ.2.2.2.2.2.2.2.1.1 (cJ_t hJ)).1 rfl hJ.2.1.1.2.2.1 ?_
    refine z_callV mlX11_111 dX11_many_100 (sx_0 hJ.2.2.2.2.2.2.2.1.1) (av := [_]) rfl rfl (Nat.le_of_ble_eq_true rfl) (c_answer _ (sx_0 hJ.2.2.2.2.2.2.2.1.1) _) (Nat.le_refl _) (Nat.le_refl _) (by first | exact Nat.le_refl _ | exact le.1) (by first | exact Nat.le_refl _ | exact le.2) ?_
    rintro _ _ ⟨rfl, rfl⟩
    refine z_iret dX11_many_103 rfl rfl ?_
    rw [show T.1 2 = T.1 w by rw [hs2]]
    rw [show aMany T w = (0, T.1 w) from by unfold aMany; rw [if_neg (by omega), if_pos (by omega)]]
    exact ⟨rfl, cQ_st hJ qFr_rf _⟩
  by_cases hs3 : w = 3
  · refine z_tabIn (tgt := 104) dX11_many_1 (by omega) (by omega) (by rw [hs3]; rfl) rfl ?_
    refine z_aload_n dX11_many_104 rfl ?_
    refine z_aload_n dX11_many_105 rfl ?_
    refine z_gP 9 rfl (r := t) flX11_71 dX11_many_106 (sx_0 hJ.2.2.2.2.2.2.2.1.1) rfl (hJ.1.1.2.2.2.2.2.2.2.2.2.1) (by omega) ?_
    refine z_callV mlX11_166 dX11_many_109 (sx_T hJ.2.2.2.2.2.2.2.1.1 (cJ_t hJ)).1 (av := _) rfl rfl (Nat.le_of_ble_eq_true rfl) (c_vertexCount _ t (cJ_t0 hJ) (sx_T hJ.2.2.2.2.2.2.2.1.1 (cJ_t hJ)) (hJ.1.2.2.2.2.1) T.1 (wfD_of (tA_w hJ.2.2.2.2.2.2.2.2.1)) (hJ.2.1.1)) (Nat.le_refl _) (Nat.le_refl _) (by first | exact Nat.le_refl _ | exact le.1) (by first | exact Nat.le_refl _ | exact le.2) ?_
    rintro _ _ ⟨rfl, rfl⟩
    refine z_callV mlX11_111 dX11_many_112 (sx_0 hJ.2.2.2.2.2.2.2.1.1) (av := [_]) rfl rfl (Nat.le_of_ble_eq_true rfl) (c_answer _ (sx_0 hJ.2.2.2.2.2.2.2.1.1) _) (Nat.le_refl _) (Nat.le_refl _) (by first | exact Nat.le_refl _ | exact le.1) (by first | exact Nat.le_refl _ | exact le.2) ?_
    rintro _ _ ⟨rfl, rfl⟩
    refine z_iret dX11_many_115 rfl rfl ?_
    rw [show aMany T w = (0, zsum (fun p => T.1 (32 + 9 * p + 1)) (T.1 2).toNat 0) from by unfold aMany; rw [if_neg (by omega), if_neg (by omega), if_pos (by omega)]]
    exact ⟨rfl, cQ_st hJ qFr_rf _⟩
  by_cases hs4 : w = 4
  · refine z_tabIn (tgt := 116) dX11_many_1 (by omega) (by omega) (by rw [hs4]; rfl) rfl ?_
    refine z_aload_n dX11_many_116 rfl ?_
    refine z_aload_n dX11_many_117 rfl ?_
    refine z_gP 9 rfl (r := t) flX11_71 dX11_many_118 (sx_0 hJ.2.2.2.2.2.2.2.1.1) rfl (hJ.1.1.2.2.2.2.2.2.2.2.2.1) (by omega) ?_
    refine z_gIv 14 rfl flX11_108 dX11_many_121 (sx_T hJ.2.2.2.2.2.2.2.1.1 (cJ_t hJ)).1 rfl hJ.2.1.2.1.1 ?_
    refine z_callV mlX11_111 dX11_many_124 (sx_0 hJ.2.2.2.2.2.2.2.1.1) (av := [_]) rfl rfl (Nat.le_of_ble_eq_true rfl) (c_answer _ (sx_0 hJ.2.2.2.2.2.2.2.1.1) _) (Nat.le_refl _) (Nat.le_refl _) (by first | exact Nat.le_refl _ | exact le.1) (by first | exact Nat.le_refl _ | exact le.2) ?_
    rintro _ _ ⟨rfl, rfl⟩
    refine z_iret dX11_many_127 rfl rfl ?_
    rw [show aMany T w = (0, T.2.2.2) from by unfold aMany; rw [if_neg (by omega), if_neg (by omega), if_neg (by omega), if_pos (by omega)]]
    exact ⟨rfl, cQ_st hJ qFr_rf _⟩
  by_cases hs5 : w = 5
  · refine z_tabIn (tgt := 128) dX11_many_1 (by omega) (by omega) (by rw [hs5]; rfl) rfl ?_
    refine z_aload_n dX11_many_128 rfl ?_
    refine z_aload_n dX11_many_129 rfl ?_
    refine z_callV mlX11_169 dX11_many_130 (sx_0 hJ.2.2.2.2.2.2.2.1.1) (av := _) rfl rfl (Nat.le_of_ble_eq_true rfl) (c_pairingCount _ T X _ _ _ _ _ _ _ _ _ _ hJ) (Nat.le_refl _) (Nat.le_refl _) (by first | exact Nat.le_refl _ | exact le.1) (by first | exact Nat.le_refl _ | exact le.2) ?_
    rintro _ m1 ⟨rfl, j1, _, q1, _⟩
    refine z_callV mlX11_111 dX11_many_133 (sx_0 j1.2.2.2.2.2.2.2.1.1) (av := [_]) rfl rfl (Nat.le_of_ble_eq_true rfl) (c_answer _ (sx_0 j1.2.2.2.2.2.2.2.1.1) _) (Nat.le_refl _) (Nat.le_refl _) (by first | exact Nat.le_refl _ | exact le.1) (by first | exact Nat.le_refl _ | exact le.2) ?_
    rintro _ _ ⟨rfl, rfl⟩
    refine z_iret dX11_many_136 rfl rfl ?_
    rw [show aMany T w = (0, ((tPairs T).length : Int)) from by unfold aMany; rw [if_neg (by omega), if_neg (by omega), if_neg (by omega), if_neg (by omega), if_pos (by omega)]]
    exact ⟨rfl, cQ_st j1 q1 _⟩
  refine z_tabOut (tgt := 226) dX11_many_1 (by omega) rfl ?_
  refine z_aload_n dX11_many_226 rfl ?_
  refine z_iconst dX11_many_227 (by decide) ?_
  refine z_callV mlX11_93 dX11_many_228 (sx_0 hJ.2.2.2.2.2.2.2.1.1) (av := [_]) rfl rfl (Nat.le_of_ble_eq_true rfl) (c_refuse _ (sx_0 hJ.2.2.2.2.2.2.2.1.1) _) (Nat.le_refl _) (Nat.le_refl _) (by first | exact Nat.le_refl _ | exact le.1) (by first | exact Nat.le_refl _ | exact le.2) ?_
  rintro _ _ ⟨rfl, rfl⟩
  refine z_iret dX11_many_231 rfl rfl ?_
  rw [show aMany T w = (1, -1) from by unfold aMany; rw [if_pos (by omega)]]
  exact ⟨rfl, cQ_st hJ qFr_rf _⟩
