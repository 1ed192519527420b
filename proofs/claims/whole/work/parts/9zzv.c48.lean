def EB (E : zE) : Prop := E.2.1 ≤ 200000 ∧ E.2.2 ≤ 2000000
def pE (E : zE) (T : zT) (cap : Int) : zE := if rm (lT T) ≤ cap then E else znew (znew E 2 (rm (lT T)) (rm (lT T)).toNat) 1 (rm (lT T)) (rm (lT T)).toNat
def pAx (E : zE) (T : zT) (a cap : Int) : Int := if rm (lT T) ≤ cap then a else (E.2.1 : Int)
def pC (T : zT) (cap : Int) : Int := if rm (lT T) ≤ cap then cap else rm (lT T)
theorem pE_t {E : zE} {T : zT} {cap : Int} (h : rm (lT T) ≤ cap) : pE E T cap = E := if_pos h
theorem pAx_t {E : zE} {T : zT} {a cap : Int} (h : rm (lT T) ≤ cap) : pAx E T a cap = a := if_pos h
theorem pC_t {T : zT} {cap : Int} (h : rm (lT T) ≤ cap) : pC T cap = cap := if_pos h
theorem pE_f {E : zE} {T : zT} {cap : Int} (h : ¬ rm (lT T) ≤ cap) : pE E T cap = znew (znew E 2 (rm (lT T)) (rm (lT T)).toNat) 1 (rm (lT T)) (rm (lT T)).toNat := if_neg h
theorem pAx_f {E : zE} {T : zT} {a cap : Int} (h : ¬ rm (lT T) ≤ cap) : pAx E T a cap = (E.2.1 : Int) := if_neg h
theorem pC_f {T : zT} {cap : Int} (h : ¬ rm (lT T) ≤ cap) : pC T cap = rm (lT T) := if_neg h
theorem pE_le (E : zE) (T : zT) (cap : Int) : E.2.1 ≤ (pE E T cap).2.1 ∧ E.2.2 ≤ (pE E T cap).2.2 := by
  unfold pE
  split
  · exact ⟨Nat.le_refl _, Nat.le_refl _⟩
  · exact ⟨by show E.2.1 ≤ E.2.1 + 2; omega, by show E.2.2 ≤ E.2.2 + _ + _; omega⟩
def dE (E : zE) (T : zT) (cap kcap bcap : Int) : zE := kE1 (dE1 (pE E T cap) bcap (rm (lT T))) kcap (lT T)
theorem dE_le (E : zE) (T : zT) (cap kcap bcap : Int) : E.2.1 ≤ (dE E T cap kcap bcap).2.1 ∧ E.2.2 ≤ (dE E T cap kcap bcap).2.2 := by
  have l0 := pE_le E T cap
  have l1 := dE1_le (pE E T cap) bcap (rm (lT T))
  have l2 := kE1_le (dE1 (pE E T cap) bcap (rm (lT T))) kcap (lT T)
  unfold dE
  omega
theorem dE_id {m : zM} {E : zE} {T : zT} {X : Int → Int} {t s a cap a2 cap2 ka kcap b bcap : Int} (h : cJ m E T X t s a cap a2 cap2 ka kcap b bcap) (h9 : m 14 19 = 1) : dE E T cap kcap bcap = E ∧ pAx E T a cap = a ∧ pC T cap = cap := by
  have h5 := h.2.2.2.2.2.2.2.2.2 h9
  have hr := (h.2.2.2.1.2.2.2.1 h5).2.2
  have hd := (h.2.2.2.2.2.1.2.2.2.2.2.2 h9).2
  refine ⟨?_, pAx_t hr, pC_t hr⟩
  unfold dE dE1 kE1
  rw [pE_t hr, if_neg (show ¬ bcap < rm (lT T) by have := hd.2.2; omega), if_neg (show ¬ kcap < ((2 ^ kEx (lT T) 10 0 : Nat) : Int) by have := hd.2.1; omega)]
theorem tMt_k {T : zT} {k : Nat} (h : k < (tPairs T).length) : (tPairs T)[k]? = some (tMt T (k : Int)) := by
  unfold tMt
  rw [Int.toNat_natCast, List.getD_eq_getElem?_getD, List.getElem?_eq_getElem h]
  rfl
theorem mate_is {n : Nat} {may : Int → Int → Bool} {r : Int → Int} (hn : n ≤ 12) (h : rOk n may (fA n) r) {i : Nat} (hi : i < n) : ((dg (sMk (fA n) r) n i : Nat) : Int) = r (i : Int) := by
  have h0 := h.2.2.1 i hi (by rw [fA_bit]; exact decide_eq_true hi)
  unfold dg
  rw [if_pos ⟨by omega, h0⟩, Int.toNat_of_nonneg h0]
  exact sMk_fA hn r _ (by omega) (by omega)
theorem mates_eq {n : Nat} {may : Int → Int → Bool} {r s : Int → Int} (hn : n ≤ 12) (h : rOk n may (fA n) r) (g : rOk n may (fA n) s) {i : Int} (i0 : 0 ≤ i) (i1 : i < n) : dg (sMk (fA n) r) n i.toNat = dg (sMk (fA n) s) n i.toNat ↔ r i = s i := by
  have e1 := mate_is hn h (i := i.toNat) (by omega)
  have e2 := mate_is hn g (i := i.toNat) (by omega)
  rw [Int.toNat_of_nonneg i0] at e1 e2
  rw [← e1, ← e2]
  omega
theorem nT_i {T : zT} {X : Int → Int} (h : tA T X) : ((nT T : Nat) : Int) = T.2.2.2 := Int.toNat_of_nonneg (tA_l h).1.1
theorem lS_mem {α : Type} {f g : α → Int} : ∀ {L : List α}, (∀ r ∈ L, f r = g r) → lS f L = lS g L
  | [], _ => rfl
  | x :: L, h => by
    show f x + lS f L = g x + lS g L
    rw [h x (List.mem_cons_self ..), lS_mem (fun r hr => h r (List.mem_cons_of_mem _ hr))]
theorem EB_0 {m : zM} {E : zE} {T : zT} {X : Int → Int} {t s a cap a2 cap2 ka kcap b bcap : Int} (h : cJ m E T X t s a cap a2 cap2 ka kcap b bcap) : E.2.1 ≤ 100000 ∧ E.2.2 ≤ 1000000 := by
  have ho := bE_pos h.2.2.2.2.2.2.2.1
  obtain ⟨_, _, _, _, _, _, _, _, _, n1, n2⟩ := h.2.2.2.2.2.2.2.1
  omega
theorem EB_e {m : zM} {E : zE} {T : zT} {X : Int → Int} {t s a cap a2 cap2 ka kcap b bcap : Int} (h : cJ m E T X t s a cap a2 cap2 ka kcap b bcap) : EB E := by
  have := EB_0 h
  exact ⟨by omega, by omega⟩
theorem EB_p0 {m : zM} {E : zE} {T : zT} {X : Int → Int} {t s a cap a2 cap2 ka kcap b bcap : Int} (h : cJ m E T X t s a cap a2 cap2 ka kcap b bcap) (T1 : zT) (cap : Int) : (pE E T1 cap).2.1 ≤ 100002 ∧ (pE E T1 cap).2.2 ≤ 1030000 := by
  have h0 := EB_0 h
  have hr := rm_le (lT T1)
  unfold pE
  split
  · omega
  · refine ⟨?_, ?_⟩
    · show E.2.1 + 2 ≤ 100002
      omega
    · show E.2.2 + (rm (lT T1)).toNat + (rm (lT T1)).toNat ≤ 1030000
      omega
theorem EB_p {m : zM} {E : zE} {T : zT} {X : Int → Int} {t s a cap a2 cap2 ka kcap b bcap : Int} (h : cJ m E T X t s a cap a2 cap2 ka kcap b bcap) (T1 : zT) : EB (pE E T1 cap) := by
  have := EB_p0 h T1 cap
  exact ⟨by omega, by omega⟩
theorem EB_d {m : zM} {E : zE} {T : zT} {X : Int → Int} {t s a cap a2 cap2 ka kcap b bcap : Int} (h : cJ m E T X t s a cap a2 cap2 ka kcap b bcap) : EB (dE E T cap kcap bcap) := by
  have h0 := EB_p0 h T cap
  have hr := rm_le (lT T)
  have hlen := prs_len h.2.2.2.2.2.2.2.2.1
  have hk := h.2.2.2.2.2.2.2.1.2.2.2.2.2.1.2.2.1
  have hke := kEx_ok (x := lT T) ⟨by unfold lT; omega, by unfold lT; omega⟩
  have g1 : (dE1 (pE E T cap) bcap (rm (lT T))).2.1 ≤ (pE E T cap).2.1 + 8 ∧ (dE1 (pE E T cap) bcap (rm (lT T))).2.2 ≤ (pE E T cap).2.2 + 83200 := by
    unfold dE1
    split
    · rw [nwN_c, nwN_2]
      omega
    · omega
  have g2 : (kE1 (dE1 (pE E T cap) bcap (rm (lT T))) kcap (lT T)).2.1 ≤ (dE1 (pE E T cap) bcap (rm (lT T))).2.1 + 2 ∧ (kE1 (dE1 (pE E T cap) bcap (rm (lT T))) kcap (lT T)).2.2 ≤ (dE1 (pE E T cap) bcap (rm (lT T))).2.2 + 32768 := by
    unfold kE1
    split
    · rename_i g
      have hq := kp_rg (kRm_kp hk hke.1 g).1
      refine ⟨Nat.le_refl _, ?_⟩
      show (dE1 (pE E T cap) bcap (rm (lT T))).2.2 + (kRm kcap (lT T)).toNat + (kRm kcap (lT T)).toNat ≤ _
      omega
    · omega
  unfold EB dE
  omega
theorem c_kPx (d : Nat) {E : zE} {m : zM} (T : zT) (X : Int → Int) (t s a cap a2 cap2 ka kcap b bcap : Int) (hJ : cJ m E T X t s a cap a2 cap2 ka kcap b bcap) : zR zX11_knownPairings (d + 11) [zP 0] m E (pE E T cap) (fun r m' => r = some (zP 8) ∧ cJ m' (pE E T cap) T X t s (pAx E T a cap) (pC T cap) a2 cap2 ka kcap b bcap ∧ m' 8 5 = 1 ∧ qFr m m' ∧ m' 14 19 = m 14 19) := by
  by_cases hr : rm (lT T) ≤ cap
  · rw [pE_t hr, pAx_t hr, pC_t hr]
    rcases hJ.2.2.2.1.2.2.1 with h5 | h5
    · exact c_kP0 d T X t s a cap a2 cap2 ka kcap b bcap hJ h5 hr
    · refine zR_imp (c_kP1 (d + 11) T X t s a cap a2 cap2 ka kcap b bcap hJ h5) ?_
      rintro r m' ⟨rfl, rfl⟩
      exact ⟨rfl, hJ, h5, qFr_rf, rfl⟩
  · rw [pE_f hr, pAx_f hr, pC_f hr]
    rcases hJ.2.2.2.1.2.2.1 with h5 | h5
    · exact c_kPg d T X t s a cap a2 cap2 ka kcap b bcap hJ h5 (by omega)
    · exact absurd (hJ.2.2.2.1.2.2.2.1 h5).2.2 hr

theorem c_kRx (d : Nat) {E : zE} {m : zM} (T : zT) (X : Int → Int) (t s a cap a2 cap2 ka kcap b bcap : Int) (hJ : cJ m E T X t s a cap a2 cap2 ka kcap b bcap) : zR zX11_knownRounds (d + 12) [zP 0] m E (pE E T cap) (fun r m' => r = some (zP 8) ∧ cJ m' (pE E T cap) T X t s (pAx E T a cap) (pC T cap) a2 cap2 ka kcap b bcap ∧ m' 8 5 = 1 ∧ m' 8 6 = 1 ∧ qFr m m' ∧ m' 14 19 = m 14 19) := by
  have le := pE_le E T cap
  have hk := c_kPx d T X t s a cap a2 cap2 ka kcap b bcap hJ
  revert le hk
  generalize pE E T cap = E1
  generalize pAx E T a cap = a1
  generalize pC T cap = cap1
  intro le hk
  refine zR_go [zP 0, zN] (by decide +kernel) (Nat.le_of_ble_eq_true rfl) rfl rfl ?_
  refine z_aload_n dX11_knownRounds_0 rfl ?_
  refine z_callV mlX11_124 dX11_knownRounds_1 (sx_0 hJ.2.2.2.2.2.2.2.1.1) (av := _) rfl rfl (Nat.le_of_ble_eq_true rfl) hk le.1 le.2 (Nat.le_refl _) (Nat.le_refl _) ?_
  rintro _ m1 ⟨rfl, j1, h51, q1⟩
  have z1 := j1.2.2.2.1.2.2.2.1 h51
  refine z_ast 1 dX11_knownRounds_4 rfl (Nat.le_of_ble_eq_true rfl) ?_
  refine z_aload_n dX11_knownRounds_5 rfl ?_
  refine z_gI 6 rfl flX11_378 dX11_knownRounds_6 (sx_8 j1.2.2.2.2.2.2.2.1.1) rfl ?_
  try dsimp only [zs0, zsI, zsP, zsN, zsJ, zsS, zst2, Nat.reduceAdd]
  refine z_if_ne (tgt := 16) dX11_knownRounds_9 rfl (fun h9 => ?_) (fun h9 => ?_)
  · refine z_aload_n dX11_knownRounds_16 rfl ?_
    refine z_aret dX11_knownRounds_17 rfl rfl ?_
    exact ⟨rfl, j1, h51, by have := z1.1; omega, q1⟩
  · refine z_aload_n dX11_knownRounds_12 rfl ?_
    refine z_callV mlX11_389 dX11_knownRounds_13 (sx_8 j1.2.2.2.2.2.2.2.1.1) (av := _) rfl rfl (Nat.le_of_ble_eq_true rfl) (c_traceRounds _ 8 a1 cap1 (sx_8 j1.2.2.2.2.2.2.2.1.1) j1.2.2.2.2.2.2.2.1.2.1.1 j1.2.2.2.2.2.2.2.1.2.1.2 (by have := bE_pos j1.2.2.2.2.2.2.2.1; omega) (by have := bE_pos j1.2.2.2.2.2.2.2.1; omega) (by have := bE_pos j1.2.2.2.2.2.2.2.1; omega) (nT T) (tA_n j1.2.2.2.2.2.2.2.2.1) (mayT T) (cOd T.1 T.2.1) (cBr T.1 T.2.1) (fA (nT T)) (fun x hx => by rw [fA_bit]; exact decide_eq_true hx) (tPairs T) ((show m1 8 6 = 0 by omega) ▸ z1.2.1) (prs_ok j1.2.2.2.2.2.2.2.2.1) (prs_cap j1.2.2.2.2.2.2.2.2.1 z1.2.2) (prs_len j1.2.2.2.2.2.2.2.2.1)) (Nat.le_refl _) (Nat.le_refl _) (Nat.le_refl _) (Nat.le_refl _) ?_
    rintro _ m2 ⟨rfl, f2, b2⟩
    have e2 : m2 8 5 = 1 := (f2 8 5 (by simp; have := bE_pos j1.2.2.2.2.2.2.2.1; omega) (by simp)).trans h51
    have e3 : m2 8 6 = 1 := b2.2.2.2.2.2.1
    obtain ⟨j2, q2⟩ := cJ_fill j1 (m' := m2) j1.2.2.2.2.2.2.2.1 (bQ_rho j1.2.2.2.2.2.2.2.2.1 b2 e2 z1.2.2) e2 (fun x k n8 na nb => f2 x k (by simp; omega) (by simp; omega))
    refine z_aload_n dX11_knownRounds_16 rfl ?_
    refine z_aret dX11_knownRounds_17 rfl rfl ?_
    exact ⟨rfl, j2, e2, e3, qFr_tr q1.1 q2.1, q2.2.trans q1.2⟩

theorem c_kDx0 (d : Nat) {E : zE} {m : zM} (T : zT) (X : Int → Int) (t s a cap a2 cap2 ka kcap b bcap : Int) (hJ : cJ m E T X t s a cap a2 cap2 ka kcap b bcap) (h9 : m 14 19 = 0) : zR zX11_knownDiagrams (d + 12) [zP 0] m E (dE E T cap kcap bcap) (fun r m' => r = some (zP 14) ∧ ∃ ka1 kc1 b1 bc1 : Int, cJ m' (dE E T cap kcap bcap) T X t s (pAx E T a cap) (pC T cap) a2 cap2 ka1 kc1 b1 bc1 ∧ m' 14 19 = 1 ∧ qFr m m') := by
  have htt := cJ_t hJ
  unfold dE
  have le := pE_le E T cap
  have hk := c_kPx d T X t s a cap a2 cap2 ka kcap b bcap hJ
  revert le hk
  generalize pE E T cap = E1
  generalize pAx E T a cap = a1
  generalize pC T cap = cap1
  intro le hk
  have lE : E1.2.1 ≤ (kE1 (dE1 E1 bcap (rm (lT T))) kcap (lT T)).2.1 ∧ E1.2.2 ≤ (kE1 (dE1 E1 bcap (rm (lT T))) kcap (lT T)).2.2 := by
    have l1 := dE1_le E1 bcap (rm (lT T))
    have l2 := kE1_le (dE1 E1 bcap (rm (lT T))) kcap (lT T)
    omega
  have lC := lE.1
  have lD := lE.2
  refine zR_go [zP 0] (by decide +kernel) (Nat.le_of_ble_eq_true rfl) rfl rfl ?_
  refine z_aload_n dX11_knownDiagrams_0 rfl ?_
  refine z_gP 6 rfl (r := 14) flX11_50 dX11_knownDiagrams_1 (sx_0 hJ.2.2.2.2.2.2.2.1.1) rfl (hJ.1.1.2.2.2.2.2.2.1) (by omega) ?_
  refine z_gI 19 rfl flX11_381 dX11_knownDiagrams_4 (sx_14 hJ.2.2.2.2.2.2.2.1.1) rfl ?_
  refine z_if_ne (tgt := 25) dX11_knownDiagrams_7 rfl (fun h => absurd h (by omega)) (fun h7 => ?_)
  refine z_aload_n dX11_knownDiagrams_10 rfl ?_
  refine z_gP 6 rfl (r := 14) flX11_50 dX11_knownDiagrams_11 (sx_0 hJ.2.2.2.2.2.2.2.1.1) rfl (hJ.1.1.2.2.2.2.2.2.1) (by omega) ?_
  refine z_aload_n dX11_knownDiagrams_14 rfl ?_
  refine z_gP 9 rfl (r := t) flX11_71 dX11_knownDiagrams_15 (sx_0 hJ.2.2.2.2.2.2.2.1.1) rfl (hJ.1.1.2.2.2.2.2.2.2.2.2.1) (by omega) ?_
  refine z_aload_n dX11_knownDiagrams_18 rfl ?_
  refine z_callV mlX11_124 dX11_knownDiagrams_19 (sx_0 hJ.2.2.2.2.2.2.2.1.1) (av := _) rfl rfl (Nat.le_of_ble_eq_true rfl) hk le.1 le.2 lC lD ?_
  rintro _ m1 ⟨rfl, j1, h51, q1⟩
  have z1 := j1.2.2.2.1.2.2.2.1 h51
  have oo := bE_pos j1.2.2.2.2.2.2.2.1
  have od := j1.2.2.2.2.2.2.2.1.2.2.2.2.2.2.2.1
  have hN := j1.2.2.2.2.2.2.2.1.2.2.2.2.2.2.2.2.1
  refine z_callV mlX11_392 dX11_knownDiagrams_22 (sx_14 j1.2.2.2.2.2.2.2.1.1) (av := [_, _]) rfl rfl (Nat.le_of_ble_eq_true rfl) (c_build (d + 1) (sx_14 j1.2.2.2.2.2.2.2.1.1) (sx_22 j1.2.2.2.2.2.2.2.1.1) (sx_23 j1.2.2.2.2.2.2.2.1.1) (sx_24 j1.2.2.2.2.2.2.2.1.1) j1.2.2.2.2.2.1.1.2.2.1 j1.2.2.2.2.2.1.1.2.2.2.1 j1.2.2.2.2.2.1.1.2.2.2.2 j1.2.2.2.2.2.1.1.1 t (by omega) (sx_T j1.2.2.2.2.2.2.2.1.1 (cJ_t j1)) j1.1.2.2.2.2.1 T (tA_w j1.2.2.2.2.2.2.2.2.1) (tA_l j1.2.2.2.2.2.2.2.2.1) j1.2.2.2.2.2.2.2.2.1.2.1 j1.2.1.1 j1.2.1.2.1 (odd_of j1.2.2.2.2.2.2.2.2.1.1.2.2) (tA_v j1.2.2.2.2.2.2.2.2.1) j1.2.2.2.2.2.2.2.2.1.1.1.2.1 8 a1 cap1 (sx_8 j1.2.2.2.2.2.2.2.1.1) j1.2.2.2.2.2.2.2.1.2.1.1 j1.2.2.2.2.2.2.2.1.2.1.2 (m1 8 6) z1.2.1 (prs_ok j1.2.2.2.2.2.2.2.2.1) (prs_cap j1.2.2.2.2.2.2.2.2.1 z1.2.2) (prs_len j1.2.2.2.2.2.2.2.2.1) z1.1 (sx_15 j1.2.2.2.2.2.2.2.1.1) ka kcap j1.2.2.2.2.2.2.2.1.2.2.2.1.1 j1.2.2.2.2.2.2.2.1.2.2.2.1.2 j1.2.2.2.2.2.1.2.2.1 j1.2.2.2.2.2.1.2.2.2.1 oo.2.2.2.2.2.2.1 b bcap j1.2.2.2.2.2.2.2.1.2.2.2.2.1 j1.2.2.2.2.2.1.2.2.2.2.1 (dj_of htt oo od) (hN_of htt oo hN)) lE.1 lE.2 (Nat.le_refl _) (Nat.le_refl _) ?_
  rintro _ m2 ⟨rfl, bp⟩
  obtain ⟨b1, bc1, ka1, kc1, x1, x2, x3, x4, x5, x6, x7, x8, x9, x10, x11, x12, x13, x14⟩ := bp
  have j2 := cJ_build j1 h51 x1 x2 x3 x4 x5 x6 x7 x8 x9 x10 x11 x12 x13 x14
  refine z_aload_n dX11_knownDiagrams_25 rfl ?_
  refine z_gP 6 rfl (r := 14) flX11_50 dX11_knownDiagrams_26 (sx_0 j2.1.2.2.2.2.2.2.2.1.1) rfl (j2.1.1.1.2.2.2.2.2.2.1) (by omega) ?_
  refine z_aret dX11_knownDiagrams_29 rfl rfl ?_
  exact ⟨rfl, ka1, kc1, b1, bc1, j2.1, x8, qFr_tr q1.1 j2.2⟩

theorem c_kDx (d : Nat) {E : zE} {m : zM} (T : zT) (X : Int → Int) (t s a cap a2 cap2 ka kcap b bcap : Int) (hJ : cJ m E T X t s a cap a2 cap2 ka kcap b bcap) : zR zX11_knownDiagrams (d + 12) [zP 0] m E (dE E T cap kcap bcap) (fun r m' => r = some (zP 14) ∧ ∃ ka1 kc1 b1 bc1 : Int, cJ m' (dE E T cap kcap bcap) T X t s (pAx E T a cap) (pC T cap) a2 cap2 ka1 kc1 b1 bc1 ∧ m' 14 19 = 1 ∧ qFr m m') := by
  rcases hJ.2.2.2.2.2.1.2.2.2.2.2.1 with h9 | h9
  · exact c_kDx0 d T X t s a cap a2 cap2 ka kcap b bcap hJ h9
  · have hi := dE_id hJ h9
    rw [hi.1, hi.2.1, hi.2.2]
    refine zR_imp (c_kD1 (d + 12) T X t s a cap a2 cap2 ka kcap b bcap hJ h9) ?_
    rintro r m' ⟨rfl, rfl⟩
    exact ⟨rfl, ka, kcap, b, bcap, hJ, h9, qFr_rf⟩

theorem c_hDx (d : Nat) {E : zE} {m : zM} (T : zT) (X : Int → Int) (t s a cap a2 cap2 ka kcap b bcap : Int) (hJ : cJ m E T X t s a cap a2 cap2 ka kcap b bcap) (dd : Int) (hd0 : 0 ≤ dd) : zR zX11_hasDiagram (d + 13) [zP 0, zI dd] m E (dE E T cap kcap bcap) (fun r m' => r = some (zI (zb (0 ≤ dd ∧ dd < ((tD T).length : Int)))) ∧ ∃ ka1 kc1 b1 bc1 : Int, cJ m' (dE E T cap kcap bcap) T X t s (pAx E T a cap) (pC T cap) a2 cap2 ka1 kc1 b1 bc1 ∧ m' 14 19 = 1 ∧ qFr m m') := by
  have htt := cJ_t hJ
  have le := dE_le E T cap kcap bcap
  have hk := c_kDx d T X t s a cap a2 cap2 ka kcap b bcap hJ
  revert le hk
  generalize dE E T cap kcap bcap = E1
  generalize pAx E T a cap = a1
  generalize pC T cap = cap1
  intro le hk
  refine zR_go [zP 0, zI dd] (by decide +kernel) (Nat.le_of_ble_eq_true rfl) rfl rfl ?_
  refine z_iload_n dX11_hasDiagram_0 rfl ?_
  refine z_if_lt (tgt := 19) dX11_hasDiagram_1 rfl (fun h => absurd h (by omega)) (fun h1 => ?_)
  refine z_iload_n dX11_hasDiagram_4 rfl ?_
  refine z_aload_n dX11_hasDiagram_5 rfl ?_
  refine z_callV mlX11_142 dX11_hasDiagram_6 (sx_0 hJ.2.2.2.2.2.2.2.1.1) (av := _) rfl rfl (Nat.le_of_ble_eq_true rfl) hk le.1 le.2 (Nat.le_refl _) (Nat.le_refl _) ?_
  rintro _ m1 ⟨rfl, ka1, kc1, b1, bc1, j1, h91, q1⟩
  obtain ⟨⟨D, F, cc, z1, z2, z3⟩, z4⟩ := j1.2.2.2.2.2.1.2.2.2.2.2.2 h91
  have ed := (dG_ord z1.1).1
  have e18 : m1 14 18 = ((tD T).length : Int) := by rw [← ed]; exact z1.1.2.2.2.1
  refine z_gIv 18 rfl flX11_172 dX11_hasDiagram_9 (sx_14 j1.2.2.2.2.2.2.2.1.1) rfl e18 ?_
  refine z_icmp_ge (tgt := 19) dX11_hasDiagram_12 rfl (fun h12 => ?_) (fun h12 => ?_)
  · refine z_iconst dX11_hasDiagram_19 (by decide) ?_
    refine z_zret dX11_hasDiagram_20 rfl (by first | omega | exact zb01 _) rfl ?_
    exact ⟨by rw [zb_f (by omega)], ka1, kc1, b1, bc1, j1, h91, q1⟩
  · refine z_iconst dX11_hasDiagram_15 (by decide) ?_
    refine z_goto (tgt := 20) dX11_hasDiagram_16 rfl ?_
    refine z_zret dX11_hasDiagram_20 rfl (by first | omega | exact zb01 _) rfl ?_
    exact ⟨by rw [zb_t (by omega)], ka1, kc1, b1, bc1, j1, h91, q1⟩

theorem x_mate (d : Nat) {E : zE} {m : zM} (T : zT) (X : Int → Int) (t s a cap a2 cap2 ka kcap b bcap : Int) (hJ : cJ m E T X t s a cap a2 cap2 ka kcap b bcap) (h5 : m 8 5 = 1) (k : Int) (k0 : 0 ≤ k) (k1 : k < lT T) (i : Int) (i0 : 0 ≤ i) (i1 : i < T.2.2.2) : zR zX4_mateOf (d) [zP 8, zI k, zI i] m E E (fun r m' => r = some (zI (tMt T k i)) ∧ m = m') := by
  have hP := hJ.2.2.2.2.2.2.2.2.1
  have hn := tA_n hP
  have hni := nT_i hP
  obtain ⟨kn, rfl⟩ := Int.eq_ofNat_of_zero_le k0
  have hk := tMt_k (T := T) (k := kn) (by unfold lT at k1; omega)
  have hr := prs_ok hP _ (List.mem_of_getElem? hk)
  obtain ⟨iN, rfl⟩ := Int.eq_ofNat_of_zero_le i0
  have hb := (tA_l hP).1
  refine zR_imp (c_tMate d 8 a cap (sx_8 hJ.2.2.2.2.2.2.2.1.1) hJ.2.2.2.2.2.2.2.1.2.1.1 hJ.2.2.2.2.2.2.2.1.2.1.2 (by have := bE_pos hJ.2.2.2.2.2.2.2.1; omega) (nT T) (tA_n hJ.2.2.2.2.2.2.2.2.1) (mayT T) (cOd T.1 T.2.1) (cBr T.1 T.2.1) (fA (nT T)) (tPairs T) _ (hJ.2.2.2.1.2.2.2.1 h5).2.1 (prs_ok hJ.2.2.2.2.2.2.2.2.1) (prs_cap hJ.2.2.2.2.2.2.2.2.1 (hJ.2.2.2.1.2.2.2.1 h5).2.2) (prs_len hJ.2.2.2.2.2.2.2.2.1) (hJ.2.2.2.1.2.2.2.1 h5).1 kn _ hk iN (by omega)) ?_
  rintro r m' ⟨rfl, rfl⟩
  exact ⟨by rw [mate_is hn hr (by omega)], rfl⟩

theorem x_cross (d : Nat) {E : zE} {m : zM} (T : zT) (X : Int → Int) (t s a cap a2 cap2 ka kcap b bcap : Int) (hJ : cJ m E T X t s a cap a2 cap2 ka kcap b bcap) (h5 : m 8 5 = 1) (k : Int) (k0 : 0 ≤ k) (k1 : k < lT T) : zR zX4_crossings (d) [zP 8, zI k] m E E (fun r m' => r = some (zI (tCr T (tMt T k))) ∧ m = m') := by
  have hP := hJ.2.2.2.2.2.2.2.2.1
  have hn := tA_n hP
  have hni := nT_i hP
  obtain ⟨kn, rfl⟩ := Int.eq_ofNat_of_zero_le k0
  have hk := tMt_k (T := T) (k := kn) (by unfold lT at k1; omega)
  have hr := prs_ok hP _ (List.mem_of_getElem? hk)
  refine zR_imp (c_tCross d 8 a cap (sx_8 hJ.2.2.2.2.2.2.2.1.1) hJ.2.2.2.2.2.2.2.1.2.1.1 hJ.2.2.2.2.2.2.2.1.2.1.2 (by have := bE_pos hJ.2.2.2.2.2.2.2.1; omega) (nT T) (tA_n hJ.2.2.2.2.2.2.2.2.1) (mayT T) (cOd T.1 T.2.1) (cBr T.1 T.2.1) (fA (nT T)) (tPairs T) _ (hJ.2.2.2.1.2.2.2.1 h5).2.1 (prs_ok hJ.2.2.2.2.2.2.2.2.1) (prs_cap hJ.2.2.2.2.2.2.2.2.1 (hJ.2.2.2.1.2.2.2.1 h5).2.2) (prs_len hJ.2.2.2.2.2.2.2.2.1) (hJ.2.2.2.1.2.2.2.1 h5).1 kn _ hk) ?_
  rintro r m' ⟨rfl, rfl⟩
  exact ⟨by rw [row_cr hn hr]; rfl, rfl⟩

theorem x_sign (d : Nat) {E : zE} {m : zM} (T : zT) (X : Int → Int) (t s a cap a2 cap2 ka kcap b bcap : Int) (hJ : cJ m E T X t s a cap a2 cap2 ka kcap b bcap) (h5 : m 8 5 = 1) (k : Int) (k0 : 0 ≤ k) (k1 : k < lT T) : zR zX4_sign (d) [zP 8, zI k] m E E (fun r m' => r = some (zI (tSign T (tMt T k))) ∧ m = m') := by
  have hP := hJ.2.2.2.2.2.2.2.2.1
  have hn := tA_n hP
  have hni := nT_i hP
  obtain ⟨kn, rfl⟩ := Int.eq_ofNat_of_zero_le k0
  have hk := tMt_k (T := T) (k := kn) (by unfold lT at k1; omega)
  have hr := prs_ok hP _ (List.mem_of_getElem? hk)
  refine zR_imp (c_tSign d 8 a cap (sx_8 hJ.2.2.2.2.2.2.2.1.1) hJ.2.2.2.2.2.2.2.1.2.1.1 hJ.2.2.2.2.2.2.2.1.2.1.2 (by have := bE_pos hJ.2.2.2.2.2.2.2.1; omega) (nT T) (tA_n hJ.2.2.2.2.2.2.2.2.1) (mayT T) (cOd T.1 T.2.1) (cBr T.1 T.2.1) (fA (nT T)) (tPairs T) _ (hJ.2.2.2.1.2.2.2.1 h5).2.1 (prs_ok hJ.2.2.2.2.2.2.2.2.1) (prs_cap hJ.2.2.2.2.2.2.2.2.1 (hJ.2.2.2.1.2.2.2.1 h5).2.2) (prs_len hJ.2.2.2.2.2.2.2.2.1) (hJ.2.2.2.1.2.2.2.1 h5).1 kn _ hk) ?_
  rintro r m' ⟨rfl, rfl⟩
  exact ⟨by rw [row_tr hn hr (odd_of hP.1.2.2)]; rfl, rfl⟩

theorem x_holes (d : Nat) {E : zE} {m : zM} (T : zT) (X : Int → Int) (t s a cap a2 cap2 ka kcap b bcap : Int) (hJ : cJ m E T X t s a cap a2 cap2 ka kcap b bcap) (h5 : m 8 5 = 1) (h6 : m 8 6 = 1) (k : Int) (k0 : 0 ≤ k) (k1 : k < lT T) : zR zX4_holesOf (d + 1) [zP 8, zI k] m E E (fun r m' => r = some (zI (tHo T (tMt T k))) ∧ m = m') := by
  have hP := hJ.2.2.2.2.2.2.2.2.1
  have hn := tA_n hP
  have hni := nT_i hP
  obtain ⟨kn, rfl⟩ := Int.eq_ofNat_of_zero_le k0
  have hk := tMt_k (T := T) (k := kn) (by unfold lT at k1; omega)
  have hr := prs_ok hP _ (List.mem_of_getElem? hk)
  refine zR_imp (c_tHoles d 8 a cap (sx_8 hJ.2.2.2.2.2.2.2.1.1) hJ.2.2.2.2.2.2.2.1.2.1.1 hJ.2.2.2.2.2.2.2.1.2.1.2 (by have := bE_pos hJ.2.2.2.2.2.2.2.1; omega) (nT T) (tA_n hJ.2.2.2.2.2.2.2.2.1) (mayT T) (cOd T.1 T.2.1) (cBr T.1 T.2.1) (fA (nT T)) (tPairs T) _ (hJ.2.2.2.1.2.2.2.1 h5).2.1 (prs_ok hJ.2.2.2.2.2.2.2.2.1) (prs_cap hJ.2.2.2.2.2.2.2.2.1 (hJ.2.2.2.1.2.2.2.1 h5).2.2) (prs_len hJ.2.2.2.2.2.2.2.2.1) (hJ.2.2.2.1.2.2.2.1 h5).1 kn _ hk) ?_
  rintro r m' ⟨rfl, rfl⟩
  exact ⟨by rw [h6, Int.one_mul, row_ro hn, nT_i hP]; rfl, rfl⟩

theorem x_rounds (d : Nat) {E : zE} {m : zM} (T : zT) (X : Int → Int) (t s a cap a2 cap2 ka kcap b bcap : Int) (hJ : cJ m E T X t s a cap a2 cap2 ka kcap b bcap) (h5 : m 8 5 = 1) (h6 : m 8 6 = 1) (k : Int) (k0 : 0 ≤ k) (k1 : k < lT T) : zR zX4_rounds (d) [zP 8, zI k] m E E (fun r m' => r = some (zI (tRo T (tMt T k))) ∧ m = m') := by
  have hP := hJ.2.2.2.2.2.2.2.2.1
  have hn := tA_n hP
  have hni := nT_i hP
  obtain ⟨kn, rfl⟩ := Int.eq_ofNat_of_zero_le k0
  have hk := tMt_k (T := T) (k := kn) (by unfold lT at k1; omega)
  have hr := prs_ok hP _ (List.mem_of_getElem? hk)
  have z := hJ.2.2.2.1.2.2.2.1 h5
  have hrow := z.2.1.2.2.2.2.2.2 kn _ hk
  have hf := fN_is (od := cOd T.1 T.2.1) (br := cBr T.1 T.2.1) (ρ := m 8 6) hn hr.2.1 z.1
  have hc := prs_cap hP z.2.2
  refine zR_imp (c_rounds d 8 a cap (sx_8 hJ.2.2.2.2.2.2.2.1.1) hJ.2.2.2.2.2.2.2.1.2.1.1 hJ.2.2.2.2.2.2.2.1.2.1.2 (by have := bE_pos hJ.2.2.2.2.2.2.2.1; omega) z.2.1.1 z.2.1.2.1 (kn : Int) (by omega) (by unfold lT at k1; omega) _ hf.2.1 (by rw [hrow.2]; exact hf.1.symm)) ?_
  rintro r m' ⟨rfl, rfl⟩
  exact ⟨by rw [hf.2.2.2.2, h6, Int.one_mul, row_ro hn]; rfl, rfl⟩

theorem x_signs (d : Nat) {E : zE} {m : zM} (T : zT) (X : Int → Int) (t s a cap a2 cap2 ka kcap b bcap : Int) (hJ : cJ m E T X t s a cap a2 cap2 ka kcap b bcap) (h5 : m 8 5 = 1)  : zR zX4_signs (d + 1) [zP 8] m E E (fun r m' => r = some (zI (tS T (tSign T))) ∧ m = m') := by
  have hP := hJ.2.2.2.2.2.2.2.2.1
  have hn := tA_n hP
  have hni := nT_i hP
  refine zR_imp (c_signs d 8 a cap (sx_8 hJ.2.2.2.2.2.2.2.1.1) hJ.2.2.2.2.2.2.2.1.2.1.1 hJ.2.2.2.2.2.2.2.1.2.1.2 (by have := bE_pos hJ.2.2.2.2.2.2.2.1; omega) (nT T) (tA_n hJ.2.2.2.2.2.2.2.2.1) (mayT T) (cOd T.1 T.2.1) (cBr T.1 T.2.1) (fA (nT T)) (tPairs T) _ (hJ.2.2.2.1.2.2.2.1 h5).2.1 (prs_ok hJ.2.2.2.2.2.2.2.2.1) (prs_cap hJ.2.2.2.2.2.2.2.2.1 (hJ.2.2.2.1.2.2.2.1 h5).2.2) (prs_len hJ.2.2.2.2.2.2.2.2.1) (hJ.2.2.2.1.2.2.2.1 h5).1) ?_
  rintro r m' ⟨rfl, rfl⟩
  exact ⟨by unfold tS; rw [lS_mem (fun r hr => row_tr hn (prs_ok hP r hr) (odd_of hP.1.2.2))]; rfl, rfl⟩

theorem x_tog (d : Nat) {E : zE} {m : zM} (T : zT) (X : Int → Int) (t s a cap a2 cap2 ka kcap b bcap : Int) (hJ : cJ m E T X t s a cap a2 cap2 ka kcap b bcap) (h5 : m 8 5 = 1) (i v sg : Int) (i0 : 0 ≤ i) (i1 : i < T.2.2.2) : zR zX4_together (d + 1) [zP 8, zI i, zI v, zI sg] m E E (fun r m' => r = some (zI (tS T (fun mt => if mt i = v then (if sg = 0 then 1 else tSign T mt) else 0))) ∧ m = m') := by
  have hP := hJ.2.2.2.2.2.2.2.2.1
  have hn := tA_n hP
  have hni := nT_i hP
  obtain ⟨iN, rfl⟩ := Int.eq_ofNat_of_zero_le i0
  have hb := (tA_l hP).1
  refine zR_imp (c_together d 8 a cap (sx_8 hJ.2.2.2.2.2.2.2.1.1) hJ.2.2.2.2.2.2.2.1.2.1.1 hJ.2.2.2.2.2.2.2.1.2.1.2 (by have := bE_pos hJ.2.2.2.2.2.2.2.1; omega) (nT T) (tA_n hJ.2.2.2.2.2.2.2.2.1) (mayT T) (cOd T.1 T.2.1) (cBr T.1 T.2.1) (fA (nT T)) (tPairs T) _ (hJ.2.2.2.1.2.2.2.1 h5).2.1 (prs_ok hJ.2.2.2.2.2.2.2.2.1) (prs_cap hJ.2.2.2.2.2.2.2.2.1 (hJ.2.2.2.1.2.2.2.1 h5).2.2) (prs_len hJ.2.2.2.2.2.2.2.2.1) (hJ.2.2.2.1.2.2.2.1 h5).1 iN (by omega) v sg) ?_
  rintro r m' ⟨rfl, rfl⟩
  exact ⟨by unfold tS; rw [lS_mem (fun r hr => by rw [mate_is hn (prs_ok hP r hr) (show iN < nT T by omega), row_tr hn (prs_ok hP r hr) (odd_of hP.1.2.2)])]; rfl, rfl⟩

theorem x_tally (d : Nat) {E : zE} {m : zM} (T : zT) (X : Int → Int) (t s a cap a2 cap2 ka kcap b bcap : Int) (hJ : cJ m E T X t s a cap a2 cap2 ka kcap b bcap) (h5 : m 8 5 = 1) (h6 : m 8 6 = 1) (ho v sg : Int) : zR zX4_tally (d + 2) [zP 8, zI ho, zI v, zI sg] m E E (fun r m' => r = some (zI (tS T (fun mt => if (if ho = 0 then tCr T mt else tHo T mt) = v then (if sg = 0 then 1 else tSign T mt) else 0))) ∧ m = m') := by
  have hP := hJ.2.2.2.2.2.2.2.2.1
  have hn := tA_n hP
  have hni := nT_i hP
  refine zR_imp (c_tally d 8 a cap (sx_8 hJ.2.2.2.2.2.2.2.1.1) hJ.2.2.2.2.2.2.2.1.2.1.1 hJ.2.2.2.2.2.2.2.1.2.1.2 (by have := bE_pos hJ.2.2.2.2.2.2.2.1; omega) (nT T) (tA_n hJ.2.2.2.2.2.2.2.2.1) (mayT T) (cOd T.1 T.2.1) (cBr T.1 T.2.1) (fA (nT T)) (tPairs T) _ (hJ.2.2.2.1.2.2.2.1 h5).2.1 (prs_ok hJ.2.2.2.2.2.2.2.2.1) (prs_cap hJ.2.2.2.2.2.2.2.2.1 (hJ.2.2.2.1.2.2.2.1 h5).2.2) (prs_len hJ.2.2.2.2.2.2.2.2.1) (hJ.2.2.2.1.2.2.2.1 h5).1 ho v sg) ?_
  rintro r m' ⟨rfl, rfl⟩
  exact ⟨by unfold tS; rw [lS_mem (fun r hr => by rw [row_cr hn (prs_ok hP r hr), h6, Int.one_mul, row_ro hn, nT_i hP, row_tr hn (prs_ok hP r hr) (odd_of hP.1.2.2)])]; rfl, rfl⟩

theorem x_tally0 (d : Nat) {E : zE} {m : zM} (T : zT) (X : Int → Int) (t s a cap a2 cap2 ka kcap b bcap : Int) (hJ : cJ m E T X t s a cap a2 cap2 ka kcap b bcap) (h5 : m 8 5 = 1) (v : Int) : zR zX4_tally (d + 2) [zP 8, zI 0, zI v, zI 0] m E E (fun r m' => r = some (zI (tS T (fun mt => zb (tCr T mt = v)))) ∧ m = m') := by
  have hP := hJ.2.2.2.2.2.2.2.2.1
  have hn := tA_n hP
  have hni := nT_i hP
  refine zR_imp (c_tally d 8 a cap (sx_8 hJ.2.2.2.2.2.2.2.1.1) hJ.2.2.2.2.2.2.2.1.2.1.1 hJ.2.2.2.2.2.2.2.1.2.1.2 (by have := bE_pos hJ.2.2.2.2.2.2.2.1; omega) (nT T) (tA_n hJ.2.2.2.2.2.2.2.2.1) (mayT T) (cOd T.1 T.2.1) (cBr T.1 T.2.1) (fA (nT T)) (tPairs T) _ (hJ.2.2.2.1.2.2.2.1 h5).2.1 (prs_ok hJ.2.2.2.2.2.2.2.2.1) (prs_cap hJ.2.2.2.2.2.2.2.2.1 (hJ.2.2.2.1.2.2.2.1 h5).2.2) (prs_len hJ.2.2.2.2.2.2.2.2.1) (hJ.2.2.2.1.2.2.2.1 h5).1 0 v 0) ?_
  rintro r m' ⟨rfl, rfl⟩
  exact ⟨by unfold tS; rw [lS_mem (g := fun mt => zb (tCr T mt = v)) (fun r hr => by rw [if_pos rfl, if_pos rfl, row_cr hn (prs_ok hP r hr)]; rfl)], rfl⟩

theorem x_lines (d : Nat) {E : zE} {m : zM} (T : zT) (X : Int → Int) (t s a cap a2 cap2 ka kcap b bcap : Int) (hJ : cJ m E T X t s a cap a2 cap2 ka kcap b bcap) (h5 : m 8 5 = 1) (k : Int) (k0 : 0 ≤ k) (k1 : k < lT T) (o : Int) (o0 : 0 ≤ o) (o1 : o < lT T) : zR zX4_commonLines (d + 1) [zP 8, zI k, zI o] m E E (fun r m' => r = some (zI (zsum (fun i => zb (tMt T k i = tMt T o i)) T.2.2.2.toNat 0 / 2)) ∧ m = m') := by
  have hP := hJ.2.2.2.2.2.2.2.2.1
  have hn := tA_n hP
  have hni := nT_i hP
  obtain ⟨kn, rfl⟩ := Int.eq_ofNat_of_zero_le k0
  have hk := tMt_k (T := T) (k := kn) (by unfold lT at k1; omega)
  have hr := prs_ok hP _ (List.mem_of_getElem? hk)
  obtain ⟨oN, rfl⟩ := Int.eq_ofNat_of_zero_le o0
  have hko := tMt_k (T := T) (k := oN) (by unfold lT at o1; omega)
  have hro := prs_ok hP _ (List.mem_of_getElem? hko)
  refine zR_imp (c_comLines d 8 a cap (sx_8 hJ.2.2.2.2.2.2.2.1.1) hJ.2.2.2.2.2.2.2.1.2.1.1 hJ.2.2.2.2.2.2.2.1.2.1.2 (by have := bE_pos hJ.2.2.2.2.2.2.2.1; omega) (nT T) (tA_n hJ.2.2.2.2.2.2.2.2.1) (mayT T) (cOd T.1 T.2.1) (cBr T.1 T.2.1) (fA (nT T)) (tPairs T) _ (hJ.2.2.2.1.2.2.2.1 h5).2.1 (prs_ok hJ.2.2.2.2.2.2.2.2.1) (prs_cap hJ.2.2.2.2.2.2.2.2.1 (hJ.2.2.2.1.2.2.2.1 h5).2.2) (prs_len hJ.2.2.2.2.2.2.2.2.1) (hJ.2.2.2.1.2.2.2.1 h5).1 kn _ hk oN _ hko) ?_
  rintro r m' ⟨rfl, rfl⟩
  exact ⟨by rw [zsum_congr (g := fun i => zb (tMt T (kn : Int) i = tMt T (oN : Int) i)) (fun i i0 i1 => zb_congr (mates_eq hn hr hro i0 (by omega)))], rfl⟩
