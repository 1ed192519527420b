theorem let_is {T : zT} {i w : Int} (hn : 0 ≤ T.2.2.2 ∧ T.2.2.2 ≤ 12) (hw : 0 ≤ w ∧ w ≤ 3) (hi : 0 ≤ i ∧ i ≤ T.2.2.2 - 1) : aLetter T i w = (0, if w = 0 then T.2.1 i / 2 else if w = 1 then T.2.1 i % 2 else if w = 2 then T.2.2.1 i else ((sPop 12 (zmask (fun j => cMay T.1 T.2.1 T.2.2.1 i (j : Int)) T.2.2.2.toNat) : Nat) : Int)) := by
  have hp : ((sPop 12 (zmask (fun j => cMay T.1 T.2.1 T.2.2.1 i (j : Int)) T.2.2.2.toNat) : Nat) : Int) = zsum (fun j => zb (cMay T.1 T.2.1 T.2.2.1 i j = true)) T.2.2.2.toNat 0 := by
    rw [pop_n (n := T.2.2.2.toNat) (by omega) (zmask_lt _ _)]
    refine zsum_congr (fun r r0 r1 => zb_congr ?_)
    rw [zmask_bit, decide_eq_true (show r.toNat < T.2.2.2.toNat by omega), Bool.true_and, Int.toNat_of_nonneg r0]
  unfold aLetter
  rw [if_neg (by omega), if_neg (by omega), hp]
  split
  · rfl
  · split
    · rfl
    · split <;> rfl
theorem pt_is {T : zT} {p w : Int} (hw : 0 ≤ w ∧ w ≤ 4) (hi : 0 ≤ p ∧ p ≤ T.1 2 - 1) : aPoint T p w = (0, if w < 3 then T.1 (32 + 9 * p + w) else if w = 3 then zsum (fun q => T.1 (32 + 9 * q)) p.toNat 0 else zsum (fun q => zb (cAlike T.1 p q = true)) (T.1 2).toNat 0) := by
  unfold aPoint
  rw [if_neg (by omega), if_neg (by omega)]
  split
  · rfl
  · split <;> rfl
theorem c_mayI (d : Nat) {E : zE} {m : zM} (t : Int) (t0 : 0 < t) (sT : shT E t) (pT : ptT m t) (c : Int → Int) (hw : wfD c) (hc : cTh m t c) (w q : Int → Int) (n : Int) (hl : wfL c w q n) (hf : cFl m t c w q n) (i j : Int) (i0 : 0 ≤ i) (i1 : i < n) (j0 : 0 ≤ j) (j1 : j < n) : zR zX7_mayPair (d) [zP t, zI i, zI j] m E E (fun r m' => r = some (zI (zb (cMay c w q i j = true))) ∧ m = m') := by
  obtain ⟨jn, rfl⟩ := Int.eq_ofNat_of_zero_le j0
  exact c_mayPair d t t0 sT pT c hw hc w q n hl hf i jn i0 i1 j1
theorem pr_big {n : Nat} {may : Int → Int → Bool} (hn : n ≤ 12) {k : Int} (hk : 6 < k) : sPr n may 6 0 0 k = 0 := sPr_big (by omega) (by
  have h := zsum_bd (f := fun i => zb ((0 : Nat).testBit i.toNat = false)) (b := 1) (j := n - 0) (k := ((0 : Nat) : Int)) (fun i _ _ => by have := zb01 ((0 : Nat).testBit i.toNat = false); omega)
  unfold zfz
  omega)
/-- an edit leaves these -/
def eFr (m m' : zM) : Prop := ∀ a k : Int, ((1 ≤ a ∧ a ≤ 5) ∨ (37 ≤ a ∧ a ≤ 38) ∨ (95 ≤ a ∧ a < 121)) → m' a k = m a k
theorem eFr_q {m m' : zM} (h : qF0 m m') : eFr m m' := fun a k q => h a k (by omega)
def cEd (m m' : zM) (E' : zE) (T : zT) (X : Int → Int) (st : Int) : Prop := (∃ t s a cap a2 cap2 ka kcap b bcap, cJ m' E' T X t s a cap a2 cap2 ka kcap b bcap) ∧ eFr m m' ∧ m' 0 11 = st
theorem cEd_q {m m' : zM} {E : zE} {T : zT} {X : Int → Int} {st : Int} (h : cQ m m' E T X st) : cEd m m' E T X st := ⟨h.1, eFr_q h.2.1, h.2.2⟩
theorem cW_st {m : zM} {E : zE} {T : zT} {X : Int → Int} {t s a cap a2 cap2 ka kcap b bcap : Int} (h : cJ m E T X t s a cap a2 cap2 ka kcap b bcap) {co w : Int} (v : Int) (hv : v ≠ 0 := by decide) : cEd m (zu m 0 11 v) E T (if v = 0 then (fun x => if x = co then w else X x) else X) v := by
  rw [if_neg hv]
  exact cEd_q (cQ_st h qFr_rf v)
theorem cTh_x11 {m m' : zM} {t : Int} {c : Int → Int} (hp : ptT m t) (hw : wfD c) (h : cTh m t c) (hs : ∀ a j : Int, a ≠ t + 11 → m' a j = m a j) : cTh m' t c := by
  have b3 := hw.2.2.1
  obtain ⟨h1, h2, h3, h4, h5, h6⟩ := h
  refine ⟨(hs _ _ (by omega)).trans h1, (hs _ _ (by omega)).trans h2, (hs _ _ (by omega)).trans h3, fun f q0 q1 => ?_, fun k q0 q1 => ?_, fun p q0 q1 => ?_⟩
  · rw [hs _ _ (by omega), hs _ _ (by omega), hs _ _ (by omega)]; exact h4 f q0 q1
  · rw [hs _ _ (by omega), hs _ _ (by omega)]; exact h5 k q0 q1
  · rw [hs (t + 6) _ (by omega)]
    obtain ⟨i, i0, i1, i2⟩ := hp.2.2.1 p q0 (by omega)
    have h := h6 p q0 q1
    unfold cPt at h ⊢
    rw [hs _ _ (by omega), hs _ _ (by omega), hs _ _ (by omega)]
    exact ⟨h.1, h.2.1, h.2.2.1, fun k r0 r1 => by rw [hs _ _ (by omega)]; exact h.2.2.2 k r0 r1⟩
theorem cFl_x11 {m m' : zM} {t : Int} {c w q : Int → Int} {n : Int} (h : cFl m t c w q n) (hs : ∀ a j : Int, a ≠ t + 11 → m' a j = m a j) : cFl m' t c w q n := by
  obtain ⟨h1, h2, h3, h4⟩ := h
  refine ⟨by rw [hs _ _ (by omega)]; exact h1, fun i q0 q1 => ?_, fun i j i0 i1 j0 j1 hm => by rw [hs _ _ (by omega)]; exact h3 i j i0 i1 j0 j1 hm, by rw [hs _ _ (by omega)]; exact h4⟩
  rw [hs _ _ (by omega), hs _ _ (by omega), hs _ _ (by omega)]
  exact h2 i q0 q1
theorem cW_up {m : zM} {E : zE} {T : zT} {X : Int → Int} {t s a cap a2 cap2 ka kcap b bcap : Int} (h : cJ m E T X t s a cap a2 cap2 ka kcap b bcap) {co w : Int} (c0 : 0 ≤ co) (c1 : co < 800) (hw : -9 ≤ w ∧ w ≤ 9) : cEd m (zu (zu m (t + 11) co w) 0 11 0) E T (if (0 : Int) = 0 then (fun x => if x = co then w else X x) else X) 0 := by
  rw [if_pos rfl]
  have htt := cJ_t h
  obtain ⟨hA, hT, hW, hQ, hU, hD, hG, hE, hP, hR⟩ := h
  have ho := bE_pos hE
  have ht := hA.2.2.2.2.2.2.1
  have f : ∀ x k : Int, x ≠ t + 11 → zu m (t + 11) co w x k = m x k := fun x k q => zu_a q
  have pT : ptT (zu m (t + 11) co w) t := ptT_ag hA.2.2.2.2.1 (fun j _ _ => f t j (by omega)) (fun i _ _ => f _ 0 (by omega)) (fun p _ _ => f _ p (by omega))
  have h1 : cJ (zu m (t + 11) co w) E T (fun x => if x = co then w else X x) t s a cap a2 cap2 ka kcap b bcap := by
    refine ⟨?_, ⟨?_, ?_, fun i i0 i1 => ?_⟩, bW_in hW (fun x k q => f x k (by omega)), bQ_in hQ (fun x k q => f x k (by omega)), bU_in hU (fun k q => f 11 k (by omega)), bD_in hD (fun x k q => f x k (by omega)), ptG_in hG (fun k q => f 33 k (by omega)), hE, ⟨hP.1, hP.2.1, fun k k0 k1 => ?_⟩, ?_⟩
    · obtain ⟨⟨h0, h1, h2, h3, h4, h5, h6, h7, h8, h9, h10⟩, k1, k4, kp, kt, ks, hts, htl⟩ := hA
      exact ⟨⟨(f 0 0 (by omega)).trans h0, (f 0 1 (by omega)).trans h1, (f 0 2 (by omega)).trans h2, (f 0 3 (by omega)).trans h3, (f 0 4 (by omega)).trans h4, (f 0 5 (by omega)).trans h5, (f 0 6 (by omega)).trans h6, (f 0 7 (by omega)).trans h7, (f 0 8 (by omega)).trans h8, (f 0 9 (by omega)).trans h9, (f 0 10 (by omega)).trans h10⟩, (f 1 0 (by omega)).trans k1, (f 4 0 (by omega)).trans k4, (f 37 0 (by omega)).trans kp, pT, ptT_in ks (fun a j q0 q1 => f a j (by omega)), hts, by rw [f 1 1 (by omega)]; exact htl⟩
    · exact cTh_x11 hA.2.2.2.2.1 (wfD_of hP.1.1.1) hT.1 f
    · exact cFl_x11 hT.2.1 f
    · by_cases e : i = co
      · rw [e, zu_s]; exact (if_pos rfl).symm
      · rw [zu_j e]; exact (hT.2.2 i i0 i1).trans (if_neg e).symm
    · dsimp only
      split
      · exact hw
      · exact hP.2.2 k k0 k1
    · rw [f 14 19 (by omega), f 8 5 (by omega)]
      exact hR
  refine ⟨⟨t, s, a, cap, a2, cap2, ka, kcap, b, bcap, cJ_st h1 0⟩, fun x k q => ?_, zu_s⟩
  rw [zu_a (by omega), f x k (by omega)]
/-- a text lies in the printer -/
def cTx (m : zM) (L : List Int) : Prop := m 37 1 = (L.length : Int) ∧ L.length ≤ 48 ∧ ∀ (t : Nat) (x : Int), L[t]? = some x → m 38 (t : Int) = x
theorem cTx_at {m : zM} {L : List Int} (h : cTx m L) {i : Int} (i0 : 0 ≤ i) (i1 : i < (L.length : Int)) : m 38 i = lf L i := by
  have := h.2.2 i.toNat (lf L i) (lf_get (by omega))
  rw [Int.toNat_of_nonneg i0] at this
  exact this
theorem p_letter (d : Nat) {E : zE} {m : zM} (T : zT) (X : Int → Int) (t s a cap a2 cap2 ka kcap b bcap : Int) (hJ : cJ m E T X t s a cap a2 cap2 ka kcap b bcap) (i w : Int) : zR zX11_letter (d + 16) [zP 0, zI i, zI w] m E E (fun r m' => r = some (zI (aLetter T i w).2) ∧ cQ m m' E T X (aLetter T i w).1) := by
  have htt := cJ_t hJ
  have hln := (tA_l hJ.2.2.2.2.2.2.2.2.1).1
  refine zR_go [zP 0, zI i, zI w] (by decide +kernel) (Nat.le_of_ble_eq_true rfl) rfl rfl ?_
  refine z_iload_n dX11_letter_0 rfl ?_
  refine z_if_lt (tgt := 9) dX11_letter_1 rfl (fun h1 => ?_) (fun h1 => ?_)
  · refine z_aload_n dX11_letter_9 rfl ?_
    refine z_iconst dX11_letter_10 (by decide) ?_
    refine z_callV mlX11_93 dX11_letter_11 (sx_0 hJ.2.2.2.2.2.2.2.1.1) (av := [_]) rfl rfl (Nat.le_of_ble_eq_true rfl) (c_refuse _ (sx_0 hJ.2.2.2.2.2.2.2.1.1) _) (Nat.le_refl _) (Nat.le_refl _) (Nat.le_refl _) (Nat.le_refl _) ?_
    rintro _ _ ⟨rfl, rfl⟩
    refine z_iret dX11_letter_14 rfl rfl ?_
    rw [show aLetter T i w = (1, -1) from by unfold aLetter; rw [if_pos (by omega)]]
    exact ⟨rfl, cQ_st hJ qFr_rf _⟩
  · refine z_iload_n dX11_letter_4 rfl ?_
    refine z_iconst dX11_letter_5 (by decide) ?_
    refine z_icmp_le (tgt := 15) dX11_letter_6 rfl (fun h6 => ?_) (fun h6 => ?_)
    · refine z_aload_n dX11_letter_15 rfl ?_
      refine z_gP 9 rfl (r := t) flX11_71 dX11_letter_16 (sx_0 hJ.2.2.2.2.2.2.2.1.1) rfl (hJ.1.1.2.2.2.2.2.2.2.2.2.1) (by omega) ?_
      refine z_iload_n dX11_letter_19 rfl ?_
      refine z_callV mlX11_195 dX11_letter_20 (sx_T hJ.2.2.2.2.2.2.2.1.1 (cJ_t hJ)).1 (av := [_]) rfl rfl (Nat.le_of_ble_eq_true rfl) (c_hasLetter _ t (cJ_t0 hJ) (sx_T hJ.2.2.2.2.2.2.2.1.1 (cJ_t hJ)) (hJ.1.2.2.2.2.1) T.2.2.2 _ (hJ.2.1.2.1.1)) (Nat.le_refl _) (Nat.le_refl _) (Nat.le_refl _) (Nat.le_refl _) ?_
      rintro _ _ ⟨rfl, rfl⟩
      refine z_ifz_ne (tgt := 32) dX11_letter_23 rfl (fun h23 => ?_) (fun h23 => ?_)
      · refine z_aload_n dX11_letter_32 rfl ?_
        refine z_aload_n dX11_letter_33 rfl ?_
        refine z_gP 9 rfl (r := t) flX11_71 dX11_letter_34 (sx_0 hJ.2.2.2.2.2.2.2.1.1) rfl (hJ.1.1.2.2.2.2.2.2.2.2.2.1) (by omega) ?_
        refine z_iload_n dX11_letter_37 rfl ?_
        refine z_iload_n dX11_letter_38 rfl ?_
        refine z_callV mlX11_198 dX11_letter_39 (sx_T hJ.2.2.2.2.2.2.2.1.1 (cJ_t hJ)).1 (av := [_, _]) rfl rfl (Nat.le_of_ble_eq_true rfl) (c_letterFact _ t (cJ_t0 hJ) (sx_T hJ.2.2.2.2.2.2.2.1.1 (cJ_t hJ)) (hJ.1.2.2.2.2.1) T.1 (wfD_of (tA_w hJ.2.2.2.2.2.2.2.2.1)) (hJ.2.1.1) T.2.1 T.2.2.1 T.2.2.2 (tA_l hJ.2.2.2.2.2.2.2.2.1) (hJ.2.1.2.1) i w (by omega) (by omega) (by omega) (by omega)) (Nat.le_refl _) (Nat.le_refl _) (Nat.le_refl _) (Nat.le_refl _) ?_
        rintro _ _ ⟨rfl, rfl⟩
        refine z_callV mlX11_111 dX11_letter_42 (sx_0 hJ.2.2.2.2.2.2.2.1.1) (av := [_]) rfl rfl (Nat.le_of_ble_eq_true rfl) (c_answer _ (sx_0 hJ.2.2.2.2.2.2.2.1.1) _) (Nat.le_refl _) (Nat.le_refl _) (Nat.le_refl _) (Nat.le_refl _) ?_
        rintro _ _ ⟨rfl, rfl⟩
        refine z_iret dX11_letter_45 rfl rfl ?_
        rw [show aLetter T i w = (0, _) from let_is (by omega) (by omega) (by omega)]
        exact ⟨rfl, cQ_st hJ qFr_rf _⟩
      · refine z_aload_n dX11_letter_26 rfl ?_
        refine z_iconst dX11_letter_27 (by decide) ?_
        refine z_callV mlX11_93 dX11_letter_28 (sx_0 hJ.2.2.2.2.2.2.2.1.1) (av := [_]) rfl rfl (Nat.le_of_ble_eq_true rfl) (c_refuse _ (sx_0 hJ.2.2.2.2.2.2.2.1.1) _) (Nat.le_refl _) (Nat.le_refl _) (Nat.le_refl _) (Nat.le_refl _) ?_
        rintro _ _ ⟨rfl, rfl⟩
        refine z_iret dX11_letter_31 rfl rfl ?_
        rw [show aLetter T i w = (2, -1) from by unfold aLetter; rw [if_neg (by omega), if_pos (by omega)]]
        exact ⟨rfl, cQ_st hJ qFr_rf _⟩
    · refine z_aload_n dX11_letter_9 rfl ?_
      refine z_iconst dX11_letter_10 (by decide) ?_
      refine z_callV mlX11_93 dX11_letter_11 (sx_0 hJ.2.2.2.2.2.2.2.1.1) (av := [_]) rfl rfl (Nat.le_of_ble_eq_true rfl) (c_refuse _ (sx_0 hJ.2.2.2.2.2.2.2.1.1) _) (Nat.le_refl _) (Nat.le_refl _) (Nat.le_refl _) (Nat.le_refl _) ?_
      rintro _ _ ⟨rfl, rfl⟩
      refine z_iret dX11_letter_14 rfl rfl ?_
      rw [show aLetter T i w = (1, -1) from by unfold aLetter; rw [if_pos (by omega)]]
      exact ⟨rfl, cQ_st hJ qFr_rf _⟩

theorem p_field (d : Nat) {E : zE} {m : zM} (T : zT) (X : Int → Int) (t s a cap a2 cap2 ka kcap b bcap : Int) (hJ : cJ m E T X t s a cap a2 cap2 ka kcap b bcap) (k w : Int) : zR zX11_field (d + 16) [zP 0, zI k, zI w] m E E (fun r m' => r = some (zI (aField T k w).2) ∧ cQ m m' E T X (aField T k w).1) := by
  have htt := cJ_t hJ
  have hln := (tA_l hJ.2.2.2.2.2.2.2.2.1).1
  refine zR_go [zP 0, zI k, zI w] (by decide +kernel) (Nat.le_of_ble_eq_true rfl) rfl rfl ?_
  refine z_iload_n dX11_field_0 rfl ?_
  refine z_if_lt (tgt := 9) dX11_field_1 rfl (fun h1 => ?_) (fun h1 => ?_)
  · refine z_aload_n dX11_field_9 rfl ?_
    refine z_iconst dX11_field_10 (by decide) ?_
    refine z_callV mlX11_93 dX11_field_11 (sx_0 hJ.2.2.2.2.2.2.2.1.1) (av := [_]) rfl rfl (Nat.le_of_ble_eq_true rfl) (c_refuse _ (sx_0 hJ.2.2.2.2.2.2.2.1.1) _) (Nat.le_refl _) (Nat.le_refl _) (Nat.le_refl _) (Nat.le_refl _) ?_
    rintro _ _ ⟨rfl, rfl⟩
    refine z_iret dX11_field_14 rfl rfl ?_
    rw [show aField T k w = (1, -1) from by unfold aField; rw [if_pos (by omega)]]
    exact ⟨rfl, cQ_st hJ qFr_rf _⟩
  · refine z_iload_n dX11_field_4 rfl ?_
    refine z_iconst dX11_field_5 (by decide) ?_
    refine z_icmp_le (tgt := 15) dX11_field_6 rfl (fun h6 => ?_) (fun h6 => ?_)
    · refine z_iload_n dX11_field_15 rfl ?_
      refine z_if_lt (tgt := 30) dX11_field_16 rfl (fun h16 => ?_) (fun h16 => ?_)
      · refine z_aload_n dX11_field_30 rfl ?_
        refine z_iconst dX11_field_31 (by decide) ?_
        refine z_callV mlX11_93 dX11_field_32 (sx_0 hJ.2.2.2.2.2.2.2.1.1) (av := [_]) rfl rfl (Nat.le_of_ble_eq_true rfl) (c_refuse _ (sx_0 hJ.2.2.2.2.2.2.2.1.1) _) (Nat.le_refl _) (Nat.le_refl _) (Nat.le_refl _) (Nat.le_refl _) ?_
        rintro _ _ ⟨rfl, rfl⟩
        refine z_iret dX11_field_35 rfl rfl ?_
        rw [show aField T k w = (2, -1) from by unfold aField; rw [if_neg (by omega), if_pos (by omega)]]
        exact ⟨rfl, cQ_st hJ qFr_rf _⟩
      · refine z_iload_n dX11_field_19 rfl ?_
        refine z_aload_n dX11_field_20 rfl ?_
        refine z_gP 9 rfl (r := t) flX11_71 dX11_field_21 (sx_0 hJ.2.2.2.2.2.2.2.1.1) rfl (hJ.1.1.2.2.2.2.2.2.2.2.2.1) (by omega) ?_
        refine z_gIv 11 rfl flX11_157 dX11_field_24 (sx_T hJ.2.2.2.2.2.2.2.1.1 (cJ_t hJ)).1 rfl hJ.2.1.1.1 ?_
        refine z_icmp_lt (tgt := 36) dX11_field_27 rfl (fun h27 => ?_) (fun h27 => ?_)
        · refine z_aload_n dX11_field_36 rfl ?_
          refine z_aload_n dX11_field_37 rfl ?_
          refine z_gP 9 rfl (r := t) flX11_71 dX11_field_38 (sx_0 hJ.2.2.2.2.2.2.2.1.1) rfl (hJ.1.1.2.2.2.2.2.2.2.2.2.1) (by omega) ?_
          refine z_iload_n dX11_field_41 rfl ?_
          refine z_iload_n dX11_field_42 rfl ?_
          refine z_callV mlX11_201 dX11_field_43 (sx_T hJ.2.2.2.2.2.2.2.1.1 (cJ_t hJ)).1 (av := [_, _]) rfl rfl (Nat.le_of_ble_eq_true rfl) (c_fieldFact _ t (cJ_t0 hJ) (sx_T hJ.2.2.2.2.2.2.2.1.1 (cJ_t hJ)) (hJ.1.2.2.2.2.1) T.1 (wfD_of (tA_w hJ.2.2.2.2.2.2.2.2.1)) (hJ.2.1.1) k w (by omega) (by omega) (by omega) (by omega)) (Nat.le_refl _) (Nat.le_refl _) (Nat.le_refl _) (Nat.le_refl _) ?_
          rintro _ _ ⟨rfl, rfl⟩
          refine z_callV mlX11_111 dX11_field_46 (sx_0 hJ.2.2.2.2.2.2.2.1.1) (av := [_]) rfl rfl (Nat.le_of_ble_eq_true rfl) (c_answer _ (sx_0 hJ.2.2.2.2.2.2.2.1.1) _) (Nat.le_refl _) (Nat.le_refl _) (Nat.le_refl _) (Nat.le_refl _) ?_
          rintro _ _ ⟨rfl, rfl⟩
          refine z_iret dX11_field_49 rfl rfl ?_
          rw [show aField T k w = (0, T.1 (4 + 3 * k + w)) from by unfold aField; rw [if_neg (by omega), if_neg (by omega)]]
          exact ⟨rfl, cQ_st hJ qFr_rf _⟩
        · refine z_aload_n dX11_field_30 rfl ?_
          refine z_iconst dX11_field_31 (by decide) ?_
          refine z_callV mlX11_93 dX11_field_32 (sx_0 hJ.2.2.2.2.2.2.2.1.1) (av := [_]) rfl rfl (Nat.le_of_ble_eq_true rfl) (c_refuse _ (sx_0 hJ.2.2.2.2.2.2.2.1.1) _) (Nat.le_refl _) (Nat.le_refl _) (Nat.le_refl _) (Nat.le_refl _) ?_
          rintro _ _ ⟨rfl, rfl⟩
          refine z_iret dX11_field_35 rfl rfl ?_
          rw [show aField T k w = (2, -1) from by unfold aField; rw [if_neg (by omega), if_pos (by omega)]]
          exact ⟨rfl, cQ_st hJ qFr_rf _⟩
    · refine z_aload_n dX11_field_9 rfl ?_
      refine z_iconst dX11_field_10 (by decide) ?_
      refine z_callV mlX11_93 dX11_field_11 (sx_0 hJ.2.2.2.2.2.2.2.1.1) (av := [_]) rfl rfl (Nat.le_of_ble_eq_true rfl) (c_refuse _ (sx_0 hJ.2.2.2.2.2.2.2.1.1) _) (Nat.le_refl _) (Nat.le_refl _) (Nat.le_refl _) (Nat.le_refl _) ?_
      rintro _ _ ⟨rfl, rfl⟩
      refine z_iret dX11_field_14 rfl rfl ?_
      rw [show aField T k w = (1, -1) from by unfold aField; rw [if_pos (by omega)]]
      exact ⟨rfl, cQ_st hJ qFr_rf _⟩

theorem p_point (d : Nat) {E : zE} {m : zM} (T : zT) (X : Int → Int) (t s a cap a2 cap2 ka kcap b bcap : Int) (hJ : cJ m E T X t s a cap a2 cap2 ka kcap b bcap) (p w : Int) : zR zX11_point (d + 16) [zP 0, zI p, zI w] m E E (fun r m' => r = some (zI (aPoint T p w).2) ∧ cQ m m' E T X (aPoint T p w).1) := by
  have htt := cJ_t hJ
  have hln := (tA_l hJ.2.2.2.2.2.2.2.2.1).1
  refine zR_go [zP 0, zI p, zI w] (by decide +kernel) (Nat.le_of_ble_eq_true rfl) rfl rfl ?_
  refine z_iload_n dX11_point_0 rfl ?_
  refine z_if_lt (tgt := 9) dX11_point_1 rfl (fun h1 => ?_) (fun h1 => ?_)
  · refine z_aload_n dX11_point_9 rfl ?_
    refine z_iconst dX11_point_10 (by decide) ?_
    refine z_callV mlX11_93 dX11_point_11 (sx_0 hJ.2.2.2.2.2.2.2.1.1) (av := [_]) rfl rfl (Nat.le_of_ble_eq_true rfl) (c_refuse _ (sx_0 hJ.2.2.2.2.2.2.2.1.1) _) (Nat.le_refl _) (Nat.le_refl _) (Nat.le_refl _) (Nat.le_refl _) ?_
    rintro _ _ ⟨rfl, rfl⟩
    refine z_iret dX11_point_14 rfl rfl ?_
    rw [show aPoint T p w = (1, -1) from by unfold aPoint; rw [if_pos (by omega)]]
    exact ⟨rfl, cQ_st hJ qFr_rf _⟩
  · refine z_iload_n dX11_point_4 rfl ?_
    refine z_iconst dX11_point_5 (by decide) ?_
    refine z_icmp_le (tgt := 15) dX11_point_6 rfl (fun h6 => ?_) (fun h6 => ?_)
    · refine z_aload_n dX11_point_15 rfl ?_
      refine z_gP 9 rfl (r := t) flX11_71 dX11_point_16 (sx_0 hJ.2.2.2.2.2.2.2.1.1) rfl (hJ.1.1.2.2.2.2.2.2.2.2.2.1) (by omega) ?_
      refine z_iload_n dX11_point_19 rfl ?_
      refine z_callV mlX11_204 dX11_point_20 (sx_T hJ.2.2.2.2.2.2.2.1.1 (cJ_t hJ)).1 (av := [_]) rfl rfl (Nat.le_of_ble_eq_true rfl) (c_hasPoint _ t (cJ_t0 hJ) (sx_T hJ.2.2.2.2.2.2.2.1.1 (cJ_t hJ)) (hJ.1.2.2.2.2.1) T.1 (wfD_of (tA_w hJ.2.2.2.2.2.2.2.2.1)) (hJ.2.1.1) _) (Nat.le_refl _) (Nat.le_refl _) (Nat.le_refl _) (Nat.le_refl _) ?_
      rintro _ _ ⟨rfl, rfl⟩
      refine z_ifz_ne (tgt := 32) dX11_point_23 rfl (fun h23 => ?_) (fun h23 => ?_)
      · refine z_aload_n dX11_point_32 rfl ?_
        refine z_aload_n dX11_point_33 rfl ?_
        refine z_gP 9 rfl (r := t) flX11_71 dX11_point_34 (sx_0 hJ.2.2.2.2.2.2.2.1.1) rfl (hJ.1.1.2.2.2.2.2.2.2.2.2.1) (by omega) ?_
        refine z_iload_n dX11_point_37 rfl ?_
        refine z_iload_n dX11_point_38 rfl ?_
        refine z_callV mlX11_207 dX11_point_39 (sx_T hJ.2.2.2.2.2.2.2.1.1 (cJ_t hJ)).1 (av := [_, _]) rfl rfl (Nat.le_of_ble_eq_true rfl) (c_pointFact _ t (cJ_t0 hJ) (sx_T hJ.2.2.2.2.2.2.2.1.1 (cJ_t hJ)) (hJ.1.2.2.2.2.1) T.1 (wfD_of (tA_w hJ.2.2.2.2.2.2.2.2.1)) (hJ.2.1.1) p w (by omega) (by omega) (by omega) (by omega)) (Nat.le_refl _) (Nat.le_refl _) (Nat.le_refl _) (Nat.le_refl _) ?_
        rintro _ _ ⟨rfl, rfl⟩
        refine z_callV mlX11_111 dX11_point_42 (sx_0 hJ.2.2.2.2.2.2.2.1.1) (av := [_]) rfl rfl (Nat.le_of_ble_eq_true rfl) (c_answer _ (sx_0 hJ.2.2.2.2.2.2.2.1.1) _) (Nat.le_refl _) (Nat.le_refl _) (Nat.le_refl _) (Nat.le_refl _) ?_
        rintro _ _ ⟨rfl, rfl⟩
        refine z_iret dX11_point_45 rfl rfl ?_
        rw [show aPoint T p w = (0, _) from pt_is (by omega) (by omega)]
        exact ⟨rfl, cQ_st hJ qFr_rf _⟩
      · refine z_aload_n dX11_point_26 rfl ?_
        refine z_iconst dX11_point_27 (by decide) ?_
        refine z_callV mlX11_93 dX11_point_28 (sx_0 hJ.2.2.2.2.2.2.2.1.1) (av := [_]) rfl rfl (Nat.le_of_ble_eq_true rfl) (c_refuse _ (sx_0 hJ.2.2.2.2.2.2.2.1.1) _) (Nat.le_refl _) (Nat.le_refl _) (Nat.le_refl _) (Nat.le_refl _) ?_
        rintro _ _ ⟨rfl, rfl⟩
        refine z_iret dX11_point_31 rfl rfl ?_
        rw [show aPoint T p w = (2, -1) from by unfold aPoint; rw [if_neg (by omega), if_pos (by omega)]]
        exact ⟨rfl, cQ_st hJ qFr_rf _⟩
    · refine z_aload_n dX11_point_9 rfl ?_
      refine z_iconst dX11_point_10 (by decide) ?_
      refine z_callV mlX11_93 dX11_point_11 (sx_0 hJ.2.2.2.2.2.2.2.1.1) (av := [_]) rfl rfl (Nat.le_of_ble_eq_true rfl) (c_refuse _ (sx_0 hJ.2.2.2.2.2.2.2.1.1) _) (Nat.le_refl _) (Nat.le_refl _) (Nat.le_refl _) (Nat.le_refl _) ?_
      rintro _ _ ⟨rfl, rfl⟩
      refine z_iret dX11_point_14 rfl rfl ?_
      rw [show aPoint T p w = (1, -1) from by unfold aPoint; rw [if_pos (by omega)]]
      exact ⟨rfl, cQ_st hJ qFr_rf _⟩

theorem p_code (d : Nat) {E : zE} {m : zM} (T : zT) (X : Int → Int) (t s a cap a2 cap2 ka kcap b bcap : Int) (hJ : cJ m E T X t s a cap a2 cap2 ka kcap b bcap) (i j : Int) : zR zX11_code (d + 16) [zP 0, zI i, zI j] m E E (fun r m' => r = some (zI (aCode T i j).2) ∧ cQ m m' E T X (aCode T i j).1) := by
  have htt := cJ_t hJ
  have hln := (tA_l hJ.2.2.2.2.2.2.2.2.1).1
  refine zR_go [zP 0, zI i, zI j] (by decide +kernel) (Nat.le_of_ble_eq_true rfl) rfl rfl ?_
  refine z_aload_n dX11_code_0 rfl ?_
  refine z_gP 9 rfl (r := t) flX11_71 dX11_code_1 (sx_0 hJ.2.2.2.2.2.2.2.1.1) rfl (hJ.1.1.2.2.2.2.2.2.2.2.2.1) (by omega) ?_
  refine z_iload_n dX11_code_4 rfl ?_
  refine z_callV mlX11_195 dX11_code_5 (sx_T hJ.2.2.2.2.2.2.2.1.1 (cJ_t hJ)).1 (av := [_]) rfl rfl (Nat.le_of_ble_eq_true rfl) (c_hasLetter _ t (cJ_t0 hJ) (sx_T hJ.2.2.2.2.2.2.2.1.1 (cJ_t hJ)) (hJ.1.2.2.2.2.1) T.2.2.2 _ (hJ.2.1.2.1.1)) (Nat.le_refl _) (Nat.le_refl _) (Nat.le_refl _) (Nat.le_refl _) ?_
  rintro _ _ ⟨rfl, rfl⟩
  refine z_ifz_eq (tgt := 22) dX11_code_8 rfl (fun h8 => ?_) (fun h8 => ?_)
  · refine z_aload_n dX11_code_22 rfl ?_
    refine z_iconst dX11_code_23 (by decide) ?_
    refine z_callV mlX11_93 dX11_code_24 (sx_0 hJ.2.2.2.2.2.2.2.1.1) (av := [_]) rfl rfl (Nat.le_of_ble_eq_true rfl) (c_refuse _ (sx_0 hJ.2.2.2.2.2.2.2.1.1) _) (Nat.le_refl _) (Nat.le_refl _) (Nat.le_refl _) (Nat.le_refl _) ?_
    rintro _ _ ⟨rfl, rfl⟩
    refine z_iret dX11_code_27 rfl rfl ?_
    rw [show aCode T i j = (2, -1) from by unfold aCode; rw [if_pos (by omega)]]
    exact ⟨rfl, cQ_st hJ qFr_rf _⟩
  · refine z_aload_n dX11_code_11 rfl ?_
    refine z_gP 9 rfl (r := t) flX11_71 dX11_code_12 (sx_0 hJ.2.2.2.2.2.2.2.1.1) rfl (hJ.1.1.2.2.2.2.2.2.2.2.2.1) (by omega) ?_
    refine z_iload_n dX11_code_15 rfl ?_
    refine z_callV mlX11_195 dX11_code_16 (sx_T hJ.2.2.2.2.2.2.2.1.1 (cJ_t hJ)).1 (av := [_]) rfl rfl (Nat.le_of_ble_eq_true rfl) (c_hasLetter _ t (cJ_t0 hJ) (sx_T hJ.2.2.2.2.2.2.2.1.1 (cJ_t hJ)) (hJ.1.2.2.2.2.1) T.2.2.2 _ (hJ.2.1.2.1.1)) (Nat.le_refl _) (Nat.le_refl _) (Nat.le_refl _) (Nat.le_refl _) ?_
    rintro _ _ ⟨rfl, rfl⟩
    refine z_ifz_ne (tgt := 28) dX11_code_19 rfl (fun h19 => ?_) (fun h19 => ?_)
    · refine z_iload_n dX11_code_28 rfl ?_
      refine z_iload_n dX11_code_29 rfl ?_
      refine z_icmp_ne (tgt := 39) dX11_code_30 rfl (fun h30 => ?_) (fun h30 => ?_)
      · refine z_aload_n dX11_code_39 rfl ?_
        refine z_gP 9 rfl (r := t) flX11_71 dX11_code_40 (sx_0 hJ.2.2.2.2.2.2.2.1.1) rfl (hJ.1.1.2.2.2.2.2.2.2.2.2.1) (by omega) ?_
        refine z_iload_n dX11_code_43 rfl ?_
        refine z_iload_n dX11_code_44 rfl ?_
        refine z_callV mlX11_210 dX11_code_45 (sx_T hJ.2.2.2.2.2.2.2.1.1 (cJ_t hJ)).1 (av := [_, _]) rfl rfl (Nat.le_of_ble_eq_true rfl) (c_mayI _ t (cJ_t0 hJ) (sx_T hJ.2.2.2.2.2.2.2.1.1 (cJ_t hJ)) (hJ.1.2.2.2.2.1) T.1 (wfD_of (tA_w hJ.2.2.2.2.2.2.2.2.1)) (hJ.2.1.1) T.2.1 T.2.2.1 T.2.2.2 (tA_l hJ.2.2.2.2.2.2.2.2.1) (hJ.2.1.2.1) i j (by omega) (by omega) (by omega) (by omega)) (Nat.le_refl _) (Nat.le_refl _) (Nat.le_refl _) (Nat.le_refl _) ?_
        rintro _ _ ⟨rfl, rfl⟩
        refine z_ifz_eq (tgt := 67) dX11_code_48 rfl (fun h48 => ?_) (fun h48 => ?_)
        · refine z_aload_n dX11_code_67 rfl ?_
          refine z_iconst dX11_code_68 (by decide) ?_
          refine z_callV mlX11_93 dX11_code_69 (sx_0 hJ.2.2.2.2.2.2.2.1.1) (av := [_]) rfl rfl (Nat.le_of_ble_eq_true rfl) (c_refuse _ (sx_0 hJ.2.2.2.2.2.2.2.1.1) _) (Nat.le_refl _) (Nat.le_refl _) (Nat.le_refl _) (Nat.le_refl _) ?_
          rintro _ _ ⟨rfl, rfl⟩
          refine z_iret dX11_code_72 rfl rfl ?_
          rw [show aCode T i j = (5, -1) from by unfold aCode; rw [if_neg (by omega), if_neg (by omega), if_pos h48]]
          exact ⟨rfl, cQ_st hJ qFr_rf _⟩
        · refine z_aload_n dX11_code_51 rfl ?_
          refine z_aload_n dX11_code_52 rfl ?_
          refine z_gP 9 rfl (r := t) flX11_71 dX11_code_53 (sx_0 hJ.2.2.2.2.2.2.2.1.1) rfl (hJ.1.1.2.2.2.2.2.2.2.2.2.1) (by omega) ?_
          refine z_iload_n dX11_code_56 rfl ?_
          refine z_iload_n dX11_code_57 rfl ?_
          refine z_callV mlX11_214 dX11_code_58 (sx_T hJ.2.2.2.2.2.2.2.1.1 (cJ_t hJ)).1 (av := [_, _]) rfl rfl (Nat.le_of_ble_eq_true rfl) (c_codeOf _ t (cJ_t0 hJ) (sx_T hJ.2.2.2.2.2.2.2.1.1 (cJ_t hJ)) (hJ.1.2.2.2.2.1) T.1 (wfD_of (tA_w hJ.2.2.2.2.2.2.2.2.1)) (hJ.2.1.1) T.2.1 T.2.2.1 T.2.2.2 (tA_l hJ.2.2.2.2.2.2.2.2.1) (hJ.2.1.2.1) i j (by omega) (by omega) (by omega) (by omega) h48) (Nat.le_refl _) (Nat.le_refl _) (Nat.le_refl _) (Nat.le_refl _) ?_
          rintro _ _ ⟨rfl, rfl⟩
          refine z_callV mlX11_111 dX11_code_61 (sx_0 hJ.2.2.2.2.2.2.2.1.1) (av := [_]) rfl rfl (Nat.le_of_ble_eq_true rfl) (c_answer _ (sx_0 hJ.2.2.2.2.2.2.2.1.1) _) (Nat.le_refl _) (Nat.le_refl _) (Nat.le_refl _) (Nat.le_refl _) ?_
          rintro _ _ ⟨rfl, rfl⟩
          refine z_goto (tgt := 72) dX11_code_64 rfl ?_
          refine z_iret dX11_code_72 rfl rfl ?_
          rw [show aCode T i j = (0, cCode T.1 T.2.1 T.2.2.1 i j) from by unfold aCode; rw [if_neg (by omega), if_neg (by omega), if_neg (not_not_intro h48)]]
          exact ⟨rfl, cQ_st hJ qFr_rf _⟩
      · refine z_aload_n dX11_code_33 rfl ?_
        refine z_iconst dX11_code_34 (by decide) ?_
        refine z_callV mlX11_93 dX11_code_35 (sx_0 hJ.2.2.2.2.2.2.2.1.1) (av := [_]) rfl rfl (Nat.le_of_ble_eq_true rfl) (c_refuse _ (sx_0 hJ.2.2.2.2.2.2.2.1.1) _) (Nat.le_refl _) (Nat.le_refl _) (Nat.le_refl _) (Nat.le_refl _) ?_
        rintro _ _ ⟨rfl, rfl⟩
        refine z_iret dX11_code_38 rfl rfl ?_
        rw [show aCode T i j = (4, -1) from by unfold aCode; rw [if_neg (by omega), if_pos (by omega)]]
        exact ⟨rfl, cQ_st hJ qFr_rf _⟩
    · refine z_aload_n dX11_code_22 rfl ?_
      refine z_iconst dX11_code_23 (by decide) ?_
      refine z_callV mlX11_93 dX11_code_24 (sx_0 hJ.2.2.2.2.2.2.2.1.1) (av := [_]) rfl rfl (Nat.le_of_ble_eq_true rfl) (c_refuse _ (sx_0 hJ.2.2.2.2.2.2.2.1.1) _) (Nat.le_refl _) (Nat.le_refl _) (Nat.le_refl _) (Nat.le_refl _) ?_
      rintro _ _ ⟨rfl, rfl⟩
      refine z_iret dX11_code_27 rfl rfl ?_
      rw [show aCode T i j = (2, -1) from by unfold aCode; rw [if_pos (by omega)]]
      exact ⟨rfl, cQ_st hJ qFr_rf _⟩

theorem p_status (d : Nat) {E : zE} {m : zM} (T : zT) (X : Int → Int) (t s a cap a2 cap2 ka kcap b bcap : Int) (hJ : cJ m E T X t s a cap a2 cap2 ka kcap b bcap) : zR zX11_status (d + 16) [zP 0] m E E (fun r m' => r = some (zI (m 0 11)) ∧ m = m') := by
  refine zR_go [zP 0] (by decide +kernel) (Nat.le_of_ble_eq_true rfl) rfl rfl ?_
  refine z_aload_n dX11_status_0 rfl ?_
  refine z_gI 11 rfl flX11_78 dX11_status_1 (sx_0 hJ.2.2.2.2.2.2.2.1.1) rfl ?_
  refine z_iret dX11_status_4 rfl rfl ?_
  exact ⟨rfl, rfl⟩

theorem p_fault (d : Nat) {E : zE} {m : zM} (T : zT) (X : Int → Int) (t s a cap a2 cap2 ka kcap b bcap : Int) (hJ : cJ m E T X t s a cap a2 cap2 ka kcap b bcap) (w : Int) : zR zX11_fault (d + 16) [zP 0, zI w] m E E (fun r m' => r = some (zI (aFault (m 1 8) (m 1 9) w)) ∧ m = m') := by
  refine zR_go [zP 0, zI w] (by decide +kernel) (Nat.le_of_ble_eq_true rfl) rfl rfl ?_
  refine z_iload_n dX11_fault_0 rfl ?_
  refine z_if_ne (tgt := 12) dX11_fault_1 rfl (fun h1 => ?_) (fun h1 => ?_)
  · refine z_iload_n dX11_fault_12 rfl ?_
    refine z_iconst dX11_fault_13 (by decide) ?_
    refine z_icmp_ne (tgt := 27) dX11_fault_14 rfl (fun h14 => ?_) (fun h14 => ?_)
    · refine z_iconst dX11_fault_27 (by decide) ?_
      refine z_iret dX11_fault_28 rfl rfl ?_
      exact ⟨by unfold aFault; rw [if_neg (by omega), if_neg (by omega)], rfl⟩
    · refine z_aload_n dX11_fault_17 rfl ?_
      refine z_gP 0 rfl (r := 1) flX11_10 dX11_fault_18 (sx_0 hJ.2.2.2.2.2.2.2.1.1) rfl (hJ.1.1.1) (by omega) ?_
      refine z_gI 9 rfl flX11_154 dX11_fault_21 (sx_K hJ.2.2.2.2.2.2.2.1.1).1 rfl ?_
      refine z_goto (tgt := 28) dX11_fault_24 rfl ?_
      refine z_iret dX11_fault_28 rfl rfl ?_
      exact ⟨by unfold aFault; rw [if_neg (by omega), if_pos (by omega)], rfl⟩
  · refine z_aload_n dX11_fault_4 rfl ?_
    refine z_gP 0 rfl (r := 1) flX11_10 dX11_fault_5 (sx_0 hJ.2.2.2.2.2.2.2.1.1) rfl (hJ.1.1.1) (by omega) ?_
    refine z_gI 8 rfl flX11_151 dX11_fault_8 (sx_K hJ.2.2.2.2.2.2.2.1.1).1 rfl ?_
    refine z_iret dX11_fault_11 rfl rfl ?_
    exact ⟨by unfold aFault; rw [if_pos (by omega)], rfl⟩

theorem p_partial (d : Nat) {E : zE} {m : zM} (T : zT) (X : Int → Int) (t s a cap a2 cap2 ka kcap b bcap : Int) (hJ : cJ m E T X t s a cap a2 cap2 ka kcap b bcap) (k : Int) : zR zX11_partial (d + 16) [zP 0, zI k] m E E (fun r m' => r = some (zI (aPartial T k).2) ∧ cQ m m' E T X (aPartial T k).1) := by
  have htt := cJ_t hJ
  have hln := (tA_l hJ.2.2.2.2.2.2.2.2.1).1
  refine zR_go [zP 0, zI k] (by decide +kernel) (Nat.le_of_ble_eq_true rfl) rfl rfl ?_
  refine z_iload_n dX11_partial_0 rfl ?_
  refine z_if_ge (tgt := 10) dX11_partial_1 rfl (fun h1 => ?_) (fun h1 => ?_)
  · refine z_aload_n dX11_partial_10 rfl ?_
    refine z_iload_n dX11_partial_11 rfl ?_
    refine z_bipush dX11_partial_12 rfl (by decide) ?_
    refine z_icmp_le (tgt := 21) dX11_partial_14 rfl (fun h14 => ?_) (fun h14 => ?_)
    · refine z_aload_n dX11_partial_21 rfl ?_
      refine z_callV mlX11_296 dX11_partial_22 (sx_0 hJ.2.2.2.2.2.2.2.1.1) (av := _) rfl rfl (Nat.le_of_ble_eq_true rfl) (c_knownWays _ T X t s a cap a2 cap2 ka kcap b bcap hJ) (Nat.le_refl _) (Nat.le_refl _) (Nat.le_refl _) (Nat.le_refl _) ?_
      rintro _ m1 ⟨rfl, j1, h62, q1⟩
      refine z_iload_n dX11_partial_25 rfl ?_
      refine z_callV mlX11_300 dX11_partial_26 (sx_6 j1.2.2.2.2.2.2.2.1.1) (av := [_]) rfl rfl (Nat.le_of_ble_eq_true rfl) (c_withLines _ (sx_6 j1.2.2.2.2.2.2.2.1.1) (sx_7 j1.2.2.2.2.2.2.2.1.1) j1.2.2.1.1 (nT T) (tA_n j1.2.2.2.2.2.2.2.2.1) (mayT T) (j1.2.2.1.2.2 h62) k (by omega)) (Nat.le_refl _) (Nat.le_refl _) (Nat.le_refl _) (Nat.le_refl _) ?_
      rintro _ _ ⟨rfl, rfl⟩
      refine z_callV mlX11_111 dX11_partial_29 (sx_0 j1.2.2.2.2.2.2.2.1.1) (av := [_]) rfl rfl (Nat.le_of_ble_eq_true rfl) (c_answer _ (sx_0 j1.2.2.2.2.2.2.2.1.1) _) (Nat.le_refl _) (Nat.le_refl _) (Nat.le_refl _) (Nat.le_refl _) ?_
      rintro _ _ ⟨rfl, rfl⟩
      refine z_iret dX11_partial_32 rfl rfl ?_
      rw [part_is (tA_n hJ.2.2.2.2.2.2.2.2.1) (by omega) (by omega), show aPartial T k = (0, _) from by unfold aPartial; rw [if_neg (by omega)]]
      exact ⟨rfl, cQ_st j1 q1.1 _⟩
    · refine z_iconst dX11_partial_17 (by decide) ?_
      refine z_goto (tgt := 29) dX11_partial_18 rfl ?_
      refine z_callV mlX11_111 dX11_partial_29 (sx_0 hJ.2.2.2.2.2.2.2.1.1) (av := [_]) rfl rfl (Nat.le_of_ble_eq_true rfl) (c_answer _ (sx_0 hJ.2.2.2.2.2.2.2.1.1) _) (Nat.le_refl _) (Nat.le_refl _) (Nat.le_refl _) (Nat.le_refl _) ?_
      rintro _ _ ⟨rfl, rfl⟩
      refine z_iret dX11_partial_32 rfl rfl ?_
      rw [show aPartial T k = (0, 0) from by unfold aPartial; rw [if_neg (by omega), pr_big (tA_n hJ.2.2.2.2.2.2.2.2.1) (by omega)]]
      exact ⟨rfl, cQ_st hJ qFr_rf _⟩
  · refine z_aload_n dX11_partial_4 rfl ?_
    refine z_iconst dX11_partial_5 (by decide) ?_
    refine z_callV mlX11_93 dX11_partial_6 (sx_0 hJ.2.2.2.2.2.2.2.1.1) (av := [_]) rfl rfl (Nat.le_of_ble_eq_true rfl) (c_refuse _ (sx_0 hJ.2.2.2.2.2.2.2.1.1) _) (Nat.le_refl _) (Nat.le_refl _) (Nat.le_refl _) (Nat.le_refl _) ?_
    rintro _ _ ⟨rfl, rfl⟩
    refine z_iret dX11_partial_9 rfl rfl ?_
    rw [show aPartial T k = (1, -1) from by unfold aPartial; rw [if_pos (by omega)]]
    exact ⟨rfl, cQ_st hJ qFr_rf _⟩

theorem p_worth (d : Nat) {E : zE} {m : zM} (T : zT) (X : Int → Int) (t s a cap a2 cap2 ka kcap b bcap : Int) (hJ : cJ m E T X t s a cap a2 cap2 ka kcap b bcap) (co w : Int) : zR zX11_worth (d + 16) [zP 0, zI co, zI w] m E E (fun r m' => r = some (zI (aWorth T X co w).2) ∧ cEd m m' E T (if (aWorth T X co w).1 = 0 then (fun x => if x = co then w else X x) else X) (aWorth T X co w).1) := by
  have htt := cJ_t hJ
  have hln := (tA_l hJ.2.2.2.2.2.2.2.2.1).1
  refine zR_go [zP 0, zI co, zI w, zN] (by decide +kernel) (Nat.le_of_ble_eq_true rfl) rfl rfl ?_
  refine z_iload_n dX11_worth_0 rfl ?_
  refine z_bipush dX11_worth_1 rfl (by decide) ?_
  refine z_icmp_lt (tgt := 12) dX11_worth_3 rfl (fun h3 => ?_) (fun h3 => ?_)
  · refine z_aload_n dX11_worth_12 rfl ?_
    refine z_iconst dX11_worth_13 (by decide) ?_
    refine z_callV mlX11_93 dX11_worth_14 (sx_0 hJ.2.2.2.2.2.2.2.1.1) (av := [_]) rfl rfl (Nat.le_of_ble_eq_true rfl) (c_refuse _ (sx_0 hJ.2.2.2.2.2.2.2.1.1) _) (Nat.le_refl _) (Nat.le_refl _) (Nat.le_refl _) (Nat.le_refl _) ?_
    rintro _ _ ⟨rfl, rfl⟩
    refine z_iret dX11_worth_17 rfl rfl ?_
    rw [show aWorth T X co w = (1, -1) from by unfold aWorth; rw [if_pos (by omega)]]
    exact ⟨rfl, cW_st hJ _⟩
  · refine z_iload_n dX11_worth_6 rfl ?_
    refine z_bipush dX11_worth_7 rfl (by decide) ?_
    refine z_icmp_le (tgt := 18) dX11_worth_9 rfl (fun h9 => ?_) (fun h9 => ?_)
    · refine z_aload_n dX11_worth_18 rfl ?_
      refine z_gP 9 rfl (r := t) flX11_71 dX11_worth_19 (sx_0 hJ.2.2.2.2.2.2.2.1.1) rfl (hJ.1.1.2.2.2.2.2.2.2.2.2.1) (by omega) ?_
      refine z_iload_n dX11_worth_22 rfl ?_
      refine z_callV mlX11_256 dX11_worth_23 (sx_T hJ.2.2.2.2.2.2.2.1.1 (cJ_t hJ)).1 (av := [_]) rfl rfl (Nat.le_of_ble_eq_true rfl) (c_hasCode _ t (cJ_t0 hJ) (sx_T hJ.2.2.2.2.2.2.2.1.1 (cJ_t hJ)) (hJ.1.2.2.2.2.1) T.1 (wfD_of (tA_w hJ.2.2.2.2.2.2.2.2.1)) (hJ.2.1.1) co) (Nat.le_refl _) (Nat.le_refl _) (Nat.le_refl _) (Nat.le_refl _) ?_
      rintro _ _ ⟨rfl, rfl⟩
      refine z_ifz_ne (tgt := 35) dX11_worth_26 rfl (fun h26 => ?_) (fun h26 => ?_)
      · refine z_aload_n dX11_worth_35 rfl ?_
        refine z_gP 9 rfl (r := t) flX11_71 dX11_worth_36 (sx_0 hJ.2.2.2.2.2.2.2.1.1) rfl (hJ.1.1.2.2.2.2.2.2.2.2.2.1) (by omega) ?_
        refine z_gP 10 rfl (r := t + 11) flX11_259 dX11_worth_39 (sx_T hJ.2.2.2.2.2.2.2.1.1 (cJ_t hJ)).1 rfl hJ.1.2.2.2.2.1.1.2.2.2.2.2.2.2.2.2.2 (by omega) ?_
        refine z_iload_n dX11_worth_42 rfl ?_
        have hcr := cCodeOk_rgD (wfD_of (tA_w hJ.2.2.2.2.2.2.2.2.1)) h26
        refine z_ialv dX11_worth_43 (sx_T hJ.2.2.2.2.2.2.2.1.1 (cJ_t hJ)).2.2.2.2.2.2.2.2.2.2.2.1 (by omega) (by omega) (hJ.2.1.2.2 co (by omega) (by omega)) ?_
        refine z_ist 3 dX11_worth_44 rfl (Nat.le_of_ble_eq_true rfl) ?_
        refine z_iload_n dX11_worth_45 rfl ?_
        refine z_iload_n dX11_worth_46 rfl ?_
        try dsimp only [zs0, zsI, zsP, zsN, zsJ, zsS, zst2, Nat.reduceAdd]
        refine z_icmp_ne (tgt := 56) dX11_worth_47 rfl (fun h47 => ?_) (fun h47 => ?_)
        · refine z_aload_n dX11_worth_56 rfl ?_
          refine z_gP 9 rfl (r := t) flX11_71 dX11_worth_57 (sx_0 hJ.2.2.2.2.2.2.2.1.1) rfl (hJ.1.1.2.2.2.2.2.2.2.2.2.1) (by omega) ?_
          refine z_gP 10 rfl (r := t + 11) flX11_259 dX11_worth_60 (sx_T hJ.2.2.2.2.2.2.2.1.1 (cJ_t hJ)).1 rfl hJ.1.2.2.2.2.1.1.2.2.2.2.2.2.2.2.2.2 (by omega) ?_
          refine z_iload_n dX11_worth_63 rfl ?_
          refine z_iload_n dX11_worth_64 rfl ?_
          refine z_iast dX11_worth_65 (sx_T hJ.2.2.2.2.2.2.2.1.1 (cJ_t hJ)).2.2.2.2.2.2.2.2.2.2.2.1 (by omega) (by omega) ?_
          refine z_aload_n dX11_worth_66 rfl ?_
          refine z_iload_n dX11_worth_67 rfl ?_
          refine z_callV mlX11_111 dX11_worth_68 (sx_0 hJ.2.2.2.2.2.2.2.1.1) (av := [_]) rfl rfl (Nat.le_of_ble_eq_true rfl) (c_answer _ (sx_0 hJ.2.2.2.2.2.2.2.1.1) _) (Nat.le_refl _) (Nat.le_refl _) (Nat.le_refl _) (Nat.le_refl _) ?_
          rintro _ _ ⟨rfl, rfl⟩
          refine z_iret dX11_worth_71 rfl rfl ?_
          rw [show aWorth T X co w = (0, X co) from by unfold aWorth; rw [if_neg (by omega), if_neg (not_not_intro h26), if_neg (by omega)]]
          exact ⟨rfl, cW_up hJ (by omega) (by omega) (by omega)⟩
        · refine z_aload_n dX11_worth_50 rfl ?_
          refine z_iconst dX11_worth_51 (by decide) ?_
          refine z_callV mlX11_93 dX11_worth_52 (sx_0 hJ.2.2.2.2.2.2.2.1.1) (av := [_]) rfl rfl (Nat.le_of_ble_eq_true rfl) (c_refuse _ (sx_0 hJ.2.2.2.2.2.2.2.1.1) _) (Nat.le_refl _) (Nat.le_refl _) (Nat.le_refl _) (Nat.le_refl _) ?_
          rintro _ _ ⟨rfl, rfl⟩
          refine z_iret dX11_worth_55 rfl rfl ?_
          rw [show aWorth T X co w = (4, -1) from by unfold aWorth; rw [if_neg (by omega), if_neg (not_not_intro h26), if_pos (by omega)]]
          exact ⟨rfl, cW_st hJ _⟩
      · refine z_aload_n dX11_worth_29 rfl ?_
        refine z_iconst dX11_worth_30 (by decide) ?_
        refine z_callV mlX11_93 dX11_worth_31 (sx_0 hJ.2.2.2.2.2.2.2.1.1) (av := [_]) rfl rfl (Nat.le_of_ble_eq_true rfl) (c_refuse _ (sx_0 hJ.2.2.2.2.2.2.2.1.1) _) (Nat.le_refl _) (Nat.le_refl _) (Nat.le_refl _) (Nat.le_refl _) ?_
        rintro _ _ ⟨rfl, rfl⟩
        refine z_iret dX11_worth_34 rfl rfl ?_
        rw [show aWorth T X co w = (2, -1) from by unfold aWorth; rw [if_neg (by omega), if_pos h26]]
        exact ⟨rfl, cW_st hJ _⟩
    · refine z_aload_n dX11_worth_12 rfl ?_
      refine z_iconst dX11_worth_13 (by decide) ?_
      refine z_callV mlX11_93 dX11_worth_14 (sx_0 hJ.2.2.2.2.2.2.2.1.1) (av := [_]) rfl rfl (Nat.le_of_ble_eq_true rfl) (c_refuse _ (sx_0 hJ.2.2.2.2.2.2.2.1.1) _) (Nat.le_refl _) (Nat.le_refl _) (Nat.le_refl _) (Nat.le_refl _) ?_
      rintro _ _ ⟨rfl, rfl⟩
      refine z_iret dX11_worth_17 rfl rfl ?_
      rw [show aWorth T X co w = (1, -1) from by unfold aWorth; rw [if_pos (by omega)]]
      exact ⟨rfl, cW_st hJ _⟩

theorem p_out (d : Nat) {E : zE} {m : zM} (T : zT) (X : Int → Int) (t s a cap a2 cap2 ka kcap b bcap : Int) (hJ : cJ m E T X t s a cap a2 cap2 ka kcap b bcap) (i : Int) (L : List Int) (hL : cTx m L) : zR zX11_out (d + 16) [zP 0, zI i] m E E (fun r m' => r = some (zI (aOut L i).2) ∧ cQ m m' E T X (aOut L i).1) := by
  have htt := cJ_t hJ
  have hln := (tA_l hJ.2.2.2.2.2.2.2.2.1).1
  have hl48 := hL.2.1
  refine zR_go [zP 0, zI i] (by decide +kernel) (Nat.le_of_ble_eq_true rfl) rfl rfl ?_
  refine z_iload_n dX11_out_0 rfl ?_
  refine z_if_ge (tgt := 10) dX11_out_1 rfl (fun h1 => ?_) (fun h1 => ?_)
  · refine z_iload_n dX11_out_10 rfl ?_
    refine z_aload_n dX11_out_11 rfl ?_
    refine z_gP 8 rfl (r := 37) flX11_64 dX11_out_12 (sx_0 hJ.2.2.2.2.2.2.2.1.1) rfl (hJ.1.1.2.2.2.2.2.2.2.2.1) (by omega) ?_
    refine z_gIv 1 rfl flX11_354 dX11_out_15 (sx_P hJ.2.2.2.2.2.2.2.1.1).1 rfl hL.1 ?_
    refine z_icmp_lt (tgt := 29) dX11_out_18 rfl (fun h18 => ?_) (fun h18 => ?_)
    · refine z_aload_n dX11_out_29 rfl ?_
      refine z_aload_n dX11_out_30 rfl ?_
      refine z_gP 8 rfl (r := 37) flX11_64 dX11_out_31 (sx_0 hJ.2.2.2.2.2.2.2.1.1) rfl (hJ.1.1.2.2.2.2.2.2.2.2.1) (by omega) ?_
      refine z_gP 0 rfl (r := 38) flX11_360 dX11_out_34 (sx_P hJ.2.2.2.2.2.2.2.1.1).1 rfl hJ.1.2.2.2.1 (by omega) ?_
      refine z_iload_n dX11_out_37 rfl ?_
      refine z_ialv dX11_out_38 (sx_P hJ.2.2.2.2.2.2.2.1.1).2 (by omega) (by omega) (cTx_at hL (by omega) (by omega)) ?_
      refine z_callV mlX11_111 dX11_out_39 (sx_0 hJ.2.2.2.2.2.2.2.1.1) (av := [_]) rfl rfl (Nat.le_of_ble_eq_true rfl) (c_answer _ (sx_0 hJ.2.2.2.2.2.2.2.1.1) _) (Nat.le_refl _) (Nat.le_refl _) (Nat.le_refl _) (Nat.le_refl _) ?_
      rintro _ _ ⟨rfl, rfl⟩
      refine z_iret dX11_out_42 rfl rfl ?_
      rw [show aOut L i = (0, lf L i) from by unfold aOut; rw [if_neg (by omega), if_neg (by omega)]]
      exact ⟨rfl, cQ_st hJ qFr_rf _⟩
    · refine z_aload_n dX11_out_21 rfl ?_
      refine z_iconst dX11_out_22 (by decide) ?_
      refine z_callV mlX11_93 dX11_out_23 (sx_0 hJ.2.2.2.2.2.2.2.1.1) (av := [_]) rfl rfl (Nat.le_of_ble_eq_true rfl) (c_refuse _ (sx_0 hJ.2.2.2.2.2.2.2.1.1) _) (Nat.le_refl _) (Nat.le_refl _) (Nat.le_refl _) (Nat.le_refl _) ?_
      rintro _ _ ⟨rfl, rfl⟩
      refine z_goto (tgt := 42) dX11_out_26 rfl ?_
      refine z_iret dX11_out_42 rfl rfl ?_
      rw [show aOut L i = (5, -1) from by unfold aOut; rw [if_neg (by omega), if_pos (by omega)]]
      exact ⟨rfl, cQ_st hJ qFr_rf _⟩
  · refine z_aload_n dX11_out_4 rfl ?_
    refine z_iconst dX11_out_5 (by decide) ?_
    refine z_callV mlX11_93 dX11_out_6 (sx_0 hJ.2.2.2.2.2.2.2.1.1) (av := [_]) rfl rfl (Nat.le_of_ble_eq_true rfl) (c_refuse _ (sx_0 hJ.2.2.2.2.2.2.2.1.1) _) (Nat.le_refl _) (Nat.le_refl _) (Nat.le_refl _) (Nat.le_refl _) ?_
    rintro _ _ ⟨rfl, rfl⟩
    refine z_iret dX11_out_9 rfl rfl ?_
    rw [show aOut L i = (1, -1) from by unfold aOut; rw [if_pos (by omega)]]
    exact ⟨rfl, cQ_st hJ qFr_rf _⟩
