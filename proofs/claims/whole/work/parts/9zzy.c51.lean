def gWo (T : zT) (X : Int → Int) (k : Int) (i v : Int) : Int := if i < tMt T k i then v * X (cCode T.1 T.2.1 T.2.2.1 i (tMt T k i)) else v
theorem row_at {T : zT} {X : Int → Int} (h : tA T X) {k : Int} (k0 : 0 ≤ k) (k1 : k < lT T) {i : Int} (i0 : 0 ≤ i) (i1 : i < T.2.2.2) : 0 ≤ tMt T k i ∧ tMt T k i < T.2.2.2 ∧ (i < tMt T k i → cMay T.1 T.2.1 T.2.2.1 i (tMt T k i) = true) := by
  have hn := tA_n h
  have hni := nT_i h
  obtain ⟨kn, rfl⟩ := Int.eq_ofNat_of_zero_le k0
  have hk := tMt_k (T := T) (k := kn) (by unfold lT at k1; omega)
  have hr := prs_ok h _ (List.mem_of_getElem? hk)
  have e := sMk_fA hn (tMt T (kn : Int)) i i0 (by omega)
  have p := hr.2.2.1 i.toNat (by omega) (by rw [fA_bit]; exact decide_eq_true (by omega))
  rw [Int.toNat_of_nonneg i0, e] at p
  have q := hr.1 i i0 (by omega)
  rw [e] at q
  have r := hr.2.2.2 i i0 (by omega)
  rw [e] at r
  exact ⟨p, by have := (q p).1; omega, r⟩
theorem sg_9 (T : zT) (r : Int → Int) : -(9 ^ (0 : Int).toNat) ≤ tSign T r ∧ tSign T r ≤ 9 ^ (0 : Int).toNat := by
  unfold tSign sSign
  rcases zpar_or (sTurn T.2.2.2.toNat (cOd T.1 T.2.1) (cBr T.1 T.2.1) r) with e | e <;> (rw [e]; decide)
theorem tWo_bx {T : zT} {X : Int → Int} (h : tA T X) {k : Int} (k0 : 0 ≤ k) (k1 : k < lT T) : -282429536481 ≤ tWo T X (tMt T k) ∧ tWo T X (tMt T k) ≤ 282429536481 := by
  have hl := tA_l h
  have key : ∀ (s : Nat) (i v : Int), 0 ≤ i → i + s = T.2.2.2 → -(9 ^ i.toNat) ≤ v ∧ v ≤ 9 ^ i.toNat → -(9 ^ T.2.2.2.toNat) ≤ zfd (gWo T X k) s i v ∧ zfd (gWo T X k) s i v ≤ 9 ^ T.2.2.2.toNat := by
    intro s
    induction s with
    | zero => intro i v q0 q1 hv; rw [show T.2.2.2.toNat = i.toNat by omega]; exact hv
    | succ s ih =>
      intro i v q0 q1 hv
      rw [zfd_s]
      refine ih (i + 1) _ (by omega) (by omega) ?_
      rw [show (i + 1).toNat = i.toNat + 1 by omega]
      have g := row_at h k0 k1 q0 (show i < T.2.2.2 by omega)
      unfold gWo
      split
      · have hcr := cCodeOk_rg (tA_w h) (cCode_ok (tA_w h) hl q0 (by omega) g.1 g.2.1 (g.2.2 (by omega)))
        exact mul9 hv (h.2.2 _ hcr.1 hcr.2.2.2)
      · have := p9 i.toNat (by have := hl.1; omega)
        rw [Int.pow_succ]
        omega
  have hb := hl.1
  have hh := key T.2.2.2.toNat 0 (tSign T (tMt T k)) (by omega) (by omega) (sg_9 T _)
  have := p9 T.2.2.2.toNat (by omega)
  have e : tWo T X (tMt T k) = zfd (gWo T X k) T.2.2.2.toNat 0 (tSign T (tMt T k)) := rfl
  rw [e]
  omega
theorem mt_of {T : zT} {t : Nat} {x : Int → Int} (h : (tPairs T)[t]? = some x) : tMt T (t : Int) = x := by
  have := tMt_k (T := T) (k := t) (List.getElem?_eq_some_iff.mp h).1
  rw [h] at this
  exact (Option.some.inj this).symm
theorem sum_all {T : zT} {X : Int → Int} : zsum (fun k => tWo T X (tMt T k)) (tPairs T).length 0 = tS T (tWo T X) := zsum_lS0 rfl (fun t x h => by rw [mt_of h])
theorem sum_of {T : zT} {X : Int → Int} {dd : Int} : zsum (fun k => if tName T (tMt T k) = tNm T dd then tWo T X (tMt T k) else 0) (tPairs T).length 0 = tS T (fun mt => if tName T mt = tNm T dd then tWo T X mt else 0) := zsum_lS0 rfl (fun t x h => by rw [mt_of h])
theorem ofd_all {T : zT} {dd wh nu : Int} : zsum (fun k => if tName T (tMt T k) = tNm T dd ∧ (if wh = 0 then tCr T (tMt T k) else tHo T (tMt T k)) = nu then 1 else 0) (tPairs T).length 0 = tS T (fun mt => if tName T mt = tNm T dd ∧ (if wh = 0 then tCr T mt else tHo T mt) = nu then 1 else 0) := zsum_lS0 rfl (fun t x h => by rw [mt_of h])
theorem cQ_kept {m m1 : zM} {E : zE} {T : zT} {X : Int → Int} {t s a cap a2 cap2 ka kcap b bcap : Int} (h : cJ m1 E T X t s a cap a2 cap2 ka kcap b bcap) (q : qFr (zu m 0 11 0) m1) : cQ m m1 E T X 0 := ⟨⟨t, s, a, cap, a2, cap2, ka, kcap, b, bcap, h⟩, fun x k g => (by
  rw [q x k (by omega)]
  by_cases e : x = 0
  · rw [e, zu_j (by omega)]
  · rw [zu_a e]), (q 0 11 (Or.inl rfl)).trans zu_s⟩
theorem ix_iff {m : zM} {E : zE} {T : zT} {X : Int → Int} {t s a cap a2 cap2 ka kcap b bcap : Int} (hJ : cJ m E T X t s a cap a2 cap2 ka kcap b bcap) (h9 : m 14 19 = 1) {dd : Int} (d0 : 0 ≤ dd) (d1 : dd < ((tD T).length : Int)) {k : Int} (k0 : 0 ≤ k) (k1 : k < lT T) : tIx T (tName T (tMt T k)) = dd ↔ tName T (tMt T k) = tNm T dd := by
  obtain ⟨⟨D, F, cc, z1, z2, z3⟩, z4⟩ := hJ.2.2.2.2.2.1.2.2.2.2.2.2 h9
  obtain ⟨kn, rfl⟩ := Int.eq_ofNat_of_zero_le k0
  obtain ⟨dn, rfl⟩ := Int.eq_ofNat_of_zero_le d0
  have ed := (dG_ord z1.1).1
  have hk := tMt_k (T := T) (k := kn) (by unfold lT at k1; omega)
  obtain ⟨i, hi, hD⟩ := z1.1.2.2.1 kn _ hk
  obtain ⟨x, x1, x2, x3, x4, x5⟩ := dG_rk z1.1 hD
  obtain ⟨y, y1, y2, y3, y4⟩ := (dG_ord z1.1).2 dn (by omega)
  constructor
  · intro h
    rw [x5] at h
    rw [← x4, h]
  · intro h
    rw [← h] at y3
    have e : y = i := nodup_at z1.1.1.1 y3 hD
    rw [x5]
    have := z1.1.2.2.2.2.2.1.2 x dn x2 (by omega) (by rw [x3, y1, e])
    omega
theorem c_kR1 (d : Nat) {E : zE} {m : zM} (T : zT) (X : Int → Int) (t s a cap a2 cap2 ka kcap b bcap : Int) (hJ : cJ m E T X t s a cap a2 cap2 ka kcap b bcap) (h5 : m 8 5 = 1) : zR zX11_knownRounds (d + 12) [zP 0] m E E (fun r m' => r = some (zP 8) ∧ cJ m' E T X t s a cap a2 cap2 ka kcap b bcap ∧ m' 8 5 = 1 ∧ m' 8 6 = 1 ∧ qFr m m' ∧ m' 14 19 = m 14 19) := by
  have z1 := hJ.2.2.2.1.2.2.2.1 h5
  refine zR_go [zP 0, zN] (by decide +kernel) (Nat.le_of_ble_eq_true rfl) rfl rfl ?_
  refine z_aload_n dX11_knownRounds_0 rfl ?_
  refine z_callV mlX11_124 dX11_knownRounds_1 (sx_0 hJ.2.2.2.2.2.2.2.1.1) (av := _) rfl rfl (Nat.le_of_ble_eq_true rfl) (c_kP1 _ T X t s a cap a2 cap2 ka kcap b bcap hJ h5) (Nat.le_refl _) (Nat.le_refl _) (Nat.le_refl _) (Nat.le_refl _) ?_
  rintro _ _ ⟨rfl, rfl⟩
  refine z_ast 1 dX11_knownRounds_4 rfl (Nat.le_of_ble_eq_true rfl) ?_
  refine z_aload_n dX11_knownRounds_5 rfl ?_
  refine z_gI 6 rfl flX11_378 dX11_knownRounds_6 (sx_8 hJ.2.2.2.2.2.2.2.1.1) rfl ?_
  try dsimp only [zs0, zsI, zsP, zsN, zsJ, zsS, zst2, Nat.reduceAdd]
  refine z_if_ne (tgt := 16) dX11_knownRounds_9 rfl (fun h9 => ?_) (fun h9 => ?_)
  · refine z_aload_n dX11_knownRounds_16 rfl ?_
    refine z_aret dX11_knownRounds_17 rfl rfl ?_
    exact ⟨rfl, hJ, h5, by have := z1.1; omega, qFr_rf, rfl⟩
  · refine z_aload_n dX11_knownRounds_12 rfl ?_
    refine z_callV mlX11_389 dX11_knownRounds_13 (sx_8 hJ.2.2.2.2.2.2.2.1.1) (av := _) rfl rfl (Nat.le_of_ble_eq_true rfl) (c_traceRounds _ 8 a cap (sx_8 hJ.2.2.2.2.2.2.2.1.1) hJ.2.2.2.2.2.2.2.1.2.1.1 hJ.2.2.2.2.2.2.2.1.2.1.2 (by have := bE_pos hJ.2.2.2.2.2.2.2.1; omega) (by have := bE_pos hJ.2.2.2.2.2.2.2.1; omega) (by have := bE_pos hJ.2.2.2.2.2.2.2.1; omega) (nT T) (tA_n hJ.2.2.2.2.2.2.2.2.1) (mayT T) (cOd T.1 T.2.1) (cBr T.1 T.2.1) (fA (nT T)) (fun x hx => by rw [fA_bit]; exact decide_eq_true hx) (tPairs T) ((show m 8 6 = 0 by omega) ▸ z1.2.1) (prs_ok hJ.2.2.2.2.2.2.2.2.1) (prs_cap hJ.2.2.2.2.2.2.2.2.1 z1.2.2) (prs_len hJ.2.2.2.2.2.2.2.2.1)) (Nat.le_refl _) (Nat.le_refl _) (Nat.le_refl _) (Nat.le_refl _) ?_
    rintro _ m2 ⟨rfl, f2, b2⟩
    have e2 : m2 8 5 = 1 := (f2 8 5 (by simp; have := bE_pos hJ.2.2.2.2.2.2.2.1; omega) (by simp)).trans h5
    have e3 : m2 8 6 = 1 := b2.2.2.2.2.2.1
    obtain ⟨j2, q2⟩ := cJ_fill hJ (m' := m2) hJ.2.2.2.2.2.2.2.1 (bQ_rho hJ.2.2.2.2.2.2.2.2.1 b2 e2 z1.2.2) e2 (fun x k n8 na nb => f2 x k (by simp; omega) (by simp; omega))
    refine z_aload_n dX11_knownRounds_16 rfl ?_
    refine z_aret dX11_knownRounds_17 rfl rfl ?_
    exact ⟨rfl, j2, e2, e3, q2.1, q2.2⟩
theorem l_cworthOf (d : Nat) {E : zE} {m : zM} {P : Option zV → zM → Prop} (T : zT) (X : Int → Int) (t s a cap a2 cap2 ka kcap b bcap : Int) (hJ : cJ m E T X t s a cap a2 cap2 ka kcap b bcap) (h5 : m 8 5 = 1) (k : Int) (k0 : 0 ≤ k) (k1 : k < lT T) : ∀ (j : Nat) (i v : Int), (0 ≤ i) → (i + j = T.2.2.2) → (-(9 ^ i.toNat) ≤ v ∧ v ≤ 9 ^ i.toNat) → (P (some (zJ (zfd (gWo T X k) j i v))) m) → zA zX11_worthOf (d + 2) E E P 10 [zP 0, zP 8, zI k, zJ v, zN, zI i, zN] [] m E := by
  intro j
  induction j with
  | zero =>
    intro i v h0 hi hv hP
    have htt := cJ_t hJ
    have hln := (tA_l hJ.2.2.2.2.2.2.2.2.1).1
    refine z_iload dX11_worthOf_10 rfl ?_
    refine z_aload_n dX11_worthOf_12 rfl ?_
    refine z_gP 9 rfl (r := t) flX11_71 dX11_worthOf_13 (sx_0 hJ.2.2.2.2.2.2.2.1.1) rfl (hJ.1.1.2.2.2.2.2.2.2.2.2.1) (by omega) ?_
    refine z_gIv 14 rfl flX11_108 dX11_worthOf_16 (sx_T hJ.2.2.2.2.2.2.2.1.1 (cJ_t hJ)).1 rfl (hJ.2.1.2.1.1) ?_
    refine z_icmp_ge (tgt := 67) dX11_worthOf_19 rfl (fun h19 => ?_) (fun h => absurd (by omega) h)
    refine z_lload_n dX11_worthOf_67 rfl ?_
    refine z_lret dX11_worthOf_68 rfl rfl ?_
    exact hP
  | succ j ih =>
    intro i v h0 hi hv hP
    have htt := cJ_t hJ
    have hln := (tA_l hJ.2.2.2.2.2.2.2.2.1).1
    have hra := row_at hJ.2.2.2.2.2.2.2.2.1 k0 k1 h0 (show i < T.2.2.2 by omega)
    refine z_iload dX11_worthOf_10 rfl ?_
    refine z_aload_n dX11_worthOf_12 rfl ?_
    refine z_gP 9 rfl (r := t) flX11_71 dX11_worthOf_13 (sx_0 hJ.2.2.2.2.2.2.2.1.1) rfl (hJ.1.1.2.2.2.2.2.2.2.2.2.1) (by omega) ?_
    refine z_gIv 14 rfl flX11_108 dX11_worthOf_16 (sx_T hJ.2.2.2.2.2.2.2.1.1 (cJ_t hJ)).1 rfl (hJ.2.1.2.1.1) ?_
    refine z_icmp_ge (tgt := 67) dX11_worthOf_19 rfl (fun h => absurd h (by omega)) (fun h19 => ?_)
    refine z_aload_n dX11_worthOf_22 rfl ?_
    refine z_iload_n dX11_worthOf_23 rfl ?_
    refine z_iload dX11_worthOf_24 rfl ?_
    refine z_callV mlX11_265 dX11_worthOf_26 (sx_8 hJ.2.2.2.2.2.2.2.1.1) (av := [_, _]) rfl rfl (Nat.le_of_ble_eq_true rfl) (x_mate _ T X t s a cap a2 cap2 ka kcap b bcap hJ h5 k k0 k1 i h0 (by omega)) (Nat.le_refl _) (Nat.le_refl _) (Nat.le_refl _) (Nat.le_refl _) ?_
    rintro _ _ ⟨rfl, rfl⟩
    refine z_istore dX11_worthOf_29 (Nat.le_of_ble_eq_true rfl) ?_
    refine z_iload dX11_worthOf_31 rfl ?_
    refine z_iload dX11_worthOf_33 rfl ?_
    try dsimp only [zs0, zsI, zsP, zsN, zsJ, zsS, zst2, Nat.reduceAdd]
    refine z_icmp_ge (tgt := 61) dX11_worthOf_35 rfl (fun h35 => ?_) (fun h35 => ?_)
    · refine z_inc dX11_worthOf_61 rfl (by omega) ?_
      refine z_goto (tgt := 10) dX11_worthOf_64 rfl ?_
      try dsimp only [zs0, zsI, zsP, zsN, zsJ, zsS, zst2, Nat.reduceAdd]
      refine zA_wk [_, _, _, _, _, _, zN] (by exact ⟨Or.inr rfl, Or.inr rfl, Or.inr rfl, Or.inr rfl, Or.inr rfl, Or.inr rfl, Or.inl rfl, trivial⟩) ?_
      refine ih (i + 1) _ (by omega) (by omega) (by rw [show (i + 1).toNat = i.toNat + 1 by omega, Int.pow_succ]; have := p9 i.toNat (by omega); omega) ?_
      rw [zfd_s, show gWo T X k i v = v from if_neg (by omega)] at hP
      exact hP
    · refine z_lload_n dX11_worthOf_38 rfl ?_
      refine z_aload_n dX11_worthOf_39 rfl ?_
      refine z_gP 9 rfl (r := t) flX11_71 dX11_worthOf_40 (sx_0 hJ.2.2.2.2.2.2.2.1.1) rfl (hJ.1.1.2.2.2.2.2.2.2.2.2.1) (by omega) ?_
      refine z_gP 10 rfl (r := t + 11) flX11_259 dX11_worthOf_43 (sx_T hJ.2.2.2.2.2.2.2.1.1 (cJ_t hJ)).1 rfl hJ.1.2.2.2.2.1.1.2.2.2.2.2.2.2.2.2.2 (by omega) ?_
      refine z_aload_n dX11_worthOf_46 rfl ?_
      refine z_gP 9 rfl (r := t) flX11_71 dX11_worthOf_47 (sx_0 hJ.2.2.2.2.2.2.2.1.1) rfl (hJ.1.1.2.2.2.2.2.2.2.2.2.1) (by omega) ?_
      refine z_iload dX11_worthOf_50 rfl ?_
      refine z_iload dX11_worthOf_52 rfl ?_
      refine z_callV mlX11_214 dX11_worthOf_54 (sx_T hJ.2.2.2.2.2.2.2.1.1 (cJ_t hJ)).1 (av := [_, _]) rfl rfl (Nat.le_of_ble_eq_true rfl) (c_codeOf _ t (cJ_t0 hJ) (sx_T hJ.2.2.2.2.2.2.2.1.1 (cJ_t hJ)) (hJ.1.2.2.2.2.1) T.1 (wfD_of (tA_w hJ.2.2.2.2.2.2.2.2.1)) (hJ.2.1.1) T.2.1 T.2.2.1 T.2.2.2 (tA_l hJ.2.2.2.2.2.2.2.2.1) (hJ.2.1.2.1) i (tMt T k i) h0 (by omega) hra.1 hra.2.1 (hra.2.2 (by omega))) (Nat.le_refl _) (Nat.le_refl _) (Nat.le_refl _) (Nat.le_refl _) ?_
      rintro _ _ ⟨rfl, rfl⟩
      have hcr := cCodeOk_rgD (wfD_of (tA_w hJ.2.2.2.2.2.2.2.2.1)) (cCode_ok (tA_w hJ.2.2.2.2.2.2.2.2.1) (tA_l hJ.2.2.2.2.2.2.2.2.1) h0 (by omega) hra.1 hra.2.1 (hra.2.2 (by omega)))
      have hww := hJ.2.2.2.2.2.2.2.2.1.2.2 _ hcr.1 hcr.2.2.2
      refine z_ialv dX11_worthOf_57 (sx_T hJ.2.2.2.2.2.2.2.1.1 (cJ_t hJ)).2.2.2.2.2.2.2.2.2.2.2.1 (by omega) (by omega) (hJ.2.1.2.2 _ hcr.1 hcr.2.2.2) ?_
      refine z_i2l dX11_worthOf_58 ?_
      refine z_lmul' dX11_worthOf_59 (by have := mul9 hv hww; have := p9 (i.toNat + 1) (by omega); omega) ?_
      refine z_lst 3 dX11_worthOf_60 rfl (Nat.le_of_ble_eq_true rfl) ?_
      refine z_inc dX11_worthOf_61 rfl (by omega) ?_
      refine z_goto (tgt := 10) dX11_worthOf_64 rfl ?_
      try dsimp only [zs0, zsI, zsP, zsN, zsJ, zsS, zst2, Nat.reduceAdd]
      refine zA_wk [_, _, _, _, _, _, zN] (by exact ⟨Or.inr rfl, Or.inr rfl, Or.inr rfl, Or.inr rfl, Or.inr rfl, Or.inr rfl, Or.inl rfl, trivial⟩) ?_
      refine ih (i + 1) _ (by omega) (by omega) (by rw [show (i + 1).toNat = i.toNat + 1 by omega]; exact mul9 hv hww) ?_
      rw [zfd_s, show gWo T X k i v = v * X (cCode T.1 T.2.1 T.2.2.1 i (tMt T k i)) from if_pos (by omega)] at hP
      exact hP

theorem c_worthOf (d : Nat) {E : zE} {m : zM} (T : zT) (X : Int → Int) (t s a cap a2 cap2 ka kcap b bcap : Int) (hJ : cJ m E T X t s a cap a2 cap2 ka kcap b bcap) (h5 : m 8 5 = 1) (k : Int) (k0 : 0 ≤ k) (k1 : k < lT T) : zR zX11_worthOf (d + 2) [zP 0, zP 8, zI k] m E E (fun r m' => r = some (zJ (tWo T X (tMt T k))) ∧ m = m') := by
  have htt := cJ_t hJ
  have hln := (tA_l hJ.2.2.2.2.2.2.2.2.1).1
  refine zR_go [zP 0, zP 8, zI k, zN, zN, zN, zN] (by decide +kernel) (Nat.le_of_ble_eq_true rfl) rfl rfl ?_
  refine z_aload_n dX11_worthOf_0 rfl ?_
  refine z_iload_n dX11_worthOf_1 rfl ?_
  refine z_callV mlX11_268 dX11_worthOf_2 (sx_8 hJ.2.2.2.2.2.2.2.1.1) (av := [_]) rfl rfl (Nat.le_of_ble_eq_true rfl) (x_sign _ T X t s a cap a2 cap2 ka kcap b bcap hJ h5 k k0 k1) (Nat.le_refl _) (Nat.le_refl _) (Nat.le_refl _) (Nat.le_refl _) ?_
  rintro _ _ ⟨rfl, rfl⟩
  refine z_i2l dX11_worthOf_5 ?_
  refine z_lst 3 dX11_worthOf_6 rfl (Nat.le_of_ble_eq_true rfl) ?_
  refine z_iconst dX11_worthOf_7 (by decide) ?_
  refine z_istore dX11_worthOf_8 (Nat.le_of_ble_eq_true rfl) ?_
  try dsimp only [zs0, zsI, zsP, zsN, zsJ, zsS, zst2, Nat.reduceAdd]
  refine l_cworthOf d T X t s a cap a2 cap2 ka kcap b bcap hJ h5 k k0 k1 T.2.2.2.toNat 0 _ (by omega) (by omega) (sg_9 T _) ⟨rfl, rfl⟩

theorem l_csum (d : Nat) {E : zE} {m : zM} {P : Option zV → zM → Prop} {E0 : zE} (T : zT) (X : Int → Int) (t s a cap a2 cap2 ka kcap b bcap : Int) (hJ : cJ m E T X t s a cap a2 cap2 ka kcap b bcap) (h5 : m 8 5 = 1) : ∀ (j : Nat) (k v : Int), (0 ≤ k) → (k + j = lT T) → (-(282429536481 * k) ≤ v ∧ v ≤ 282429536481 * k) → (P (some (zJ (v + zsum (fun k => tWo T X (tMt T k)) j k))) m) → zA zX11_sum (d + 3) E0 E P 15 [zP 0, zP 8, zJ v, zN, zI k] [] m E := by
  intro j
  induction j with
  | zero =>
    intro k v h0 hk hv hP
    have htt := cJ_t hJ
    have hln := (tA_l hJ.2.2.2.2.2.2.2.2.1).1
    have hlen := prs_len hJ.2.2.2.2.2.2.2.2.1
    refine z_iload dX11_sum_15 rfl ?_
    refine z_aload_n dX11_sum_17 rfl ?_
    refine z_gIv 2 rfl flX11_320 dX11_sum_18 (sx_8 hJ.2.2.2.2.2.2.2.1.1) rfl (hJ.2.2.2.1.2.2.2.1 h5).2.1.2.2.1 ?_
    refine z_icmp_ge (tgt := 40) dX11_sum_21 rfl (fun h21 => ?_) (fun h => absurd (by unfold lT at hk; omega) h)
    refine z_lload_n dX11_sum_40 rfl ?_
    refine z_lret dX11_sum_41 rfl rfl ?_
    rw [zsum_0, Int.add_zero] at hP
    exact hP
  | succ j ih =>
    intro k v h0 hk hv hP
    have htt := cJ_t hJ
    have hln := (tA_l hJ.2.2.2.2.2.2.2.2.1).1
    have hlen := prs_len hJ.2.2.2.2.2.2.2.2.1
    refine z_iload dX11_sum_15 rfl ?_
    refine z_aload_n dX11_sum_17 rfl ?_
    refine z_gIv 2 rfl flX11_320 dX11_sum_18 (sx_8 hJ.2.2.2.2.2.2.2.1.1) rfl (hJ.2.2.2.1.2.2.2.1 h5).2.1.2.2.1 ?_
    refine z_icmp_ge (tgt := 40) dX11_sum_21 rfl (fun h => absurd h (by unfold lT at hk; omega)) (fun h21 => ?_)
    refine z_lload_n dX11_sum_24 rfl ?_
    refine z_aload_n dX11_sum_25 rfl ?_
    refine z_aload_n dX11_sum_26 rfl ?_
    refine z_iload dX11_sum_27 rfl ?_
    refine z_callV mlX11_321 dX11_sum_29 (sx_0 hJ.2.2.2.2.2.2.2.1.1) (av := [_, _]) rfl rfl (Nat.le_of_ble_eq_true rfl) (c_worthOf _ T X t s a cap a2 cap2 ka kcap b bcap hJ h5 k h0 (by omega)) (Nat.le_refl _) (Nat.le_refl _) (Nat.le_refl _) (Nat.le_refl _) ?_
    rintro _ _ ⟨rfl, rfl⟩
    refine z_ladd' dX11_sum_32 (by have := tWo_bx hJ.2.2.2.2.2.2.2.2.1 h0 (show k < lT T by omega); unfold lT at hk; omega) ?_
    refine z_lst 2 dX11_sum_33 rfl (Nat.le_of_ble_eq_true rfl) ?_
    refine z_inc dX11_sum_34 rfl (by omega) ?_
    refine z_goto (tgt := 15) dX11_sum_37 rfl ?_
    try dsimp only [zs0, zsI, zsP, zsN, zsJ, zsS, zst2, Nat.reduceAdd]
    refine zA_wk [_, _, _, _, _] (by exact ⟨Or.inr rfl, Or.inr rfl, Or.inr rfl, Or.inr rfl, Or.inr rfl, trivial⟩) ?_
    rw [zsum_s, ← Int.add_assoc] at hP
    exact ih (k + 1) _ (by omega) (by omega) (by have := tWo_bx hJ.2.2.2.2.2.2.2.2.1 h0 (show k < lT T by omega); omega) hP

theorem p_sum (d : Nat) {E : zE} {m : zM} (T : zT) (X : Int → Int) (t s a cap a2 cap2 ka kcap b bcap : Int) (hJ : cJ m E T X t s a cap a2 cap2 ka kcap b bcap)  : ∃ E1 : zE, (E.2.1 ≤ E1.2.1 ∧ E.2.2 ≤ E1.2.2) ∧ EB E1 ∧ zR zX11_sum (d + 16) [zP 0] m E E1 (fun r m' => r = some (zJ (aSum T X).2) ∧ cQ m m' E1 T X (aSum T X).1) := by
  have htt := cJ_t hJ
  have hln := (tA_l hJ.2.2.2.2.2.2.2.2.1).1
  have hni := nT_i hJ.2.2.2.2.2.2.2.2.1
  have le := pE_le E T cap
  refine ⟨pE E T cap, le, EB_p hJ T, ?_⟩
  refine zR_go [zP 0, zN, zN, zN, zN] (by decide +kernel) (Nat.le_of_ble_eq_true rfl) rfl rfl ?_
  refine z_aload_n dX11_sum_0 rfl ?_
  refine z_iconst dX11_sum_1 (by decide) ?_
  refine z_pI 11 rfl (fpX11_78 _) dX11_sum_2 (sx_0 hJ.2.2.2.2.2.2.2.1.1) rfl ?_
  have j1 := cJ_st hJ 0
  refine z_aload_n dX11_sum_5 rfl ?_
  refine z_callV mlX11_124 dX11_sum_6 (sx_0 j1.2.2.2.2.2.2.2.1.1) (av := _) rfl rfl (Nat.le_of_ble_eq_true rfl) (c_kPx _ T X _ _ _ _ _ _ _ _ _ _ j1) (by first | exact Nat.le_refl _ | exact le.1) (by first | exact Nat.le_refl _ | exact le.2) (Nat.le_refl _) (Nat.le_refl _) ?_
  rintro _ m2 ⟨rfl, j2, h5, q2, _⟩
  refine z_ast 1 dX11_sum_9 rfl (Nat.le_of_ble_eq_true rfl) ?_
  refine z_lconst0 dX11_sum_10 ?_
  refine z_lst 2 dX11_sum_11 rfl (Nat.le_of_ble_eq_true rfl) ?_
  refine z_iconst dX11_sum_12 (by decide) ?_
  refine z_istore dX11_sum_13 (Nat.le_of_ble_eq_true rfl) ?_
  try dsimp only [zs0, zsI, zsP, zsN, zsJ, zsS, zst2, Nat.reduceAdd]
  refine l_csum (d + 13) T X _ _ _ _ _ _ _ _ _ _ j2 h5 (tPairs T).length 0 0 (by omega) (by unfold lT; omega) (by omega) ?_
  rw [Int.zero_add, sum_all]
  exact ⟨rfl, cQ_kept j2 q2⟩

theorem l_csumOf (d : Nat) {E : zE} {m : zM} {P : Option zV → zM → Prop} {E0 : zE} (T : zT) (X : Int → Int) (t s a cap a2 cap2 ka kcap b bcap : Int) (hJ : cJ m E T X t s a cap a2 cap2 ka kcap b bcap) (h5 : m 8 5 = 1) (h9 : m 14 19 = 1) (dd : Int) (d0 : 0 ≤ dd) (d1 : dd < ((tD T).length : Int)) : ∀ (j : Nat) (k v : Int), (0 ≤ k) → (k + j = lT T) → (-(282429536481 * k) ≤ v ∧ v ≤ 282429536481 * k) → (P (some (zJ (v + zsum (fun k => if tName T (tMt T k) = tNm T dd then tWo T X (tMt T k) else 0) j k))) m) → zA zX11_sumOf (d + 3) E0 E P 30 [zP 0, zI dd, zP 8, zJ v, zN, zI k] [] m E := by
  intro j
  induction j with
  | zero =>
    intro k v h0 hk hv hP
    have htt := cJ_t hJ
    have hln := (tA_l hJ.2.2.2.2.2.2.2.2.1).1
    have hlen := prs_len hJ.2.2.2.2.2.2.2.2.1
    refine z_iload dX11_sumOf_30 rfl ?_
    refine z_aload_n dX11_sumOf_32 rfl ?_
    refine z_gIv 2 rfl flX11_320 dX11_sumOf_33 (sx_8 hJ.2.2.2.2.2.2.2.1.1) rfl (hJ.2.2.2.1.2.2.2.1 h5).2.1.2.2.1 ?_
    refine z_icmp_ge (tgt := 68) dX11_sumOf_36 rfl (fun h36 => ?_) (fun h => absurd (by unfold lT at hk; omega) h)
    refine z_lload_n dX11_sumOf_68 rfl ?_
    refine z_lret dX11_sumOf_69 rfl rfl ?_
    rw [zsum_0, Int.add_zero] at hP
    exact hP
  | succ j ih =>
    intro k v h0 hk hv hP
    have htt := cJ_t hJ
    have hln := (tA_l hJ.2.2.2.2.2.2.2.2.1).1
    have hlen := prs_len hJ.2.2.2.2.2.2.2.2.1
    have hix := ix_iff hJ h9 d0 d1 h0 (show k < lT T by omega)
    refine z_iload dX11_sumOf_30 rfl ?_
    refine z_aload_n dX11_sumOf_32 rfl ?_
    refine z_gIv 2 rfl flX11_320 dX11_sumOf_33 (sx_8 hJ.2.2.2.2.2.2.2.1.1) rfl (hJ.2.2.2.1.2.2.2.1 h5).2.1.2.2.1 ?_
    refine z_icmp_ge (tgt := 68) dX11_sumOf_36 rfl (fun h => absurd h (by unfold lT at hk; omega)) (fun h36 => ?_)
    refine z_aload_n dX11_sumOf_39 rfl ?_
    refine z_gP 6 rfl (r := 14) flX11_50 dX11_sumOf_40 (sx_0 hJ.2.2.2.2.2.2.2.1.1) rfl (hJ.1.1.2.2.2.2.2.2.1) (by omega) ?_
    refine z_iload dX11_sumOf_43 rfl ?_
    refine z_callV mlX11_280 dX11_sumOf_45 (sx_14 hJ.2.2.2.2.2.2.2.1.1) (av := [_]) rfl rfl (Nat.le_of_ble_eq_true rfl) (x_dof _ T X t s a cap a2 cap2 ka kcap b bcap hJ h9 k h0 (by omega)) (Nat.le_refl _) (Nat.le_refl _) (Nat.le_refl _) (Nat.le_refl _) ?_
    rintro _ _ ⟨rfl, rfl⟩
    refine z_iload_n dX11_sumOf_48 rfl ?_
    refine z_icmp_ne (tgt := 62) dX11_sumOf_49 rfl (fun h49 => ?_) (fun h49 => ?_)
    · refine z_inc dX11_sumOf_62 rfl (by omega) ?_
      refine z_goto (tgt := 30) dX11_sumOf_65 rfl ?_
      try dsimp only [zs0, zsI, zsP, zsN, zsJ, zsS, zst2, Nat.reduceAdd]
      refine zA_wk [_, _, _, _, _, _] (by exact ⟨Or.inr rfl, Or.inr rfl, Or.inr rfl, Or.inr rfl, Or.inr rfl, Or.inr rfl, trivial⟩) ?_
      rw [zsum_s, ← Int.add_assoc, if_neg (fun h => absurd (hix.mpr h) (by omega)), Int.add_zero] at hP
      exact ih (k + 1) _ (by omega) (by omega) (by have := tWo_bx hJ.2.2.2.2.2.2.2.2.1 h0 (show k < lT T by omega); omega) hP
    · refine z_lload_n dX11_sumOf_52 rfl ?_
      refine z_aload_n dX11_sumOf_53 rfl ?_
      refine z_aload_n dX11_sumOf_54 rfl ?_
      refine z_iload dX11_sumOf_55 rfl ?_
      refine z_callV mlX11_321 dX11_sumOf_57 (sx_0 hJ.2.2.2.2.2.2.2.1.1) (av := [_, _]) rfl rfl (Nat.le_of_ble_eq_true rfl) (c_worthOf _ T X t s a cap a2 cap2 ka kcap b bcap hJ h5 k h0 (by omega)) (Nat.le_refl _) (Nat.le_refl _) (Nat.le_refl _) (Nat.le_refl _) ?_
      rintro _ _ ⟨rfl, rfl⟩
      refine z_ladd' dX11_sumOf_60 (by have := tWo_bx hJ.2.2.2.2.2.2.2.2.1 h0 (show k < lT T by omega); unfold lT at hk; omega) ?_
      refine z_lst 3 dX11_sumOf_61 rfl (Nat.le_of_ble_eq_true rfl) ?_
      refine z_inc dX11_sumOf_62 rfl (by omega) ?_
      refine z_goto (tgt := 30) dX11_sumOf_65 rfl ?_
      try dsimp only [zs0, zsI, zsP, zsN, zsJ, zsS, zst2, Nat.reduceAdd]
      refine zA_wk [_, _, _, _, _, _] (by exact ⟨Or.inr rfl, Or.inr rfl, Or.inr rfl, Or.inr rfl, Or.inr rfl, Or.inr rfl, trivial⟩) ?_
      rw [zsum_s, ← Int.add_assoc, if_pos (hix.mp (by omega))] at hP
      exact ih (k + 1) _ (by omega) (by omega) (by have := tWo_bx hJ.2.2.2.2.2.2.2.2.1 h0 (show k < lT T by omega); omega) hP

theorem p_sumOf (d : Nat) {E : zE} {m : zM} (T : zT) (X : Int → Int) (t s a cap a2 cap2 ka kcap b bcap : Int) (hJ : cJ m E T X t s a cap a2 cap2 ka kcap b bcap) (dd : Int) : ∃ E1 : zE, (E.2.1 ≤ E1.2.1 ∧ E.2.2 ≤ E1.2.2) ∧ EB E1 ∧ zR zX11_sumOf (d + 16) [zP 0, zI dd] m E E1 (fun r m' => r = some (zJ (aSumOf T X dd).2) ∧ cQ m m' E1 T X (aSumOf T X dd).1) := by
  have htt := cJ_t hJ
  have hln := (tA_l hJ.2.2.2.2.2.2.2.2.1).1
  have hni := nT_i hJ.2.2.2.2.2.2.2.2.1
  by_cases hc0 : 0 ≤ dd
  · have le := dE_le E T cap kcap bcap
    refine ⟨dE E T cap kcap bcap, le, EB_d hJ, ?_⟩
    refine zR_go [zP 0, zI dd, zN, zN, zN, zN] (by decide +kernel) (Nat.le_of_ble_eq_true rfl) rfl rfl ?_
    refine z_aload_n dX11_sumOf_0 rfl ?_
    refine z_iload_n dX11_sumOf_1 rfl ?_
    refine z_callV mlX11_325 dX11_sumOf_2 (sx_0 hJ.2.2.2.2.2.2.2.1.1) (av := [_]) rfl rfl (Nat.le_of_ble_eq_true rfl) (c_hDx _ T X _ _ _ _ _ _ _ _ _ _ hJ dd (by omega)) (by first | exact Nat.le_refl _ | exact le.1) (by first | exact Nat.le_refl _ | exact le.2) (Nat.le_refl _) (Nat.le_refl _) ?_
    rintro _ m1 ⟨rfl, ka1, kc1, b1, bc1, j1, h9, q1⟩
    refine z_ifz_ne (tgt := 15) dX11_sumOf_5 rfl (fun h5 => ?_) (fun h5 => ?_)
    · refine z_aload_n dX11_sumOf_15 rfl ?_
      refine z_iconst dX11_sumOf_16 (by decide) ?_
      refine z_pI 11 rfl (fpX11_78 _) dX11_sumOf_17 (sx_0 j1.2.2.2.2.2.2.2.1.1) rfl ?_
      have j2 := cJ_st j1 0
      have h92 : zu m1 0 11 0 14 19 = 1 := (zu_a (by decide)).trans h9
      have h52 := j2.2.2.2.2.2.2.2.2.2 h92
      refine z_aload_n dX11_sumOf_20 rfl ?_
      refine z_callV mlX11_124 dX11_sumOf_21 (sx_0 j2.2.2.2.2.2.2.2.1.1) (av := _) rfl rfl (Nat.le_of_ble_eq_true rfl) (c_kP1 _ T X _ _ _ _ _ _ _ _ _ _ j2 h52) (Nat.le_refl _) (Nat.le_refl _) (by first | exact Nat.le_refl _ | exact le.1) (by first | exact Nat.le_refl _ | exact le.2) ?_
      rintro _ _ ⟨rfl, rfl⟩
      refine z_ast 2 dX11_sumOf_24 rfl (Nat.le_of_ble_eq_true rfl) ?_
      refine z_lconst0 dX11_sumOf_25 ?_
      refine z_lst 3 dX11_sumOf_26 rfl (Nat.le_of_ble_eq_true rfl) ?_
      refine z_iconst dX11_sumOf_27 (by decide) ?_
      refine z_istore dX11_sumOf_28 (Nat.le_of_ble_eq_true rfl) ?_
      try dsimp only [zs0, zsI, zsP, zsN, zsJ, zsS, zst2, Nat.reduceAdd]
      refine l_csumOf (d + 13) T X _ _ _ _ _ _ _ _ _ _ j2 h52 h92 dd (by omega) (by omega) (tPairs T).length 0 0 (by omega) (by unfold lT; omega) (by omega) ?_
      rw [Int.zero_add, sum_of, show aSumOf T X dd = (0, _) from by unfold aSumOf; rw [if_neg (not_not_intro h5)]]
      exact ⟨rfl, cQ_st j1 q1 _⟩
    · refine z_aload_n dX11_sumOf_8 rfl ?_
      refine z_iconst dX11_sumOf_9 (by decide) ?_
      refine z_callV mlX11_93 dX11_sumOf_10 (sx_0 j1.2.2.2.2.2.2.2.1.1) (av := [_]) rfl rfl (Nat.le_of_ble_eq_true rfl) (c_refuse _ (sx_0 j1.2.2.2.2.2.2.2.1.1) _) (Nat.le_refl _) (Nat.le_refl _) (by first | exact Nat.le_refl _ | exact le.1) (by first | exact Nat.le_refl _ | exact le.2) ?_
      rintro _ _ ⟨rfl, rfl⟩
      refine z_i2l dX11_sumOf_13 ?_
      refine z_lret dX11_sumOf_14 rfl rfl ?_
      rw [show aSumOf T X dd = (2, -1) from by unfold aSumOf; rw [if_pos h5]]
      exact ⟨rfl, cQ_st j1 q1 _⟩
  refine ⟨E, ⟨Nat.le_refl _, Nat.le_refl _⟩, EB_e hJ, ?_⟩
  refine zR_go [zP 0, zI dd, zN, zN, zN, zN] (by decide +kernel) (Nat.le_of_ble_eq_true rfl) rfl rfl ?_
  refine z_aload_n dX11_sumOf_0 rfl ?_
  refine z_iload_n dX11_sumOf_1 rfl ?_
  refine z_callV mlX11_325 dX11_sumOf_2 (sx_0 hJ.2.2.2.2.2.2.2.1.1) (av := [_]) rfl rfl (Nat.le_of_ble_eq_true rfl) (c_hDn _ T dd (by omega)) (Nat.le_refl _) (Nat.le_refl _) (by first | exact Nat.le_refl _ | exact le.1) (by first | exact Nat.le_refl _ | exact le.2) ?_
  rintro _ _ ⟨rfl, rfl⟩
  refine z_ifz_ne (tgt := 15) dX11_sumOf_5 rfl (fun h => absurd h (by omega)) (fun h5 => ?_)
  refine z_aload_n dX11_sumOf_8 rfl ?_
  refine z_iconst dX11_sumOf_9 (by decide) ?_
  refine z_callV mlX11_93 dX11_sumOf_10 (sx_0 hJ.2.2.2.2.2.2.2.1.1) (av := [_]) rfl rfl (Nat.le_of_ble_eq_true rfl) (c_refuse _ (sx_0 hJ.2.2.2.2.2.2.2.1.1) _) (Nat.le_refl _) (Nat.le_refl _) (by first | exact Nat.le_refl _ | exact le.1) (by first | exact Nat.le_refl _ | exact le.2) ?_
  rintro _ _ ⟨rfl, rfl⟩
  refine z_i2l dX11_sumOf_13 ?_
  refine z_lret dX11_sumOf_14 rfl rfl ?_
  rw [show aSumOf T X dd = (2, -1) from by unfold aSumOf; rw [if_pos (by omega)]]
  exact ⟨rfl, cQ_st hJ qFr_rf _⟩

theorem l_cofD (d : Nat) {E : zE} {m : zM} {P : Option zV → zM → Prop} {E0 : zE} (T : zT) (X : Int → Int) (t s a cap a2 cap2 ka kcap b bcap : Int) (hJ : cJ m E T X t s a cap a2 cap2 ka kcap b bcap) (h5 : m 8 5 = 1) (h6 : m 8 6 = 1) (h9 : m 14 19 = 1) (dd wh nu : Int) (d0 : 0 ≤ dd) (d1 : dd < ((tD T).length : Int)) (hwh : 0 ≤ wh ∧ wh ≤ 1) : ∀ (j : Nat) (k v : Int), (0 ≤ k) → (k + j = lT T) → (0 ≤ v ∧ v ≤ k) → (∀ m', m' = zu m 0 11 0 → P (some (zI (v + zsum (fun k => if tName T (tMt T k) = tNm T dd ∧ (if wh = 0 then tCr T (tMt T k) else tHo T (tMt T k)) = nu then 1 else 0) j k))) m') → zA zX11_ofDiagram (d + 3) E0 E P 45 [zP 0, zI dd, zI wh, zI nu, zP 8, zI v, zI k, zN] [] m E := by
  intro j
  induction j with
  | zero =>
    intro k v h0 hk hv hP
    have htt := cJ_t hJ
    have hln := (tA_l hJ.2.2.2.2.2.2.2.2.1).1
    have hlen := prs_len hJ.2.2.2.2.2.2.2.2.1
    refine z_iload dX11_ofDiagram_45 rfl ?_
    refine z_aload dX11_ofDiagram_47 rfl ?_
    refine z_gIv 2 rfl flX11_320 dX11_ofDiagram_49 (sx_8 hJ.2.2.2.2.2.2.2.1.1) rfl (hJ.2.2.2.1.2.2.2.1 h5).2.1.2.2.1 ?_
    refine z_icmp_ge (tgt := 106) dX11_ofDiagram_52 rfl (fun h52 => ?_) (fun h => absurd (by unfold lT at hk; omega) h)
    refine z_aload_n dX11_ofDiagram_106 rfl ?_
    refine z_iload dX11_ofDiagram_107 rfl ?_
    refine z_callV mlX11_111 dX11_ofDiagram_109 (sx_0 hJ.2.2.2.2.2.2.2.1.1) (av := [_]) rfl rfl (Nat.le_of_ble_eq_true rfl) (c_answer _ (sx_0 hJ.2.2.2.2.2.2.2.1.1) _) (Nat.le_refl _) (Nat.le_refl _) (Nat.le_refl _) (Nat.le_refl _) ?_
    rintro _ _ ⟨rfl, rfl⟩
    refine z_iret dX11_ofDiagram_112 rfl rfl ?_
    have hh := hP _ rfl
    rw [zsum_0, Int.add_zero] at hh
    exact hh
  | succ j ih =>
    intro k v h0 hk hv hP
    have htt := cJ_t hJ
    have hln := (tA_l hJ.2.2.2.2.2.2.2.2.1).1
    have hlen := prs_len hJ.2.2.2.2.2.2.2.2.1
    have hix := ix_iff hJ h9 d0 d1 h0 (show k < lT T by omega)
    refine z_iload dX11_ofDiagram_45 rfl ?_
    refine z_aload dX11_ofDiagram_47 rfl ?_
    refine z_gIv 2 rfl flX11_320 dX11_ofDiagram_49 (sx_8 hJ.2.2.2.2.2.2.2.1.1) rfl (hJ.2.2.2.1.2.2.2.1 h5).2.1.2.2.1 ?_
    refine z_icmp_ge (tgt := 106) dX11_ofDiagram_52 rfl (fun h => absurd h (by unfold lT at hk; omega)) (fun h52 => ?_)
    refine z_iload_n dX11_ofDiagram_55 rfl ?_
    refine z_if_ne (tgt := 69) dX11_ofDiagram_56 rfl (fun h56 => ?_) (fun h56 => ?_)
    · refine z_aload dX11_ofDiagram_69 rfl ?_
      refine z_iload dX11_ofDiagram_71 rfl ?_
      refine z_callV mlX11_277 dX11_ofDiagram_73 (sx_8 hJ.2.2.2.2.2.2.2.1.1) (av := [_]) rfl rfl (Nat.le_of_ble_eq_true rfl) (x_holes _ T X t s a cap a2 cap2 ka kcap b bcap hJ h5 h6 k h0 (by omega)) (Nat.le_refl _) (Nat.le_refl _) (Nat.le_refl _) (Nat.le_refl _) ?_
      rintro _ _ ⟨rfl, rfl⟩
      refine z_istore dX11_ofDiagram_76 (Nat.le_of_ble_eq_true rfl) ?_
      refine z_iload dX11_ofDiagram_78 rfl ?_
      refine z_iload_n dX11_ofDiagram_80 rfl ?_
      try dsimp only [zs0, zsI, zsP, zsN, zsJ, zsS, zst2, Nat.reduceAdd]
      refine z_icmp_ne (tgt := 100) dX11_ofDiagram_81 rfl (fun h81 => ?_) (fun h81 => ?_)
      · refine z_inc dX11_ofDiagram_100 rfl (by omega) ?_
        refine z_goto (tgt := 45) dX11_ofDiagram_103 rfl ?_
        try dsimp only [zs0, zsI, zsP, zsN, zsJ, zsS, zst2, Nat.reduceAdd]
        refine zA_wk [_, _, _, _, _, _, _, zN] (by exact ⟨Or.inr rfl, Or.inr rfl, Or.inr rfl, Or.inr rfl, Or.inr rfl, Or.inr rfl, Or.inr rfl, Or.inl rfl, trivial⟩) ?_
        have hhas : (if wh = 0 then tCr T (tMt T k) else tHo T (tMt T k)) = tHo T (tMt T k) := (if_neg (by omega))
        refine ih (k + 1) _ (by omega) (by omega) (by omega) (fun m' e => ?_)
        have hh := hP m' e
        rw [zsum_s, ← Int.add_assoc, if_neg (fun h => absurd (hhas.symm.trans h.2) (by omega))] at hh
        rw [Int.add_zero] at hh
        exact hh
      · refine z_aload_n dX11_ofDiagram_84 rfl ?_
        refine z_gP 6 rfl (r := 14) flX11_50 dX11_ofDiagram_85 (sx_0 hJ.2.2.2.2.2.2.2.1.1) rfl (hJ.1.1.2.2.2.2.2.2.1) (by omega) ?_
        refine z_iload dX11_ofDiagram_88 rfl ?_
        refine z_callV mlX11_280 dX11_ofDiagram_90 (sx_14 hJ.2.2.2.2.2.2.2.1.1) (av := [_]) rfl rfl (Nat.le_of_ble_eq_true rfl) (x_dof _ T X t s a cap a2 cap2 ka kcap b bcap hJ h9 k h0 (by omega)) (Nat.le_refl _) (Nat.le_refl _) (Nat.le_refl _) (Nat.le_refl _) ?_
        rintro _ _ ⟨rfl, rfl⟩
        refine z_iload_n dX11_ofDiagram_93 rfl ?_
        refine z_icmp_ne (tgt := 100) dX11_ofDiagram_94 rfl (fun h94 => ?_) (fun h94 => ?_)
        · refine z_inc dX11_ofDiagram_100 rfl (by omega) ?_
          refine z_goto (tgt := 45) dX11_ofDiagram_103 rfl ?_
          try dsimp only [zs0, zsI, zsP, zsN, zsJ, zsS, zst2, Nat.reduceAdd]
          refine zA_wk [_, _, _, _, _, _, _, zN] (by exact ⟨Or.inr rfl, Or.inr rfl, Or.inr rfl, Or.inr rfl, Or.inr rfl, Or.inr rfl, Or.inr rfl, Or.inl rfl, trivial⟩) ?_
          have hhas : (if wh = 0 then tCr T (tMt T k) else tHo T (tMt T k)) = tHo T (tMt T k) := (if_neg (by omega))
          refine ih (k + 1) _ (by omega) (by omega) (by omega) (fun m' e => ?_)
          have hh := hP m' e
          rw [zsum_s, ← Int.add_assoc, if_neg (fun h => absurd (hix.mpr h.1) (by omega))] at hh
          rw [Int.add_zero] at hh
          exact hh
        · refine z_inc dX11_ofDiagram_97 rfl (by omega) ?_
          refine z_inc dX11_ofDiagram_100 rfl (by omega) ?_
          refine z_goto (tgt := 45) dX11_ofDiagram_103 rfl ?_
          try dsimp only [zs0, zsI, zsP, zsN, zsJ, zsS, zst2, Nat.reduceAdd]
          refine zA_wk [_, _, _, _, _, _, _, zN] (by exact ⟨Or.inr rfl, Or.inr rfl, Or.inr rfl, Or.inr rfl, Or.inr rfl, Or.inr rfl, Or.inr rfl, Or.inl rfl, trivial⟩) ?_
          have hhas : (if wh = 0 then tCr T (tMt T k) else tHo T (tMt T k)) = tHo T (tMt T k) := (if_neg (by omega))
          refine ih (k + 1) _ (by omega) (by omega) (by omega) (fun m' e => ?_)
          have hh := hP m' e
          rw [zsum_s, ← Int.add_assoc, if_pos ⟨hix.mp (by omega), hhas.trans (by omega)⟩] at hh
          exact hh
    · refine z_aload dX11_ofDiagram_59 rfl ?_
      refine z_iload dX11_ofDiagram_61 rfl ?_
      refine z_callV mlX11_271 dX11_ofDiagram_63 (sx_8 hJ.2.2.2.2.2.2.2.1.1) (av := [_]) rfl rfl (Nat.le_of_ble_eq_true rfl) (x_cross _ T X t s a cap a2 cap2 ka kcap b bcap hJ h5 k h0 (by omega)) (Nat.le_refl _) (Nat.le_refl _) (Nat.le_refl _) (Nat.le_refl _) ?_
      rintro _ _ ⟨rfl, rfl⟩
      refine z_goto (tgt := 76) dX11_ofDiagram_66 rfl ?_
      refine z_istore dX11_ofDiagram_76 (Nat.le_of_ble_eq_true rfl) ?_
      refine z_iload dX11_ofDiagram_78 rfl ?_
      refine z_iload_n dX11_ofDiagram_80 rfl ?_
      try dsimp only [zs0, zsI, zsP, zsN, zsJ, zsS, zst2, Nat.reduceAdd]
      refine z_icmp_ne (tgt := 100) dX11_ofDiagram_81 rfl (fun h81 => ?_) (fun h81 => ?_)
      · refine z_inc dX11_ofDiagram_100 rfl (by omega) ?_
        refine z_goto (tgt := 45) dX11_ofDiagram_103 rfl ?_
        try dsimp only [zs0, zsI, zsP, zsN, zsJ, zsS, zst2, Nat.reduceAdd]
        refine zA_wk [_, _, _, _, _, _, _, zN] (by exact ⟨Or.inr rfl, Or.inr rfl, Or.inr rfl, Or.inr rfl, Or.inr rfl, Or.inr rfl, Or.inr rfl, Or.inl rfl, trivial⟩) ?_
        have hhas : (if wh = 0 then tCr T (tMt T k) else tHo T (tMt T k)) = tCr T (tMt T k) := (if_pos (by omega))
        refine ih (k + 1) _ (by omega) (by omega) (by omega) (fun m' e => ?_)
        have hh := hP m' e
        rw [zsum_s, ← Int.add_assoc, if_neg (fun h => absurd (hhas.symm.trans h.2) (by omega))] at hh
        rw [Int.add_zero] at hh
        exact hh
      · refine z_aload_n dX11_ofDiagram_84 rfl ?_
        refine z_gP 6 rfl (r := 14) flX11_50 dX11_ofDiagram_85 (sx_0 hJ.2.2.2.2.2.2.2.1.1) rfl (hJ.1.1.2.2.2.2.2.2.1) (by omega) ?_
        refine z_iload dX11_ofDiagram_88 rfl ?_
        refine z_callV mlX11_280 dX11_ofDiagram_90 (sx_14 hJ.2.2.2.2.2.2.2.1.1) (av := [_]) rfl rfl (Nat.le_of_ble_eq_true rfl) (x_dof _ T X t s a cap a2 cap2 ka kcap b bcap hJ h9 k h0 (by omega)) (Nat.le_refl _) (Nat.le_refl _) (Nat.le_refl _) (Nat.le_refl _) ?_
        rintro _ _ ⟨rfl, rfl⟩
        refine z_iload_n dX11_ofDiagram_93 rfl ?_
        refine z_icmp_ne (tgt := 100) dX11_ofDiagram_94 rfl (fun h94 => ?_) (fun h94 => ?_)
        · refine z_inc dX11_ofDiagram_100 rfl (by omega) ?_
          refine z_goto (tgt := 45) dX11_ofDiagram_103 rfl ?_
          try dsimp only [zs0, zsI, zsP, zsN, zsJ, zsS, zst2, Nat.reduceAdd]
          refine zA_wk [_, _, _, _, _, _, _, zN] (by exact ⟨Or.inr rfl, Or.inr rfl, Or.inr rfl, Or.inr rfl, Or.inr rfl, Or.inr rfl, Or.inr rfl, Or.inl rfl, trivial⟩) ?_
          have hhas : (if wh = 0 then tCr T (tMt T k) else tHo T (tMt T k)) = tCr T (tMt T k) := (if_pos (by omega))
          refine ih (k + 1) _ (by omega) (by omega) (by omega) (fun m' e => ?_)
          have hh := hP m' e
          rw [zsum_s, ← Int.add_assoc, if_neg (fun h => absurd (hix.mpr h.1) (by omega))] at hh
          rw [Int.add_zero] at hh
          exact hh
        · refine z_inc dX11_ofDiagram_97 rfl (by omega) ?_
          refine z_inc dX11_ofDiagram_100 rfl (by omega) ?_
          refine z_goto (tgt := 45) dX11_ofDiagram_103 rfl ?_
          try dsimp only [zs0, zsI, zsP, zsN, zsJ, zsS, zst2, Nat.reduceAdd]
          refine zA_wk [_, _, _, _, _, _, _, zN] (by exact ⟨Or.inr rfl, Or.inr rfl, Or.inr rfl, Or.inr rfl, Or.inr rfl, Or.inr rfl, Or.inr rfl, Or.inl rfl, trivial⟩) ?_
          have hhas : (if wh = 0 then tCr T (tMt T k) else tHo T (tMt T k)) = tCr T (tMt T k) := (if_pos (by omega))
          refine ih (k + 1) _ (by omega) (by omega) (by omega) (fun m' e => ?_)
          have hh := hP m' e
          rw [zsum_s, ← Int.add_assoc, if_pos ⟨hix.mp (by omega), hhas.trans (by omega)⟩] at hh
          exact hh

theorem p_ofDiagram (d : Nat) {E : zE} {m : zM} (T : zT) (X : Int → Int) (t s a cap a2 cap2 ka kcap b bcap : Int) (hJ : cJ m E T X t s a cap a2 cap2 ka kcap b bcap) (dd wh nu : Int) : ∃ E1 : zE, (E.2.1 ≤ E1.2.1 ∧ E.2.2 ≤ E1.2.2) ∧ EB E1 ∧ zR zX11_ofDiagram (d + 16) [zP 0, zI dd, zI wh, zI nu] m E E1 (fun r m' => r = some (zI (aOfD T dd wh nu).2) ∧ cQ m m' E1 T X (aOfD T dd wh nu).1) := by
  have htt := cJ_t hJ
  have hln := (tA_l hJ.2.2.2.2.2.2.2.2.1).1
  have hni := nT_i hJ.2.2.2.2.2.2.2.2.1
  by_cases hc0 : ((0 ≤ wh ∧ wh ≤ 1) ∧ 0 ≤ nu) ∧ 0 ≤ dd
  · have le := dE_le E T cap kcap bcap
    refine ⟨dE E T cap kcap bcap, le, EB_d hJ, ?_⟩
    refine zR_go [zP 0, zI dd, zI wh, zI nu, zN, zN, zN, zN] (by decide +kernel) (Nat.le_of_ble_eq_true rfl) rfl rfl ?_
    refine z_iload_n dX11_ofDiagram_0 rfl ?_
    refine z_if_lt (tgt := 13) dX11_ofDiagram_1 rfl (fun h => absurd h (by omega)) (fun h1 => ?_)
    refine z_iload_n dX11_ofDiagram_4 rfl ?_
    refine z_iconst dX11_ofDiagram_5 (by decide) ?_
    refine z_icmp_gt (tgt := 13) dX11_ofDiagram_6 rfl (fun h => absurd h (by omega)) (fun h6 => ?_)
    refine z_iload_n dX11_ofDiagram_9 rfl ?_
    refine z_if_ge (tgt := 19) dX11_ofDiagram_10 rfl (fun h10 => ?_) (fun h => absurd (by omega) h)
    refine z_aload_n dX11_ofDiagram_19 rfl ?_
    refine z_iload_n dX11_ofDiagram_20 rfl ?_
    refine z_callV mlX11_325 dX11_ofDiagram_21 (sx_0 hJ.2.2.2.2.2.2.2.1.1) (av := [_]) rfl rfl (Nat.le_of_ble_eq_true rfl) (c_hDx _ T X _ _ _ _ _ _ _ _ _ _ hJ dd (by omega)) (by first | exact Nat.le_refl _ | exact le.1) (by first | exact Nat.le_refl _ | exact le.2) (Nat.le_refl _) (Nat.le_refl _) ?_
    rintro _ m1 ⟨rfl, ka1, kc1, b1, bc1, j1, h9, q1⟩
    refine z_ifz_ne (tgt := 33) dX11_ofDiagram_24 rfl (fun h24 => ?_) (fun h24 => ?_)
    · refine z_aload_n dX11_ofDiagram_33 rfl ?_
      refine z_callV mlX11_274 dX11_ofDiagram_34 (sx_0 j1.2.2.2.2.2.2.2.1.1) (av := _) rfl rfl (Nat.le_of_ble_eq_true rfl) (c_kR1 _ T X _ _ _ _ _ _ _ _ _ _ j1 (j1.2.2.2.2.2.2.2.2.2 h9)) (Nat.le_refl _) (Nat.le_refl _) (by first | exact Nat.le_refl _ | exact le.1) (by first | exact Nat.le_refl _ | exact le.2) ?_
      rintro _ m2 ⟨rfl, j2, h5, h6, q2, e9⟩
      have h9 := e9.trans h9
      refine z_astore dX11_ofDiagram_37 (Nat.le_of_ble_eq_true rfl) ?_
      refine z_iconst dX11_ofDiagram_39 (by decide) ?_
      refine z_istore dX11_ofDiagram_40 (Nat.le_of_ble_eq_true rfl) ?_
      refine z_iconst dX11_ofDiagram_42 (by decide) ?_
      refine z_istore dX11_ofDiagram_43 (Nat.le_of_ble_eq_true rfl) ?_
      try dsimp only [zs0, zsI, zsP, zsN, zsJ, zsS, zst2, Nat.reduceAdd]
      refine zA_wk [_, _, _, _, _, _, _, zN] (by exact ⟨Or.inr rfl, Or.inr rfl, Or.inr rfl, Or.inr rfl, Or.inr rfl, Or.inr rfl, Or.inr rfl, Or.inl rfl, trivial⟩) ?_
      refine l_cofD (d + 13) T X _ _ _ _ _ _ _ _ _ _ j2 h5 h6 h9 dd wh nu (by omega) (by omega) hc0.1.1 (tPairs T).length 0 0 (by omega) (by unfold lT; omega) (by omega) (fun m' e => ?_)
      rw [Int.zero_add, ofd_all, show aOfD T dd wh nu = (0, _) from by unfold aOfD; rw [if_neg (not_not_intro hc0.1), if_neg (not_not_intro h24)], e]
      exact ⟨rfl, cQ_st j2 (qFr_tr q1 q2) _⟩
    · refine z_aload_n dX11_ofDiagram_27 rfl ?_
      refine z_iconst dX11_ofDiagram_28 (by decide) ?_
      refine z_callV mlX11_93 dX11_ofDiagram_29 (sx_0 j1.2.2.2.2.2.2.2.1.1) (av := [_]) rfl rfl (Nat.le_of_ble_eq_true rfl) (c_refuse _ (sx_0 j1.2.2.2.2.2.2.2.1.1) _) (Nat.le_refl _) (Nat.le_refl _) (by first | exact Nat.le_refl _ | exact le.1) (by first | exact Nat.le_refl _ | exact le.2) ?_
      rintro _ _ ⟨rfl, rfl⟩
      refine z_iret dX11_ofDiagram_32 rfl rfl ?_
      rw [show aOfD T dd wh nu = (2, -1) from by unfold aOfD; rw [if_neg (not_not_intro hc0.1), if_pos h24]]
      exact ⟨rfl, cQ_st j1 q1 _⟩
  refine ⟨E, ⟨Nat.le_refl _, Nat.le_refl _⟩, EB_e hJ, ?_⟩
  refine zR_go [zP 0, zI dd, zI wh, zI nu, zN, zN, zN, zN] (by decide +kernel) (Nat.le_of_ble_eq_true rfl) rfl rfl ?_
  refine z_iload_n dX11_ofDiagram_0 rfl ?_
  refine z_if_lt (tgt := 13) dX11_ofDiagram_1 rfl (fun h1 => ?_) (fun h1 => ?_)
  · refine z_aload_n dX11_ofDiagram_13 rfl ?_
    refine z_iconst dX11_ofDiagram_14 (by decide) ?_
    refine z_callV mlX11_93 dX11_ofDiagram_15 (sx_0 hJ.2.2.2.2.2.2.2.1.1) (av := [_]) rfl rfl (Nat.le_of_ble_eq_true rfl) (c_refuse _ (sx_0 hJ.2.2.2.2.2.2.2.1.1) _) (Nat.le_refl _) (Nat.le_refl _) (by first | exact Nat.le_refl _ | exact le.1) (by first | exact Nat.le_refl _ | exact le.2) ?_
    rintro _ _ ⟨rfl, rfl⟩
    refine z_iret dX11_ofDiagram_18 rfl rfl ?_
    rw [show aOfD T dd wh nu = (1, -1) from by unfold aOfD; rw [if_pos (by omega)]]
    exact ⟨rfl, cQ_st hJ qFr_rf _⟩
  · refine z_iload_n dX11_ofDiagram_4 rfl ?_
    refine z_iconst dX11_ofDiagram_5 (by decide) ?_
    refine z_icmp_gt (tgt := 13) dX11_ofDiagram_6 rfl (fun h6 => ?_) (fun h6 => ?_)
    · refine z_aload_n dX11_ofDiagram_13 rfl ?_
      refine z_iconst dX11_ofDiagram_14 (by decide) ?_
      refine z_callV mlX11_93 dX11_ofDiagram_15 (sx_0 hJ.2.2.2.2.2.2.2.1.1) (av := [_]) rfl rfl (Nat.le_of_ble_eq_true rfl) (c_refuse _ (sx_0 hJ.2.2.2.2.2.2.2.1.1) _) (Nat.le_refl _) (Nat.le_refl _) (by first | exact Nat.le_refl _ | exact le.1) (by first | exact Nat.le_refl _ | exact le.2) ?_
      rintro _ _ ⟨rfl, rfl⟩
      refine z_iret dX11_ofDiagram_18 rfl rfl ?_
      rw [show aOfD T dd wh nu = (1, -1) from by unfold aOfD; rw [if_pos (by omega)]]
      exact ⟨rfl, cQ_st hJ qFr_rf _⟩
    · refine z_iload_n dX11_ofDiagram_9 rfl ?_
      refine z_if_ge (tgt := 19) dX11_ofDiagram_10 rfl (fun h10 => ?_) (fun h10 => ?_)
      · refine z_aload_n dX11_ofDiagram_19 rfl ?_
        refine z_iload_n dX11_ofDiagram_20 rfl ?_
        refine z_callV mlX11_325 dX11_ofDiagram_21 (sx_0 hJ.2.2.2.2.2.2.2.1.1) (av := [_]) rfl rfl (Nat.le_of_ble_eq_true rfl) (c_hDn _ T dd (by omega)) (Nat.le_refl _) (Nat.le_refl _) (by first | exact Nat.le_refl _ | exact le.1) (by first | exact Nat.le_refl _ | exact le.2) ?_
        rintro _ _ ⟨rfl, rfl⟩
        refine z_ifz_ne (tgt := 33) dX11_ofDiagram_24 rfl (fun h => absurd h (by omega)) (fun h24 => ?_)
        refine z_aload_n dX11_ofDiagram_27 rfl ?_
        refine z_iconst dX11_ofDiagram_28 (by decide) ?_
        refine z_callV mlX11_93 dX11_ofDiagram_29 (sx_0 hJ.2.2.2.2.2.2.2.1.1) (av := [_]) rfl rfl (Nat.le_of_ble_eq_true rfl) (c_refuse _ (sx_0 hJ.2.2.2.2.2.2.2.1.1) _) (Nat.le_refl _) (Nat.le_refl _) (by first | exact Nat.le_refl _ | exact le.1) (by first | exact Nat.le_refl _ | exact le.2) ?_
        rintro _ _ ⟨rfl, rfl⟩
        refine z_iret dX11_ofDiagram_32 rfl rfl ?_
        rw [show aOfD T dd wh nu = (2, -1) from by unfold aOfD; rw [if_neg (by omega), if_pos (by omega)]]
        exact ⟨rfl, cQ_st hJ qFr_rf _⟩
      · refine z_aload_n dX11_ofDiagram_13 rfl ?_
        refine z_iconst dX11_ofDiagram_14 (by decide) ?_
        refine z_callV mlX11_93 dX11_ofDiagram_15 (sx_0 hJ.2.2.2.2.2.2.2.1.1) (av := [_]) rfl rfl (Nat.le_of_ble_eq_true rfl) (c_refuse _ (sx_0 hJ.2.2.2.2.2.2.2.1.1) _) (Nat.le_refl _) (Nat.le_refl _) (by first | exact Nat.le_refl _ | exact le.1) (by first | exact Nat.le_refl _ | exact le.2) ?_
        rintro _ _ ⟨rfl, rfl⟩
        refine z_iret dX11_ofDiagram_18 rfl rfl ?_
        rw [show aOfD T dd wh nu = (1, -1) from by unfold aOfD; rw [if_pos (by omega)]]
        exact ⟨rfl, cQ_st hJ qFr_rf _⟩
