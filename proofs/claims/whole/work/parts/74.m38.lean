theorem tLost_lt {c : Int → Int} {h : Nat} {co : Int → Int} {pts : Nat} : tLost c h co pts < 256 := zmask_lt _ 8
noncomputable def aOfD (T : zT) (dd wh nu : Int) : Int × Int := if ¬ ((0 ≤ wh ∧ wh ≤ 1) ∧ 0 ≤ nu) then (1, -1) else if ¬ (0 ≤ dd ∧ dd < ((tD T).length : Int)) then (2, -1) else (0, tS T (fun mt => if tName T mt = tNm T dd ∧ (if wh = 0 then tCr T mt else tHo T mt) = nu then 1 else 0))
noncomputable def aDgs (T : zT) (wh nu : Int) : Int × Int := if ¬ ((0 ≤ wh ∧ wh ≤ 4) ∧ 0 ≤ nu) then (1, -1) else (0, zsum (fun k => zb (tOf T k (if wh = 0 then 3 else if wh = 1 then 5 else if wh = 2 then 6 else if wh = 3 then 7 else 2) = nu)) (tD T).length 0)
noncomputable def aCore (T : zT) (dd w : Int) : Int × Int := if ¬ (0 ≤ w ∧ w ≤ 2) then (1, -1) else if ¬ (0 ≤ dd ∧ dd < ((tD T).length : Int)) then (2, -1) else if w = 0 then (0, (sPop 8 (tAll T.1 ^^^ (tAll T.1 &&& tLost T.1 (tH T) (tCo T dd) (tAll T.1))) : Nat)) else if w = 1 then (0, zsum (fun k => zb (((tAll T.1 ^^^ (tAll T.1 &&& tLost T.1 (tH T) (tCo T dd) (tAll T.1)))).testBit (tCo T dd k / 100).toNat = true)) (tH T) 0) else (0, ((tAll T.1 ^^^ (tAll T.1 &&& tLost T.1 (tH T) (tCo T dd) (tAll T.1))) : Nat))
theorem l_ofDiagram (d : Nat) {E : zE} {m : zM} {P : Option zV → zM → Prop} (hE : shM E) (hm : ptM m) (hk : mOK m) (hL : mL m) (hN : mN m) (dd wh nu : Int) (d0 : 0 ≤ dd) (d1 : dd < ((tD (mT m)).length : Int)) (hn0 : 0 ≤ m aM f_letters ∧ m aM f_letters ≤ 12)  : ∀ (j : Nat) (k n : Int), (0 ≤ k) → (k + j = ((tPairs (mT m)).length : Int)) → (0 ≤ n ∧ n ≤ k) → (P (some (zI (n + zsum (fun k => (if tName (mT m) (tMt (mT m) k) = tNm (mT m) dd ∧ (if wh = 0 then tCr (mT m) (tMt (mT m) k) else tHo (mT m) (tMt (mT m) k)) = nu then (1 : Int) else 0)) j k))) m) → zA zX12_ofDiagram (d + 2) E E P 45 [zP aM, zI dd, zI wh, zI nu, zI n, zI k] [] m E := by
  intro j
  induction j with
  | zero =>
    intro k n h0 hk2 hn hP
    have hlen := mL_len hk hL
    refine z_iload dX12_ofDiagram_45 rfl ?_
    refine z_aload_n dX12_ofDiagram_47 rfl ?_
    refine z_gI f_laid rfl flX12_172 dX12_ofDiagram_48 (sh_M hE) rfl ?_
    refine z_icmp_ge (tgt := 92) dX12_ofDiagram_51 rfl (fun h51 => ?_) (fun h => absurd (by omega) h)
    refine z_iload dX12_ofDiagram_92 rfl ?_
    refine z_iret dX12_ofDiagram_94 rfl rfl ?_
    rw [zsum_0, Int.add_zero] at hP
    exact hP
  | succ j ih =>
    intro k n h0 hk2 hn hP
    have hlen := mL_len hk hL
    have hdk := mN_at hN h0 (show k < ((tPairs (mT m)).length : Int) by omega) d0 d1
    have hat := mL_row hL k.toNat (tMt (mT m) k) (tMt_get h0 (by omega)).1
    rw [show ((k.toNat : Nat) : Int) = k by omega] at hat
    have hsu : (if wh = 0 then m a_crossings k else sHoles (m aM f_letters) (m a_rounds k)) = (if wh = 0 then tCr (mT m) (tMt (mT m) k) else tHo (mT m) (tMt (mT m) k)) := by rw [hat.2.2.1, hat.2.2.2]; rfl
    refine z_iload dX12_ofDiagram_45 rfl ?_
    refine z_aload_n dX12_ofDiagram_47 rfl ?_
    refine z_gI f_laid rfl flX12_172 dX12_ofDiagram_48 (sh_M hE) rfl ?_
    refine z_icmp_ge (tgt := 92) dX12_ofDiagram_51 rfl (fun h => absurd h (by omega)) (fun h51 => ?_)
    refine z_iload dX12_ofDiagram_54 rfl ?_
    refine z_aload_n dX12_ofDiagram_56 rfl ?_
    refine z_gP 11 rfl (r := a_diagramOf) flX12_38 dX12_ofDiagram_57 (sh_M hE) rfl (pt_diagramOf hm) (by decide) ?_
    refine z_iload dX12_ofDiagram_60 rfl ?_
    refine z_iald dX12_ofDiagram_62 (sh_diagramOf hE) (by omega) (by omega) ?_
    refine z_iload_n dX12_ofDiagram_63 rfl ?_
    refine z_icmp_ne (tgt := 82) dX12_ofDiagram_64 rfl (fun h64 => ?_) (fun h64 => ?_)
    · refine z_iconst dX12_ofDiagram_82 (by decide) ?_
      refine z_add dX12_ofDiagram_83 (by omega) ?_
      refine z_istore dX12_ofDiagram_84 (Nat.le_of_ble_eq_true rfl) ?_
      refine z_inc dX12_ofDiagram_86 rfl (by omega) ?_
      refine z_goto (tgt := 45) dX12_ofDiagram_89 rfl ?_
      try dsimp only [zs0, zsI, zsP, zsN, zsJ, zsS, zst2, Nat.reduceAdd]
      have hv : (if tName (mT m) (tMt (mT m) k) = tNm (mT m) dd ∧ (if wh = 0 then tCr (mT m) (tMt (mT m) k) else tHo (mT m) (tMt (mT m) k)) = nu then (1 : Int) else 0) = 0 := if_neg (fun h => absurd (hdk.mpr h.1) (by omega))
      rw [zsum_s, ← Int.add_assoc, hv] at hP
      exact ih (k + 1) _ (by omega) (by omega) (by omega) hP
    · refine z_aload_n dX12_ofDiagram_67 rfl ?_
      refine z_iload dX12_ofDiagram_68 rfl ?_
      refine z_iload_n dX12_ofDiagram_70 rfl ?_
      refine z_iload_n dX12_ofDiagram_71 rfl ?_
      refine z_callV mlX12_370 dX12_ofDiagram_72 (sh_M hE) (av := [_, _, _]) rfl rfl (Nat.le_of_ble_eq_true rfl) (r_isSuch _ hE hm k wh nu hn0 h0 (by omega) (mL_ro hk hL k h0 (by omega))) (Nat.le_refl _) (Nat.le_refl _) (Nat.le_refl _) (Nat.le_refl _) ?_
      rintro _ _ ⟨rfl, rfl⟩
      refine z_ifz_eq (tgt := 82) dX12_ofDiagram_75 rfl (fun h75 => ?_) (fun h75 => ?_)
      · refine z_iconst dX12_ofDiagram_82 (by decide) ?_
        refine z_add dX12_ofDiagram_83 (by omega) ?_
        refine z_istore dX12_ofDiagram_84 (Nat.le_of_ble_eq_true rfl) ?_
        refine z_inc dX12_ofDiagram_86 rfl (by omega) ?_
        refine z_goto (tgt := 45) dX12_ofDiagram_89 rfl ?_
        try dsimp only [zs0, zsI, zsP, zsN, zsJ, zsS, zst2, Nat.reduceAdd]
        have hv : (if tName (mT m) (tMt (mT m) k) = tNm (mT m) dd ∧ (if wh = 0 then tCr (mT m) (tMt (mT m) k) else tHo (mT m) (tMt (mT m) k)) = nu then (1 : Int) else 0) = 0 := if_neg (fun h => absurd (hsu ▸ h.2) h75)
        rw [zsum_s, ← Int.add_assoc, hv] at hP
        exact ih (k + 1) _ (by omega) (by omega) (by omega) hP
      · refine z_iconst dX12_ofDiagram_78 (by decide) ?_
        refine z_goto (tgt := 83) dX12_ofDiagram_79 rfl ?_
        refine z_add dX12_ofDiagram_83 (by omega) ?_
        refine z_istore dX12_ofDiagram_84 (Nat.le_of_ble_eq_true rfl) ?_
        refine z_inc dX12_ofDiagram_86 rfl (by omega) ?_
        refine z_goto (tgt := 45) dX12_ofDiagram_89 rfl ?_
        try dsimp only [zs0, zsI, zsP, zsN, zsJ, zsS, zst2, Nat.reduceAdd]
        have hv : (if tName (mT m) (tMt (mT m) k) = tNm (mT m) dd ∧ (if wh = 0 then tCr (mT m) (tMt (mT m) k) else tHo (mT m) (tMt (mT m) k)) = nu then (1 : Int) else 0) = 1 := if_pos ⟨hdk.mp (by omega), hsu ▸ h75⟩
        rw [zsum_s, ← Int.add_assoc, hv] at hP
        exact ih (k + 1) _ (by omega) (by omega) (by omega) hP

theorem q_ofDiagram (d : Nat) {E : zE} {m : zM} (hE : shM E) (hI : mI m) (dd wh nu : Int)  : zR zX12_ofDiagram (d + 15) [zP aM, zI dd, zI wh, zI nu] m E E (fun r m' => r = some (zI (aOfD (mT m) dd wh nu).2) ∧ mQ m m' (aOfD (mT m) dd wh nu).1) := by
  have hm := hI.1.1
  obtain ⟨hw, hl, hn⟩ := mI_wl hI
  have hq0 := mQ_rf hI
  have eT0 : mT m = mT m := rfl
  have t4 : (mT m).2.2.2 = m aM f_letters := rfl
  have t0 : (mT m).1 0 = m a_c 0 := rfl
  have t1 : (mT m).1 1 = m a_c 1 := rfl
  have t2 : (mT m).1 2 = m a_c 2 := rfl
  have b1 := hw.1
  have b2 := hw.2.1
  have b3 := hw.2.2.1
  refine zR_go [zP aM, zI dd, zI wh, zI nu, zN, zN] (by decide +kernel) (Nat.le_of_ble_eq_true rfl) rfl rfl ?_
  refine z_aload_n dX12_ofDiagram_0 rfl ?_
  refine z_iload_n dX12_ofDiagram_1 rfl ?_
  refine z_iconst dX12_ofDiagram_2 (by decide) ?_
  refine z_iconst dX12_ofDiagram_3 (by decide) ?_
  refine z_callS mlX12_140 dX12_ofDiagram_4 (av := [_, _, _]) rfl rfl (Nat.le_of_ble_eq_true rfl) (r_isIn _ hE hm wh 0 1) (Nat.le_refl _) (Nat.le_refl _) (Nat.le_refl _) (Nat.le_refl _) ?_
  rintro _ _ ⟨rfl, rfl⟩
  refine z_ifz_eq (tgt := 14) dX12_ofDiagram_7 rfl (fun h7 => ?_) (fun h7 => ?_)
  · refine z_iconst dX12_ofDiagram_14 (by decide) ?_
    refine z_goto (tgt := 31) dX12_ofDiagram_15 rfl ?_
    refine z_callV mlX12_310 dX12_ofDiagram_31 (sh_M hE) (av := [_]) rfl rfl (Nat.le_of_ble_eq_true rfl) (r_is _ hE hm _) (Nat.le_refl _) (Nat.le_refl _) (Nat.le_refl _) (Nat.le_refl _) ?_
    rintro _ m1 ⟨rfl, e1⟩
    have hq1 : mQ m m1 1 := e1 ▸ mQ_is hq0
    have hI1 := hq1.1
    have hm1 := hI1.1.1
    have eT1 := mQ_T hq1
    have ec1 : m1 a_c = m a_c := congrArg (fun q => q.1) eT1
    have ec21 : m1 a_c 2 = m a_c 2 := congrFun ec1 2
    have ew1 : m1 a_what = m a_what := congrArg (fun q => q.2.1) eT1
    have ep1 : m1 a_pointOf = m a_pointOf := congrArg (fun q => q.2.2.1) eT1
    have en1 : m1 aM f_letters = m aM f_letters := congrArg (fun q => q.2.2.2) eT1
    obtain ⟨hw1, hl1, hn1⟩ := mI_wl hI1
    refine z_ifz_ne (tgt := 39) dX12_ofDiagram_34 rfl (fun h => absurd h (by decide)) (fun h34 => ?_)
    refine z_iconst dX12_ofDiagram_37 (by decide) ?_
    refine z_iret dX12_ofDiagram_38 rfl rfl ?_
    have eA : aOfD (mT m) dd wh nu = (1, -1) := by unfold aOfD; rw [if_pos (by omega)]
    rw [eA]
    exact ⟨rfl, hq1⟩
  · refine z_iload_n dX12_ofDiagram_10 rfl ?_
    refine z_if_ge (tgt := 18) dX12_ofDiagram_11 rfl (fun h11 => ?_) (fun h11 => ?_)
    · refine z_aload_n dX12_ofDiagram_18 rfl ?_
      refine z_iload_n dX12_ofDiagram_19 rfl ?_
      refine z_callV mlX12_420 dX12_ofDiagram_20 (sh_M hE) (av := [_]) rfl rfl (Nat.le_of_ble_eq_true rfl) (q_isDiagram _ hE hI dd) (Nat.le_refl _) (Nat.le_refl _) (Nat.le_refl _) (Nat.le_refl _) ?_
      rintro _ m1 ⟨rfl, g1, f1, hL1, hN1⟩
      have hq1 := mQ_names hq0 g1 f1
      have hI1 := hq1.1
      have hm1 := hI1.1.1
      have eT1 := mQ_T hq1
      have ec1 : m1 a_c = m a_c := congrArg (fun q => q.1) eT1
      have ec21 : m1 a_c 2 = m a_c 2 := congrFun ec1 2
      have ew1 : m1 a_what = m a_what := congrArg (fun q => q.2.1) eT1
      have ep1 : m1 a_pointOf = m a_pointOf := congrArg (fun q => q.2.2.1) eT1
      have en1 : m1 aM f_letters = m aM f_letters := congrArg (fun q => q.2.2.2) eT1
      obtain ⟨hw1, hl1, hn1⟩ := mI_wl hI1
      have hlen1 := mL_len hI1.1 hL1
      have hsg1 := mL_sg hI1.1 hL1
      have nD1 := mN_D hN1
      refine z_ifz_eq (tgt := 30) dX12_ofDiagram_23 rfl (fun h23 => ?_) (fun h23 => ?_)
      · refine z_iconst dX12_ofDiagram_30 (by decide) ?_
        refine z_callV mlX12_310 dX12_ofDiagram_31 (sh_M hE) (av := [_]) rfl rfl (Nat.le_of_ble_eq_true rfl) (r_is _ hE hm1 _) (Nat.le_refl _) (Nat.le_refl _) (Nat.le_refl _) (Nat.le_refl _) ?_
        rintro _ m2 ⟨rfl, e2⟩
        have hq2 : mQ m m2 2 := e2 ▸ mQ_is hq1
        have hI2 := hq2.1
        have hm2 := hI2.1.1
        have eT2 := mQ_T hq2
        have ec2 : m2 a_c = m a_c := congrArg (fun q => q.1) eT2
        have ec22 : m2 a_c 2 = m a_c 2 := congrFun ec2 2
        have ew2 : m2 a_what = m a_what := congrArg (fun q => q.2.1) eT2
        have ep2 : m2 a_pointOf = m a_pointOf := congrArg (fun q => q.2.2.1) eT2
        have en2 : m2 aM f_letters = m aM f_letters := congrArg (fun q => q.2.2.2) eT2
        obtain ⟨hw2, hl2, hn2⟩ := mI_wl hI2
        have hL2 : mL m2 := e2 ▸ mL_S hL1
        have hN2 : mN m2 := e2 ▸ mN_S hN1
        refine z_ifz_ne (tgt := 39) dX12_ofDiagram_34 rfl (fun h => absurd h (by decide)) (fun h34 => ?_)
        refine z_iconst dX12_ofDiagram_37 (by decide) ?_
        refine z_iret dX12_ofDiagram_38 rfl rfl ?_
        have eA : aOfD (mT m) dd wh nu = (2, -1) := by unfold aOfD; rw [if_neg (by omega), if_pos (by omega)]
        rw [eA]
        exact ⟨rfl, hq2⟩
      · refine z_iconst dX12_ofDiagram_26 (by decide) ?_
        refine z_goto (tgt := 31) dX12_ofDiagram_27 rfl ?_
        refine z_callV mlX12_310 dX12_ofDiagram_31 (sh_M hE) (av := [_]) rfl rfl (Nat.le_of_ble_eq_true rfl) (r_is _ hE hm1 _) (Nat.le_refl _) (Nat.le_refl _) (Nat.le_refl _) (Nat.le_refl _) ?_
        rintro _ m2 ⟨rfl, e2⟩
        have hq2 : mQ m m2 0 := e2 ▸ mQ_is hq1
        have hI2 := hq2.1
        have hm2 := hI2.1.1
        have eT2 := mQ_T hq2
        have ec2 : m2 a_c = m a_c := congrArg (fun q => q.1) eT2
        have ec22 : m2 a_c 2 = m a_c 2 := congrFun ec2 2
        have ew2 : m2 a_what = m a_what := congrArg (fun q => q.2.1) eT2
        have ep2 : m2 a_pointOf = m a_pointOf := congrArg (fun q => q.2.2.1) eT2
        have en2 : m2 aM f_letters = m aM f_letters := congrArg (fun q => q.2.2.2) eT2
        obtain ⟨hw2, hl2, hn2⟩ := mI_wl hI2
        have hL2 : mL m2 := e2 ▸ mL_S hL1
        have hN2 : mN m2 := e2 ▸ mN_S hN1
        refine z_ifz_ne (tgt := 39) dX12_ofDiagram_34 rfl (fun h34 => ?_) (fun h => absurd (by decide) h)
        refine z_iconst dX12_ofDiagram_39 (by decide) ?_
        refine z_istore dX12_ofDiagram_40 (Nat.le_of_ble_eq_true rfl) ?_
        refine z_iconst dX12_ofDiagram_42 (by decide) ?_
        refine z_istore dX12_ofDiagram_43 (Nat.le_of_ble_eq_true rfl) ?_
        try dsimp only [zs0, zsI, zsP, zsN, zsJ, zsS, zst2, Nat.reduceAdd]
        refine l_ofDiagram (d + 13) hE hm2 hI2.1 hL2 hN2 dd wh nu (by omega) (by rw [eT2]; omega) hn2 (tPairs (mT m2)).length 0 0 (by omega) (by omega) (by omega) ?_
        rw [eT2, Int.zero_add, zsum_lS0 (g := (fun mt => if tName (mT m) mt = tNm (mT m) dd ∧ (if wh = 0 then tCr (mT m) mt else tHo (mT m) mt) = nu then 1 else 0)) rfl (fun t x ht => by rw [tMt_t ht])]
        have eA : aOfD (mT m) dd wh nu = (0, tS (mT m) (fun mt => if tName (mT m) mt = tNm (mT m) dd ∧ (if wh = 0 then tCr (mT m) mt else tHo (mT m) mt) = nu then 1 else 0)) := by unfold aOfD; rw [if_neg (by omega), if_neg (by omega)]
        rw [eA]
        exact ⟨rfl, hq2⟩
    · refine z_iconst dX12_ofDiagram_14 (by decide) ?_
      refine z_goto (tgt := 31) dX12_ofDiagram_15 rfl ?_
      refine z_callV mlX12_310 dX12_ofDiagram_31 (sh_M hE) (av := [_]) rfl rfl (Nat.le_of_ble_eq_true rfl) (r_is _ hE hm _) (Nat.le_refl _) (Nat.le_refl _) (Nat.le_refl _) (Nat.le_refl _) ?_
      rintro _ m1 ⟨rfl, e1⟩
      have hq1 : mQ m m1 1 := e1 ▸ mQ_is hq0
      have hI1 := hq1.1
      have hm1 := hI1.1.1
      have eT1 := mQ_T hq1
      have ec1 : m1 a_c = m a_c := congrArg (fun q => q.1) eT1
      have ec21 : m1 a_c 2 = m a_c 2 := congrFun ec1 2
      have ew1 : m1 a_what = m a_what := congrArg (fun q => q.2.1) eT1
      have ep1 : m1 a_pointOf = m a_pointOf := congrArg (fun q => q.2.2.1) eT1
      have en1 : m1 aM f_letters = m aM f_letters := congrArg (fun q => q.2.2.2) eT1
      obtain ⟨hw1, hl1, hn1⟩ := mI_wl hI1
      refine z_ifz_ne (tgt := 39) dX12_ofDiagram_34 rfl (fun h => absurd h (by decide)) (fun h34 => ?_)
      refine z_iconst dX12_ofDiagram_37 (by decide) ?_
      refine z_iret dX12_ofDiagram_38 rfl rfl ?_
      have eA : aOfD (mT m) dd wh nu = (1, -1) := by unfold aOfD; rw [if_pos (by omega)]
      rw [eA]
      exact ⟨rfl, hq1⟩

theorem l_diagrams (d : Nat) {E : zE} {m : zM} {P : Option zV → zM → Prop} (hE : shM E) (hm : ptM m) (wh nu : Int) (hI : mI m) (hL : mL m) (hN : mN m)  : ∀ (j : Nat) (k n : Int) (m1 : zM), (0 ≤ k) → (k + j = ((tD (mT m)).length : Int)) → (0 ≤ n ∧ n ≤ k) → (zfr fW2 m m1) → (mPl m1) → (∀ m2, zfr fW2 m m2 → mPl m2 → P (some (zI (n + zsum (fun k => zb (tOf (mT m) k (if wh = 0 then 3 else if wh = 1 then 5 else if wh = 2 then 6 else if wh = 3 then 7 else 2) = nu)) j k))) m2) → zA zX12_diagrams (d + 15) E E P 36 [zP aM, zI wh, zI nu, zI n, zI k] [] m1 E := by
  intro j
  induction j with
  | zero =>
    intro k n m1 h0 hk hn hf hp hP
    have eT : mT m1 = mT m := mT_fr hf (by decide)
    have hI1 := mI_fr2 hI hf hp
    have hL1 := mL_kept2 hf hL
    have hN1 := mN_kept2 hf hN
    have hm1 : ptM m1 := hI1.1.1
    have nD := mN_D hN1
    rw [eT] at nD
    refine z_iload dX12_diagrams_36 rfl ?_
    refine z_aload_n dX12_diagrams_38 rfl ?_
    refine z_gI f_diagrams rfl flX12_266 dX12_diagrams_39 (sh_M hE) rfl ?_
    refine z_icmp_ge (tgt := 73) dX12_diagrams_42 rfl (fun h42 => ?_) (fun h => absurd (by omega) h)
    refine z_iload_n dX12_diagrams_73 rfl ?_
    refine z_iret dX12_diagrams_74 rfl rfl ?_
    have hP := hP m1 hf hp
    rw [zsum_0, Int.add_zero] at hP
    exact hP
  | succ j ih =>
    intro k n m1 h0 hk hn hf hp hP
    have eT : mT m1 = mT m := mT_fr hf (by decide)
    have hI1 := mI_fr2 hI hf hp
    have hL1 := mL_kept2 hf hL
    have hN1 := mN_kept2 hf hN
    have hm1 : ptM m1 := hI1.1.1
    have nD := mN_D hN1
    rw [eT] at nD
    refine z_iload dX12_diagrams_36 rfl ?_
    refine z_aload_n dX12_diagrams_38 rfl ?_
    refine z_gI f_diagrams rfl flX12_266 dX12_diagrams_39 (sh_M hE) rfl ?_
    refine z_icmp_ge (tgt := 73) dX12_diagrams_42 rfl (fun h => absurd h (by omega)) (fun h42 => ?_)
    refine z_iload_n dX12_diagrams_45 rfl ?_
    refine z_aload_n dX12_diagrams_46 rfl ?_
    refine z_iload dX12_diagrams_47 rfl ?_
    refine z_iload_n dX12_diagrams_49 rfl ?_
    refine z_callS mlX12_429 dX12_diagrams_50 (av := [_]) rfl rfl (Nat.le_of_ble_eq_true rfl) (r_asDiagram _ hE hm1 wh) (Nat.le_refl _) (Nat.le_refl _) (Nat.le_refl _) (Nat.le_refl _) ?_
    rintro _ _ ⟨rfl, rfl⟩
    refine z_callV mlX12_423 dX12_diagrams_53 (sh_M hE) (av := [_, _]) rfl rfl (Nat.le_of_ble_eq_true rfl) (by have h := q_ofDiagram0 d hE hI1 hL1 hN1 k h0 (by rw [eT]; omega) (if wh = 0 then 3 else if wh = 1 then 5 else if wh = 2 then 6 else if wh = 3 then 7 else 2); rw [eT] at h; exact h) (Nat.le_refl _) (Nat.le_refl _) (Nat.le_refl _) (Nat.le_refl _) ?_
    rintro _ m2 ⟨rfl, f2, p2⟩
    have hm2 := (mI_fr2 hI1 f2 p2).1.1
    refine z_iload_n dX12_diagrams_56 rfl ?_
    refine z_icmp_ne (tgt := 64) dX12_diagrams_57 rfl (fun h57 => ?_) (fun h57 => ?_)
    · refine z_iconst dX12_diagrams_64 (by decide) ?_
      refine z_add dX12_diagrams_65 (by omega) ?_
      refine z_ist 3 dX12_diagrams_66 rfl (Nat.le_of_ble_eq_true rfl) ?_
      refine z_inc dX12_diagrams_67 rfl (by omega) ?_
      refine z_goto (tgt := 36) dX12_diagrams_70 rfl ?_
      try dsimp only [zs0, zsI, zsP, zsN, zsJ, zsS, zst2, Nat.reduceAdd]
      refine ih (k + 1) _ m2 (by omega) (by omega) (by omega) (zfr_tr hf f2) p2 (fun m3 f3 p3 => ?_)
      have hP := hP m3 f3 p3
      rw [zsum_s, ← Int.add_assoc, zb_f (by omega)] at hP
      exact hP
    · refine z_iconst dX12_diagrams_60 (by decide) ?_
      refine z_goto (tgt := 65) dX12_diagrams_61 rfl ?_
      refine z_add dX12_diagrams_65 (by omega) ?_
      refine z_ist 3 dX12_diagrams_66 rfl (Nat.le_of_ble_eq_true rfl) ?_
      refine z_inc dX12_diagrams_67 rfl (by omega) ?_
      refine z_goto (tgt := 36) dX12_diagrams_70 rfl ?_
      try dsimp only [zs0, zsI, zsP, zsN, zsJ, zsS, zst2, Nat.reduceAdd]
      refine ih (k + 1) _ m2 (by omega) (by omega) (by omega) (zfr_tr hf f2) p2 (fun m3 f3 p3 => ?_)
      have hP := hP m3 f3 p3
      rw [zsum_s, ← Int.add_assoc, zb_t (by omega)] at hP
      exact hP

theorem q_diagrams (d : Nat) {E : zE} {m : zM} (hE : shM E) (hI : mI m) (wh nu : Int)  : zR zX12_diagrams (d + 15) [zP aM, zI wh, zI nu] m E E (fun r m' => r = some (zI (aDgs (mT m) wh nu).2) ∧ mQ m m' (aDgs (mT m) wh nu).1) := by
  have hm := hI.1.1
  obtain ⟨hw, hl, hn⟩ := mI_wl hI
  have hq0 := mQ_rf hI
  have eT0 : mT m = mT m := rfl
  have t4 : (mT m).2.2.2 = m aM f_letters := rfl
  have t0 : (mT m).1 0 = m a_c 0 := rfl
  have t1 : (mT m).1 1 = m a_c 1 := rfl
  have t2 : (mT m).1 2 = m a_c 2 := rfl
  have b1 := hw.1
  have b2 := hw.2.1
  have b3 := hw.2.2.1
  refine zR_go [zP aM, zI wh, zI nu, zN, zN] (by decide +kernel) (Nat.le_of_ble_eq_true rfl) rfl rfl ?_
  refine z_aload_n dX12_diagrams_0 rfl ?_
  refine z_iload_n dX12_diagrams_1 rfl ?_
  refine z_iconst dX12_diagrams_2 (by decide) ?_
  refine z_iconst dX12_diagrams_3 (by decide) ?_
  refine z_callS mlX12_140 dX12_diagrams_4 (av := [_, _, _]) rfl rfl (Nat.le_of_ble_eq_true rfl) (r_isIn _ hE hm wh 0 4) (Nat.le_refl _) (Nat.le_refl _) (Nat.le_refl _) (Nat.le_refl _) ?_
  rintro _ _ ⟨rfl, rfl⟩
  refine z_ifz_eq (tgt := 18) dX12_diagrams_7 rfl (fun h7 => ?_) (fun h7 => ?_)
  · refine z_iconst dX12_diagrams_18 (by decide) ?_
    refine z_callV mlX12_310 dX12_diagrams_19 (sh_M hE) (av := [_]) rfl rfl (Nat.le_of_ble_eq_true rfl) (r_is _ hE hm _) (Nat.le_refl _) (Nat.le_refl _) (Nat.le_refl _) (Nat.le_refl _) ?_
    rintro _ m1 ⟨rfl, e1⟩
    have hq1 : mQ m m1 1 := e1 ▸ mQ_is hq0
    have hI1 := hq1.1
    have hm1 := hI1.1.1
    have eT1 := mQ_T hq1
    have ec1 : m1 a_c = m a_c := congrArg (fun q => q.1) eT1
    have ec21 : m1 a_c 2 = m a_c 2 := congrFun ec1 2
    have ew1 : m1 a_what = m a_what := congrArg (fun q => q.2.1) eT1
    have ep1 : m1 a_pointOf = m a_pointOf := congrArg (fun q => q.2.2.1) eT1
    have en1 : m1 aM f_letters = m aM f_letters := congrArg (fun q => q.2.2.2) eT1
    obtain ⟨hw1, hl1, hn1⟩ := mI_wl hI1
    refine z_ifz_ne (tgt := 27) dX12_diagrams_22 rfl (fun h => absurd h (by decide)) (fun h22 => ?_)
    refine z_iconst dX12_diagrams_25 (by decide) ?_
    refine z_iret dX12_diagrams_26 rfl rfl ?_
    have eA : aDgs (mT m) wh nu = (1, -1) := by unfold aDgs; rw [if_pos (by omega)]
    rw [eA]
    exact ⟨rfl, hq1⟩
  · refine z_iload_n dX12_diagrams_10 rfl ?_
    refine z_if_lt (tgt := 18) dX12_diagrams_11 rfl (fun h11 => ?_) (fun h11 => ?_)
    · refine z_iconst dX12_diagrams_18 (by decide) ?_
      refine z_callV mlX12_310 dX12_diagrams_19 (sh_M hE) (av := [_]) rfl rfl (Nat.le_of_ble_eq_true rfl) (r_is _ hE hm _) (Nat.le_refl _) (Nat.le_refl _) (Nat.le_refl _) (Nat.le_refl _) ?_
      rintro _ m1 ⟨rfl, e1⟩
      have hq1 : mQ m m1 1 := e1 ▸ mQ_is hq0
      have hI1 := hq1.1
      have hm1 := hI1.1.1
      have eT1 := mQ_T hq1
      have ec1 : m1 a_c = m a_c := congrArg (fun q => q.1) eT1
      have ec21 : m1 a_c 2 = m a_c 2 := congrFun ec1 2
      have ew1 : m1 a_what = m a_what := congrArg (fun q => q.2.1) eT1
      have ep1 : m1 a_pointOf = m a_pointOf := congrArg (fun q => q.2.2.1) eT1
      have en1 : m1 aM f_letters = m aM f_letters := congrArg (fun q => q.2.2.2) eT1
      obtain ⟨hw1, hl1, hn1⟩ := mI_wl hI1
      refine z_ifz_ne (tgt := 27) dX12_diagrams_22 rfl (fun h => absurd h (by decide)) (fun h22 => ?_)
      refine z_iconst dX12_diagrams_25 (by decide) ?_
      refine z_iret dX12_diagrams_26 rfl rfl ?_
      have eA : aDgs (mT m) wh nu = (1, -1) := by unfold aDgs; rw [if_pos (by omega)]
      rw [eA]
      exact ⟨rfl, hq1⟩
    · refine z_iconst dX12_diagrams_14 (by decide) ?_
      refine z_goto (tgt := 19) dX12_diagrams_15 rfl ?_
      refine z_callV mlX12_310 dX12_diagrams_19 (sh_M hE) (av := [_]) rfl rfl (Nat.le_of_ble_eq_true rfl) (r_is _ hE hm _) (Nat.le_refl _) (Nat.le_refl _) (Nat.le_refl _) (Nat.le_refl _) ?_
      rintro _ m1 ⟨rfl, e1⟩
      have hq1 : mQ m m1 0 := e1 ▸ mQ_is hq0
      have hI1 := hq1.1
      have hm1 := hI1.1.1
      have eT1 := mQ_T hq1
      have ec1 : m1 a_c = m a_c := congrArg (fun q => q.1) eT1
      have ec21 : m1 a_c 2 = m a_c 2 := congrFun ec1 2
      have ew1 : m1 a_what = m a_what := congrArg (fun q => q.2.1) eT1
      have ep1 : m1 a_pointOf = m a_pointOf := congrArg (fun q => q.2.2.1) eT1
      have en1 : m1 aM f_letters = m aM f_letters := congrArg (fun q => q.2.2.2) eT1
      obtain ⟨hw1, hl1, hn1⟩ := mI_wl hI1
      refine z_ifz_ne (tgt := 27) dX12_diagrams_22 rfl (fun h22 => ?_) (fun h => absurd (by decide) h)
      refine z_aload_n dX12_diagrams_27 rfl ?_
      refine z_callV mlX12_273 dX12_diagrams_28 (sh_M hE) (av := _) rfl rfl (Nat.le_of_ble_eq_true rfl) (q_names _ hE hI1) (Nat.le_refl _) (Nat.le_refl _) (Nat.le_refl _) (Nat.le_refl _) ?_
      rintro _ m2 ⟨rfl, g2, f2, hL2, hN2⟩
      have hq2 := mQ_names hq1 g2 f2
      have hI2 := hq2.1
      have hm2 := hI2.1.1
      have eT2 := mQ_T hq2
      have ec2 : m2 a_c = m a_c := congrArg (fun q => q.1) eT2
      have ec22 : m2 a_c 2 = m a_c 2 := congrFun ec2 2
      have ew2 : m2 a_what = m a_what := congrArg (fun q => q.2.1) eT2
      have ep2 : m2 a_pointOf = m a_pointOf := congrArg (fun q => q.2.2.1) eT2
      have en2 : m2 aM f_letters = m aM f_letters := congrArg (fun q => q.2.2.2) eT2
      obtain ⟨hw2, hl2, hn2⟩ := mI_wl hI2
      have hlen2 := mL_len hI2.1 hL2
      have hsg2 := mL_sg hI2.1 hL2
      have nD2 := mN_D hN2
      refine z_iconst dX12_diagrams_31 (by decide) ?_
      refine z_ist 3 dX12_diagrams_32 rfl (Nat.le_of_ble_eq_true rfl) ?_
      refine z_iconst dX12_diagrams_33 (by decide) ?_
      refine z_istore dX12_diagrams_34 (Nat.le_of_ble_eq_true rfl) ?_
      try dsimp only [zs0, zsI, zsP, zsN, zsJ, zsS, zst2, Nat.reduceAdd]
      refine l_diagrams d hE hm2 wh nu hI2 hL2 hN2 (tD (mT m2)).length 0 0 m2 (by omega) (by omega) (by omega) zfr_rf hI2.2.2.2.1 (fun m2 f2 p2 => ?_)
      rw [eT2, Int.zero_add]
      have eA : aDgs (mT m) wh nu = (0, zsum (fun k => zb (tOf (mT m) k (if wh = 0 then 3 else if wh = 1 then 5 else if wh = 2 then 6 else if wh = 3 then 7 else 2) = nu)) (tD (mT m)).length 0) := by unfold aDgs; rw [if_neg (by omega)]
      rw [eA]
      exact ⟨rfl, mQ_fr2 hq2 f2 p2⟩

theorem l_core (d : Nat) {E : zE} {m : zM} {P : Option zV → zM → Prop} (hE : shM E) (hm : ptM m) (co : Int → Int) (h : Nat) (ho : mOp m co h) (hw : wfC (m a_c)) (dd wh : Int) (left : Nat) (hle : left < 256)  : ∀ (j : Nat) (k n : Int), (0 ≤ k) → (k + j = (h : Int)) → (0 ≤ n ∧ n ≤ k) → (P (some (zI (n + zsum (fun k => zb (left.testBit (co k / 100).toNat = true)) j k))) m) → zA zX12_core (d + 1) E E P 80 [zP aM, zI dd, zI wh, zI (left : Nat), zI n, zI k] [] m E := by
  intro j
  induction j with
  | zero =>
    intro k n h0 hk hn hP
    have o1 := ho.1
    have o2 := ho.2.1
    refine z_iload dX12_core_80 rfl ?_
    refine z_aload_n dX12_core_82 rfl ?_
    refine z_gI f_lines rfl flX12_197 dX12_core_83 (sh_M hE) rfl ?_
    refine z_icmp_ge (tgt := 118) dX12_core_86 rfl (fun h86 => ?_) (fun h => absurd (by omega) h)
    refine z_iload dX12_core_118 rfl ?_
    refine z_iret dX12_core_120 rfl rfl ?_
    rw [zsum_0, Int.add_zero] at hP
    exact hP
  | succ j ih =>
    intro k n h0 hk hn hP
    have o1 := ho.1
    have o2 := ho.2.1
    have hcd := mOp_rg2 hw ho k h0 (by omega)
    have hco := ho.2.2.1 k h0 (by omega)
    have hb3 := hw.2.2.1
    have hcn : co k / 100 = (((co k / 100).toNat : Nat) : Int) := by omega
    refine z_iload dX12_core_80 rfl ?_
    refine z_aload_n dX12_core_82 rfl ?_
    refine z_gI f_lines rfl flX12_197 dX12_core_83 (sh_M hE) rfl ?_
    refine z_icmp_ge (tgt := 118) dX12_core_86 rfl (fun h => absurd h (by omega)) (fun h86 => ?_)
    refine z_iload dX12_core_89 rfl ?_
    refine z_iload_n dX12_core_91 rfl ?_
    refine z_aload_n dX12_core_92 rfl ?_
    refine z_iload dX12_core_93 rfl ?_
    refine z_callV mlX12_276 dX12_core_95 (sh_M hE) (av := [_]) rfl rfl (Nat.le_of_ble_eq_true rfl) (r_fromOf _ hE hm k h0 (by omega) hcd.1) (Nat.le_refl _) (Nat.le_refl _) (Nat.le_refl _) (Nat.le_refl _) ?_
    rw [hco, hcn]
    rintro _ _ ⟨rfl, rfl⟩
    refine z_callS mlX12_158 dX12_core_98 (av := [_, _]) rfl rfl (Nat.le_of_ble_eq_true rfl) (r_has _ hE hm left (co k / 100).toNat (by omega) (by omega)) (Nat.le_refl _) (Nat.le_refl _) (Nat.le_refl _) (Nat.le_refl _) ?_
    rintro _ _ ⟨rfl, rfl⟩
    refine z_ifz_eq (tgt := 108) dX12_core_101 rfl (fun h101 => ?_) (fun h101 => ?_)
    · refine z_iconst dX12_core_108 (by decide) ?_
      refine z_add dX12_core_109 (by omega) ?_
      refine z_istore dX12_core_110 (Nat.le_of_ble_eq_true rfl) ?_
      refine z_inc dX12_core_112 rfl (by omega) ?_
      refine z_goto (tgt := 80) dX12_core_115 rfl ?_
      try dsimp only [zs0, zsI, zsP, zsN, zsJ, zsS, zst2, Nat.reduceAdd]
      rw [zsum_s, ← Int.add_assoc, zb_f h101] at hP
      exact ih (k + 1) _ (by omega) (by omega) (by omega) hP
    · refine z_iconst dX12_core_104 (by decide) ?_
      refine z_goto (tgt := 109) dX12_core_105 rfl ?_
      refine z_add dX12_core_109 (by omega) ?_
      refine z_istore dX12_core_110 (Nat.le_of_ble_eq_true rfl) ?_
      refine z_inc dX12_core_112 rfl (by omega) ?_
      refine z_goto (tgt := 80) dX12_core_115 rfl ?_
      try dsimp only [zs0, zsI, zsP, zsN, zsJ, zsS, zst2, Nat.reduceAdd]
      rw [zsum_s, ← Int.add_assoc, zb_t h101] at hP
      exact ih (k + 1) _ (by omega) (by omega) (by omega) hP

theorem q_core (d : Nat) {E : zE} {m : zM} (hE : shM E) (hI : mI m) (dd w : Int)  : zR zX12_core (d + 15) [zP aM, zI dd, zI w] m E E (fun r m' => r = some (zI (aCore (mT m) dd w).2) ∧ mQ m m' (aCore (mT m) dd w).1) := by
  have hm := hI.1.1
  obtain ⟨hw, hl, hn⟩ := mI_wl hI
  have hq0 := mQ_rf hI
  have eT0 : mT m = mT m := rfl
  have t4 : (mT m).2.2.2 = m aM f_letters := rfl
  have t0 : (mT m).1 0 = m a_c 0 := rfl
  have t1 : (mT m).1 1 = m a_c 1 := rfl
  have t2 : (mT m).1 2 = m a_c 2 := rfl
  have b1 := hw.1
  have b2 := hw.2.1
  have b3 := hw.2.2.1
  refine zR_go [zP aM, zI dd, zI w, zN, zN, zN] (by decide +kernel) (Nat.le_of_ble_eq_true rfl) rfl rfl ?_
  refine z_aload_n dX12_core_0 rfl ?_
  refine z_iload_n dX12_core_1 rfl ?_
  refine z_iconst dX12_core_2 (by decide) ?_
  refine z_iconst dX12_core_3 (by decide) ?_
  refine z_callS mlX12_140 dX12_core_4 (av := [_, _, _]) rfl rfl (Nat.le_of_ble_eq_true rfl) (r_isIn _ hE hm w 0 2) (Nat.le_refl _) (Nat.le_refl _) (Nat.le_refl _) (Nat.le_refl _) ?_
  rintro _ _ ⟨rfl, rfl⟩
  refine z_ifz_ne (tgt := 14) dX12_core_7 rfl (fun h7 => ?_) (fun h7 => ?_)
  · refine z_aload_n dX12_core_14 rfl ?_
    refine z_iload_n dX12_core_15 rfl ?_
    refine z_callV mlX12_420 dX12_core_16 (sh_M hE) (av := [_]) rfl rfl (Nat.le_of_ble_eq_true rfl) (q_isDiagram _ hE hI dd) (Nat.le_refl _) (Nat.le_refl _) (Nat.le_refl _) (Nat.le_refl _) ?_
    rintro _ m1 ⟨rfl, g1, f1, hL1, hN1⟩
    have hq1 := mQ_names hq0 g1 f1
    have hI1 := hq1.1
    have hm1 := hI1.1.1
    have eT1 := mQ_T hq1
    have ec1 : m1 a_c = m a_c := congrArg (fun q => q.1) eT1
    have ec21 : m1 a_c 2 = m a_c 2 := congrFun ec1 2
    have ew1 : m1 a_what = m a_what := congrArg (fun q => q.2.1) eT1
    have ep1 : m1 a_pointOf = m a_pointOf := congrArg (fun q => q.2.2.1) eT1
    have en1 : m1 aM f_letters = m aM f_letters := congrArg (fun q => q.2.2.2) eT1
    obtain ⟨hw1, hl1, hn1⟩ := mI_wl hI1
    have hlen1 := mL_len hI1.1 hL1
    have hsg1 := mL_sg hI1.1 hL1
    have nD1 := mN_D hN1
    refine z_ifz_eq (tgt := 26) dX12_core_19 rfl (fun h19 => ?_) (fun h19 => ?_)
    · refine z_iconst dX12_core_26 (by decide) ?_
      refine z_callV mlX12_310 dX12_core_27 (sh_M hE) (av := [_]) rfl rfl (Nat.le_of_ble_eq_true rfl) (r_is _ hE hm1 _) (Nat.le_refl _) (Nat.le_refl _) (Nat.le_refl _) (Nat.le_refl _) ?_
      rintro _ m2 ⟨rfl, e2⟩
      have hq2 : mQ m m2 2 := e2 ▸ mQ_is hq1
      have hI2 := hq2.1
      have hm2 := hI2.1.1
      have eT2 := mQ_T hq2
      have ec2 : m2 a_c = m a_c := congrArg (fun q => q.1) eT2
      have ec22 : m2 a_c 2 = m a_c 2 := congrFun ec2 2
      have ew2 : m2 a_what = m a_what := congrArg (fun q => q.2.1) eT2
      have ep2 : m2 a_pointOf = m a_pointOf := congrArg (fun q => q.2.2.1) eT2
      have en2 : m2 aM f_letters = m aM f_letters := congrArg (fun q => q.2.2.2) eT2
      obtain ⟨hw2, hl2, hn2⟩ := mI_wl hI2
      have hL2 : mL m2 := e2 ▸ mL_S hL1
      have hN2 : mN m2 := e2 ▸ mN_S hN1
      refine z_ifz_ne (tgt := 35) dX12_core_30 rfl (fun h => absurd h (by decide)) (fun h30 => ?_)
      refine z_iconst dX12_core_33 (by decide) ?_
      refine z_iret dX12_core_34 rfl rfl ?_
      have eA : aCore (mT m) dd w = (2, -1) := by unfold aCore; rw [if_neg (by omega), if_pos (by omega)]
      rw [eA]
      exact ⟨rfl, hq2⟩
    · refine z_iconst dX12_core_22 (by decide) ?_
      refine z_goto (tgt := 27) dX12_core_23 rfl ?_
      refine z_callV mlX12_310 dX12_core_27 (sh_M hE) (av := [_]) rfl rfl (Nat.le_of_ble_eq_true rfl) (r_is _ hE hm1 _) (Nat.le_refl _) (Nat.le_refl _) (Nat.le_refl _) (Nat.le_refl _) ?_
      rintro _ m2 ⟨rfl, e2⟩
      have hq2 : mQ m m2 0 := e2 ▸ mQ_is hq1
      have hI2 := hq2.1
      have hm2 := hI2.1.1
      have eT2 := mQ_T hq2
      have ec2 : m2 a_c = m a_c := congrArg (fun q => q.1) eT2
      have ec22 : m2 a_c 2 = m a_c 2 := congrFun ec2 2
      have ew2 : m2 a_what = m a_what := congrArg (fun q => q.2.1) eT2
      have ep2 : m2 a_pointOf = m a_pointOf := congrArg (fun q => q.2.2.1) eT2
      have en2 : m2 aM f_letters = m aM f_letters := congrArg (fun q => q.2.2.2) eT2
      obtain ⟨hw2, hl2, hn2⟩ := mI_wl hI2
      have hL2 : mL m2 := e2 ▸ mL_S hL1
      have hN2 : mN m2 := e2 ▸ mN_S hN1
      refine z_ifz_ne (tgt := 35) dX12_core_30 rfl (fun h30 => ?_) (fun h => absurd (by decide) h)
      refine z_aload_n dX12_core_35 rfl ?_
      refine z_iload_n dX12_core_36 rfl ?_
      refine z_callV mlX12_289 dX12_core_37 (sh_M hE) (av := [_]) rfl rfl (Nat.le_of_ble_eq_true rfl) (q_opens _ hE hI2 dd hN2 (by omega) (by rw [eT2]; omega)) (Nat.le_refl _) (Nat.le_refl _) (Nat.le_refl _) (Nat.le_refl _) ?_
      rintro _ m3 ⟨rfl, f3, o3⟩
      have hq3 := mQ_fr hq2 f3
      have hI3 := hq3.1
      have hm3 := hI3.1.1
      have eT3 := mQ_T hq3
      have ec3 : m3 a_c = m a_c := congrArg (fun q => q.1) eT3
      have ec23 : m3 a_c 2 = m a_c 2 := congrFun ec3 2
      have ew3 : m3 a_what = m a_what := congrArg (fun q => q.2.1) eT3
      have ep3 : m3 a_pointOf = m a_pointOf := congrArg (fun q => q.2.2.1) eT3
      have en3 : m3 aM f_letters = m aM f_letters := congrArg (fun q => q.2.2.2) eT3
      obtain ⟨hw3, hl3, hn3⟩ := mI_wl hI3
      rw [eT2] at o3
      have hL3 := mL_kept f3 hL2
      have hN3 := mN_keptW f3 hN2
      have hA3 := tAll_lt hw3
      have nD3 := mN_D hN3
      have hlen3 := mL_len hI3.1 hL3
      refine z_aload_n dX12_core_40 rfl ?_
      refine z_callV mlX12_292 dX12_core_41 (sh_M hE) (av := _) rfl rfl (Nat.le_of_ble_eq_true rfl) (r_allPoints _ hE hm3 hw3) (Nat.le_refl _) (Nat.le_refl _) (Nat.le_refl _) (Nat.le_refl _) ?_
      rintro _ _ ⟨rfl, rfl⟩
      refine z_aload_n dX12_core_44 rfl ?_
      refine z_aload_n dX12_core_45 rfl ?_
      refine z_callV mlX12_292 dX12_core_46 (sh_M hE) (av := _) rfl rfl (Nat.le_of_ble_eq_true rfl) (r_allPoints _ hE hm3 hw3) (Nat.le_refl _) (Nat.le_refl _) (Nat.le_refl _) (Nat.le_refl _) ?_
      rintro _ _ ⟨rfl, rfl⟩
      refine z_callV mlX12_295 dX12_core_49 (sh_M hE) (av := [_]) rfl rfl (Nat.le_of_ble_eq_true rfl) (q_lost _ hE hm3 hw3 o3 (tAll (m3 a_c)) hA3) (Nat.le_refl _) (Nat.le_refl _) (Nat.le_refl _) (Nat.le_refl _) ?_
      rintro _ _ ⟨rfl, rfl⟩
      refine z_iconst dX12_core_52 (by decide) ?_
      refine z_ixor dX12_core_53 ?_
      have hls := tLost_lt (c := m3 a_c) (h := tH (mT m)) (co := tCo (mT m) dd) (pts := tAll (m3 a_c))
      have hlf : tAll (m3 a_c) ^^^ (tAll (m3 a_c) &&& tLost (m3 a_c) (tH (mT m)) (tCo (mT m) dd) (tAll (m3 a_c))) < 256 := Nat.xor_lt_two_pow (n := 8) hA3 (Nat.lt_of_le_of_lt Nat.and_le_left hA3)
      refine z_iand dX12_core_54 ?_
      rw [show (2 ^ (m3 a_c 2).toNat - 1 : Nat) = tAll (m3 a_c) from rfl, zandn_N (a := tAll (m3 a_c)) (by omega) (by omega)]
      rw [ec3] at hlf ⊢
      refine z_ist 3 dX12_core_55 rfl (Nat.le_of_ble_eq_true rfl) ?_
      refine z_iload_n dX12_core_56 rfl ?_
      refine z_iconst dX12_core_57 (by decide) ?_
      try dsimp only [zs0, zsI, zsP, zsN, zsJ, zsS, zst2, Nat.reduceAdd]
      refine z_icmp_eq (tgt := 74) dX12_core_58 rfl (fun h58 => ?_) (fun h58 => ?_)
      · refine z_iconst dX12_core_74 (by decide) ?_
        refine z_istore dX12_core_75 (Nat.le_of_ble_eq_true rfl) ?_
        refine z_iconst dX12_core_77 (by decide) ?_
        refine z_istore dX12_core_78 (Nat.le_of_ble_eq_true rfl) ?_
        try dsimp only [zs0, zsI, zsP, zsN, zsJ, zsS, zst2, Nat.reduceAdd]
        refine l_core (d + 14) hE hm3 _ _ o3 hw3 dd w _ hlf (tH (mT m)) 0 0 (by omega) (by omega) (by omega) ?_
        rw [Int.zero_add]
        have eA : aCore (mT m) dd w = (0, zsum (fun k => zb (((tAll (mT m).1 ^^^ (tAll (mT m).1 &&& tLost (mT m).1 (tH (mT m)) (tCo (mT m) dd) (tAll (mT m).1)))).testBit (tCo (mT m) dd k / 100).toNat = true)) (tH (mT m)) 0) := by unfold aCore; rw [if_neg (by omega), if_neg (by omega), if_neg (by omega), if_pos (by omega)]
        rw [eA]
        exact ⟨rfl, hq3⟩
      · refine z_iload_n dX12_core_61 rfl ?_
        refine z_if_ne (tgt := 72) dX12_core_62 rfl (fun h62 => ?_) (fun h62 => ?_)
        · refine z_iload_n dX12_core_72 rfl ?_
          refine z_iret dX12_core_73 rfl rfl ?_
          have eA : aCore (mT m) dd w = (0, (((tAll (mT m).1 ^^^ (tAll (mT m).1 &&& tLost (mT m).1 (tH (mT m)) (tCo (mT m) dd) (tAll (mT m).1))) : Nat) : Int)) := by unfold aCore; rw [if_neg (by omega), if_neg (by omega), if_neg (by omega), if_neg (by omega)]
          rw [eA]
          exact ⟨rfl, hq3⟩
        · refine z_iload_n dX12_core_65 rfl ?_
          refine z_callS mlX12_432 dX12_core_66 (av := [_]) rfl rfl (Nat.le_of_ble_eq_true rfl) (r_bits _ _ hlf) (Nat.le_refl _) (Nat.le_refl _) (Nat.le_refl _) (Nat.le_refl _) ?_
          rintro _ _ ⟨rfl, rfl⟩
          refine z_goto (tgt := 73) dX12_core_69 rfl ?_
          refine z_iret dX12_core_73 rfl rfl ?_
          have eA : aCore (mT m) dd w = (0, ((sPop 8 (tAll (mT m).1 ^^^ (tAll (mT m).1 &&& tLost (mT m).1 (tH (mT m)) (tCo (mT m) dd) (tAll (mT m).1))) : Nat) : Int)) := by unfold aCore; rw [if_neg (by omega), if_neg (by omega), if_pos (by omega)]
          rw [eA]
          exact ⟨rfl, hq3⟩
  · refine z_iconst dX12_core_10 (by decide) ?_
    refine z_goto (tgt := 27) dX12_core_11 rfl ?_
    refine z_callV mlX12_310 dX12_core_27 (sh_M hE) (av := [_]) rfl rfl (Nat.le_of_ble_eq_true rfl) (r_is _ hE hm _) (Nat.le_refl _) (Nat.le_refl _) (Nat.le_refl _) (Nat.le_refl _) ?_
    rintro _ m1 ⟨rfl, e1⟩
    have hq1 : mQ m m1 1 := e1 ▸ mQ_is hq0
    have hI1 := hq1.1
    have hm1 := hI1.1.1
    have eT1 := mQ_T hq1
    have ec1 : m1 a_c = m a_c := congrArg (fun q => q.1) eT1
    have ec21 : m1 a_c 2 = m a_c 2 := congrFun ec1 2
    have ew1 : m1 a_what = m a_what := congrArg (fun q => q.2.1) eT1
    have ep1 : m1 a_pointOf = m a_pointOf := congrArg (fun q => q.2.2.1) eT1
    have en1 : m1 aM f_letters = m aM f_letters := congrArg (fun q => q.2.2.2) eT1
    obtain ⟨hw1, hl1, hn1⟩ := mI_wl hI1
    refine z_ifz_ne (tgt := 35) dX12_core_30 rfl (fun h => absurd h (by decide)) (fun h30 => ?_)
    refine z_iconst dX12_core_33 (by decide) ?_
    refine z_iret dX12_core_34 rfl rfl ?_
    have eA : aCore (mT m) dd w = (1, -1) := by unfold aCore; rw [if_pos (by omega)]
    rw [eA]
    exact ⟨rfl, hq1⟩
