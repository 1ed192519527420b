def tMt (T : zT) (k : Int) : Int → Int := (tPairs T).getD k.toNat (fun _ => 0)
theorem sRings_le (nx : Nat → Nat) (n : Nat) : ∀ s k seen, sRings nx n s k seen ≤ s
  | 0, _, _ => Nat.le_refl _
  | s + 1, k, seen => by
    unfold sRings
    split
    · have := sRings_le nx n s (k + 1) seen; omega
    · have := sRings_le nx n s (k + 1) (sTrace nx n seen k); omega
theorem tRo_rg {T : zT} {mt : Int → Int} (hn : T.2.2.2 ≤ 12) : 0 ≤ tRo T mt ∧ tRo T mt ≤ 12 := by
  unfold tRo sRounds
  have := sRings_le (sNx T.2.2.2.toNat mt) T.2.2.2.toNat T.2.2.2.toNat 0 0
  omega
theorem tMt_get {T : zT} {k : Int} (h0 : 0 ≤ k) (h1 : k < ((tPairs T).length : Int)) : (tPairs T)[k.toNat]? = some (tMt T k) ∧ tMt T k ∈ tPairs T := by
  have hb : k.toNat < (tPairs T).length := by omega
  have e : tMt T k = (tPairs T)[k.toNat] := by
    unfold tMt
    rw [List.getD_eq_getElem?_getD, List.getElem?_eq_getElem hb]
    rfl
  rw [e]
  exact ⟨List.getElem?_eq_getElem hb, List.getElem_mem hb⟩
theorem mL_at {m : zM} (hk : mOK m) (h : mL m) {k : Int} (h0 : 0 ≤ k) (h1 : k < ((tPairs (mT m)).length : Int)) : (∀ i, 0 ≤ i → i < m aM f_letters → m a_table (12 * k + i) = tMt (mT m) k i) ∧ m a_sign k = tSign (mT m) (tMt (mT m) k) ∧ m a_crossings k = tCr (mT m) (tMt (mT m) k) ∧ m a_rounds k = tRo (mT m) (tMt (mT m) k) ∧ sFull (m aM f_letters).toNat (cMay (m a_c) (m a_what) (m a_pointOf)) (tMt (mT m) k) := by
  have g := tMt_get h0 h1
  have h2 := mL_row h _ _ g.1
  rw [show ((k.toNat : Nat) : Int) = k by omega] at h2
  exact ⟨h2.1, h2.2.1, h2.2.2.1, h2.2.2.2, mP_full hk _ g.2⟩
theorem mL_ro {m : zM} (hk : mOK m) (h : mL m) : ∀ k, 0 ≤ k → k < m aM f_laid → 0 ≤ m a_rounds k ∧ m a_rounds k ≤ 12 := fun k h0 h1 => by
  have hl := mL_len hk h
  rw [(mL_at hk h h0 (by omega)).2.2.2.1]
  exact tRo_rg hk.2.2.2.1
/-- the number of a diagram, by its name -/
noncomputable def tIx (T : zT) (v : Int) : Int := zfst (fun d => decide (tNm T d = v)) (tD T).length 0
theorem mN_ix {m : zM} (hk : mOK m) (hN : mN m) {k : Int} (h0 : 0 ≤ k) (h1 : k < ((tPairs (mT m)).length : Int)) : m a_diagramOf k = tIx (mT m) (tName (mT m) (tMt (mT m) k)) := by
  have g := tMt_get h0 h1
  have nD := (mN_D hN).2.2.2 _ _ g.1
  rw [show ((k.toNat : Nat) : Int) = k by omega] at nD
  have e := (nD.2.2 _ nD.1 nD.2.1).mp rfl
  unfold tIx
  rcases zfst_ge (p := fun d => decide (tNm (mT m) d = tName (mT m) (tMt (mT m) k))) (j := (tD (mT m)).length) (k := 0) (by omega) with z | z
  · have := z.2 _ nD.1 (by omega)
    rw [decide_eq_false_iff_not] at this
    exact absurd e.symm this
  · have h := z.2.2.1
    rw [decide_eq_true_eq] at h
    exact (nD.2.2 _ z.1 (by omega)).mpr h.symm
/-- rings of two pairings, one laid over the other -/
def tRg (T : zT) (k o : Int) : Nat := sRiG (fun a => 2 ^ a ||| 2 ^ (tMt T k (a : Int)).toNat) (fun a => (tMt T o ((tMt T k (a : Int)).toNat : Nat)).toNat) T.2.2.2.toNat T.2.2.2.toNat 0 0
theorem q_rings2 (d : Nat) {E : zE} {m : zM} (hE : shM E) (hm : ptM m) (hk : mOK m) (hL : mL m) {k o : Int} (h0 : 0 ≤ k) (h1 : k < ((tPairs (mT m)).length : Int)) (h2 : 0 ≤ o) (h3 : o < ((tPairs (mT m)).length : Int)) : zR zX12_ringsOf (d + 1) [zP aM, zI k, zI o] m E E (fun r m' => r = some (zI (tRg (mT m) k o : Nat)) ∧ m = m') := by
  have hl := mL_len hk hL
  have hn := (flat_wfL hk.2.1 hk.2.2.1 hk.2.2.2.1).1
  have a1 := mL_at hk hL h0 h1
  have a2 := mL_at hk hL h2 h3
  exact r_ringsOf d hE hm k o h0 (by omega) h2 (by omega) (fun a => (tMt (mT m) k (a : Int)).toNat) (fun a => (tMt (mT m) o (a : Int)).toNat) (fun a ha => by
    have g := a1.2.2.2.2.1 a (by omega) (by omega)
    rw [a1.1 a (by omega) (by omega)]
    exact ⟨by omega, by omega⟩) (fun a ha => by
    have g := a2.2.2.2.2.1 a (by omega) (by omega)
    rw [a2.1 a (by omega) (by omega)]
    exact ⟨by omega, by omega⟩) hn
def aMate (T : zT) (k i : Int) : Int × Int := if ¬ ((0 ≤ k ∧ k < ((tPairs T).length : Int)) ∧ (0 ≤ i ∧ i ≤ T.2.2.2 - 1)) then (2, -1) else (0, tMt T k i)
noncomputable def aPairing (T : zT) (k w : Int) : Int × Int := if ¬ (0 ≤ w ∧ w ≤ 4) then (1, -1) else if ¬ (0 ≤ k ∧ k < ((tPairs T).length : Int)) then (2, -1) else if w = 0 then (0, tSign T (tMt T k)) else if w = 1 then (0, tCr T (tMt T k)) else if w = 2 then (0, tHo T (tMt T k)) else if w = 3 then (0, tIx T (tName T (tMt T k))) else (0, tRo T (tMt T k))
def aWays (T : zT) (i j w : Int) : Int × Int := if ¬ (0 ≤ w ∧ w ≤ 1) then (1, -1) else if ¬ ((0 ≤ i ∧ i ≤ T.2.2.2 - 1) ∧ (0 ≤ j ∧ j ≤ T.2.2.2 - 1)) then (2, -1) else if i = j then (4, -1) else (0, tS T (fun mt => if mt i = j then (if w = 0 then 1 else tSign T mt) else 0))
def aOverlay (T : zT) (k o w : Int) : Int × Int := if ¬ (0 ≤ w ∧ w ≤ 1) then (1, -1) else if ¬ ((0 ≤ k ∧ k < ((tPairs T).length : Int)) ∧ (0 ≤ o ∧ o < ((tPairs T).length : Int))) then (2, -1) else if w = 1 then (0, (tRg T k o : Int)) else (0, zsum (fun i => zb (tMt T k i = tMt T o i)) T.2.2.2.toNat 0 / 2)
def aBy (T : zT) (wh nu sg : Int) : Int × Int := if ¬ ((0 ≤ wh ∧ wh ≤ 1) ∧ 0 ≤ nu) then (1, -1) else (0, tS T (fun mt => if (if wh = 0 then tCr T mt else tHo T mt) = nu then (if sg = 0 then 1 else tSign T mt) else 0))
theorem q_mate (d : Nat) {E : zE} {m : zM} (hE : shM E) (hI : mI m) (k i : Int)  : zR zX12_mate (d + 12) [zP aM, zI k, zI i] m E E (fun r m' => r = some (zI (aMate (mT m) k i).2) ∧ mQ m m' (aMate (mT m) k i).1) := by
  have hm := hI.1.1
  obtain ⟨hw, hl, hn⟩ := mI_wl hI
  have hq0 := mQ_rf hI
  have eT0 : mT m = mT m := rfl
  have t4 : (mT m).2.2.2 = m aM f_letters := rfl
  have t0 : (mT m).1 0 = m a_c 0 := rfl
  have t1 : (mT m).1 1 = m a_c 1 := rfl
  have t2 : (mT m).1 2 = m a_c 2 := rfl
  have b1 := hw.1
  have b2 := hw.2.1
  have b3 := hw.2.2.1
  refine zR_go [zP aM, zI k, zI i] (by decide +kernel) (Nat.le_of_ble_eq_true rfl) rfl rfl ?_
  refine z_aload_n dX12_mate_0 rfl ?_
  refine z_aload_n dX12_mate_1 rfl ?_
  refine z_iload_n dX12_mate_2 rfl ?_
  refine z_callV mlX12_359 dX12_mate_3 (sh_M hE) (av := [_]) rfl rfl (Nat.le_of_ble_eq_true rfl) (q_isPairing _ hE hI k) (Nat.le_refl _) (Nat.le_refl _) (Nat.le_refl _) (Nat.le_refl _) ?_
  rintro _ m1 ⟨rfl, g1, f1, hL1⟩
  have hq1 := mQ_lays hq0 g1 f1
  have hI1 := hq1.1
  have hm1 := hI1.1.1
  have eT1 := mQ_T hq1
  have ec1 : m1 a_c = m a_c := congrArg (fun q => q.1) eT1
  have ew1 : m1 a_what = m a_what := congrArg (fun q => q.2.1) eT1
  have ep1 : m1 a_pointOf = m a_pointOf := congrArg (fun q => q.2.2.1) eT1
  have en1 : m1 aM f_letters = m aM f_letters := congrArg (fun q => q.2.2.2) eT1
  obtain ⟨hw1, hl1, hn1⟩ := mI_wl hI1
  have hlen1 := mL_len hI1.1 hL1
  have hsg1 := mL_sg hI1.1 hL1
  refine z_ifz_eq (tgt := 21) dX12_mate_6 rfl (fun h6 => ?_) (fun h6 => ?_)
  · refine z_iconst dX12_mate_21 (by decide) ?_
    refine z_callV mlX12_310 dX12_mate_22 (sh_M hE) (av := [_]) rfl rfl (Nat.le_of_ble_eq_true rfl) (r_is _ hE hm1 _) (Nat.le_refl _) (Nat.le_refl _) (Nat.le_refl _) (Nat.le_refl _) ?_
    rintro _ m2 ⟨rfl, e2⟩
    have hq2 : mQ m m2 2 := e2 ▸ mQ_is hq1
    have hI2 := hq2.1
    have hm2 := hI2.1.1
    have eT2 := mQ_T hq2
    have ec2 : m2 a_c = m a_c := congrArg (fun q => q.1) eT2
    have ew2 : m2 a_what = m a_what := congrArg (fun q => q.2.1) eT2
    have ep2 : m2 a_pointOf = m a_pointOf := congrArg (fun q => q.2.2.1) eT2
    have en2 : m2 aM f_letters = m aM f_letters := congrArg (fun q => q.2.2.2) eT2
    obtain ⟨hw2, hl2, hn2⟩ := mI_wl hI2
    have hL2 : mL m2 := e2 ▸ mL_S hL1
    refine z_ifz_eq (tgt := 37) dX12_mate_25 rfl (fun h25 => ?_) (fun h => absurd h (by decide))
    refine z_iconst dX12_mate_37 (by decide) ?_
    refine z_iret dX12_mate_38 rfl rfl ?_
    have eA : aMate (mT m) k i = (2, -1) := by unfold aMate; rw [if_pos (by omega)]
    rw [eA]
    exact ⟨rfl, hq2⟩
  · refine z_aload_n dX12_mate_9 rfl ?_
    refine z_iload_n dX12_mate_10 rfl ?_
    refine z_callV mlX12_329 dX12_mate_11 (sh_M hE) (av := [_]) rfl rfl (Nat.le_of_ble_eq_true rfl) (r_isLetter _ hE hm1 i hn1) (Nat.le_refl _) (Nat.le_refl _) (Nat.le_refl _) (Nat.le_refl _) ?_
    rintro _ _ ⟨rfl, rfl⟩
    refine z_ifz_eq (tgt := 21) dX12_mate_14 rfl (fun h14 => ?_) (fun h14 => ?_)
    · refine z_iconst dX12_mate_21 (by decide) ?_
      refine z_callV mlX12_310 dX12_mate_22 (sh_M hE) (av := [_]) rfl rfl (Nat.le_of_ble_eq_true rfl) (r_is _ hE hm1 _) (Nat.le_refl _) (Nat.le_refl _) (Nat.le_refl _) (Nat.le_refl _) ?_
      rintro _ m2 ⟨rfl, e2⟩
      have hq2 : mQ m m2 2 := e2 ▸ mQ_is hq1
      have hI2 := hq2.1
      have hm2 := hI2.1.1
      have eT2 := mQ_T hq2
      have ec2 : m2 a_c = m a_c := congrArg (fun q => q.1) eT2
      have ew2 : m2 a_what = m a_what := congrArg (fun q => q.2.1) eT2
      have ep2 : m2 a_pointOf = m a_pointOf := congrArg (fun q => q.2.2.1) eT2
      have en2 : m2 aM f_letters = m aM f_letters := congrArg (fun q => q.2.2.2) eT2
      obtain ⟨hw2, hl2, hn2⟩ := mI_wl hI2
      have hL2 : mL m2 := e2 ▸ mL_S hL1
      refine z_ifz_eq (tgt := 37) dX12_mate_25 rfl (fun h25 => ?_) (fun h => absurd h (by decide))
      refine z_iconst dX12_mate_37 (by decide) ?_
      refine z_iret dX12_mate_38 rfl rfl ?_
      have eA : aMate (mT m) k i = (2, -1) := by unfold aMate; rw [if_pos (by omega)]
      rw [eA]
      exact ⟨rfl, hq2⟩
    · refine z_iconst dX12_mate_17 (by decide) ?_
      refine z_goto (tgt := 22) dX12_mate_18 rfl ?_
      refine z_callV mlX12_310 dX12_mate_22 (sh_M hE) (av := [_]) rfl rfl (Nat.le_of_ble_eq_true rfl) (r_is _ hE hm1 _) (Nat.le_refl _) (Nat.le_refl _) (Nat.le_refl _) (Nat.le_refl _) ?_
      rintro _ m2 ⟨rfl, e2⟩
      have hq2 : mQ m m2 0 := e2 ▸ mQ_is hq1
      have hI2 := hq2.1
      have hm2 := hI2.1.1
      have eT2 := mQ_T hq2
      have ec2 : m2 a_c = m a_c := congrArg (fun q => q.1) eT2
      have ew2 : m2 a_what = m a_what := congrArg (fun q => q.2.1) eT2
      have ep2 : m2 a_pointOf = m a_pointOf := congrArg (fun q => q.2.2.1) eT2
      have en2 : m2 aM f_letters = m aM f_letters := congrArg (fun q => q.2.2.2) eT2
      obtain ⟨hw2, hl2, hn2⟩ := mI_wl hI2
      have hL2 : mL m2 := e2 ▸ mL_S hL1
      refine z_ifz_eq (tgt := 37) dX12_mate_25 rfl (fun h => absurd (by decide) h) (fun h25 => ?_)
      refine z_aload_n dX12_mate_28 rfl ?_
      refine z_iload_n dX12_mate_29 rfl ?_
      refine z_iload_n dX12_mate_30 rfl ?_
      refine z_callV mlX12_200 dX12_mate_31 (sh_M hE) (av := [_, _]) rfl rfl (Nat.le_of_ble_eq_true rfl) (r_mateOf _ hE hm2 k i (by omega) (by have := mL_len hI2.1 hL2; rw [eT2] at this; omega) (by omega) (by omega)) (Nat.le_refl _) (Nat.le_refl _) (Nat.le_refl _) (Nat.le_refl _) ?_
      rintro _ _ ⟨rfl, rfl⟩
      have hat := mL_at hI2.1 hL2 (k := k) (by omega) (by rw [eT2]; omega)
      refine z_goto (tgt := 38) dX12_mate_34 rfl ?_
      refine z_iret dX12_mate_38 rfl rfl ?_
      rw [hat.1 i (by omega) (by omega), eT2]
      have eA : aMate (mT m) k i = (0, tMt (mT m) k i) := by unfold aMate; rw [if_neg (by omega)]
      rw [eA]
      exact ⟨rfl, hq2⟩

theorem q_diagramOf (d : Nat) {E : zE} {m : zM} (hE : shM E) (hI : mI m) (k : Int) (h0 : 0 ≤ k) (hk : k < ((tPairs (mT m)).length : Int)) : zR zX12_diagramOf (d + 14) [zP aM, zI k] m E E (fun r m' => r = some (zI (tIx (mT m) (tName (mT m) (tMt (mT m) k)))) ∧ mI m' ∧ zfr fNames m m') := by
  have hm := hI.1.1
  obtain ⟨hw, hl, hn0⟩ := mI_wl hI
  have b1 := hw.1
  have b2 := hw.2.1
  have b3 := hw.2.2.1
  refine zR_go [zP aM, zI k] (by decide +kernel) (Nat.le_of_ble_eq_true rfl) rfl rfl ?_
  refine z_aload_n dX12_diagramOf_0 rfl ?_
  refine z_callV mlX12_273 dX12_diagramOf_1 (sh_M hE) (av := _) rfl rfl (Nat.le_of_ble_eq_true rfl) (q_names _ hE hI) (Nat.le_refl _) (Nat.le_refl _) (Nat.le_refl _) (Nat.le_refl _) ?_
  rintro _ m1 ⟨rfl, hI1, f1, hL1, hN1⟩
  have hm1 := hI1.1.1
  have eT : mT m1 = mT m := mT_fr f1 (by decide)
  have hlen := mL_len hI1.1 hL1
  rw [eT] at hlen
  refine z_aload_n dX12_diagramOf_4 rfl ?_
  refine z_gP 11 rfl (r := a_diagramOf) flX12_38 dX12_diagramOf_5 (sh_M hE) rfl (pt_diagramOf hm1) (by decide) ?_
  refine z_iload_n dX12_diagramOf_8 rfl ?_
  refine z_iald dX12_diagramOf_9 (sh_diagramOf hE) (by omega) (by omega) ?_
  refine z_iret dX12_diagramOf_10 rfl rfl ?_
  exact ⟨by rw [mN_ix hI1.1 hN1 h0 (by rw [eT]; exact hk), eT], hI1, f1⟩

theorem q_pairing (d : Nat) {E : zE} {m : zM} (hE : shM E) (hI : mI m) (k w : Int)  : zR zX12_pairing (d + 15) [zP aM, zI k, zI w] m E E (fun r m' => r = some (zI (aPairing (mT m) k w).2) ∧ mQ m m' (aPairing (mT m) k w).1) := by
  have hm := hI.1.1
  obtain ⟨hw, hl, hn⟩ := mI_wl hI
  have hq0 := mQ_rf hI
  have eT0 : mT m = mT m := rfl
  have t4 : (mT m).2.2.2 = m aM f_letters := rfl
  have t0 : (mT m).1 0 = m a_c 0 := rfl
  have t1 : (mT m).1 1 = m a_c 1 := rfl
  have t2 : (mT m).1 2 = m a_c 2 := rfl
  have b1 := hw.1
  have b2 := hw.2.1
  have b3 := hw.2.2.1
  refine zR_go [zP aM, zI k, zI w] (by decide +kernel) (Nat.le_of_ble_eq_true rfl) rfl rfl ?_
  refine z_aload_n dX12_pairing_0 rfl ?_
  refine z_iload_n dX12_pairing_1 rfl ?_
  refine z_iconst dX12_pairing_2 (by decide) ?_
  refine z_iconst dX12_pairing_3 (by decide) ?_
  refine z_callS mlX12_140 dX12_pairing_4 (av := [_, _, _]) rfl rfl (Nat.le_of_ble_eq_true rfl) (r_isIn _ hE hm w 0 4) (Nat.le_refl _) (Nat.le_refl _) (Nat.le_refl _) (Nat.le_refl _) ?_
  rintro _ _ ⟨rfl, rfl⟩
  refine z_ifz_ne (tgt := 14) dX12_pairing_7 rfl (fun h7 => ?_) (fun h7 => ?_)
  · refine z_aload_n dX12_pairing_14 rfl ?_
    refine z_iload_n dX12_pairing_15 rfl ?_
    refine z_callV mlX12_359 dX12_pairing_16 (sh_M hE) (av := [_]) rfl rfl (Nat.le_of_ble_eq_true rfl) (q_isPairing _ hE hI k) (Nat.le_refl _) (Nat.le_refl _) (Nat.le_refl _) (Nat.le_refl _) ?_
    rintro _ m1 ⟨rfl, g1, f1, hL1⟩
    have hq1 := mQ_lays hq0 g1 f1
    have hI1 := hq1.1
    have hm1 := hI1.1.1
    have eT1 := mQ_T hq1
    have ec1 : m1 a_c = m a_c := congrArg (fun q => q.1) eT1
    have ew1 : m1 a_what = m a_what := congrArg (fun q => q.2.1) eT1
    have ep1 : m1 a_pointOf = m a_pointOf := congrArg (fun q => q.2.2.1) eT1
    have en1 : m1 aM f_letters = m aM f_letters := congrArg (fun q => q.2.2.2) eT1
    obtain ⟨hw1, hl1, hn1⟩ := mI_wl hI1
    have hlen1 := mL_len hI1.1 hL1
    have hsg1 := mL_sg hI1.1 hL1
    refine z_ifz_eq (tgt := 26) dX12_pairing_19 rfl (fun h19 => ?_) (fun h19 => ?_)
    · refine z_iconst dX12_pairing_26 (by decide) ?_
      refine z_callV mlX12_310 dX12_pairing_27 (sh_M hE) (av := [_]) rfl rfl (Nat.le_of_ble_eq_true rfl) (r_is _ hE hm1 _) (Nat.le_refl _) (Nat.le_refl _) (Nat.le_refl _) (Nat.le_refl _) ?_
      rintro _ m2 ⟨rfl, e2⟩
      have hq2 : mQ m m2 2 := e2 ▸ mQ_is hq1
      have hI2 := hq2.1
      have hm2 := hI2.1.1
      have eT2 := mQ_T hq2
      have ec2 : m2 a_c = m a_c := congrArg (fun q => q.1) eT2
      have ew2 : m2 a_what = m a_what := congrArg (fun q => q.2.1) eT2
      have ep2 : m2 a_pointOf = m a_pointOf := congrArg (fun q => q.2.2.1) eT2
      have en2 : m2 aM f_letters = m aM f_letters := congrArg (fun q => q.2.2.2) eT2
      obtain ⟨hw2, hl2, hn2⟩ := mI_wl hI2
      have hL2 : mL m2 := e2 ▸ mL_S hL1
      refine z_ifz_ne (tgt := 35) dX12_pairing_30 rfl (fun h => absurd h (by decide)) (fun h30 => ?_)
      refine z_iconst dX12_pairing_33 (by decide) ?_
      refine z_iret dX12_pairing_34 rfl rfl ?_
      have eA : aPairing (mT m) k w = (2, -1) := by unfold aPairing; rw [if_neg (by omega), if_pos (by omega)]
      rw [eA]
      exact ⟨rfl, hq2⟩
    · refine z_iconst dX12_pairing_22 (by decide) ?_
      refine z_goto (tgt := 27) dX12_pairing_23 rfl ?_
      refine z_callV mlX12_310 dX12_pairing_27 (sh_M hE) (av := [_]) rfl rfl (Nat.le_of_ble_eq_true rfl) (r_is _ hE hm1 _) (Nat.le_refl _) (Nat.le_refl _) (Nat.le_refl _) (Nat.le_refl _) ?_
      rintro _ m2 ⟨rfl, e2⟩
      have hq2 : mQ m m2 0 := e2 ▸ mQ_is hq1
      have hI2 := hq2.1
      have hm2 := hI2.1.1
      have eT2 := mQ_T hq2
      have ec2 : m2 a_c = m a_c := congrArg (fun q => q.1) eT2
      have ew2 : m2 a_what = m a_what := congrArg (fun q => q.2.1) eT2
      have ep2 : m2 a_pointOf = m a_pointOf := congrArg (fun q => q.2.2.1) eT2
      have en2 : m2 aM f_letters = m aM f_letters := congrArg (fun q => q.2.2.2) eT2
      obtain ⟨hw2, hl2, hn2⟩ := mI_wl hI2
      have hL2 : mL m2 := e2 ▸ mL_S hL1
      refine z_ifz_ne (tgt := 35) dX12_pairing_30 rfl (fun h30 => ?_) (fun h => absurd (by decide) h)
      refine z_iload_n dX12_pairing_35 rfl ?_
      have hlk := mL_len hI2.1 hL2
      have hat := mL_at hI2.1 hL2 (k := k) (by omega) (by rw [eT2]; omega)
      rw [eT2] at hlk
      have hrk : 0 ≤ m2 a_rounds k ∧ m2 a_rounds k ≤ 12 := by rw [hat.2.2.2.1]; exact tRo_rg hn2.2
      by_cases hs0 : w = 0
      · refine z_tabIn (tgt := 68) dX12_pairing_36 (by omega) (by omega) (by rw [hs0]; rfl) rfl ?_
        refine z_aload_n dX12_pairing_68 rfl ?_
        refine z_gP 8 rfl (r := a_sign) flX12_29 dX12_pairing_69 (sh_M hE) rfl (pt_sign hm2) (by decide) ?_
        refine z_iload_n dX12_pairing_72 rfl ?_
        refine z_iald dX12_pairing_73 (sh_sign hE) (by omega) (by omega) ?_
        refine z_iret dX12_pairing_74 rfl rfl ?_
        rw [hat.2.1, eT2]
        have eA : aPairing (mT m) k w = (0, tSign (mT m) (tMt (mT m) k)) := by unfold aPairing; rw [if_neg (by omega), if_neg (by omega), if_pos (by omega)]
        rw [eA]
        exact ⟨rfl, hq2⟩
      by_cases hs1 : w = 1
      · refine z_tabIn (tgt := 75) dX12_pairing_36 (by omega) (by omega) (by rw [hs1]; rfl) rfl ?_
        refine z_aload_n dX12_pairing_75 rfl ?_
        refine z_gP 9 rfl (r := a_crossings) flX12_32 dX12_pairing_76 (sh_M hE) rfl (pt_crossings hm2) (by decide) ?_
        refine z_iload_n dX12_pairing_79 rfl ?_
        refine z_iald dX12_pairing_80 (sh_crossings hE) (by omega) (by omega) ?_
        refine z_iret dX12_pairing_81 rfl rfl ?_
        rw [hat.2.2.1, eT2]
        have eA : aPairing (mT m) k w = (0, tCr (mT m) (tMt (mT m) k)) := by unfold aPairing; rw [if_neg (by omega), if_neg (by omega), if_neg (by omega), if_pos (by omega)]
        rw [eA]
        exact ⟨rfl, hq2⟩
      by_cases hs2 : w = 2
      · refine z_tabIn (tgt := 82) dX12_pairing_36 (by omega) (by omega) (by rw [hs2]; rfl) rfl ?_
        refine z_aload_n dX12_pairing_82 rfl ?_
        refine z_iload_n dX12_pairing_83 rfl ?_
        refine z_callV mlX12_362 dX12_pairing_84 (sh_M hE) (av := [_]) rfl rfl (Nat.le_of_ble_eq_true rfl) (r_holesOf _ hE hm2 k hn2 (by omega) (by omega) hrk) (Nat.le_refl _) (Nat.le_refl _) (Nat.le_refl _) (Nat.le_refl _) ?_
        rintro _ _ ⟨rfl, rfl⟩
        refine z_iret dX12_pairing_87 rfl rfl ?_
        rw [hat.2.2.2.1, en2, eT2]
        have eA : aPairing (mT m) k w = (0, tHo (mT m) (tMt (mT m) k)) := by unfold aPairing; rw [if_neg (by omega), if_neg (by omega), if_neg (by omega), if_neg (by omega), if_pos (by omega)]
        rw [eA]
        exact ⟨rfl, hq2⟩
      by_cases hs3 : w = 3
      · refine z_tabIn (tgt := 88) dX12_pairing_36 (by omega) (by omega) (by rw [hs3]; rfl) rfl ?_
        refine z_aload_n dX12_pairing_88 rfl ?_
        refine z_iload_n dX12_pairing_89 rfl ?_
        refine z_callV mlX12_365 dX12_pairing_90 (sh_M hE) (av := [_]) rfl rfl (Nat.le_of_ble_eq_true rfl) (q_diagramOf _ hE hI2 k (by omega) (by rw [eT2]; omega)) (Nat.le_refl _) (Nat.le_refl _) (Nat.le_refl _) (Nat.le_refl _) ?_
        rintro _ m9 ⟨rfl, hI9, f9⟩
        refine z_iret dX12_pairing_93 rfl rfl ?_
        rw [eT2]
        have eA : aPairing (mT m) k w = (0, tIx (mT m) (tName (mT m) (tMt (mT m) k))) := by unfold aPairing; rw [if_neg (by omega), if_neg (by omega), if_neg (by omega), if_neg (by omega), if_neg (by omega), if_pos (by omega)]
        rw [eA]
        exact ⟨rfl, mQ_names hq2 hI9 f9⟩
      refine z_tabOut (tgt := 94) dX12_pairing_36 (by omega) rfl ?_
      refine z_aload_n dX12_pairing_94 rfl ?_
      refine z_gP 10 rfl (r := a_rounds) flX12_35 dX12_pairing_95 (sh_M hE) rfl (pt_rounds hm2) (by decide) ?_
      refine z_iload_n dX12_pairing_98 rfl ?_
      refine z_iald dX12_pairing_99 (sh_rounds hE) (by omega) (by omega) ?_
      refine z_iret dX12_pairing_100 rfl rfl ?_
      rw [hat.2.2.2.1, eT2]
      have eA : aPairing (mT m) k w = (0, tRo (mT m) (tMt (mT m) k)) := by unfold aPairing; rw [if_neg (by omega), if_neg (by omega), if_neg (by omega), if_neg (by omega), if_neg (by omega), if_neg (by omega)]
      rw [eA]
      exact ⟨rfl, hq2⟩
  · refine z_iconst dX12_pairing_10 (by decide) ?_
    refine z_goto (tgt := 27) dX12_pairing_11 rfl ?_
    refine z_callV mlX12_310 dX12_pairing_27 (sh_M hE) (av := [_]) rfl rfl (Nat.le_of_ble_eq_true rfl) (r_is _ hE hm _) (Nat.le_refl _) (Nat.le_refl _) (Nat.le_refl _) (Nat.le_refl _) ?_
    rintro _ m1 ⟨rfl, e1⟩
    have hq1 : mQ m m1 1 := e1 ▸ mQ_is hq0
    have hI1 := hq1.1
    have hm1 := hI1.1.1
    have eT1 := mQ_T hq1
    have ec1 : m1 a_c = m a_c := congrArg (fun q => q.1) eT1
    have ew1 : m1 a_what = m a_what := congrArg (fun q => q.2.1) eT1
    have ep1 : m1 a_pointOf = m a_pointOf := congrArg (fun q => q.2.2.1) eT1
    have en1 : m1 aM f_letters = m aM f_letters := congrArg (fun q => q.2.2.2) eT1
    obtain ⟨hw1, hl1, hn1⟩ := mI_wl hI1
    refine z_ifz_ne (tgt := 35) dX12_pairing_30 rfl (fun h => absurd h (by decide)) (fun h30 => ?_)
    refine z_iconst dX12_pairing_33 (by decide) ?_
    refine z_iret dX12_pairing_34 rfl rfl ?_
    have eA : aPairing (mT m) k w = (1, -1) := by unfold aPairing; rw [if_pos (by omega)]
    rw [eA]
    exact ⟨rfl, hq1⟩

theorem l_ways (d : Nat) {E : zE} {m : zM} {P : Option zV → zM → Prop} (hE : shM E) (hm : ptM m) (i jj w : Int) (hi : 0 ≤ i ∧ i < 12) (hd : 0 ≤ m aM f_laid ∧ m aM f_laid ≤ 10395) (hs : ∀ k, 0 ≤ k → k < m aM f_laid → m a_sign k = 1 ∨ m a_sign k = -1)  : ∀ (j : Nat) (k n : Int), (0 ≤ k) → (k + j = m aM f_laid) → (-k ≤ n ∧ n ≤ k) → (P (some (zI (n + zsum (fun k => if m a_table (12 * k + i) = jj then (if w = 0 then 1 else m a_sign k) else 0) j k))) m) → zA zX12_ways (d + 1) E E P 62 [zP aM, zI i, zI jj, zI w, zI n, zI k] [] m E := by
  intro j
  induction j with
  | zero =>
    intro k n h0 hk hn hP
    refine z_iload dX12_ways_62 rfl ?_
    refine z_aload_n dX12_ways_64 rfl ?_
    refine z_gI f_laid rfl flX12_172 dX12_ways_65 (sh_M hE) rfl ?_
    refine z_icmp_ge (tgt := 108) dX12_ways_68 rfl (fun h68 => ?_) (fun h => absurd (by omega) h)
    refine z_iload dX12_ways_108 rfl ?_
    refine z_iret dX12_ways_110 rfl rfl ?_
    rw [zsum_0, Int.add_zero] at hP
    exact hP
  | succ j ih =>
    intro k n h0 hk hn hP
    refine z_iload dX12_ways_62 rfl ?_
    refine z_aload_n dX12_ways_64 rfl ?_
    refine z_gI f_laid rfl flX12_172 dX12_ways_65 (sh_M hE) rfl ?_
    refine z_icmp_ge (tgt := 108) dX12_ways_68 rfl (fun h => absurd h (by omega)) (fun h68 => ?_)
    refine z_aload_n dX12_ways_71 rfl ?_
    refine z_iload dX12_ways_72 rfl ?_
    refine z_iload_n dX12_ways_74 rfl ?_
    refine z_callV mlX12_200 dX12_ways_75 (sh_M hE) (av := [_, _]) rfl rfl (Nat.le_of_ble_eq_true rfl) (r_mateOf _ hE hm k i h0 (by omega) hi.1 hi.2) (Nat.le_refl _) (Nat.le_refl _) (Nat.le_refl _) (Nat.le_refl _) ?_
    rintro _ _ ⟨rfl, rfl⟩
    refine z_iload_n dX12_ways_78 rfl ?_
    refine z_icmp_ne (tgt := 102) dX12_ways_79 rfl (fun h79 => ?_) (fun h79 => ?_)
    · refine z_inc dX12_ways_102 rfl (by have := hs k; omega) ?_
      refine z_goto (tgt := 62) dX12_ways_105 rfl ?_
      try dsimp only [zs0, zsI, zsP, zsN, zsJ, zsS, zst2, Nat.reduceAdd]
      have hsk := hs k h0 (by omega)
      rw [zsum_s, ← Int.add_assoc, if_neg (by omega), Int.add_zero] at hP
      exact ih (k + 1) _ (by omega) (by omega) (by omega) hP
    · refine z_iload dX12_ways_82 rfl ?_
      refine z_iload_n dX12_ways_84 rfl ?_
      refine z_if_ne (tgt := 92) dX12_ways_85 rfl (fun h85 => ?_) (fun h85 => ?_)
      · refine z_aload_n dX12_ways_92 rfl ?_
        refine z_gP 8 rfl (r := a_sign) flX12_29 dX12_ways_93 (sh_M hE) rfl (pt_sign hm) (by decide) ?_
        refine z_iload dX12_ways_96 rfl ?_
        refine z_iald dX12_ways_98 (sh_sign hE) (by have := hs k; omega) (by have := hs k; omega) ?_
        refine z_add dX12_ways_99 (by have := hs k; omega) ?_
        refine z_istore dX12_ways_100 (Nat.le_of_ble_eq_true rfl) ?_
        refine z_inc dX12_ways_102 rfl (by have := hs k; omega) ?_
        refine z_goto (tgt := 62) dX12_ways_105 rfl ?_
        try dsimp only [zs0, zsI, zsP, zsN, zsJ, zsS, zst2, Nat.reduceAdd]
        have hsk := hs k h0 (by omega)
        rw [zsum_s, ← Int.add_assoc, if_pos (by omega), if_neg (by omega)] at hP
        exact ih (k + 1) _ (by omega) (by omega) (by omega) hP
      · refine z_iconst dX12_ways_88 (by decide) ?_
        refine z_goto (tgt := 99) dX12_ways_89 rfl ?_
        refine z_add dX12_ways_99 (by have := hs k; omega) ?_
        refine z_istore dX12_ways_100 (Nat.le_of_ble_eq_true rfl) ?_
        refine z_inc dX12_ways_102 rfl (by have := hs k; omega) ?_
        refine z_goto (tgt := 62) dX12_ways_105 rfl ?_
        try dsimp only [zs0, zsI, zsP, zsN, zsJ, zsS, zst2, Nat.reduceAdd]
        have hsk := hs k h0 (by omega)
        rw [zsum_s, ← Int.add_assoc, if_pos (by omega), if_pos (by omega)] at hP
        exact ih (k + 1) _ (by omega) (by omega) (by omega) hP

theorem q_ways (d : Nat) {E : zE} {m : zM} (hE : shM E) (hI : mI m) (i jj w : Int)  : zR zX12_ways (d + 11) [zP aM, zI i, zI jj, zI w] m E E (fun r m' => r = some (zI (aWays (mT m) i jj w).2) ∧ mQ m m' (aWays (mT m) i jj w).1) := by
  have hm := hI.1.1
  obtain ⟨hw, hl, hn⟩ := mI_wl hI
  have hq0 := mQ_rf hI
  have eT0 : mT m = mT m := rfl
  have t4 : (mT m).2.2.2 = m aM f_letters := rfl
  have t0 : (mT m).1 0 = m a_c 0 := rfl
  have t1 : (mT m).1 1 = m a_c 1 := rfl
  have t2 : (mT m).1 2 = m a_c 2 := rfl
  have b1 := hw.1
  have b2 := hw.2.1
  have b3 := hw.2.2.1
  refine zR_go [zP aM, zI i, zI jj, zI w, zN, zN] (by decide +kernel) (Nat.le_of_ble_eq_true rfl) rfl rfl ?_
  refine z_aload_n dX12_ways_0 rfl ?_
  refine z_iload_n dX12_ways_1 rfl ?_
  refine z_iconst dX12_ways_2 (by decide) ?_
  refine z_iconst dX12_ways_3 (by decide) ?_
  refine z_callS mlX12_140 dX12_ways_4 (av := [_, _, _]) rfl rfl (Nat.le_of_ble_eq_true rfl) (r_isIn _ hE hm w 0 1) (Nat.le_refl _) (Nat.le_refl _) (Nat.le_refl _) (Nat.le_refl _) ?_
  rintro _ _ ⟨rfl, rfl⟩
  refine z_ifz_ne (tgt := 14) dX12_ways_7 rfl (fun h7 => ?_) (fun h7 => ?_)
  · refine z_aload_n dX12_ways_14 rfl ?_
    refine z_iload_n dX12_ways_15 rfl ?_
    refine z_callV mlX12_329 dX12_ways_16 (sh_M hE) (av := [_]) rfl rfl (Nat.le_of_ble_eq_true rfl) (r_isLetter _ hE hm i hn) (Nat.le_refl _) (Nat.le_refl _) (Nat.le_refl _) (Nat.le_refl _) ?_
    rintro _ _ ⟨rfl, rfl⟩
    refine z_ifz_eq (tgt := 30) dX12_ways_19 rfl (fun h19 => ?_) (fun h19 => ?_)
    · refine z_iconst dX12_ways_30 (by decide) ?_
      refine z_goto (tgt := 44) dX12_ways_31 rfl ?_
      refine z_callV mlX12_310 dX12_ways_44 (sh_M hE) (av := [_]) rfl rfl (Nat.le_of_ble_eq_true rfl) (r_is _ hE hm _) (Nat.le_refl _) (Nat.le_refl _) (Nat.le_refl _) (Nat.le_refl _) ?_
      rintro _ m1 ⟨rfl, e1⟩
      have hq1 : mQ m m1 2 := e1 ▸ mQ_is hq0
      have hI1 := hq1.1
      have hm1 := hI1.1.1
      have eT1 := mQ_T hq1
      have ec1 : m1 a_c = m a_c := congrArg (fun q => q.1) eT1
      have ew1 : m1 a_what = m a_what := congrArg (fun q => q.2.1) eT1
      have ep1 : m1 a_pointOf = m a_pointOf := congrArg (fun q => q.2.2.1) eT1
      have en1 : m1 aM f_letters = m aM f_letters := congrArg (fun q => q.2.2.2) eT1
      obtain ⟨hw1, hl1, hn1⟩ := mI_wl hI1
      refine z_ifz_ne (tgt := 52) dX12_ways_47 rfl (fun h => absurd h (by decide)) (fun h47 => ?_)
      refine z_iconst dX12_ways_50 (by decide) ?_
      refine z_iret dX12_ways_51 rfl rfl ?_
      have eA : aWays (mT m) i jj w = (2, -1) := by unfold aWays; rw [if_neg (by omega), if_pos (by omega)]
      rw [eA]
      exact ⟨rfl, hq1⟩
    · refine z_aload_n dX12_ways_22 rfl ?_
      refine z_iload_n dX12_ways_23 rfl ?_
      refine z_callV mlX12_329 dX12_ways_24 (sh_M hE) (av := [_]) rfl rfl (Nat.le_of_ble_eq_true rfl) (r_isLetter _ hE hm jj hn) (Nat.le_refl _) (Nat.le_refl _) (Nat.le_refl _) (Nat.le_refl _) ?_
      rintro _ _ ⟨rfl, rfl⟩
      refine z_ifz_ne (tgt := 34) dX12_ways_27 rfl (fun h27 => ?_) (fun h27 => ?_)
      · refine z_iload_n dX12_ways_34 rfl ?_
        refine z_iload_n dX12_ways_35 rfl ?_
        refine z_icmp_ne (tgt := 43) dX12_ways_36 rfl (fun h36 => ?_) (fun h36 => ?_)
        · refine z_iconst dX12_ways_43 (by decide) ?_
          refine z_callV mlX12_310 dX12_ways_44 (sh_M hE) (av := [_]) rfl rfl (Nat.le_of_ble_eq_true rfl) (r_is _ hE hm _) (Nat.le_refl _) (Nat.le_refl _) (Nat.le_refl _) (Nat.le_refl _) ?_
          rintro _ m1 ⟨rfl, e1⟩
          have hq1 : mQ m m1 0 := e1 ▸ mQ_is hq0
          have hI1 := hq1.1
          have hm1 := hI1.1.1
          have eT1 := mQ_T hq1
          have ec1 : m1 a_c = m a_c := congrArg (fun q => q.1) eT1
          have ew1 : m1 a_what = m a_what := congrArg (fun q => q.2.1) eT1
          have ep1 : m1 a_pointOf = m a_pointOf := congrArg (fun q => q.2.2.1) eT1
          have en1 : m1 aM f_letters = m aM f_letters := congrArg (fun q => q.2.2.2) eT1
          obtain ⟨hw1, hl1, hn1⟩ := mI_wl hI1
          refine z_ifz_ne (tgt := 52) dX12_ways_47 rfl (fun h47 => ?_) (fun h => absurd (by decide) h)
          refine z_aload_n dX12_ways_52 rfl ?_
          refine z_callV mlX12_194 dX12_ways_53 (sh_M hE) (av := _) rfl rfl (Nat.le_of_ble_eq_true rfl) (q_lays _ hE hI1) (Nat.le_refl _) (Nat.le_refl _) (Nat.le_refl _) (Nat.le_refl _) ?_
          rintro _ m2 ⟨rfl, g2, f2, hL2⟩
          have hq2 := mQ_lays hq1 g2 f2
          have hI2 := hq2.1
          have hm2 := hI2.1.1
          have eT2 := mQ_T hq2
          have ec2 : m2 a_c = m a_c := congrArg (fun q => q.1) eT2
          have ew2 : m2 a_what = m a_what := congrArg (fun q => q.2.1) eT2
          have ep2 : m2 a_pointOf = m a_pointOf := congrArg (fun q => q.2.2.1) eT2
          have en2 : m2 aM f_letters = m aM f_letters := congrArg (fun q => q.2.2.2) eT2
          obtain ⟨hw2, hl2, hn2⟩ := mI_wl hI2
          have hlen2 := mL_len hI2.1 hL2
          have hsg2 := mL_sg hI2.1 hL2
          refine z_iconst dX12_ways_56 (by decide) ?_
          refine z_istore dX12_ways_57 (Nat.le_of_ble_eq_true rfl) ?_
          refine z_iconst dX12_ways_59 (by decide) ?_
          refine z_istore dX12_ways_60 (Nat.le_of_ble_eq_true rfl) ?_
          try dsimp only [zs0, zsI, zsP, zsN, zsJ, zsS, zst2, Nat.reduceAdd]
          refine l_ways (d + 10) hE hm2 i jj w (by omega) hlen2.2.1 hsg2 (m2 aM f_laid).toNat 0 0 (by omega) (by omega) (by omega) ?_
          rw [Int.zero_add, zsum_lS0 (g := fun mt => if mt i = jj then (if w = 0 then 1 else tSign (mT m) mt) else 0) hlen2.2.2.symm (fun t x ht => by have g := mL_row hL2 t x ht; rw [g.1 i (by omega) (by omega), g.2.1, eT2]), eT2]
          have eA : aWays (mT m) i jj w = (0, tS (mT m) (fun mt => if mt i = jj then (if w = 0 then 1 else tSign (mT m) mt) else 0)) := by unfold aWays; rw [if_neg (by omega), if_neg (by omega), if_neg (by omega)]
          rw [eA]
          exact ⟨rfl, hq2⟩
        · refine z_iconst dX12_ways_39 (by decide) ?_
          refine z_goto (tgt := 44) dX12_ways_40 rfl ?_
          refine z_callV mlX12_310 dX12_ways_44 (sh_M hE) (av := [_]) rfl rfl (Nat.le_of_ble_eq_true rfl) (r_is _ hE hm _) (Nat.le_refl _) (Nat.le_refl _) (Nat.le_refl _) (Nat.le_refl _) ?_
          rintro _ m1 ⟨rfl, e1⟩
          have hq1 : mQ m m1 4 := e1 ▸ mQ_is hq0
          have hI1 := hq1.1
          have hm1 := hI1.1.1
          have eT1 := mQ_T hq1
          have ec1 : m1 a_c = m a_c := congrArg (fun q => q.1) eT1
          have ew1 : m1 a_what = m a_what := congrArg (fun q => q.2.1) eT1
          have ep1 : m1 a_pointOf = m a_pointOf := congrArg (fun q => q.2.2.1) eT1
          have en1 : m1 aM f_letters = m aM f_letters := congrArg (fun q => q.2.2.2) eT1
          obtain ⟨hw1, hl1, hn1⟩ := mI_wl hI1
          refine z_ifz_ne (tgt := 52) dX12_ways_47 rfl (fun h => absurd h (by decide)) (fun h47 => ?_)
          refine z_iconst dX12_ways_50 (by decide) ?_
          refine z_iret dX12_ways_51 rfl rfl ?_
          have eA : aWays (mT m) i jj w = (4, -1) := by unfold aWays; rw [if_neg (by omega), if_neg (by omega), if_pos (by omega)]
          rw [eA]
          exact ⟨rfl, hq1⟩
      · refine z_iconst dX12_ways_30 (by decide) ?_
        refine z_goto (tgt := 44) dX12_ways_31 rfl ?_
        refine z_callV mlX12_310 dX12_ways_44 (sh_M hE) (av := [_]) rfl rfl (Nat.le_of_ble_eq_true rfl) (r_is _ hE hm _) (Nat.le_refl _) (Nat.le_refl _) (Nat.le_refl _) (Nat.le_refl _) ?_
        rintro _ m1 ⟨rfl, e1⟩
        have hq1 : mQ m m1 2 := e1 ▸ mQ_is hq0
        have hI1 := hq1.1
        have hm1 := hI1.1.1
        have eT1 := mQ_T hq1
        have ec1 : m1 a_c = m a_c := congrArg (fun q => q.1) eT1
        have ew1 : m1 a_what = m a_what := congrArg (fun q => q.2.1) eT1
        have ep1 : m1 a_pointOf = m a_pointOf := congrArg (fun q => q.2.2.1) eT1
        have en1 : m1 aM f_letters = m aM f_letters := congrArg (fun q => q.2.2.2) eT1
        obtain ⟨hw1, hl1, hn1⟩ := mI_wl hI1
        refine z_ifz_ne (tgt := 52) dX12_ways_47 rfl (fun h => absurd h (by decide)) (fun h47 => ?_)
        refine z_iconst dX12_ways_50 (by decide) ?_
        refine z_iret dX12_ways_51 rfl rfl ?_
        have eA : aWays (mT m) i jj w = (2, -1) := by unfold aWays; rw [if_neg (by omega), if_pos (by omega)]
        rw [eA]
        exact ⟨rfl, hq1⟩
  · refine z_iconst dX12_ways_10 (by decide) ?_
    refine z_goto (tgt := 44) dX12_ways_11 rfl ?_
    refine z_callV mlX12_310 dX12_ways_44 (sh_M hE) (av := [_]) rfl rfl (Nat.le_of_ble_eq_true rfl) (r_is _ hE hm _) (Nat.le_refl _) (Nat.le_refl _) (Nat.le_refl _) (Nat.le_refl _) ?_
    rintro _ m1 ⟨rfl, e1⟩
    have hq1 : mQ m m1 1 := e1 ▸ mQ_is hq0
    have hI1 := hq1.1
    have hm1 := hI1.1.1
    have eT1 := mQ_T hq1
    have ec1 : m1 a_c = m a_c := congrArg (fun q => q.1) eT1
    have ew1 : m1 a_what = m a_what := congrArg (fun q => q.2.1) eT1
    have ep1 : m1 a_pointOf = m a_pointOf := congrArg (fun q => q.2.2.1) eT1
    have en1 : m1 aM f_letters = m aM f_letters := congrArg (fun q => q.2.2.2) eT1
    obtain ⟨hw1, hl1, hn1⟩ := mI_wl hI1
    refine z_ifz_ne (tgt := 52) dX12_ways_47 rfl (fun h => absurd h (by decide)) (fun h47 => ?_)
    refine z_iconst dX12_ways_50 (by decide) ?_
    refine z_iret dX12_ways_51 rfl rfl ?_
    have eA : aWays (mT m) i jj w = (1, -1) := by unfold aWays; rw [if_pos (by omega)]
    rw [eA]
    exact ⟨rfl, hq1⟩

theorem l_overlay (d : Nat) {E : zE} {m : zM} {P : Option zV → zM → Prop} (hE : shM E) (hm : ptM m) (kk oo w : Int) (hk0 : 0 ≤ kk) (hk1 : kk < 10395) (ho0 : 0 ≤ oo) (ho1 : oo < 10395) (hn0 : 0 ≤ m aM f_letters ∧ m aM f_letters ≤ 12)  : ∀ (j : Nat) (k n : Int), (0 ≤ k) → (k + j = m aM f_letters) → (0 ≤ n ∧ n ≤ k) → (P (some (zI ((n + zsum (fun i => zb (m a_table (12 * kk + i) = m a_table (12 * oo + i))) j k) / 2))) m) → zA zX12_overlay (d + 1) E E P 61 [zP aM, zI kk, zI oo, zI w, zI n, zI k] [] m E := by
  intro j
  induction j with
  | zero =>
    intro k n h0 hk hn hP
    refine z_iload dX12_overlay_61 rfl ?_
    refine z_aload_n dX12_overlay_63 rfl ?_
    refine z_gI f_letters rfl flX12_124 dX12_overlay_64 (sh_M hE) rfl ?_
    refine z_icmp_ge (tgt := 103) dX12_overlay_67 rfl (fun h67 => ?_) (fun h => absurd (by omega) h)
    refine z_iload dX12_overlay_103 rfl ?_
    refine z_iconst dX12_overlay_105 (by decide) ?_
    refine z_div dX12_overlay_106 (by omega) (by omega) ?_
    refine z_iret dX12_overlay_107 rfl rfl ?_
    rw [zsum_0, Int.add_zero] at hP
    exact hP
  | succ j ih =>
    intro k n h0 hk hn hP
    refine z_iload dX12_overlay_61 rfl ?_
    refine z_aload_n dX12_overlay_63 rfl ?_
    refine z_gI f_letters rfl flX12_124 dX12_overlay_64 (sh_M hE) rfl ?_
    refine z_icmp_ge (tgt := 103) dX12_overlay_67 rfl (fun h => absurd h (by omega)) (fun h67 => ?_)
    refine z_iload dX12_overlay_70 rfl ?_
    refine z_aload_n dX12_overlay_72 rfl ?_
    refine z_iload_n dX12_overlay_73 rfl ?_
    refine z_iload dX12_overlay_74 rfl ?_
    refine z_callV mlX12_200 dX12_overlay_76 (sh_M hE) (av := [_, _]) rfl rfl (Nat.le_of_ble_eq_true rfl) (r_mateOf _ hE hm kk k hk0 hk1 h0 (by omega)) (Nat.le_refl _) (Nat.le_refl _) (Nat.le_refl _) (Nat.le_refl _) ?_
    rintro _ _ ⟨rfl, rfl⟩
    refine z_aload_n dX12_overlay_79 rfl ?_
    refine z_iload_n dX12_overlay_80 rfl ?_
    refine z_iload dX12_overlay_81 rfl ?_
    refine z_callV mlX12_200 dX12_overlay_83 (sh_M hE) (av := [_, _]) rfl rfl (Nat.le_of_ble_eq_true rfl) (r_mateOf _ hE hm oo k ho0 ho1 h0 (by omega)) (Nat.le_refl _) (Nat.le_refl _) (Nat.le_refl _) (Nat.le_refl _) ?_
    rintro _ _ ⟨rfl, rfl⟩
    refine z_icmp_ne (tgt := 93) dX12_overlay_86 rfl (fun h86 => ?_) (fun h86 => ?_)
    · refine z_iconst dX12_overlay_93 (by decide) ?_
      refine z_add dX12_overlay_94 (by omega) ?_
      refine z_istore dX12_overlay_95 (Nat.le_of_ble_eq_true rfl) ?_
      refine z_inc dX12_overlay_97 rfl (by omega) ?_
      refine z_goto (tgt := 61) dX12_overlay_100 rfl ?_
      try dsimp only [zs0, zsI, zsP, zsN, zsJ, zsS, zst2, Nat.reduceAdd]
      rw [zsum_s, ← Int.add_assoc, zb_f (by omega)] at hP
      exact ih (k + 1) _ (by omega) (by omega) (by omega) hP
    · refine z_iconst dX12_overlay_89 (by decide) ?_
      refine z_goto (tgt := 94) dX12_overlay_90 rfl ?_
      refine z_add dX12_overlay_94 (by omega) ?_
      refine z_istore dX12_overlay_95 (Nat.le_of_ble_eq_true rfl) ?_
      refine z_inc dX12_overlay_97 rfl (by omega) ?_
      refine z_goto (tgt := 61) dX12_overlay_100 rfl ?_
      try dsimp only [zs0, zsI, zsP, zsN, zsJ, zsS, zst2, Nat.reduceAdd]
      rw [zsum_s, ← Int.add_assoc, zb_t (by omega)] at hP
      exact ih (k + 1) _ (by omega) (by omega) (by omega) hP

theorem q_overlay (d : Nat) {E : zE} {m : zM} (hE : shM E) (hI : mI m) (k o w : Int)  : zR zX12_overlay (d + 12) [zP aM, zI k, zI o, zI w] m E E (fun r m' => r = some (zI (aOverlay (mT m) k o w).2) ∧ mQ m m' (aOverlay (mT m) k o w).1) := by
  have hm := hI.1.1
  obtain ⟨hw, hl, hn⟩ := mI_wl hI
  have hq0 := mQ_rf hI
  have eT0 : mT m = mT m := rfl
  have t4 : (mT m).2.2.2 = m aM f_letters := rfl
  have t0 : (mT m).1 0 = m a_c 0 := rfl
  have t1 : (mT m).1 1 = m a_c 1 := rfl
  have t2 : (mT m).1 2 = m a_c 2 := rfl
  have b1 := hw.1
  have b2 := hw.2.1
  have b3 := hw.2.2.1
  refine zR_go [zP aM, zI k, zI o, zI w, zN, zN] (by decide +kernel) (Nat.le_of_ble_eq_true rfl) rfl rfl ?_
  refine z_aload_n dX12_overlay_0 rfl ?_
  refine z_iload_n dX12_overlay_1 rfl ?_
  refine z_iconst dX12_overlay_2 (by decide) ?_
  refine z_iconst dX12_overlay_3 (by decide) ?_
  refine z_callS mlX12_140 dX12_overlay_4 (av := [_, _, _]) rfl rfl (Nat.le_of_ble_eq_true rfl) (r_isIn _ hE hm w 0 1) (Nat.le_refl _) (Nat.le_refl _) (Nat.le_refl _) (Nat.le_refl _) ?_
  rintro _ _ ⟨rfl, rfl⟩
  refine z_ifz_ne (tgt := 14) dX12_overlay_7 rfl (fun h7 => ?_) (fun h7 => ?_)
  · refine z_aload_n dX12_overlay_14 rfl ?_
    refine z_iload_n dX12_overlay_15 rfl ?_
    refine z_callV mlX12_359 dX12_overlay_16 (sh_M hE) (av := [_]) rfl rfl (Nat.le_of_ble_eq_true rfl) (q_isPairing _ hE hI k) (Nat.le_refl _) (Nat.le_refl _) (Nat.le_refl _) (Nat.le_refl _) ?_
    rintro _ m1 ⟨rfl, g1, f1, hL1⟩
    have hq1 := mQ_lays hq0 g1 f1
    have hI1 := hq1.1
    have hm1 := hI1.1.1
    have eT1 := mQ_T hq1
    have ec1 : m1 a_c = m a_c := congrArg (fun q => q.1) eT1
    have ew1 : m1 a_what = m a_what := congrArg (fun q => q.2.1) eT1
    have ep1 : m1 a_pointOf = m a_pointOf := congrArg (fun q => q.2.2.1) eT1
    have en1 : m1 aM f_letters = m aM f_letters := congrArg (fun q => q.2.2.2) eT1
    obtain ⟨hw1, hl1, hn1⟩ := mI_wl hI1
    have hlen1 := mL_len hI1.1 hL1
    have hsg1 := mL_sg hI1.1 hL1
    refine z_ifz_eq (tgt := 34) dX12_overlay_19 rfl (fun h19 => ?_) (fun h19 => ?_)
    · refine z_iconst dX12_overlay_34 (by decide) ?_
      refine z_callV mlX12_310 dX12_overlay_35 (sh_M hE) (av := [_]) rfl rfl (Nat.le_of_ble_eq_true rfl) (r_is _ hE hm1 _) (Nat.le_refl _) (Nat.le_refl _) (Nat.le_refl _) (Nat.le_refl _) ?_
      rintro _ m2 ⟨rfl, e2⟩
      have hq2 : mQ m m2 2 := e2 ▸ mQ_is hq1
      have hI2 := hq2.1
      have hm2 := hI2.1.1
      have eT2 := mQ_T hq2
      have ec2 : m2 a_c = m a_c := congrArg (fun q => q.1) eT2
      have ew2 : m2 a_what = m a_what := congrArg (fun q => q.2.1) eT2
      have ep2 : m2 a_pointOf = m a_pointOf := congrArg (fun q => q.2.2.1) eT2
      have en2 : m2 aM f_letters = m aM f_letters := congrArg (fun q => q.2.2.2) eT2
      obtain ⟨hw2, hl2, hn2⟩ := mI_wl hI2
      have hL2 : mL m2 := e2 ▸ mL_S hL1
      refine z_ifz_ne (tgt := 43) dX12_overlay_38 rfl (fun h => absurd h (by decide)) (fun h38 => ?_)
      refine z_iconst dX12_overlay_41 (by decide) ?_
      refine z_iret dX12_overlay_42 rfl rfl ?_
      have eA : aOverlay (mT m) k o w = (2, -1) := by unfold aOverlay; rw [if_neg (by omega), if_pos (by omega)]
      rw [eA]
      exact ⟨rfl, hq2⟩
    · refine z_aload_n dX12_overlay_22 rfl ?_
      refine z_iload_n dX12_overlay_23 rfl ?_
      refine z_callV mlX12_359 dX12_overlay_24 (sh_M hE) (av := [_]) rfl rfl (Nat.le_of_ble_eq_true rfl) (q_isPairing _ hE hI1 o) (Nat.le_refl _) (Nat.le_refl _) (Nat.le_refl _) (Nat.le_refl _) ?_
      rintro _ m2 ⟨rfl, g2, f2, hL2⟩
      have hq2 := mQ_lays hq1 g2 f2
      have hI2 := hq2.1
      have hm2 := hI2.1.1
      have eT2 := mQ_T hq2
      have ec2 : m2 a_c = m a_c := congrArg (fun q => q.1) eT2
      have ew2 : m2 a_what = m a_what := congrArg (fun q => q.2.1) eT2
      have ep2 : m2 a_pointOf = m a_pointOf := congrArg (fun q => q.2.2.1) eT2
      have en2 : m2 aM f_letters = m aM f_letters := congrArg (fun q => q.2.2.2) eT2
      obtain ⟨hw2, hl2, hn2⟩ := mI_wl hI2
      have hlen2 := mL_len hI2.1 hL2
      have hsg2 := mL_sg hI2.1 hL2
      rw [eT1]
      refine z_ifz_eq (tgt := 34) dX12_overlay_27 rfl (fun h27 => ?_) (fun h27 => ?_)
      · refine z_iconst dX12_overlay_34 (by decide) ?_
        refine z_callV mlX12_310 dX12_overlay_35 (sh_M hE) (av := [_]) rfl rfl (Nat.le_of_ble_eq_true rfl) (r_is _ hE hm2 _) (Nat.le_refl _) (Nat.le_refl _) (Nat.le_refl _) (Nat.le_refl _) ?_
        rintro _ m3 ⟨rfl, e3⟩
        have hq3 : mQ m m3 2 := e3 ▸ mQ_is hq2
        have hI3 := hq3.1
        have hm3 := hI3.1.1
        have eT3 := mQ_T hq3
        have ec3 : m3 a_c = m a_c := congrArg (fun q => q.1) eT3
        have ew3 : m3 a_what = m a_what := congrArg (fun q => q.2.1) eT3
        have ep3 : m3 a_pointOf = m a_pointOf := congrArg (fun q => q.2.2.1) eT3
        have en3 : m3 aM f_letters = m aM f_letters := congrArg (fun q => q.2.2.2) eT3
        obtain ⟨hw3, hl3, hn3⟩ := mI_wl hI3
        have hL3 : mL m3 := e3 ▸ mL_S hL2
        refine z_ifz_ne (tgt := 43) dX12_overlay_38 rfl (fun h => absurd h (by decide)) (fun h38 => ?_)
        refine z_iconst dX12_overlay_41 (by decide) ?_
        refine z_iret dX12_overlay_42 rfl rfl ?_
        have eA : aOverlay (mT m) k o w = (2, -1) := by unfold aOverlay; rw [if_neg (by omega), if_pos (by omega)]
        rw [eA]
        exact ⟨rfl, hq3⟩
      · refine z_iconst dX12_overlay_30 (by decide) ?_
        refine z_goto (tgt := 35) dX12_overlay_31 rfl ?_
        refine z_callV mlX12_310 dX12_overlay_35 (sh_M hE) (av := [_]) rfl rfl (Nat.le_of_ble_eq_true rfl) (r_is _ hE hm2 _) (Nat.le_refl _) (Nat.le_refl _) (Nat.le_refl _) (Nat.le_refl _) ?_
        rintro _ m3 ⟨rfl, e3⟩
        have hq3 : mQ m m3 0 := e3 ▸ mQ_is hq2
        have hI3 := hq3.1
        have hm3 := hI3.1.1
        have eT3 := mQ_T hq3
        have ec3 : m3 a_c = m a_c := congrArg (fun q => q.1) eT3
        have ew3 : m3 a_what = m a_what := congrArg (fun q => q.2.1) eT3
        have ep3 : m3 a_pointOf = m a_pointOf := congrArg (fun q => q.2.2.1) eT3
        have en3 : m3 aM f_letters = m aM f_letters := congrArg (fun q => q.2.2.2) eT3
        obtain ⟨hw3, hl3, hn3⟩ := mI_wl hI3
        have hL3 : mL m3 := e3 ▸ mL_S hL2
        refine z_ifz_ne (tgt := 43) dX12_overlay_38 rfl (fun h38 => ?_) (fun h => absurd (by decide) h)
        refine z_iload_n dX12_overlay_43 rfl ?_
        refine z_iconst dX12_overlay_44 (by decide) ?_
        refine z_icmp_ne (tgt := 55) dX12_overlay_45 rfl (fun h45 => ?_) (fun h45 => ?_)
        · refine z_iconst dX12_overlay_55 (by decide) ?_
          refine z_istore dX12_overlay_56 (Nat.le_of_ble_eq_true rfl) ?_
          refine z_iconst dX12_overlay_58 (by decide) ?_
          refine z_istore dX12_overlay_59 (Nat.le_of_ble_eq_true rfl) ?_
          try dsimp only [zs0, zsI, zsP, zsN, zsJ, zsS, zst2, Nat.reduceAdd]
          have hlk := mL_len hI3.1 hL3
          have hat := mL_at hI3.1 hL3 (k := k) (by omega) (by rw [eT3]; omega)
          have hao := mL_at hI3.1 hL3 (k := o) (by omega) (by rw [eT3]; omega)
          rw [eT3] at hlk hat hao
          have ht4 : m3 aM f_letters = (mT m).2.2.2 := en3
          refine l_overlay (d + 11) hE hm3 k o w (by omega) (by omega) (by omega) (by omega) hn3 (m3 aM f_letters).toNat 0 0 (by omega) (by omega) (by omega) ?_
          have eA : aOverlay (mT m) k o w = (0, zsum (fun i => zb (tMt (mT m) k i = tMt (mT m) o i)) (mT m).2.2.2.toNat 0 / 2) := by unfold aOverlay; rw [if_neg (by omega), if_neg (by omega), if_neg (by omega)]
          rw [eA, Int.zero_add, ← ht4]
          refine ⟨?_, hq3⟩
          rw [zsum_congr (f := fun i => zb (m3 a_table (12 * k + i) = m3 a_table (12 * o + i))) (g := fun i => zb (tMt (mT m) k i = tMt (mT m) o i)) (fun i q1 q2 => by rw [hat.1 i q1 (by omega), hao.1 i q1 (by omega)])]
        · refine z_aload_n dX12_overlay_48 rfl ?_
          refine z_iload_n dX12_overlay_49 rfl ?_
          refine z_iload_n dX12_overlay_50 rfl ?_
          refine z_callV mlX12_367 dX12_overlay_51 (sh_M hE) (av := [_, _]) rfl rfl (Nat.le_of_ble_eq_true rfl) (q_rings2 _ hE hm3 hI3.1 hL3 (by omega) (by rw [eT3]; omega) (by omega) (by rw [eT3]; omega)) (Nat.le_refl _) (Nat.le_refl _) (Nat.le_refl _) (Nat.le_refl _) ?_
          rintro _ _ ⟨rfl, rfl⟩
          refine z_iret dX12_overlay_54 rfl rfl ?_
          rw [eT3]
          have eA : aOverlay (mT m) k o w = (0, (tRg (mT m) k o : Int)) := by unfold aOverlay; rw [if_neg (by omega), if_neg (by omega), if_pos (by omega)]
          rw [eA]
          exact ⟨rfl, hq3⟩
  · refine z_iconst dX12_overlay_10 (by decide) ?_
    refine z_goto (tgt := 35) dX12_overlay_11 rfl ?_
    refine z_callV mlX12_310 dX12_overlay_35 (sh_M hE) (av := [_]) rfl rfl (Nat.le_of_ble_eq_true rfl) (r_is _ hE hm _) (Nat.le_refl _) (Nat.le_refl _) (Nat.le_refl _) (Nat.le_refl _) ?_
    rintro _ m1 ⟨rfl, e1⟩
    have hq1 : mQ m m1 1 := e1 ▸ mQ_is hq0
    have hI1 := hq1.1
    have hm1 := hI1.1.1
    have eT1 := mQ_T hq1
    have ec1 : m1 a_c = m a_c := congrArg (fun q => q.1) eT1
    have ew1 : m1 a_what = m a_what := congrArg (fun q => q.2.1) eT1
    have ep1 : m1 a_pointOf = m a_pointOf := congrArg (fun q => q.2.2.1) eT1
    have en1 : m1 aM f_letters = m aM f_letters := congrArg (fun q => q.2.2.2) eT1
    obtain ⟨hw1, hl1, hn1⟩ := mI_wl hI1
    refine z_ifz_ne (tgt := 43) dX12_overlay_38 rfl (fun h => absurd h (by decide)) (fun h38 => ?_)
    refine z_iconst dX12_overlay_41 (by decide) ?_
    refine z_iret dX12_overlay_42 rfl rfl ?_
    have eA : aOverlay (mT m) k o w = (1, -1) := by unfold aOverlay; rw [if_pos (by omega)]
    rw [eA]
    exact ⟨rfl, hq1⟩

theorem l_summed (d : Nat) {E : zE} {m : zM} {P : Option zV → zM → Prop} (hE : shM E) (hm : ptM m) (wh nu sg : Int) (hn0 : 0 ≤ m aM f_letters ∧ m aM f_letters ≤ 12) (hd : 0 ≤ m aM f_laid ∧ m aM f_laid ≤ 10395) (hs : ∀ k, 0 ≤ k → k < m aM f_laid → m a_sign k = 1 ∨ m a_sign k = -1) (hr : ∀ k, 0 ≤ k → k < m aM f_laid → 0 ≤ m a_rounds k ∧ m a_rounds k ≤ 12)  : ∀ (j : Nat) (k n : Int), (0 ≤ k) → (k + j = m aM f_laid) → (-k ≤ n ∧ n ≤ k) → (P (some (zI (n + zsum (fun k => if (if wh = 0 then m a_crossings k else sHoles (m aM f_letters) (m a_rounds k)) = nu then (if sg = 0 then 1 else m a_sign k) else 0) j k))) m) → zA zX12_summed (d + 2) E E P 37 [zP aM, zI wh, zI nu, zI sg, zI n, zI k] [] m E := by
  intro j
  induction j with
  | zero =>
    intro k n h0 hk hn hP
    refine z_iload dX12_summed_37 rfl ?_
    refine z_aload_n dX12_summed_39 rfl ?_
    refine z_gI f_laid rfl flX12_172 dX12_summed_40 (sh_M hE) rfl ?_
    refine z_icmp_ge (tgt := 83) dX12_summed_43 rfl (fun h43 => ?_) (fun h => absurd (by omega) h)
    refine z_iload dX12_summed_83 rfl ?_
    refine z_iret dX12_summed_85 rfl rfl ?_
    rw [zsum_0, Int.add_zero] at hP
    exact hP
  | succ j ih =>
    intro k n h0 hk hn hP
    refine z_iload dX12_summed_37 rfl ?_
    refine z_aload_n dX12_summed_39 rfl ?_
    refine z_gI f_laid rfl flX12_172 dX12_summed_40 (sh_M hE) rfl ?_
    refine z_icmp_ge (tgt := 83) dX12_summed_43 rfl (fun h => absurd h (by omega)) (fun h43 => ?_)
    refine z_aload_n dX12_summed_46 rfl ?_
    refine z_iload dX12_summed_47 rfl ?_
    refine z_iload_n dX12_summed_49 rfl ?_
    refine z_iload_n dX12_summed_50 rfl ?_
    refine z_callV mlX12_370 dX12_summed_51 (sh_M hE) (av := [_, _, _]) rfl rfl (Nat.le_of_ble_eq_true rfl) (r_isSuch _ hE hm k wh nu hn0 h0 (by omega) (hr k h0 (by omega))) (Nat.le_refl _) (Nat.le_refl _) (Nat.le_refl _) (Nat.le_refl _) ?_
    rintro _ _ ⟨rfl, rfl⟩
    refine z_ifz_eq (tgt := 77) dX12_summed_54 rfl (fun h54 => ?_) (fun h54 => ?_)
    · refine z_inc dX12_summed_77 rfl (by have := hs k; omega) ?_
      refine z_goto (tgt := 37) dX12_summed_80 rfl ?_
      try dsimp only [zs0, zsI, zsP, zsN, zsJ, zsS, zst2, Nat.reduceAdd]
      have hsk := hs k h0 (by omega)
      rw [zsum_s, ← Int.add_assoc, if_neg h54, Int.add_zero] at hP
      exact ih (k + 1) _ (by omega) (by omega) (by omega) hP
    · refine z_iload dX12_summed_57 rfl ?_
      refine z_iload_n dX12_summed_59 rfl ?_
      refine z_if_eq (tgt := 73) dX12_summed_60 rfl (fun h60 => ?_) (fun h60 => ?_)
      · refine z_iconst dX12_summed_73 (by decide) ?_
        refine z_add dX12_summed_74 (by have := hs k; omega) ?_
        refine z_istore dX12_summed_75 (Nat.le_of_ble_eq_true rfl) ?_
        refine z_inc dX12_summed_77 rfl (by have := hs k; omega) ?_
        refine z_goto (tgt := 37) dX12_summed_80 rfl ?_
        try dsimp only [zs0, zsI, zsP, zsN, zsJ, zsS, zst2, Nat.reduceAdd]
        have hsk := hs k h0 (by omega)
        rw [zsum_s, ← Int.add_assoc, if_pos h54, if_pos (by omega)] at hP
        exact ih (k + 1) _ (by omega) (by omega) (by omega) hP
      · refine z_aload_n dX12_summed_63 rfl ?_
        refine z_gP 8 rfl (r := a_sign) flX12_29 dX12_summed_64 (sh_M hE) rfl (pt_sign hm) (by decide) ?_
        refine z_iload dX12_summed_67 rfl ?_
        refine z_iald dX12_summed_69 (sh_sign hE) (by have := hs k; omega) (by have := hs k; omega) ?_
        refine z_goto (tgt := 74) dX12_summed_70 rfl ?_
        refine z_add dX12_summed_74 (by have := hs k; omega) ?_
        refine z_istore dX12_summed_75 (Nat.le_of_ble_eq_true rfl) ?_
        refine z_inc dX12_summed_77 rfl (by have := hs k; omega) ?_
        refine z_goto (tgt := 37) dX12_summed_80 rfl ?_
        try dsimp only [zs0, zsI, zsP, zsN, zsJ, zsS, zst2, Nat.reduceAdd]
        have hsk := hs k h0 (by omega)
        rw [zsum_s, ← Int.add_assoc, if_pos h54, if_neg (by omega)] at hP
        exact ih (k + 1) _ (by omega) (by omega) (by omega) hP

theorem q_summed (d : Nat) {E : zE} {m : zM} (hE : shM E) (hI : mI m) (wh nu sg : Int)  : zR zX12_summed (d + 11) [zP aM, zI wh, zI nu, zI sg] m E E (fun r m' => r = some (zI (aBy (mT m) wh nu sg).2) ∧ mQ m m' (aBy (mT m) wh nu sg).1) := by
  have hm := hI.1.1
  obtain ⟨hw, hl, hn⟩ := mI_wl hI
  have hq0 := mQ_rf hI
  have eT0 : mT m = mT m := rfl
  have t4 : (mT m).2.2.2 = m aM f_letters := rfl
  have t0 : (mT m).1 0 = m a_c 0 := rfl
  have t1 : (mT m).1 1 = m a_c 1 := rfl
  have t2 : (mT m).1 2 = m a_c 2 := rfl
  have b1 := hw.1
  have b2 := hw.2.1
  have b3 := hw.2.2.1
  refine zR_go [zP aM, zI wh, zI nu, zI sg, zN, zN] (by decide +kernel) (Nat.le_of_ble_eq_true rfl) rfl rfl ?_
  refine z_aload_n dX12_summed_0 rfl ?_
  refine z_iload_n dX12_summed_1 rfl ?_
  refine z_iconst dX12_summed_2 (by decide) ?_
  refine z_iconst dX12_summed_3 (by decide) ?_
  refine z_callS mlX12_140 dX12_summed_4 (av := [_, _, _]) rfl rfl (Nat.le_of_ble_eq_true rfl) (r_isIn _ hE hm wh 0 1) (Nat.le_refl _) (Nat.le_refl _) (Nat.le_refl _) (Nat.le_refl _) ?_
  rintro _ _ ⟨rfl, rfl⟩
  refine z_ifz_eq (tgt := 18) dX12_summed_7 rfl (fun h7 => ?_) (fun h7 => ?_)
  · refine z_iconst dX12_summed_18 (by decide) ?_
    refine z_callV mlX12_310 dX12_summed_19 (sh_M hE) (av := [_]) rfl rfl (Nat.le_of_ble_eq_true rfl) (r_is _ hE hm _) (Nat.le_refl _) (Nat.le_refl _) (Nat.le_refl _) (Nat.le_refl _) ?_
    rintro _ m1 ⟨rfl, e1⟩
    have hq1 : mQ m m1 1 := e1 ▸ mQ_is hq0
    have hI1 := hq1.1
    have hm1 := hI1.1.1
    have eT1 := mQ_T hq1
    have ec1 : m1 a_c = m a_c := congrArg (fun q => q.1) eT1
    have ew1 : m1 a_what = m a_what := congrArg (fun q => q.2.1) eT1
    have ep1 : m1 a_pointOf = m a_pointOf := congrArg (fun q => q.2.2.1) eT1
    have en1 : m1 aM f_letters = m aM f_letters := congrArg (fun q => q.2.2.2) eT1
    obtain ⟨hw1, hl1, hn1⟩ := mI_wl hI1
    refine z_ifz_ne (tgt := 27) dX12_summed_22 rfl (fun h => absurd h (by decide)) (fun h22 => ?_)
    refine z_iconst dX12_summed_25 (by decide) ?_
    refine z_iret dX12_summed_26 rfl rfl ?_
    have eA : aBy (mT m) wh nu sg = (1, -1) := by unfold aBy; rw [if_pos (by omega)]
    rw [eA]
    exact ⟨rfl, hq1⟩
  · refine z_iload_n dX12_summed_10 rfl ?_
    refine z_if_lt (tgt := 18) dX12_summed_11 rfl (fun h11 => ?_) (fun h11 => ?_)
    · refine z_iconst dX12_summed_18 (by decide) ?_
      refine z_callV mlX12_310 dX12_summed_19 (sh_M hE) (av := [_]) rfl rfl (Nat.le_of_ble_eq_true rfl) (r_is _ hE hm _) (Nat.le_refl _) (Nat.le_refl _) (Nat.le_refl _) (Nat.le_refl _) ?_
      rintro _ m1 ⟨rfl, e1⟩
      have hq1 : mQ m m1 1 := e1 ▸ mQ_is hq0
      have hI1 := hq1.1
      have hm1 := hI1.1.1
      have eT1 := mQ_T hq1
      have ec1 : m1 a_c = m a_c := congrArg (fun q => q.1) eT1
      have ew1 : m1 a_what = m a_what := congrArg (fun q => q.2.1) eT1
      have ep1 : m1 a_pointOf = m a_pointOf := congrArg (fun q => q.2.2.1) eT1
      have en1 : m1 aM f_letters = m aM f_letters := congrArg (fun q => q.2.2.2) eT1
      obtain ⟨hw1, hl1, hn1⟩ := mI_wl hI1
      refine z_ifz_ne (tgt := 27) dX12_summed_22 rfl (fun h => absurd h (by decide)) (fun h22 => ?_)
      refine z_iconst dX12_summed_25 (by decide) ?_
      refine z_iret dX12_summed_26 rfl rfl ?_
      have eA : aBy (mT m) wh nu sg = (1, -1) := by unfold aBy; rw [if_pos (by omega)]
      rw [eA]
      exact ⟨rfl, hq1⟩
    · refine z_iconst dX12_summed_14 (by decide) ?_
      refine z_goto (tgt := 19) dX12_summed_15 rfl ?_
      refine z_callV mlX12_310 dX12_summed_19 (sh_M hE) (av := [_]) rfl rfl (Nat.le_of_ble_eq_true rfl) (r_is _ hE hm _) (Nat.le_refl _) (Nat.le_refl _) (Nat.le_refl _) (Nat.le_refl _) ?_
      rintro _ m1 ⟨rfl, e1⟩
      have hq1 : mQ m m1 0 := e1 ▸ mQ_is hq0
      have hI1 := hq1.1
      have hm1 := hI1.1.1
      have eT1 := mQ_T hq1
      have ec1 : m1 a_c = m a_c := congrArg (fun q => q.1) eT1
      have ew1 : m1 a_what = m a_what := congrArg (fun q => q.2.1) eT1
      have ep1 : m1 a_pointOf = m a_pointOf := congrArg (fun q => q.2.2.1) eT1
      have en1 : m1 aM f_letters = m aM f_letters := congrArg (fun q => q.2.2.2) eT1
      obtain ⟨hw1, hl1, hn1⟩ := mI_wl hI1
      refine z_ifz_ne (tgt := 27) dX12_summed_22 rfl (fun h22 => ?_) (fun h => absurd (by decide) h)
      refine z_aload_n dX12_summed_27 rfl ?_
      refine z_callV mlX12_194 dX12_summed_28 (sh_M hE) (av := _) rfl rfl (Nat.le_of_ble_eq_true rfl) (q_lays _ hE hI1) (Nat.le_refl _) (Nat.le_refl _) (Nat.le_refl _) (Nat.le_refl _) ?_
      rintro _ m2 ⟨rfl, g2, f2, hL2⟩
      have hq2 := mQ_lays hq1 g2 f2
      have hI2 := hq2.1
      have hm2 := hI2.1.1
      have eT2 := mQ_T hq2
      have ec2 : m2 a_c = m a_c := congrArg (fun q => q.1) eT2
      have ew2 : m2 a_what = m a_what := congrArg (fun q => q.2.1) eT2
      have ep2 : m2 a_pointOf = m a_pointOf := congrArg (fun q => q.2.2.1) eT2
      have en2 : m2 aM f_letters = m aM f_letters := congrArg (fun q => q.2.2.2) eT2
      obtain ⟨hw2, hl2, hn2⟩ := mI_wl hI2
      have hlen2 := mL_len hI2.1 hL2
      have hsg2 := mL_sg hI2.1 hL2
      refine z_iconst dX12_summed_31 (by decide) ?_
      refine z_istore dX12_summed_32 (Nat.le_of_ble_eq_true rfl) ?_
      refine z_iconst dX12_summed_34 (by decide) ?_
      refine z_istore dX12_summed_35 (Nat.le_of_ble_eq_true rfl) ?_
      try dsimp only [zs0, zsI, zsP, zsN, zsJ, zsS, zst2, Nat.reduceAdd]
      refine l_summed (d + 9) hE hm2 wh nu sg hn2 hlen2.2.1 hsg2 (mL_ro hI2.1 hL2) (m2 aM f_laid).toNat 0 0 (by omega) (by omega) (by omega) ?_
      rw [Int.zero_add, zsum_lS0 (g := fun mt => if (if wh = 0 then tCr (mT m) mt else tHo (mT m) mt) = nu then (if sg = 0 then 1 else tSign (mT m) mt) else 0) hlen2.2.2.symm (fun t x ht => by have g := mL_row hL2 t x ht; rw [g.2.1, g.2.2.1, g.2.2.2, en2, eT2]; rfl), eT2]
      have eA : aBy (mT m) wh nu sg = (0, tS (mT m) (fun mt => if (if wh = 0 then tCr (mT m) mt else tHo (mT m) mt) = nu then (if sg = 0 then 1 else tSign (mT m) mt) else 0)) := by unfold aBy; rw [if_neg (by omega)]
      rw [eA]
      exact ⟨rfl, hq2⟩

theorem q_by (d : Nat) {E : zE} {m : zM} (hE : shM E) (hI : mI m) (wh nu : Int) : zR zX12_by (d + 12) [zP aM, zI wh, zI nu] m E E (fun r m' => r = some (zI (aBy (mT m) wh nu 0).2) ∧ mQ m m' (aBy (mT m) wh nu 0).1) := by
  have hm := hI.1.1
  refine zR_go [zP aM, zI wh, zI nu] (by decide +kernel) (Nat.le_of_ble_eq_true rfl) rfl rfl ?_
  refine z_aload_n dX12_by_0 rfl ?_
  refine z_iload_n dX12_by_1 rfl ?_
  refine z_iload_n dX12_by_2 rfl ?_
  refine z_iconst dX12_by_3 (by decide) ?_
  refine z_callV mlX12_373 dX12_by_4 (sh_M hE) (av := [_, _, _]) rfl rfl (Nat.le_of_ble_eq_true rfl) (q_summed _ hE hI wh nu 0) (Nat.le_refl _) (Nat.le_refl _) (Nat.le_refl _) (Nat.le_refl _) ?_
  rintro _ m1 ⟨rfl, hq1⟩
  refine z_iret dX12_by_7 rfl rfl ?_
  exact ⟨rfl, hq1⟩

theorem q_signedBy (d : Nat) {E : zE} {m : zM} (hE : shM E) (hI : mI m) (wh nu : Int) : zR zX12_signedBy (d + 12) [zP aM, zI wh, zI nu] m E E (fun r m' => r = some (zI (aBy (mT m) wh nu 1).2) ∧ mQ m m' (aBy (mT m) wh nu 1).1) := by
  have hm := hI.1.1
  refine zR_go [zP aM, zI wh, zI nu] (by decide +kernel) (Nat.le_of_ble_eq_true rfl) rfl rfl ?_
  refine z_aload_n dX12_signedBy_0 rfl ?_
  refine z_iload_n dX12_signedBy_1 rfl ?_
  refine z_iload_n dX12_signedBy_2 rfl ?_
  refine z_iconst dX12_signedBy_3 (by decide) ?_
  refine z_callV mlX12_373 dX12_signedBy_4 (sh_M hE) (av := [_, _, _]) rfl rfl (Nat.le_of_ble_eq_true rfl) (q_summed _ hE hI wh nu 1) (Nat.le_refl _) (Nat.le_refl _) (Nat.le_refl _) (Nat.le_refl _) ?_
  rintro _ m1 ⟨rfl, hq1⟩
  refine z_iret dX12_signedBy_7 rfl rfl ?_
  exact ⟨rfl, hq1⟩
