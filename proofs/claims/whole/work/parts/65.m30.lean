theorem p9 : ∀ k, k < 13 → (1 : Int) ≤ 9 ^ k ∧ (9 : Int) ^ k ≤ 282429536481 := by decide +kernel
theorem mul9 {v w : Int} {k : Nat} (hv : -(9 ^ k) ≤ v ∧ v ≤ 9 ^ k) (hw : -9 ≤ w ∧ w ≤ 9) : -(9 ^ (k + 1)) ≤ v * w ∧ v * w ≤ 9 ^ (k + 1) := by
  rw [Int.pow_succ]
  generalize (9 : Int) ^ k = B at hv ⊢
  have h1 : v.natAbs ≤ B.natAbs := by omega
  have h2 : w.natAbs ≤ 9 := by omega
  have h3 : (v * w).natAbs ≤ B.natAbs * 9 := by rw [Int.natAbs_mul]; exact Nat.mul_le_mul h1 h2
  omega
def zfd (g : Int → Int → Int) : Nat → Int → Int → Int
  | 0, _, v => v
  | s + 1, k, v => zfd g s (k + 1) (g k v)
theorem zfd_s (g : Int → Int → Int) (s : Nat) (k v : Int) : zfd g (s + 1) k v = zfd g s (k + 1) (g k v) := rfl
/-- the worths of a pairing's lines, multiplied, with its sign -/
def tWo (T : zT) (wo : Int → Int) (mt : Int → Int) : Int := zfd (fun i v => if i < mt i then v * wo (cCode T.1 T.2.1 T.2.2.1 i (mt i)) else v) T.2.2.2.toNat 0 (tSign T mt)
def fQW : List (Int × Option Int) := (a_worths, none) :: fQ
def aWorth (T : zT) (wo : Int → Int) (co w : Int) : Int × Int := if ¬ (-9 ≤ w ∧ w ≤ 9) then (1, -1) else if ¬ cCodeOk T.1 co = true then (2, -1) else if wo co = w then (4, -1) else (0, wo co)
theorem mI_wo {m : zM} {co w : Int} (h : mI m) (hw : -9 ≤ w ∧ w ≤ 9) : mI (zu m a_worths co w) := by
  obtain ⟨h1, ⟨h2, h3⟩, ⟨h4, h5⟩, h6, h7, h8, h9, h10⟩ := h
  have e : mT (zu m a_worths co w) = mT m := mT_of (zu_fn (by decide)) (zu_fn (by decide)) (zu_fn (by decide)) (zu_a (by decide))
  refine ⟨mOK_of h1 e (ptM_a h1.1 (by decide)) (by rw [zu_fn (by decide)]; exact h1.2.2.2.2), ⟨?_, fun hl => ?_⟩, ⟨?_, fun hl => ?_⟩, ?_, fun k q1 q2 => ?_, ?_, ?_, ?_⟩
  · rw [zu_a (by decide)]; exact h2
  · rw [zu_a (by decide)] at hl
    exact mL_of (h3 hl) e (zu_a (by decide)) (zu_fn (by decide)) (zu_fn (by decide)) (zu_fn (by decide)) (zu_fn (by decide))
  · rw [zu_a (by decide)]; exact h4
  · rw [zu_a (by decide)] at hl
    exact mN_of (h5 hl) e (zu_a (by decide)) (zu_fn (by decide)) (zu_fn (by decide))
  · unfold mPl; rw [zu_fn (by decide)]; exact h6
  · by_cases e2 : k = co
    · rw [e2, zu_s]; exact hw
    · rw [zu_j e2]; exact h7 k q1 q2
  · rw [zu_a (by decide)]; exact h8
  · rw [zu_a (by decide)]; exact h9
  · unfold mWd; rw [zu_fn (by decide)]; exact h10
def aSum (T : zT) (wo : Int → Int) : Int × Int := (0, tS T (tWo T wo))
noncomputable def aSumOf (T : zT) (wo : Int → Int) (dd : Int) : Int × Int := if ¬ (0 ≤ dd ∧ dd < ((tD T).length : Int)) then (2, -1) else (0, tS T (fun mt => if tName T mt = tNm T dd then tWo T wo mt else 0))
theorem tMt_t {T : zT} {t : Nat} {x : Int → Int} (h : (tPairs T)[t]? = some x) : tMt T (t : Int) = x := by
  unfold tMt
  rw [Int.toNat_natCast, List.getD_eq_getElem?_getD, h]
  rfl
theorem mN_at {m : zM} (hN : mN m) {k d : Int} (h0 : 0 ≤ k) (h1 : k < ((tPairs (mT m)).length : Int)) (d0 : 0 ≤ d) (d1 : d < ((tD (mT m)).length : Int)) : m a_diagramOf k = d ↔ tName (mT m) (tMt (mT m) k) = tNm (mT m) d := by
  have := ((mN_D hN).2.2.2 _ _ (tMt_get h0 h1).1).2.2 d d0 d1
  rw [show ((k.toNat : Nat) : Int) = k by omega] at this
  exact this
theorem q_worth (d : Nat) {E : zE} {m : zM} (hE : shM E) (hI : mI m) (co w : Int) : zR zX12_worth (d + 3) [zP aM, zI co, zI w] m E E (fun r m' => r = some (zI (aWorth (mT m) (m a_worths) co w).2) ∧ mI m' ∧ zfr fQW m m' ∧ m' aM f_status = (aWorth (mT m) (m a_worths) co w).1 ∧ m' a_worths = if (aWorth (mT m) (m a_worths) co w).1 = 0 then (fun x => if x = co then w else m a_worths x) else m a_worths) := by
  have hm := hI.1.1
  obtain ⟨hw, hl, hn⟩ := mI_wl hI
  have hq0 := mQ_rf hI
  have eT0 : mT m = mT m := rfl
  have t4 : (mT m).2.2.2 = m aM f_letters := rfl
  have t0 : (mT m).1 0 = m a_c 0 := rfl
  have t1 : (mT m).1 1 = m a_c 1 := rfl
  have t2 : (mT m).1 2 = m a_c 2 := rfl
  have b1 := hw.1
  have b2 := hw.2.1
  have b3 := hw.2.2.1
  refine zR_go [zP aM, zI co, zI w, zN] (by decide +kernel) (Nat.le_of_ble_eq_true rfl) rfl rfl ?_
  refine z_aload_n dX12_worth_0 rfl ?_
  refine z_iload_n dX12_worth_1 rfl ?_
  refine z_bipush dX12_worth_2 rfl (by decide) ?_
  refine z_bipush dX12_worth_4 rfl (by decide) ?_
  refine z_callS mlX12_140 dX12_worth_6 (av := [_, _, _]) rfl rfl (Nat.le_of_ble_eq_true rfl) (r_isIn _ hE hm w (-9) 9) (Nat.le_refl _) (Nat.le_refl _) (Nat.le_refl _) (Nat.le_refl _) ?_
  rintro _ _ ⟨rfl, rfl⟩
  refine z_ifz_ne (tgt := 16) dX12_worth_9 rfl (fun h9 => ?_) (fun h9 => ?_)
  · refine z_aload_n dX12_worth_16 rfl ?_
    refine z_iload_n dX12_worth_17 rfl ?_
    refine z_callV mlX12_356 dX12_worth_18 (sh_M hE) (av := [_]) rfl rfl (Nat.le_of_ble_eq_true rfl) (r_isCode _ hE hm co hw) (Nat.le_refl _) (Nat.le_refl _) (Nat.le_refl _) (Nat.le_refl _) ?_
    rintro _ _ ⟨rfl, rfl⟩
    refine z_ifz_ne (tgt := 28) dX12_worth_21 rfl (fun h21 => ?_) (fun h21 => ?_)
    · have hco : cCodeOk (mT m).1 co = true := by assumption
      have hcr := cCodeOk_rg hw hco
      refine z_aload_n dX12_worth_28 rfl ?_
      refine z_gP 2 rfl (r := a_worths) flX12_16 dX12_worth_29 (sh_M hE) rfl (pt_worths hm) (by decide) ?_
      refine z_iload_n dX12_worth_32 rfl ?_
      refine z_iald dX12_worth_33 (sh_worths hE) (by omega) (by omega) ?_
      refine z_iload_n dX12_worth_34 rfl ?_
      refine z_icmp_ne (tgt := 42) dX12_worth_35 rfl (fun h35 => ?_) (fun h35 => ?_)
      · refine z_iconst dX12_worth_42 (by decide) ?_
        refine z_callV mlX12_310 dX12_worth_43 (sh_M hE) (av := [_]) rfl rfl (Nat.le_of_ble_eq_true rfl) (r_is _ hE hm _) (Nat.le_refl _) (Nat.le_refl _) (Nat.le_refl _) (Nat.le_refl _) ?_
        rintro _ m1 ⟨rfl, e1⟩
        have hq1 : mQ m m1 0 := e1 ▸ mQ_is hq0
        have hI1 := hq1.1
        have hm1 := hI1.1.1
        have eT1 := mQ_T hq1
        have ec1 : m1 a_c = m a_c := congrArg (fun q => q.1) eT1
        have ew1 : m1 a_what = m a_what := congrArg (fun q => q.2.1) eT1
        have ep1 : m1 a_pointOf = m a_pointOf := congrArg (fun q => q.2.2.1) eT1
        have en1 : m1 aM f_letters = m aM f_letters := congrArg (fun q => q.2.2.2) eT1
        obtain ⟨hw1, hl1, hn1⟩ := mI_wl hI1
        refine z_ifz_ne (tgt := 51) dX12_worth_46 rfl (fun h46 => ?_) (fun h => absurd (by decide) h)
        refine z_aload_n dX12_worth_51 rfl ?_
        refine z_gP 2 rfl (r := a_worths) flX12_16 dX12_worth_52 (sh_M hE) rfl (pt_worths hm1) (by decide) ?_
        refine z_iload_n dX12_worth_55 rfl ?_
        refine z_iald dX12_worth_56 (sh_worths hE) (by omega) (by omega) ?_
        refine z_ist 3 dX12_worth_57 rfl (Nat.le_of_ble_eq_true rfl) ?_
        refine z_aload_n dX12_worth_58 rfl ?_
        refine z_gP 2 rfl (r := a_worths) flX12_16 dX12_worth_59 (sh_M hE) rfl (pt_worths hm1) (by decide) ?_
        refine z_iload_n dX12_worth_62 rfl ?_
        refine z_iload_n dX12_worth_63 rfl ?_
        refine z_iast dX12_worth_64 (sh_worths hE) (by omega) (by omega) ?_
        refine z_iload_n dX12_worth_65 rfl ?_
        try dsimp only [zs0, zsI, zsP, zsN, zsJ, zsS, zst2, Nat.reduceAdd]
        refine z_iret dX12_worth_66 rfl rfl ?_
        have ewo : m1 a_worths = m a_worths := zfr_cell hq1.2.1 (by decide)
        have eA : aWorth (mT m) (m a_worths) co w = (0, m a_worths co) := by unfold aWorth; rw [if_neg (by omega), if_neg (not_not_intro hco), if_neg (by omega)]
        rw [eA, ewo]
        refine ⟨rfl, mI_wo hI1 (by omega), zfr_ua (zfr_sub hq1.2.1 (by decide)) (by decide), ?_, ?_⟩
        · rw [zu_a (by decide)]; exact hq1.2.2
        · rw [if_pos rfl]
          funext x
          by_cases e : x = co
          · rw [e, zu_s, if_pos rfl]
          · rw [zu_j e, if_neg e, ewo]
      · refine z_iconst dX12_worth_38 (by decide) ?_
        refine z_goto (tgt := 43) dX12_worth_39 rfl ?_
        refine z_callV mlX12_310 dX12_worth_43 (sh_M hE) (av := [_]) rfl rfl (Nat.le_of_ble_eq_true rfl) (r_is _ hE hm _) (Nat.le_refl _) (Nat.le_refl _) (Nat.le_refl _) (Nat.le_refl _) ?_
        rintro _ m1 ⟨rfl, e1⟩
        have hq1 : mQ m m1 4 := e1 ▸ mQ_is hq0
        have hI1 := hq1.1
        have hm1 := hI1.1.1
        have eT1 := mQ_T hq1
        have ec1 : m1 a_c = m a_c := congrArg (fun q => q.1) eT1
        have ew1 : m1 a_what = m a_what := congrArg (fun q => q.2.1) eT1
        have ep1 : m1 a_pointOf = m a_pointOf := congrArg (fun q => q.2.2.1) eT1
        have en1 : m1 aM f_letters = m aM f_letters := congrArg (fun q => q.2.2.2) eT1
        obtain ⟨hw1, hl1, hn1⟩ := mI_wl hI1
        refine z_ifz_ne (tgt := 51) dX12_worth_46 rfl (fun h => absurd h (by decide)) (fun h46 => ?_)
        refine z_iconst dX12_worth_49 (by decide) ?_
        refine z_iret dX12_worth_50 rfl rfl ?_
        have ewo : m1 a_worths = m a_worths := zfr_cell hq1.2.1 (by decide)
        have eA : aWorth (mT m) (m a_worths) co w = (4, -1) := by unfold aWorth; rw [if_neg (by omega), if_neg (not_not_intro hco), if_pos (by omega)]
        rw [eA]
        exact ⟨rfl, hI1, zfr_sub hq1.2.1 (by decide), hq1.2.2, by rw [if_neg (by decide)]; exact ewo⟩
    · refine z_iconst dX12_worth_24 (by decide) ?_
      refine z_goto (tgt := 43) dX12_worth_25 rfl ?_
      refine z_callV mlX12_310 dX12_worth_43 (sh_M hE) (av := [_]) rfl rfl (Nat.le_of_ble_eq_true rfl) (r_is _ hE hm _) (Nat.le_refl _) (Nat.le_refl _) (Nat.le_refl _) (Nat.le_refl _) ?_
      rintro _ m1 ⟨rfl, e1⟩
      have hq1 : mQ m m1 2 := e1 ▸ mQ_is hq0
      have hI1 := hq1.1
      have hm1 := hI1.1.1
      have eT1 := mQ_T hq1
      have ec1 : m1 a_c = m a_c := congrArg (fun q => q.1) eT1
      have ew1 : m1 a_what = m a_what := congrArg (fun q => q.2.1) eT1
      have ep1 : m1 a_pointOf = m a_pointOf := congrArg (fun q => q.2.2.1) eT1
      have en1 : m1 aM f_letters = m aM f_letters := congrArg (fun q => q.2.2.2) eT1
      obtain ⟨hw1, hl1, hn1⟩ := mI_wl hI1
      refine z_ifz_ne (tgt := 51) dX12_worth_46 rfl (fun h => absurd h (by decide)) (fun h46 => ?_)
      refine z_iconst dX12_worth_49 (by decide) ?_
      refine z_iret dX12_worth_50 rfl rfl ?_
      have ewo : m1 a_worths = m a_worths := zfr_cell hq1.2.1 (by decide)
      have eA : aWorth (mT m) (m a_worths) co w = (2, -1) := by unfold aWorth; rw [if_neg (by omega), if_pos (by assumption)]
      rw [eA]
      exact ⟨rfl, hI1, zfr_sub hq1.2.1 (by decide), hq1.2.2, by rw [if_neg (by decide)]; exact ewo⟩
  · refine z_iconst dX12_worth_12 (by decide) ?_
    refine z_goto (tgt := 43) dX12_worth_13 rfl ?_
    refine z_callV mlX12_310 dX12_worth_43 (sh_M hE) (av := [_]) rfl rfl (Nat.le_of_ble_eq_true rfl) (r_is _ hE hm _) (Nat.le_refl _) (Nat.le_refl _) (Nat.le_refl _) (Nat.le_refl _) ?_
    rintro _ m1 ⟨rfl, e1⟩
    have hq1 : mQ m m1 1 := e1 ▸ mQ_is hq0
    have hI1 := hq1.1
    have hm1 := hI1.1.1
    have eT1 := mQ_T hq1
    have ec1 : m1 a_c = m a_c := congrArg (fun q => q.1) eT1
    have ew1 : m1 a_what = m a_what := congrArg (fun q => q.2.1) eT1
    have ep1 : m1 a_pointOf = m a_pointOf := congrArg (fun q => q.2.2.1) eT1
    have en1 : m1 aM f_letters = m aM f_letters := congrArg (fun q => q.2.2.2) eT1
    obtain ⟨hw1, hl1, hn1⟩ := mI_wl hI1
    refine z_ifz_ne (tgt := 51) dX12_worth_46 rfl (fun h => absurd h (by decide)) (fun h46 => ?_)
    refine z_iconst dX12_worth_49 (by decide) ?_
    refine z_iret dX12_worth_50 rfl rfl ?_
    have ewo : m1 a_worths = m a_worths := zfr_cell hq1.2.1 (by decide)
    have eA : aWorth (mT m) (m a_worths) co w = (1, -1) := by unfold aWorth; rw [if_pos (by omega)]
    rw [eA]
    exact ⟨rfl, hI1, zfr_sub hq1.2.1 (by decide), hq1.2.2, by rw [if_neg (by decide)]; exact ewo⟩

theorem l_worthOf (d : Nat) {E : zE} {m : zM} {P : Option zV → zM → Prop} (hE : shM E) (hm : ptM m) (kk : Int) (mt : Int → Int) (hk0 : 0 ≤ kk) (hk1 : kk < 10395) (hw : wfC (m a_c)) (hl : wfL (m a_c) (m a_what) (m a_pointOf) (m aM f_letters)) (hrow : ∀ k, 0 ≤ k → k < m aM f_letters → m a_table (12 * kk + k) = mt k) (hf : sFull (m aM f_letters).toNat (cMay (m a_c) (m a_what) (m a_pointOf)) mt) (hwo : ∀ k : Int, 0 ≤ k → k < 800 → -9 ≤ m a_worths k ∧ m a_worths k ≤ 9)  : ∀ (j : Nat) (k v : Int), (0 ≤ k) → (k + j = m aM f_letters) → (-(9 ^ k.toNat) ≤ v ∧ v ≤ 9 ^ k.toNat) → (P (some (zJ (zfd (fun i v => if i < mt i then v * m a_worths (cCode (m a_c) (m a_what) (m a_pointOf) i (mt i)) else v) j k v))) m) → zA zX12_worthOf (d + 2) E E P 11 [zP aM, zI kk, zJ v, zN, zI k] [] m E := by
  intro j
  induction j with
  | zero =>
    intro k v h0 hk hv hP
    have hn0 := hl.1
    have hb3 := hw.2.2.1
    refine z_iload dX12_worthOf_11 rfl ?_
    refine z_aload_n dX12_worthOf_13 rfl ?_
    refine z_gI f_letters rfl flX12_124 dX12_worthOf_14 (sh_M hE) rfl ?_
    refine z_icmp_ge (tgt := 60) dX12_worthOf_17 rfl (fun h17 => ?_) (fun h => absurd (by omega) h)
    refine z_lload_n dX12_worthOf_60 rfl ?_
    refine z_lret dX12_worthOf_61 rfl rfl ?_
    exact hP
  | succ j ih =>
    intro k v h0 hk hv hP
    have hn0 := hl.1
    have hb3 := hw.2.2.1
    have hfi := hf.1 k h0 (by omega)
    have hr1 := hrow k h0 (by omega)
    have h9 := p9 k.toNat (by omega)
    have h9' := p9 (k.toNat + 1) (by omega)
    refine z_iload dX12_worthOf_11 rfl ?_
    refine z_aload_n dX12_worthOf_13 rfl ?_
    refine z_gI f_letters rfl flX12_124 dX12_worthOf_14 (sh_M hE) rfl ?_
    refine z_icmp_ge (tgt := 60) dX12_worthOf_17 rfl (fun h => absurd h (by omega)) (fun h17 => ?_)
    refine z_aload_n dX12_worthOf_20 rfl ?_
    refine z_iload_n dX12_worthOf_21 rfl ?_
    refine z_iload dX12_worthOf_22 rfl ?_
    refine z_callV mlX12_200 dX12_worthOf_24 (sh_M hE) (av := [_, _]) rfl rfl (Nat.le_of_ble_eq_true rfl) (r_mateOf _ hE hm kk k hk0 hk1 h0 (by omega)) (Nat.le_refl _) (Nat.le_refl _) (Nat.le_refl _) (Nat.le_refl _) ?_
    rintro _ _ ⟨rfl, rfl⟩
    rw [hr1]
    refine z_iload dX12_worthOf_27 rfl ?_
    refine z_icmp_le (tgt := 54) dX12_worthOf_29 rfl (fun h29 => ?_) (fun h29 => ?_)
    · refine z_inc dX12_worthOf_54 rfl (by omega) ?_
      refine z_goto (tgt := 11) dX12_worthOf_57 rfl ?_
      try dsimp only [zs0, zsI, zsP, zsN, zsJ, zsS, zst2, Nat.reduceAdd]
      rw [zfd_s, if_neg (by omega)] at hP
      exact ih (k + 1) _ (by omega) (by omega) (by rw [show (k + 1).toNat = k.toNat + 1 by omega, Int.pow_succ]; have := p9 k.toNat (by omega); omega) hP
    · have hmay := hfi.2.2.2.2 (by omega)
      have hcr := cCodeOk_rg hw (cCode_ok hw hl h0 (by omega) hfi.1 (by omega) hmay)
      have hww := hwo _ hcr.1 hcr.2.2.2
      refine z_lload_n dX12_worthOf_32 rfl ?_
      refine z_aload_n dX12_worthOf_33 rfl ?_
      refine z_gP 2 rfl (r := a_worths) flX12_16 dX12_worthOf_34 (sh_M hE) rfl (pt_worths hm) (by decide) ?_
      refine z_aload_n dX12_worthOf_37 rfl ?_
      refine z_iload dX12_worthOf_38 rfl ?_
      refine z_aload_n dX12_worthOf_40 rfl ?_
      refine z_iload_n dX12_worthOf_41 rfl ?_
      refine z_iload dX12_worthOf_42 rfl ?_
      refine z_callV mlX12_200 dX12_worthOf_44 (sh_M hE) (av := [_, _]) rfl rfl (Nat.le_of_ble_eq_true rfl) (r_mateOf _ hE hm kk k hk0 hk1 h0 (by omega)) (Nat.le_refl _) (Nat.le_refl _) (Nat.le_refl _) (Nat.le_refl _) ?_
      rintro _ _ ⟨rfl, rfl⟩
      rw [hr1]
      refine z_callV mlX12_203 dX12_worthOf_47 (sh_M hE) (av := [_, _]) rfl rfl (Nat.le_of_ble_eq_true rfl) (r_codeOf _ hE hm k (mt k) h0 (by omega) hfi.1 (by omega) hw hl hmay) (Nat.le_refl _) (Nat.le_refl _) (Nat.le_refl _) (Nat.le_refl _) ?_
      rintro _ _ ⟨rfl, rfl⟩
      refine z_iald dX12_worthOf_50 (sh_worths hE) hcr.1 hcr.2.2.2 ?_
      refine z_i2l dX12_worthOf_51 ?_
      refine z_lmul' dX12_worthOf_52 (by have := mul9 hv ⟨hww.1, hww.2⟩; omega) ?_
      refine z_lst 2 dX12_worthOf_53 rfl (Nat.le_of_ble_eq_true rfl) ?_
      refine z_inc dX12_worthOf_54 rfl (by omega) ?_
      refine z_goto (tgt := 11) dX12_worthOf_57 rfl ?_
      try dsimp only [zs0, zsI, zsP, zsN, zsJ, zsS, zst2, Nat.reduceAdd]
      rw [zfd_s, if_pos (by omega)] at hP
      exact ih (k + 1) _ (by omega) (by omega) (by rw [show (k + 1).toNat = k.toNat + 1 by omega]; exact mul9 hv ⟨hww.1, hww.2⟩) hP

theorem r_worthOf (d : Nat) {E : zE} {m : zM} (hE : shM E) (hm : ptM m) (kk : Int) (mt : Int → Int) (hk0 : 0 ≤ kk) (hk1 : kk < 10395) (hw : wfC (m a_c)) (hl : wfL (m a_c) (m a_what) (m a_pointOf) (m aM f_letters)) (hrow : ∀ k, 0 ≤ k → k < m aM f_letters → m a_table (12 * kk + k) = mt k) (hf : sFull (m aM f_letters).toNat (cMay (m a_c) (m a_what) (m a_pointOf)) mt) (hwo : ∀ k : Int, 0 ≤ k → k < 800 → -9 ≤ m a_worths k ∧ m a_worths k ≤ 9) (hsn : m a_sign kk = tSign (mT m) mt) : zR zX12_worthOf (d + 2) [zP aM, zI kk] m E E (fun r m' => r = some (zJ (tWo (mT m) (m a_worths) mt)) ∧ m = m') := by
  refine zR_go [zP aM, zI kk, zN, zN, zN] (by decide +kernel) (Nat.le_of_ble_eq_true rfl) rfl rfl ?_
  refine z_aload_n dX12_worthOf_0 rfl ?_
  refine z_gP 8 rfl (r := a_sign) flX12_29 dX12_worthOf_1 (sh_M hE) rfl (pt_sign hm) (by decide) ?_
  refine z_iload_n dX12_worthOf_4 rfl ?_
  refine z_iald dX12_worthOf_5 (sh_sign hE) (by omega) (by omega) ?_
  refine z_i2l dX12_worthOf_6 ?_
  refine z_lst 2 dX12_worthOf_7 rfl (Nat.le_of_ble_eq_true rfl) ?_
  refine z_iconst dX12_worthOf_8 (by decide) ?_
  refine z_istore dX12_worthOf_9 (Nat.le_of_ble_eq_true rfl) ?_
  try dsimp only [zs0, zsI, zsP, zsN, zsJ, zsS, zst2, Nat.reduceAdd]
  rw [hsn]
  refine l_worthOf d hE hm kk mt hk0 hk1 hw hl hrow hf hwo (m aM f_letters).toNat 0 _ (by omega) (by have := hl.1; omega) (by show -(9 ^ 0) ≤ _ ∧ _ ≤ 9 ^ 0; rcases zpar_or (sTurn (m aM f_letters).toNat (cOd (m a_c) (m a_what)) (cBr (m a_c) (m a_what)) mt) with e | e <;> (unfold tSign sSign mT; rw [e]; decide)) ⟨rfl, rfl⟩

theorem q_worthOf (d : Nat) {E : zE} {m : zM} (hE : shM E) (hI : mI m) (hL : mL m) (k : Int) (h0 : 0 ≤ k) (h1 : k < ((tPairs (mT m)).length : Int)) : zR zX12_worthOf (d + 2) [zP aM, zI k] m E E (fun r m' => r = some (zJ (tWo (mT m) (m a_worths) (tMt (mT m) k))) ∧ m = m') := by
  obtain ⟨hw, hl, hn⟩ := mI_wl hI
  have a := mL_at hI.1 hL h0 h1
  have hlen := mL_len hI.1 hL
  exact r_worthOf d hE hI.1.1 k (tMt (mT m) k) h0 (by omega) hw hl a.1 a.2.2.2.2 hI.2.2.2.2.1 a.2.1

theorem tWo_bd {m : zM} (hI : mI m) (hL : mL m) (k : Int) (h0 : 0 ≤ k) (h1 : k < ((tPairs (mT m)).length : Int)) : -282429536481 ≤ tWo (mT m) (m a_worths) (tMt (mT m) k) ∧ tWo (mT m) (m a_worths) (tMt (mT m) k) ≤ 282429536481 := by
  obtain ⟨hw, hl, hn⟩ := mI_wl hI
  have a := mL_at hI.1 hL h0 h1
  have key : ∀ (s : Nat) (i v : Int), 0 ≤ i → i + s = m aM f_letters → -(9 ^ i.toNat) ≤ v ∧ v ≤ 9 ^ i.toNat → -(9 ^ (m aM f_letters).toNat) ≤ zfd (fun i v => if i < tMt (mT m) k i then v * m a_worths (cCode (m a_c) (m a_what) (m a_pointOf) i (tMt (mT m) k i)) else v) s i v ∧ zfd (fun i v => if i < tMt (mT m) k i then v * m a_worths (cCode (m a_c) (m a_what) (m a_pointOf) i (tMt (mT m) k i)) else v) s i v ≤ 9 ^ (m aM f_letters).toNat := by
    intro s
    induction s with
    | zero => intro i v q0 q1 hv; rw [show (m aM f_letters).toNat = i.toNat by omega]; exact hv
    | succ s ih =>
      intro i v q0 q1 hv
      rw [zfd_s]
      refine ih (i + 1) _ (by omega) (by omega) ?_
      rw [show (i + 1).toNat = i.toNat + 1 by omega]
      split
      · have g := a.2.2.2.2.1 i q0 (by omega)
        have hcr := cCodeOk_rg hw (cCode_ok hw hl q0 (by omega) g.1 (by omega) (g.2.2.2.2 (by omega)))
        exact mul9 hv (hI.2.2.2.2.1 _ hcr.1 hcr.2.2.2)
      · have := p9 i.toNat (by omega)
        rw [Int.pow_succ]
        omega
  have h := key (m aM f_letters).toNat 0 (tSign (mT m) (tMt (mT m) k)) (by omega) (by omega) (by
    show -(9 ^ 0) ≤ _ ∧ _ ≤ 9 ^ 0
    unfold tSign sSign
    rcases zpar_or (sTurn (mT m).2.2.2.toNat (cOd (mT m).1 (mT m).2.1) (cBr (mT m).1 (mT m).2.1) (tMt (mT m) k)) with e | e <;> (rw [e]; decide))
  have := p9 (m aM f_letters).toNat (by omega)
  have e : tWo (mT m) (m a_worths) (tMt (mT m) k) = zfd (fun i v => if i < tMt (mT m) k i then v * m a_worths (cCode (m a_c) (m a_what) (m a_pointOf) i (tMt (mT m) k i)) else v) (m aM f_letters).toNat 0 (tSign (mT m) (tMt (mT m) k)) := rfl
  rw [e]
  omega

theorem l_sum_w (d : Nat) {E : zE} {m : zM} {P : Option zV → zM → Prop} (hE : shM E) (hm : ptM m) (hI : mI m) (hL : mL m)  : ∀ (j : Nat) (k v : Int), (0 ≤ k) → (k + j = ((tPairs (mT m)).length : Int)) → (-(282429536481 * k) ≤ v ∧ v ≤ 282429536481 * k) → (P (some (zJ (v + zsum (fun k => tWo (mT m) (m a_worths) (tMt (mT m) k)) j k))) m) → zA zX12_sum (d + 3) E E P 14 [zP aM, zJ v, zN, zI k] [] m E := by
  intro j
  induction j with
  | zero =>
    intro k v h0 hk hv hP
    have hlen := mL_len hI.1 hL
    refine z_iload_n dX12_sum_14 rfl ?_
    refine z_aload_n dX12_sum_15 rfl ?_
    refine z_gI f_laid rfl flX12_172 dX12_sum_16 (sh_M hE) rfl ?_
    refine z_icmp_ge (tgt := 36) dX12_sum_19 rfl (fun h19 => ?_) (fun h => absurd (by omega) h)
    refine z_lload_n dX12_sum_36 rfl ?_
    refine z_lret dX12_sum_37 rfl rfl ?_
    rw [zsum_0, Int.add_zero] at hP
    exact hP
  | succ j ih =>
    intro k v h0 hk hv hP
    have hlen := mL_len hI.1 hL
    refine z_iload_n dX12_sum_14 rfl ?_
    refine z_aload_n dX12_sum_15 rfl ?_
    refine z_gI f_laid rfl flX12_172 dX12_sum_16 (sh_M hE) rfl ?_
    refine z_icmp_ge (tgt := 36) dX12_sum_19 rfl (fun h => absurd h (by omega)) (fun h19 => ?_)
    refine z_lload_n dX12_sum_22 rfl ?_
    refine z_aload_n dX12_sum_23 rfl ?_
    refine z_iload_n dX12_sum_24 rfl ?_
    refine z_callV mlX12_389 dX12_sum_25 (sh_M hE) (av := [_]) rfl rfl (Nat.le_of_ble_eq_true rfl) (q_worthOf _ hE hI hL k h0 (by omega)) (Nat.le_refl _) (Nat.le_refl _) (Nat.le_refl _) (Nat.le_refl _) ?_
    rintro _ _ ⟨rfl, rfl⟩
    refine z_ladd' dX12_sum_28 (by have := tWo_bd hI hL k h0 (by omega); omega) ?_
    refine z_lst 1 dX12_sum_29 rfl (Nat.le_of_ble_eq_true rfl) ?_
    refine z_inc dX12_sum_30 rfl (by omega) ?_
    refine z_goto (tgt := 14) dX12_sum_33 rfl ?_
    try dsimp only [zs0, zsI, zsP, zsN, zsJ, zsS, zst2, Nat.reduceAdd]
    rw [zsum_s, ← Int.add_assoc] at hP
    exact ih (k + 1) _ (by omega) (by omega) (by have := tWo_bd hI hL k h0 (by omega); omega) hP

theorem q_sum (d : Nat) {E : zE} {m : zM} (hE : shM E) (hI : mI m)   : zR zX12_sum (d + 11) [zP aM] m E E (fun r m' => r = some (zJ (aSum (mT m) (m a_worths)).2) ∧ mQ m m' (aSum (mT m) (m a_worths)).1) := by
  have hm := hI.1.1
  obtain ⟨hw, hl, hn⟩ := mI_wl hI
  have hq0 := mQ_rf hI
  have eT0 : mT m = mT m := rfl
  have t4 : (mT m).2.2.2 = m aM f_letters := rfl
  have t0 : (mT m).1 0 = m a_c 0 := rfl
  have t1 : (mT m).1 1 = m a_c 1 := rfl
  have t2 : (mT m).1 2 = m a_c 2 := rfl
  have b1 := hw.1
  have b2 := hw.2.1
  have b3 := hw.2.2.1
  refine zR_go [zP aM, zN, zN, zN] (by decide +kernel) (Nat.le_of_ble_eq_true rfl) rfl rfl ?_
  refine z_aload_n dX12_sum_0 rfl ?_
  refine z_iconst dX12_sum_1 (by decide) ?_
  refine z_callV mlX12_310 dX12_sum_2 (sh_M hE) (av := [_]) rfl rfl (Nat.le_of_ble_eq_true rfl) (r_is _ hE hm _) (Nat.le_refl _) (Nat.le_refl _) (Nat.le_refl _) (Nat.le_refl _) ?_
  rintro _ m1 ⟨rfl, e1⟩
  have hq1 : mQ m m1 0 := e1 ▸ mQ_is hq0
  have hI1 := hq1.1
  have hm1 := hI1.1.1
  have eT1 := mQ_T hq1
  have ec1 : m1 a_c = m a_c := congrArg (fun q => q.1) eT1
  have ew1 : m1 a_what = m a_what := congrArg (fun q => q.2.1) eT1
  have ep1 : m1 a_pointOf = m a_pointOf := congrArg (fun q => q.2.2.1) eT1
  have en1 : m1 aM f_letters = m aM f_letters := congrArg (fun q => q.2.2.2) eT1
  obtain ⟨hw1, hl1, hn1⟩ := mI_wl hI1
  refine z_pop dX12_sum_5 rfl ?_
  refine z_aload_n dX12_sum_6 rfl ?_
  refine z_callV mlX12_194 dX12_sum_7 (sh_M hE) (av := _) rfl rfl (Nat.le_of_ble_eq_true rfl) (q_lays _ hE hI1) (Nat.le_refl _) (Nat.le_refl _) (Nat.le_refl _) (Nat.le_refl _) ?_
  rintro _ m2 ⟨rfl, g2, f2, hL2⟩
  have hq2 := mQ_lays hq1 g2 f2
  have hI2 := hq2.1
  have hm2 := hI2.1.1
  have eT2 := mQ_T hq2
  have ec2 : m2 a_c = m a_c := congrArg (fun q => q.1) eT2
  have ew2 : m2 a_what = m a_what := congrArg (fun q => q.2.1) eT2
  have ep2 : m2 a_pointOf = m a_pointOf := congrArg (fun q => q.2.2.1) eT2
  have en2 : m2 aM f_letters = m aM f_letters := congrArg (fun q => q.2.2.2) eT2
  obtain ⟨hw2, hl2, hn2⟩ := mI_wl hI2
  have hlen2 := mL_len hI2.1 hL2
  have hsg2 := mL_sg hI2.1 hL2
  refine z_lconst0 dX12_sum_10 ?_
  refine z_lst 1 dX12_sum_11 rfl (Nat.le_of_ble_eq_true rfl) ?_
  refine z_iconst dX12_sum_12 (by decide) ?_
  refine z_ist 3 dX12_sum_13 rfl (Nat.le_of_ble_eq_true rfl) ?_
  try dsimp only [zs0, zsI, zsP, zsN, zsJ, zsS, zst2, Nat.reduceAdd]
  have ewo : m2 a_worths = m a_worths := zfr_cell hq2.2.1 (by decide)
  refine l_sum_w (d + 8) hE hm2 hI2 hL2 (tPairs (mT m2)).length 0 0 (by omega) (by omega) (by omega) ?_
  rw [Int.zero_add, zsum_lS0 (l := tPairs (mT m2)) (g := tWo (mT m) (m a_worths)) rfl (fun t x ht => by rw [tMt_t ht, eT2, ewo]), eT2]
  exact ⟨rfl, hq2⟩

theorem l_sumOf (d : Nat) {E : zE} {m : zM} {P : Option zV → zM → Prop} (hE : shM E) (hm : ptM m) (dd : Int) (hI : mI m) (hL : mL m) (hN : mN m) (d0 : 0 ≤ dd) (d1 : dd < ((tD (mT m)).length : Int))  : ∀ (j : Nat) (k v : Int), (0 ≤ k) → (k + j = ((tPairs (mT m)).length : Int)) → (-(282429536481 * k) ≤ v ∧ v ≤ 282429536481 * k) → (P (some (zJ (v + zsum (fun k => if tName (mT m) (tMt (mT m) k) = tNm (mT m) dd then tWo (mT m) (m a_worths) (tMt (mT m) k) else 0) j k))) m) → zA zX12_sumOf (d + 3) E E P 29 [zP aM, zI dd, zJ v, zN, zI k] [] m E := by
  intro j
  induction j with
  | zero =>
    intro k v h0 hk hv hP
    have hlen := mL_len hI.1 hL
    refine z_iload dX12_sumOf_29 rfl ?_
    refine z_aload_n dX12_sumOf_31 rfl ?_
    refine z_gI f_laid rfl flX12_172 dX12_sumOf_32 (sh_M hE) rfl ?_
    refine z_icmp_ge (tgt := 68) dX12_sumOf_35 rfl (fun h35 => ?_) (fun h => absurd (by omega) h)
    refine z_lload_n dX12_sumOf_68 rfl ?_
    refine z_lret dX12_sumOf_69 rfl rfl ?_
    rw [zsum_0, Int.add_zero] at hP
    exact hP
  | succ j ih =>
    intro k v h0 hk hv hP
    have hlen := mL_len hI.1 hL
    refine z_iload dX12_sumOf_29 rfl ?_
    refine z_aload_n dX12_sumOf_31 rfl ?_
    refine z_gI f_laid rfl flX12_172 dX12_sumOf_32 (sh_M hE) rfl ?_
    refine z_icmp_ge (tgt := 68) dX12_sumOf_35 rfl (fun h => absurd h (by omega)) (fun h35 => ?_)
    refine z_lload_n dX12_sumOf_38 rfl ?_
    refine z_aload_n dX12_sumOf_39 rfl ?_
    refine z_gP 11 rfl (r := a_diagramOf) flX12_38 dX12_sumOf_40 (sh_M hE) rfl (pt_diagramOf hm) (by decide) ?_
    refine z_iload dX12_sumOf_43 rfl ?_
    refine z_iald dX12_sumOf_45 (sh_diagramOf hE) (by omega) (by omega) ?_
    refine z_iload_n dX12_sumOf_46 rfl ?_
    refine z_icmp_ne (tgt := 59) dX12_sumOf_47 rfl (fun h47 => ?_) (fun h47 => ?_)
    · refine z_lconst0 dX12_sumOf_59 ?_
      refine z_ladd' dX12_sumOf_60 (by have := tWo_bd hI hL k h0 (by omega); omega) ?_
      refine z_lst 2 dX12_sumOf_61 rfl (Nat.le_of_ble_eq_true rfl) ?_
      refine z_inc dX12_sumOf_62 rfl (by omega) ?_
      refine z_goto (tgt := 29) dX12_sumOf_65 rfl ?_
      try dsimp only [zs0, zsI, zsP, zsN, zsJ, zsS, zst2, Nat.reduceAdd]
      have hdk := mN_at hN h0 (show k < ((tPairs (mT m)).length : Int) by omega) d0 d1
      rw [zsum_s, ← Int.add_assoc, if_neg (fun h => absurd (hdk.mpr h) (by omega))] at hP
      exact ih (k + 1) _ (by omega) (by omega) (by have := tWo_bd hI hL k h0 (by omega); omega) hP
    · refine z_aload_n dX12_sumOf_50 rfl ?_
      refine z_iload dX12_sumOf_51 rfl ?_
      refine z_callV mlX12_389 dX12_sumOf_53 (sh_M hE) (av := [_]) rfl rfl (Nat.le_of_ble_eq_true rfl) (q_worthOf _ hE hI hL k h0 (by omega)) (Nat.le_refl _) (Nat.le_refl _) (Nat.le_refl _) (Nat.le_refl _) ?_
      rintro _ _ ⟨rfl, rfl⟩
      refine z_goto (tgt := 60) dX12_sumOf_56 rfl ?_
      refine z_ladd' dX12_sumOf_60 (by have := tWo_bd hI hL k h0 (by omega); omega) ?_
      refine z_lst 2 dX12_sumOf_61 rfl (Nat.le_of_ble_eq_true rfl) ?_
      refine z_inc dX12_sumOf_62 rfl (by omega) ?_
      refine z_goto (tgt := 29) dX12_sumOf_65 rfl ?_
      try dsimp only [zs0, zsI, zsP, zsN, zsJ, zsS, zst2, Nat.reduceAdd]
      have hdk := mN_at hN h0 (show k < ((tPairs (mT m)).length : Int) by omega) d0 d1
      rw [zsum_s, ← Int.add_assoc, if_pos (hdk.mp (by omega))] at hP
      exact ih (k + 1) _ (by omega) (by omega) (by have := tWo_bd hI hL k h0 (by omega); omega) hP

theorem q_sumOf (d : Nat) {E : zE} {m : zM} (hE : shM E) (hI : mI m) (dd : Int)  : zR zX12_sumOf (d + 15) [zP aM, zI dd] m E E (fun r m' => r = some (zJ (aSumOf (mT m) (m a_worths) dd).2) ∧ mQ m m' (aSumOf (mT m) (m a_worths) dd).1) := by
  have hm := hI.1.1
  obtain ⟨hw, hl, hn⟩ := mI_wl hI
  have hq0 := mQ_rf hI
  have eT0 : mT m = mT m := rfl
  have t4 : (mT m).2.2.2 = m aM f_letters := rfl
  have t0 : (mT m).1 0 = m a_c 0 := rfl
  have t1 : (mT m).1 1 = m a_c 1 := rfl
  have t2 : (mT m).1 2 = m a_c 2 := rfl
  have b1 := hw.1
  have b2 := hw.2.1
  have b3 := hw.2.2.1
  refine zR_go [zP aM, zI dd, zN, zN, zN] (by decide +kernel) (Nat.le_of_ble_eq_true rfl) rfl rfl ?_
  refine z_aload_n dX12_sumOf_0 rfl ?_
  refine z_aload_n dX12_sumOf_1 rfl ?_
  refine z_iload_n dX12_sumOf_2 rfl ?_
  refine z_callV mlX12_420 dX12_sumOf_3 (sh_M hE) (av := [_]) rfl rfl (Nat.le_of_ble_eq_true rfl) (q_isDiagram _ hE hI dd) (Nat.le_refl _) (Nat.le_refl _) (Nat.le_refl _) (Nat.le_refl _) ?_
  rintro _ m1 ⟨rfl, g1, f1, hL1, hN1⟩
  have hq1 := mQ_names hq0 g1 f1
  have hI1 := hq1.1
  have hm1 := hI1.1.1
  have eT1 := mQ_T hq1
  have ec1 : m1 a_c = m a_c := congrArg (fun q => q.1) eT1
  have ew1 : m1 a_what = m a_what := congrArg (fun q => q.2.1) eT1
  have ep1 : m1 a_pointOf = m a_pointOf := congrArg (fun q => q.2.2.1) eT1
  have en1 : m1 aM f_letters = m aM f_letters := congrArg (fun q => q.2.2.2) eT1
  obtain ⟨hw1, hl1, hn1⟩ := mI_wl hI1
  have hlen1 := mL_len hI1.1 hL1
  have hsg1 := mL_sg hI1.1 hL1
  have nD1 := mN_D hN1
  refine z_ifz_eq (tgt := 13) dX12_sumOf_6 rfl (fun h6 => ?_) (fun h6 => ?_)
  · refine z_iconst dX12_sumOf_13 (by decide) ?_
    refine z_callV mlX12_310 dX12_sumOf_14 (sh_M hE) (av := [_]) rfl rfl (Nat.le_of_ble_eq_true rfl) (r_is _ hE hm1 _) (Nat.le_refl _) (Nat.le_refl _) (Nat.le_refl _) (Nat.le_refl _) ?_
    rintro _ m2 ⟨rfl, e2⟩
    have hq2 : mQ m m2 2 := e2 ▸ mQ_is hq1
    have hI2 := hq2.1
    have hm2 := hI2.1.1
    have eT2 := mQ_T hq2
    have ec2 : m2 a_c = m a_c := congrArg (fun q => q.1) eT2
    have ew2 : m2 a_what = m a_what := congrArg (fun q => q.2.1) eT2
    have ep2 : m2 a_pointOf = m a_pointOf := congrArg (fun q => q.2.2.1) eT2
    have en2 : m2 aM f_letters = m aM f_letters := congrArg (fun q => q.2.2.2) eT2
    obtain ⟨hw2, hl2, hn2⟩ := mI_wl hI2
    have hL2 : mL m2 := e2 ▸ mL_S hL1
    have hN2 : mN m2 := e2 ▸ mN_S hN1
    refine z_ifz_ne (tgt := 24) dX12_sumOf_17 rfl (fun h => absurd h (by decide)) (fun h17 => ?_)
    refine z_ldc2 dX12_sumOf_20 kcX12_241 (by decide) ?_
    refine z_lret dX12_sumOf_23 rfl rfl ?_
    have eA : aSumOf (mT m) (m a_worths) dd = (2, -1) := by unfold aSumOf; rw [if_pos (by omega)]
    rw [eA]
    exact ⟨rfl, hq2⟩
  · refine z_iconst dX12_sumOf_9 (by decide) ?_
    refine z_goto (tgt := 14) dX12_sumOf_10 rfl ?_
    refine z_callV mlX12_310 dX12_sumOf_14 (sh_M hE) (av := [_]) rfl rfl (Nat.le_of_ble_eq_true rfl) (r_is _ hE hm1 _) (Nat.le_refl _) (Nat.le_refl _) (Nat.le_refl _) (Nat.le_refl _) ?_
    rintro _ m2 ⟨rfl, e2⟩
    have hq2 : mQ m m2 0 := e2 ▸ mQ_is hq1
    have hI2 := hq2.1
    have hm2 := hI2.1.1
    have eT2 := mQ_T hq2
    have ec2 : m2 a_c = m a_c := congrArg (fun q => q.1) eT2
    have ew2 : m2 a_what = m a_what := congrArg (fun q => q.2.1) eT2
    have ep2 : m2 a_pointOf = m a_pointOf := congrArg (fun q => q.2.2.1) eT2
    have en2 : m2 aM f_letters = m aM f_letters := congrArg (fun q => q.2.2.2) eT2
    obtain ⟨hw2, hl2, hn2⟩ := mI_wl hI2
    have hL2 : mL m2 := e2 ▸ mL_S hL1
    have hN2 : mN m2 := e2 ▸ mN_S hN1
    refine z_ifz_ne (tgt := 24) dX12_sumOf_17 rfl (fun h17 => ?_) (fun h => absurd (by decide) h)
    refine z_lconst0 dX12_sumOf_24 ?_
    refine z_lst 2 dX12_sumOf_25 rfl (Nat.le_of_ble_eq_true rfl) ?_
    refine z_iconst dX12_sumOf_26 (by decide) ?_
    refine z_istore dX12_sumOf_27 (Nat.le_of_ble_eq_true rfl) ?_
    try dsimp only [zs0, zsI, zsP, zsN, zsJ, zsS, zst2, Nat.reduceAdd]
    have ewo : m2 a_worths = m a_worths := zfr_cell hq2.2.1 (by decide)
    refine l_sumOf (d + 12) hE hm2 dd hI2 hL2 hN2 (by omega) (by rw [eT2]; omega) (tPairs (mT m2)).length 0 0 (by omega) (by omega) (by omega) ?_
    rw [Int.zero_add, zsum_lS0 (l := tPairs (mT m2)) (g := fun mt => if tName (mT m) mt = tNm (mT m) dd then tWo (mT m) (m a_worths) mt else 0) rfl (fun t x ht => by rw [tMt_t ht, eT2, ewo]), eT2]
    have eA : aSumOf (mT m) (m a_worths) dd = (0, tS (mT m) (fun mt => if tName (mT m) mt = tNm (mT m) dd then tWo (mT m) (m a_worths) mt else 0)) := by unfold aSumOf; rw [if_neg (by omega)]
    rw [eA]
    exact ⟨rfl, hq2⟩
