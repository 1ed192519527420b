def sCopy (T : zT) (p : Int) : Int := if ¬ (0 ≤ p ∧ p ≤ T.1 2 - 1) then 2 else if T.1 2 = 8 ∨ (T.1 (32 + 9 * p + 1) = 1 ∧ zsum (fun p => T.1 (32 + 9 * p + 1)) (T.1 2).toNat 0 = 5) ∨ 12 < T.2.2.2 + T.1 (32 + 9 * p) then 3 else 0
def sNormal (T : zT) (p so : Int) : Int := if ¬ (0 ≤ p ∧ p ≤ T.1 2 - 1) then 2 else if zb (T.1 (32 + 9 * p + 2) = 1) = so then 4 else 0
def sSwap (T : zT) (i : Int) : Int := if ¬ ((0 ≤ i ∧ i ≤ T.2.2.2 - 1) ∧ 0 ≤ i + 1 ∧ i + 1 ≤ T.2.2.2 - 1) then 2 else if T.2.2.1 i ≠ T.2.2.1 (i + 1) then 5 else if T.2.1 i = T.2.1 (i + 1) then 4 else 0
def eU (c : Int → Int) (x v : Int) : Int → Int := fun y => if y = x then v else c y
theorem eU_s {c : Int → Int} {x v : Int} : eU c x v x = v := if_pos rfl
theorem eU_o {c : Int → Int} {x v y : Int} (h : y ≠ x) : eU c x v y = c y := if_neg h
theorem eU_u {m : zM} {c : Int → Int} {x v : Int} (h : m a_c = c) : zu m a_c x v a_c = eU c x v := by
  funext y
  by_cases e : y = x
  · rw [e, zu_s, eU_s]
  · rw [zu_j e, eU_o e, h]
theorem eU_wfC {c : Int → Int} {p v : Int} (hw : wfC c) (h0 : 0 ≤ p) (h1 : p < c 2) (hv : v = 0 ∨ v = 1) : wfC (eU c (32 + 9 * p + 2) v) := by
  obtain ⟨w1, w2, w3, w4, w5, w6⟩ := hw
  have e0 : eU c (32 + 9 * p + 2) v 0 = c 0 := eU_o (by omega)
  have e1 : eU c (32 + 9 * p + 2) v 1 = c 1 := eU_o (by omega)
  have e2 : eU c (32 + 9 * p + 2) v 2 = c 2 := eU_o (by omega)
  refine ⟨by rw [e0]; exact w1, by rw [e1]; exact w2, by rw [e2]; exact w3, fun f q0 q1 => ?_, fun k q0 q1 => ?_, fun q q0 q1 => ?_⟩
  · rw [e0] at q1
    rw [eU_o (by omega), eU_o (by omega), eU_o (by omega)]
    exact w4 f q0 q1
  · rw [e1] at q1
    rw [e0, eU_o (by omega), eU_o (by omega)]
    exact w5 k q0 q1
  · rw [e2] at q1
    have h := w6 q q0 q1
    have k0 : eU c (32 + 9 * p + 2) v (32 + 9 * q) = c (32 + 9 * q) := eU_o (by omega)
    rw [k0, e0, eU_o (y := 32 + 9 * q + 1) (by omega)]
    refine ⟨h.1, h.2.1, ?_, fun k r0 r1 => ?_⟩
    · by_cases e : q = p
      · rw [e, eU_s]; exact hv
      · rw [eU_o (by omega)]; exact h.2.2.1
    · have hs := h.1
      rw [eU_o (by omega)]
      exact h.2.2.2 k r0 r1
def eSw (c : Int → Int) (x : Int) : Int → Int := fun y => if y = x + 1 then c x else if y = x then c (x + 1) else c y
theorem eSw_o {c : Int → Int} {x y : Int} (h : y ≠ x) (h1 : y ≠ x + 1) : eSw c x y = c y := by unfold eSw; rw [if_neg h1, if_neg h]
theorem eSw_u {m : zM} {c : Int → Int} {x : Int} (h : m a_c = c) : zu (zu m a_c x (c (x + 1))) a_c (x + 1) (c x) a_c = eSw c x := by
  funext y
  unfold eSw
  by_cases e : y = x + 1
  · rw [e, zu_s, if_pos rfl]
  · rw [zu_j e, if_neg e]
    by_cases e2 : y = x
    · rw [e2, zu_s, if_pos rfl]
    · rw [zu_j e2, if_neg e2, h]
theorem eSw_wfC {c : Int → Int} {p k : Int} (hw : wfC c) (h0 : 0 ≤ p) (h1 : p < c 2) (k0 : 0 ≤ k) (k1 : k + 1 < c (32 + 9 * p)) : wfC (eSw c (32 + 9 * p + 3 + k)) ∧ eSw c (32 + 9 * p + 3 + k) 2 = c 2 ∧ cPre (eSw c (32 + 9 * p + 3 + k)) (c 2).toNat = cPre c (c 2).toNat := by
  obtain ⟨w1, w2, w3, w4, w5, w6⟩ := hw
  have hp := w6 p h0 h1
  have hs1 := hp.1
  have e0 : eSw c (32 + 9 * p + 3 + k) 0 = c 0 := eSw_o (by omega) (by omega)
  have e1 : eSw c (32 + 9 * p + 3 + k) 1 = c 1 := eSw_o (by omega) (by omega)
  have e2 : eSw c (32 + 9 * p + 3 + k) 2 = c 2 := eSw_o (by omega) (by omega)
  refine ⟨⟨by rw [e0]; exact w1, by rw [e1]; exact w2, by rw [e2]; exact w3, fun f q0 q1 => ?_, fun x q0 q1 => ?_, fun q q0 q1 => ?_⟩, e2, zsum_congr (fun i q0 q1 => eSw_o (by omega) (by omega))⟩
  · rw [e0] at q1
    rw [eSw_o (by omega) (by omega), eSw_o (by omega) (by omega), eSw_o (by omega) (by omega)]
    exact w4 f q0 q1
  · rw [e1] at q1
    rw [e0, eSw_o (by omega) (by omega), eSw_o (by omega) (by omega)]
    exact w5 x q0 q1
  · rw [e2] at q1
    have h := w6 q q0 q1
    have z0 : eSw c (32 + 9 * p + 3 + k) (32 + 9 * q) = c (32 + 9 * q) := eSw_o (by omega) (by omega)
    rw [z0, e0, eSw_o (y := 32 + 9 * q + 1) (by omega) (by omega), eSw_o (y := 32 + 9 * q + 2) (by omega) (by omega)]
    refine ⟨h.1, h.2.1, h.2.2.1, fun x r0 r1 => ?_⟩
    have hs := h.1
    by_cases a1 : 32 + 9 * q + 3 + x = 32 + 9 * p + 3 + k + 1
    · have : q = p := by omega
      have hv := hp.2.2.2 k k0 (by omega)
      unfold eSw
      rw [if_pos a1]
      exact hv
    · by_cases a2 : 32 + 9 * q + 3 + x = 32 + 9 * p + 3 + k
      · have hv := hp.2.2.2 (k + 1) (by omega) (by omega)
        unfold eSw
        rw [if_neg a1, if_pos a2, Int.add_assoc]
        exact hv
      · rw [eSw_o a2 a1]
        exact h.2.2.2 x r0 r1
/-- two letters behind each other in one point -/
theorem flat_two {c w q : Int → Int} {n i : Int} (hw : wfC c) (h : isFlat c w q n) (h0 : 0 ≤ i) (h1 : i + 1 < n) (he : q i = q (i + 1)) : 0 ≤ q i ∧ q i < c 2 ∧ 0 ≤ i - cPre c (q i).toNat ∧ i - cPre c (q i).toNat + 1 < c (32 + 9 * q i) := by
  obtain ⟨hn, hf⟩ := h
  have hb := hw.2.2.1
  obtain ⟨p, k, p1, p2, p3⟩ := cPre_find hw (c 2).toNat i (by omega) h0 (by omega)
  obtain ⟨p', k', r1, r2, r3⟩ := cPre_find hw (c 2).toNat (i + 1) (by omega) (by omega) (by omega)
  have g := (hf p k (by omega) p2).2
  have g' := (hf p' k' (by omega) r2).2
  rw [← p3] at g
  rw [← r3] at g'
  have e : p = p' := by omega
  subst e
  rw [g, Int.toNat_natCast]
  omega
theorem q_copy (d : Nat) {E : zE} {m : zM} (hE : shM E) (hI : mI m) (p : Int) : zR zX12_copy (d + 5) [zP aM, zI p] m E E (fun r m' => r = some (zI (if sCopy (mT m) p = 0 then m a_c 2 else -1)) ∧ mI m' ∧ zfr fEd m m' ∧ m' aM f_status = sCopy (mT m) p ∧ (sCopy (mT m) p = 0 → m' a_c = eN (eBlk (m a_c) (fun b => if b = m a_c 2 then p else b)) (m a_c 2 + 1) ∧ ∀ i, 0 ≤ i → i < 800 → m' a_worths i = 1) ∧ (sCopy (mT m) p ≠ 0 → mT m' = mT m ∧ m' a_worths = m a_worths)) := by
  have hm := hI.1.1
  obtain ⟨hw, hl, hn⟩ := mI_wl hI
  have hq0 := mQ_rf hI
  have eT0 : mT m = mT m := rfl
  have t4 : (mT m).2.2.2 = m aM f_letters := rfl
  have t0 : (mT m).1 0 = m a_c 0 := rfl
  have t1 : (mT m).1 1 = m a_c 1 := rfl
  have t2 : (mT m).1 2 = m a_c 2 := rfl
  have b1 := hw.1
  have b2 := hw.2.1
  have b3 := hw.2.2.1
  refine zR_go [zP aM, zI p] (by decide +kernel) (Nat.le_of_ble_eq_true rfl) rfl rfl ?_
  refine z_aload_n dX12_copy_0 rfl ?_
  refine z_aload_n dX12_copy_1 rfl ?_
  refine z_iload_n dX12_copy_2 rfl ?_
  refine z_callV mlX12_332 dX12_copy_3 (sh_M hE) (av := [_]) rfl rfl (Nat.le_of_ble_eq_true rfl) (r_isPoint _ hE hm p hw) (Nat.le_refl _) (Nat.le_refl _) (Nat.le_refl _) (Nat.le_refl _) ?_
  rintro _ _ ⟨rfl, rfl⟩
  refine z_ifz_ne (tgt := 13) dX12_copy_6 rfl (fun h6 => ?_) (fun h6 => ?_)
  · refine z_aload_n dX12_copy_13 rfl ?_
    refine z_gP 0 rfl (r := a_c) flX12_7 dX12_copy_14 (sh_M hE) rfl (pt_c hm) (by decide) ?_
    refine z_iconst dX12_copy_17 (by decide) ?_
    refine z_iald dX12_copy_18 (sh_c hE) (by omega) (by omega) ?_
    refine z_bipush dX12_copy_19 rfl (by decide) ?_
    refine z_icmp_eq (tgt := 55) dX12_copy_21 rfl (fun h21 => ?_) (fun h21 => ?_)
    · refine z_iconst dX12_copy_55 (by decide) ?_
      refine z_goto (tgt := 60) dX12_copy_56 rfl ?_
      refine z_callV mlX12_310 dX12_copy_60 (sh_M hE) (av := [_]) rfl rfl (Nat.le_of_ble_eq_true rfl) (r_is _ hE hm _) (Nat.le_refl _) (Nat.le_refl _) (Nat.le_refl _) (Nat.le_refl _) ?_
      rintro _ m1 ⟨rfl, e1⟩
      have hq1 : mQ m m1 3 := e1 ▸ mQ_is hq0
      have hI1 := hq1.1
      have hm1 := hI1.1.1
      have eT1 := mQ_T hq1
      have ec1 : m1 a_c = m a_c := congrArg (fun q => q.1) eT1
      have ec21 : m1 a_c 2 = m a_c 2 := congrFun ec1 2
      have ew1 : m1 a_what = m a_what := congrArg (fun q => q.2.1) eT1
      have ep1 : m1 a_pointOf = m a_pointOf := congrArg (fun q => q.2.2.1) eT1
      have en1 : m1 aM f_letters = m aM f_letters := congrArg (fun q => q.2.2.2) eT1
      obtain ⟨hw1, hl1, hn1⟩ := mI_wl hI1
      refine z_ifz_ne (tgt := 68) dX12_copy_63 rfl (fun h => absurd h (by decide)) (fun h63 => ?_)
      refine z_iconst dX12_copy_66 (by decide) ?_
      refine z_iret dX12_copy_67 rfl rfl ?_
      have eS : sCopy (mT m) p = 3 := by unfold sCopy; rw [if_neg (by omega), if_pos (Or.inl (by assumption))]
      rw [eS]
      exact ⟨rfl, hI1, zfr_sub hq1.2.1 (by decide), hq1.2.2, fun h => absurd h (by decide), fun _ => ⟨eT1, zfr_cell hq1.2.1 (by decide)⟩⟩
    · refine z_aload_n dX12_copy_24 rfl ?_
      refine z_iload_n dX12_copy_25 rfl ?_
      refine z_callV mlX12_217 dX12_copy_26 (sh_M hE) (av := [_]) rfl rfl (Nat.le_of_ble_eq_true rfl) (r_isVertex _ hE hm p (by omega) (by omega)) (Nat.le_refl _) (Nat.le_refl _) (Nat.le_refl _) (Nat.le_refl _) ?_
      rintro _ _ ⟨rfl, rfl⟩
      refine z_ifz_eq (tgt := 40) dX12_copy_29 rfl (fun h29 => ?_) (fun h29 => ?_)
      · refine z_aload_n dX12_copy_40 rfl ?_
        refine z_gI f_letters rfl flX12_124 dX12_copy_41 (sh_M hE) rfl ?_
        refine z_aload_n dX12_copy_44 rfl ?_
        refine z_iload_n dX12_copy_45 rfl ?_
        refine z_callV mlX12_127 dX12_copy_46 (sh_M hE) (av := [_]) rfl rfl (Nat.le_of_ble_eq_true rfl) (r_sizeOf _ hE hm p (by omega) (by omega)) (Nat.le_refl _) (Nat.le_refl _) (Nat.le_refl _) (Nat.le_refl _) ?_
        rintro _ _ ⟨rfl, rfl⟩
        have hsz := (hw.2.2.2.2.2 p (by omega) (by omega)).1
        refine z_add dX12_copy_49 (by omega) ?_
        refine z_bipush dX12_copy_50 rfl (by decide) ?_
        refine z_icmp_le (tgt := 59) dX12_copy_52 rfl (fun h52 => ?_) (fun h52 => ?_)
        · refine z_iconst dX12_copy_59 (by decide) ?_
          refine z_callV mlX12_310 dX12_copy_60 (sh_M hE) (av := [_]) rfl rfl (Nat.le_of_ble_eq_true rfl) (r_is _ hE hm _) (Nat.le_refl _) (Nat.le_refl _) (Nat.le_refl _) (Nat.le_refl _) ?_
          rintro _ m1 ⟨rfl, e1⟩
          have hq1 : mQ m m1 0 := e1 ▸ mQ_is hq0
          have hI1 := hq1.1
          have hm1 := hI1.1.1
          have eT1 := mQ_T hq1
          have ec1 : m1 a_c = m a_c := congrArg (fun q => q.1) eT1
          have ec21 : m1 a_c 2 = m a_c 2 := congrFun ec1 2
          have ew1 : m1 a_what = m a_what := congrArg (fun q => q.2.1) eT1
          have ep1 : m1 a_pointOf = m a_pointOf := congrArg (fun q => q.2.2.1) eT1
          have en1 : m1 aM f_letters = m aM f_letters := congrArg (fun q => q.2.2.2) eT1
          obtain ⟨hw1, hl1, hn1⟩ := mI_wl hI1
          refine z_ifz_ne (tgt := 68) dX12_copy_63 rfl (fun h63 => ?_) (fun h => absurd (by decide) h)
          refine z_aload_n dX12_copy_68 rfl ?_
          refine z_iload_n dX12_copy_69 rfl ?_
          refine z_aload_n dX12_copy_70 rfl ?_
          refine z_gP 0 rfl (r := a_c) flX12_7 dX12_copy_71 (sh_M hE) rfl (pt_c hm1) (by decide) ?_
          refine z_iconst dX12_copy_74 (by decide) ?_
          refine z_iald dX12_copy_75 (sh_c hE) (by omega) (by omega) ?_
          refine z_callV mlX12_344 dX12_copy_76 (sh_M hE) (av := [_, _]) rfl rfl (Nat.le_of_ble_eq_true rfl) (r_shifts _ hE hm1 p (m1 a_c 2) (by omega) (by omega) (by omega) (by omega) (by omega)) (Nat.le_refl _) (Nat.le_refl _) (Nat.le_refl _) (Nat.le_refl _) ?_
          rintro _ m2 ⟨rfl, b1, s2, s3⟩
          have hm2 : ptM m2 := ptM_ed hm1 (zfr_sub b1 (by decide))
          have hs3 : ¬ ((mT m).1 2 = 8 ∨ ((mT m).1 (32 + 9 * p + 1) = 1 ∧ zsum (fun p => (mT m).1 (32 + 9 * p + 1)) ((mT m).1 2).toNat 0 = 5) ∨ 12 < (mT m).2.2.2 + (mT m).1 (32 + 9 * p)) := by
            rintro (h | h | h)
            · exact absurd h (by assumption)
            · exact absurd h.1 (by assumption)
            · exact absurd h (by show ¬ 12 < m aM f_letters + m a_c (32 + 9 * p); omega)
          have hle : m aM f_letters + m a_c (32 + 9 * p) ≤ 12 := by omega
          have hn8 : m a_c 2 < 8 := by omega
          have b2 : m2 a_c = eBlk (m a_c) (fun b => if b = m a_c 2 then p else b) := by
            rw [ec1] at s2 s3
            rw [← eBlk_id (c := m a_c)] at s2 s3
            exact eBlk_shift (g := fun b => b) (by omega) (by omega) (by omega) (by omega) s2 s3
          have hrg : ∀ b, 0 ≤ b → b < m a_c 2 + 1 → 0 ≤ (fun b => if b = m a_c 2 then p else b) b ∧ (fun b => if b = m a_c 2 then p else b) b < m a_c 2 := fun b q0 q1 => by dsimp only; split <;> omega
          have hw9 : wfC (eN (eBlk (m a_c) (fun b => if b = m a_c 2 then p else b)) (m a_c 2 + 1)) := eN_wfC hw (by omega) hrg
          have ht9 : cPre (eN (eBlk (m a_c) (fun b => if b = m a_c 2 then p else b)) (m a_c 2 + 1)) ((eN (eBlk (m a_c) (fun b => if b = m a_c 2 then p else b)) (m a_c 2 + 1)) 2).toNat ≤ 12 := by
            rw [eN_2, eN_pre (by omega), show (m a_c 2 + 1).toNat = (m a_c 2).toNat + 1 by omega, zsum_app]
            have e1 : zsum (fun q => m a_c (32 + 9 * (fun b => if b = m a_c 2 then p else b) q)) (m a_c 2).toNat 0 = zsum (fun q => m a_c (32 + 9 * q)) (m a_c 2).toNat 0 := zsum_congr (fun i q0 q1 => by dsimp only; rw [if_neg (by omega)])
            have h1 := hI.1.2.2.1.1
            unfold cPre at h1
            rw [e1, zsum_s, zsum_0, if_pos (by omega)]
            omega
          have hlow : m2 a_c 2 = m a_c 2 := by rw [b2]; exact eBlk_o (by omega)
          refine z_aload_n dX12_copy_79 rfl ?_
          refine z_gP 0 rfl (r := a_c) flX12_7 dX12_copy_80 (sh_M hE) rfl (pt_c hm2) (by decide) ?_
          refine z_iconst dX12_copy_83 (by decide) ?_
          refine z_dup2 dX12_copy_84 rfl rfl ?_
          refine z_ialv dX12_copy_85 (sh_c hE) (by omega) (by omega) hlow ?_
          refine z_iconst dX12_copy_86 (by decide) ?_
          refine z_add dX12_copy_87 (by omega) ?_
          refine z_iast dX12_copy_88 (sh_c hE) (by omega) (by omega) ?_
          generalize em9 : zu m2 a_c 2 (m a_c 2 + 1) = m9
          have hc9 : m9 a_c = eN (eBlk (m a_c) (fun b => if b = m a_c 2 then p else b)) (m a_c 2 + 1) := by rw [← em9]; exact eN_u b2
          have h9 : ptM m9 := by rw [← em9]; exact ptM_a hm2 (by decide)
          have f9 : zfr fEd0 m1 m9 := by rw [← em9]; exact zfr_ua (zfr_sub b1 (by decide)) (by decide)
          refine z_aload_n dX12_copy_89 rfl ?_
          refine z_callV mlX12_347 dX12_copy_90 (sh_M hE) (av := _) rfl rfl (Nat.le_of_ble_eq_true rfl) (r_pointsChange _ hE h9 (by rw [hc9]; exact hw9) (by rw [hc9]; exact ht9)) (Nat.le_refl _) (Nat.le_refl _) (Nat.le_refl _) (Nat.le_refl _) ?_
          rintro _ mp ⟨rfl, g1, g2, g3, g4, g5⟩
          have gc : mp a_c = eN (eBlk (m a_c) (fun b => if b = m a_c 2 then p else b)) (m a_c 2 + 1) := (zfr_cell g1 (by decide)).trans hc9
          have hmp : ptM mp := ptM_ed h9 (zfr_sub g1 (by decide))
          have hfl : isFlat (mp a_c) (mp a_what) (mp a_pointOf) (mp aM f_letters) := by rw [zfr_cell (a := a_c) g1 (by decide)]; exact g2
          have hwp : wfC (mp a_c) := by rw [gc]; exact hw9
          have hlp : mp aM f_letters ≤ 12 := by rw [hfl.1, gc]; exact ht9
          have fp : zfr fEd0 m1 mp := zfr_tr f9 (zfr_sub g1 (by decide))
          have hIp := mI_new hI1 fp hwp hfl hlp g3 g4 g5
          have fq : zfr fEd m mp := zfr_tr (zfr_sub hq1.2.1 (by decide)) (zfr_sub fp (by decide))
          have hst : mp aM f_status = 0 := (zfr_at fp (by decide)).trans hq1.2.2
          refine z_aload_n dX12_copy_93 rfl ?_
          refine z_gP 0 rfl (r := a_c) flX12_7 dX12_copy_94 (sh_M hE) rfl (pt_c hmp) (by decide) ?_
          refine z_iconst dX12_copy_97 (by decide) ?_
          refine z_ialv dX12_copy_98 (sh_c hE) (by omega) (by omega) (show mp a_c 2 = m a_c 2 + 1 by rw [gc, eN_2]) ?_
          refine z_iconst dX12_copy_99 (by decide) ?_
          refine z_sub dX12_copy_100 (by omega) ?_
          refine z_iret dX12_copy_101 rfl rfl ?_
          have eS : sCopy (mT m) p = 0 := by unfold sCopy; rw [if_neg (by omega), if_neg hs3]
          rw [eS]
          refine ⟨?_, hIp, fq, hst, fun _ => ⟨gc, g5⟩, fun h => absurd rfl h⟩
          rw [if_pos rfl]
          rw [show m a_c 2 + 1 - 1 = m a_c 2 by omega]
        · refine z_iconst dX12_copy_55 (by decide) ?_
          refine z_goto (tgt := 60) dX12_copy_56 rfl ?_
          refine z_callV mlX12_310 dX12_copy_60 (sh_M hE) (av := [_]) rfl rfl (Nat.le_of_ble_eq_true rfl) (r_is _ hE hm _) (Nat.le_refl _) (Nat.le_refl _) (Nat.le_refl _) (Nat.le_refl _) ?_
          rintro _ m1 ⟨rfl, e1⟩
          have hq1 : mQ m m1 3 := e1 ▸ mQ_is hq0
          have hI1 := hq1.1
          have hm1 := hI1.1.1
          have eT1 := mQ_T hq1
          have ec1 : m1 a_c = m a_c := congrArg (fun q => q.1) eT1
          have ec21 : m1 a_c 2 = m a_c 2 := congrFun ec1 2
          have ew1 : m1 a_what = m a_what := congrArg (fun q => q.2.1) eT1
          have ep1 : m1 a_pointOf = m a_pointOf := congrArg (fun q => q.2.2.1) eT1
          have en1 : m1 aM f_letters = m aM f_letters := congrArg (fun q => q.2.2.2) eT1
          obtain ⟨hw1, hl1, hn1⟩ := mI_wl hI1
          refine z_ifz_ne (tgt := 68) dX12_copy_63 rfl (fun h => absurd h (by decide)) (fun h63 => ?_)
          refine z_iconst dX12_copy_66 (by decide) ?_
          refine z_iret dX12_copy_67 rfl rfl ?_
          have eS : sCopy (mT m) p = 3 := by unfold sCopy; rw [if_neg (by omega), if_pos (Or.inr (Or.inr (by show 12 < m aM f_letters + m a_c (32 + 9 * p); omega)))]
          rw [eS]
          exact ⟨rfl, hI1, zfr_sub hq1.2.1 (by decide), hq1.2.2, fun h => absurd h (by decide), fun _ => ⟨eT1, zfr_cell hq1.2.1 (by decide)⟩⟩
      · refine z_aload_n dX12_copy_32 rfl ?_
        refine z_callV mlX12_313 dX12_copy_33 (sh_M hE) (av := _) rfl rfl (Nat.le_of_ble_eq_true rfl) (r_vertices _ hE hm hw) (Nat.le_refl _) (Nat.le_refl _) (Nat.le_refl _) (Nat.le_refl _) ?_
        rintro _ _ ⟨rfl, rfl⟩
        refine z_iconst dX12_copy_36 (by decide) ?_
        refine z_icmp_eq (tgt := 55) dX12_copy_37 rfl (fun h37 => ?_) (fun h37 => ?_)
        · refine z_iconst dX12_copy_55 (by decide) ?_
          refine z_goto (tgt := 60) dX12_copy_56 rfl ?_
          refine z_callV mlX12_310 dX12_copy_60 (sh_M hE) (av := [_]) rfl rfl (Nat.le_of_ble_eq_true rfl) (r_is _ hE hm _) (Nat.le_refl _) (Nat.le_refl _) (Nat.le_refl _) (Nat.le_refl _) ?_
          rintro _ m1 ⟨rfl, e1⟩
          have hq1 : mQ m m1 3 := e1 ▸ mQ_is hq0
          have hI1 := hq1.1
          have hm1 := hI1.1.1
          have eT1 := mQ_T hq1
          have ec1 : m1 a_c = m a_c := congrArg (fun q => q.1) eT1
          have ec21 : m1 a_c 2 = m a_c 2 := congrFun ec1 2
          have ew1 : m1 a_what = m a_what := congrArg (fun q => q.2.1) eT1
          have ep1 : m1 a_pointOf = m a_pointOf := congrArg (fun q => q.2.2.1) eT1
          have en1 : m1 aM f_letters = m aM f_letters := congrArg (fun q => q.2.2.2) eT1
          obtain ⟨hw1, hl1, hn1⟩ := mI_wl hI1
          refine z_ifz_ne (tgt := 68) dX12_copy_63 rfl (fun h => absurd h (by decide)) (fun h63 => ?_)
          refine z_iconst dX12_copy_66 (by decide) ?_
          refine z_iret dX12_copy_67 rfl rfl ?_
          have eS : sCopy (mT m) p = 3 := by unfold sCopy; rw [if_neg (by omega), if_pos (Or.inr (Or.inl ⟨by assumption, by assumption⟩))]
          rw [eS]
          exact ⟨rfl, hI1, zfr_sub hq1.2.1 (by decide), hq1.2.2, fun h => absurd h (by decide), fun _ => ⟨eT1, zfr_cell hq1.2.1 (by decide)⟩⟩
        · refine z_aload_n dX12_copy_40 rfl ?_
          refine z_gI f_letters rfl flX12_124 dX12_copy_41 (sh_M hE) rfl ?_
          refine z_aload_n dX12_copy_44 rfl ?_
          refine z_iload_n dX12_copy_45 rfl ?_
          refine z_callV mlX12_127 dX12_copy_46 (sh_M hE) (av := [_]) rfl rfl (Nat.le_of_ble_eq_true rfl) (r_sizeOf _ hE hm p (by omega) (by omega)) (Nat.le_refl _) (Nat.le_refl _) (Nat.le_refl _) (Nat.le_refl _) ?_
          rintro _ _ ⟨rfl, rfl⟩
          have hsz := (hw.2.2.2.2.2 p (by omega) (by omega)).1
          refine z_add dX12_copy_49 (by omega) ?_
          refine z_bipush dX12_copy_50 rfl (by decide) ?_
          refine z_icmp_le (tgt := 59) dX12_copy_52 rfl (fun h52 => ?_) (fun h52 => ?_)
          · refine z_iconst dX12_copy_59 (by decide) ?_
            refine z_callV mlX12_310 dX12_copy_60 (sh_M hE) (av := [_]) rfl rfl (Nat.le_of_ble_eq_true rfl) (r_is _ hE hm _) (Nat.le_refl _) (Nat.le_refl _) (Nat.le_refl _) (Nat.le_refl _) ?_
            rintro _ m1 ⟨rfl, e1⟩
            have hq1 : mQ m m1 0 := e1 ▸ mQ_is hq0
            have hI1 := hq1.1
            have hm1 := hI1.1.1
            have eT1 := mQ_T hq1
            have ec1 : m1 a_c = m a_c := congrArg (fun q => q.1) eT1
            have ec21 : m1 a_c 2 = m a_c 2 := congrFun ec1 2
            have ew1 : m1 a_what = m a_what := congrArg (fun q => q.2.1) eT1
            have ep1 : m1 a_pointOf = m a_pointOf := congrArg (fun q => q.2.2.1) eT1
            have en1 : m1 aM f_letters = m aM f_letters := congrArg (fun q => q.2.2.2) eT1
            obtain ⟨hw1, hl1, hn1⟩ := mI_wl hI1
            refine z_ifz_ne (tgt := 68) dX12_copy_63 rfl (fun h63 => ?_) (fun h => absurd (by decide) h)
            refine z_aload_n dX12_copy_68 rfl ?_
            refine z_iload_n dX12_copy_69 rfl ?_
            refine z_aload_n dX12_copy_70 rfl ?_
            refine z_gP 0 rfl (r := a_c) flX12_7 dX12_copy_71 (sh_M hE) rfl (pt_c hm1) (by decide) ?_
            refine z_iconst dX12_copy_74 (by decide) ?_
            refine z_iald dX12_copy_75 (sh_c hE) (by omega) (by omega) ?_
            refine z_callV mlX12_344 dX12_copy_76 (sh_M hE) (av := [_, _]) rfl rfl (Nat.le_of_ble_eq_true rfl) (r_shifts _ hE hm1 p (m1 a_c 2) (by omega) (by omega) (by omega) (by omega) (by omega)) (Nat.le_refl _) (Nat.le_refl _) (Nat.le_refl _) (Nat.le_refl _) ?_
            rintro _ m2 ⟨rfl, b1, s2, s3⟩
            have hm2 : ptM m2 := ptM_ed hm1 (zfr_sub b1 (by decide))
            have hs3 : ¬ ((mT m).1 2 = 8 ∨ ((mT m).1 (32 + 9 * p + 1) = 1 ∧ zsum (fun p => (mT m).1 (32 + 9 * p + 1)) ((mT m).1 2).toNat 0 = 5) ∨ 12 < (mT m).2.2.2 + (mT m).1 (32 + 9 * p)) := by
              rintro (h | h | h)
              · exact absurd h (by assumption)
              · exact absurd h.2 (by assumption)
              · exact absurd h (by show ¬ 12 < m aM f_letters + m a_c (32 + 9 * p); omega)
            have hle : m aM f_letters + m a_c (32 + 9 * p) ≤ 12 := by omega
            have hn8 : m a_c 2 < 8 := by omega
            have b2 : m2 a_c = eBlk (m a_c) (fun b => if b = m a_c 2 then p else b) := by
              rw [ec1] at s2 s3
              rw [← eBlk_id (c := m a_c)] at s2 s3
              exact eBlk_shift (g := fun b => b) (by omega) (by omega) (by omega) (by omega) s2 s3
            have hrg : ∀ b, 0 ≤ b → b < m a_c 2 + 1 → 0 ≤ (fun b => if b = m a_c 2 then p else b) b ∧ (fun b => if b = m a_c 2 then p else b) b < m a_c 2 := fun b q0 q1 => by dsimp only; split <;> omega
            have hw9 : wfC (eN (eBlk (m a_c) (fun b => if b = m a_c 2 then p else b)) (m a_c 2 + 1)) := eN_wfC hw (by omega) hrg
            have ht9 : cPre (eN (eBlk (m a_c) (fun b => if b = m a_c 2 then p else b)) (m a_c 2 + 1)) ((eN (eBlk (m a_c) (fun b => if b = m a_c 2 then p else b)) (m a_c 2 + 1)) 2).toNat ≤ 12 := by
              rw [eN_2, eN_pre (by omega), show (m a_c 2 + 1).toNat = (m a_c 2).toNat + 1 by omega, zsum_app]
              have e1 : zsum (fun q => m a_c (32 + 9 * (fun b => if b = m a_c 2 then p else b) q)) (m a_c 2).toNat 0 = zsum (fun q => m a_c (32 + 9 * q)) (m a_c 2).toNat 0 := zsum_congr (fun i q0 q1 => by dsimp only; rw [if_neg (by omega)])
              have h1 := hI.1.2.2.1.1
              unfold cPre at h1
              rw [e1, zsum_s, zsum_0, if_pos (by omega)]
              omega
            have hlow : m2 a_c 2 = m a_c 2 := by rw [b2]; exact eBlk_o (by omega)
            refine z_aload_n dX12_copy_79 rfl ?_
            refine z_gP 0 rfl (r := a_c) flX12_7 dX12_copy_80 (sh_M hE) rfl (pt_c hm2) (by decide) ?_
            refine z_iconst dX12_copy_83 (by decide) ?_
            refine z_dup2 dX12_copy_84 rfl rfl ?_
            refine z_ialv dX12_copy_85 (sh_c hE) (by omega) (by omega) hlow ?_
            refine z_iconst dX12_copy_86 (by decide) ?_
            refine z_add dX12_copy_87 (by omega) ?_
            refine z_iast dX12_copy_88 (sh_c hE) (by omega) (by omega) ?_
            generalize em9 : zu m2 a_c 2 (m a_c 2 + 1) = m9
            have hc9 : m9 a_c = eN (eBlk (m a_c) (fun b => if b = m a_c 2 then p else b)) (m a_c 2 + 1) := by rw [← em9]; exact eN_u b2
            have h9 : ptM m9 := by rw [← em9]; exact ptM_a hm2 (by decide)
            have f9 : zfr fEd0 m1 m9 := by rw [← em9]; exact zfr_ua (zfr_sub b1 (by decide)) (by decide)
            refine z_aload_n dX12_copy_89 rfl ?_
            refine z_callV mlX12_347 dX12_copy_90 (sh_M hE) (av := _) rfl rfl (Nat.le_of_ble_eq_true rfl) (r_pointsChange _ hE h9 (by rw [hc9]; exact hw9) (by rw [hc9]; exact ht9)) (Nat.le_refl _) (Nat.le_refl _) (Nat.le_refl _) (Nat.le_refl _) ?_
            rintro _ mp ⟨rfl, g1, g2, g3, g4, g5⟩
            have gc : mp a_c = eN (eBlk (m a_c) (fun b => if b = m a_c 2 then p else b)) (m a_c 2 + 1) := (zfr_cell g1 (by decide)).trans hc9
            have hmp : ptM mp := ptM_ed h9 (zfr_sub g1 (by decide))
            have hfl : isFlat (mp a_c) (mp a_what) (mp a_pointOf) (mp aM f_letters) := by rw [zfr_cell (a := a_c) g1 (by decide)]; exact g2
            have hwp : wfC (mp a_c) := by rw [gc]; exact hw9
            have hlp : mp aM f_letters ≤ 12 := by rw [hfl.1, gc]; exact ht9
            have fp : zfr fEd0 m1 mp := zfr_tr f9 (zfr_sub g1 (by decide))
            have hIp := mI_new hI1 fp hwp hfl hlp g3 g4 g5
            have fq : zfr fEd m mp := zfr_tr (zfr_sub hq1.2.1 (by decide)) (zfr_sub fp (by decide))
            have hst : mp aM f_status = 0 := (zfr_at fp (by decide)).trans hq1.2.2
            refine z_aload_n dX12_copy_93 rfl ?_
            refine z_gP 0 rfl (r := a_c) flX12_7 dX12_copy_94 (sh_M hE) rfl (pt_c hmp) (by decide) ?_
            refine z_iconst dX12_copy_97 (by decide) ?_
            refine z_ialv dX12_copy_98 (sh_c hE) (by omega) (by omega) (show mp a_c 2 = m a_c 2 + 1 by rw [gc, eN_2]) ?_
            refine z_iconst dX12_copy_99 (by decide) ?_
            refine z_sub dX12_copy_100 (by omega) ?_
            refine z_iret dX12_copy_101 rfl rfl ?_
            have eS : sCopy (mT m) p = 0 := by unfold sCopy; rw [if_neg (by omega), if_neg hs3]
            rw [eS]
            refine ⟨?_, hIp, fq, hst, fun _ => ⟨gc, g5⟩, fun h => absurd rfl h⟩
            rw [if_pos rfl]
            rw [show m a_c 2 + 1 - 1 = m a_c 2 by omega]
          · refine z_iconst dX12_copy_55 (by decide) ?_
            refine z_goto (tgt := 60) dX12_copy_56 rfl ?_
            refine z_callV mlX12_310 dX12_copy_60 (sh_M hE) (av := [_]) rfl rfl (Nat.le_of_ble_eq_true rfl) (r_is _ hE hm _) (Nat.le_refl _) (Nat.le_refl _) (Nat.le_refl _) (Nat.le_refl _) ?_
            rintro _ m1 ⟨rfl, e1⟩
            have hq1 : mQ m m1 3 := e1 ▸ mQ_is hq0
            have hI1 := hq1.1
            have hm1 := hI1.1.1
            have eT1 := mQ_T hq1
            have ec1 : m1 a_c = m a_c := congrArg (fun q => q.1) eT1
            have ec21 : m1 a_c 2 = m a_c 2 := congrFun ec1 2
            have ew1 : m1 a_what = m a_what := congrArg (fun q => q.2.1) eT1
            have ep1 : m1 a_pointOf = m a_pointOf := congrArg (fun q => q.2.2.1) eT1
            have en1 : m1 aM f_letters = m aM f_letters := congrArg (fun q => q.2.2.2) eT1
            obtain ⟨hw1, hl1, hn1⟩ := mI_wl hI1
            refine z_ifz_ne (tgt := 68) dX12_copy_63 rfl (fun h => absurd h (by decide)) (fun h63 => ?_)
            refine z_iconst dX12_copy_66 (by decide) ?_
            refine z_iret dX12_copy_67 rfl rfl ?_
            have eS : sCopy (mT m) p = 3 := by unfold sCopy; rw [if_neg (by omega), if_pos (Or.inr (Or.inr (by show 12 < m aM f_letters + m a_c (32 + 9 * p); omega)))]
            rw [eS]
            exact ⟨rfl, hI1, zfr_sub hq1.2.1 (by decide), hq1.2.2, fun h => absurd h (by decide), fun _ => ⟨eT1, zfr_cell hq1.2.1 (by decide)⟩⟩
  · refine z_iconst dX12_copy_9 (by decide) ?_
    refine z_goto (tgt := 60) dX12_copy_10 rfl ?_
    refine z_callV mlX12_310 dX12_copy_60 (sh_M hE) (av := [_]) rfl rfl (Nat.le_of_ble_eq_true rfl) (r_is _ hE hm _) (Nat.le_refl _) (Nat.le_refl _) (Nat.le_refl _) (Nat.le_refl _) ?_
    rintro _ m1 ⟨rfl, e1⟩
    have hq1 : mQ m m1 2 := e1 ▸ mQ_is hq0
    have hI1 := hq1.1
    have hm1 := hI1.1.1
    have eT1 := mQ_T hq1
    have ec1 : m1 a_c = m a_c := congrArg (fun q => q.1) eT1
    have ec21 : m1 a_c 2 = m a_c 2 := congrFun ec1 2
    have ew1 : m1 a_what = m a_what := congrArg (fun q => q.2.1) eT1
    have ep1 : m1 a_pointOf = m a_pointOf := congrArg (fun q => q.2.2.1) eT1
    have en1 : m1 aM f_letters = m aM f_letters := congrArg (fun q => q.2.2.2) eT1
    obtain ⟨hw1, hl1, hn1⟩ := mI_wl hI1
    refine z_ifz_ne (tgt := 68) dX12_copy_63 rfl (fun h => absurd h (by decide)) (fun h63 => ?_)
    refine z_iconst dX12_copy_66 (by decide) ?_
    refine z_iret dX12_copy_67 rfl rfl ?_
    have eS : sCopy (mT m) p = 2 := by unfold sCopy; rw [if_pos (by omega)]
    rw [eS]
    exact ⟨rfl, hI1, zfr_sub hq1.2.1 (by decide), hq1.2.2, fun h => absurd h (by decide), fun _ => ⟨eT1, zfr_cell hq1.2.1 (by decide)⟩⟩

theorem q_normal (d : Nat) {E : zE} {m : zM} (hE : shM E) (hI : mI m) (p so : Int) (hso : so = 0 ∨ so = 1) : zR zX12_normal (d + 11) [zP aM, zI p, zI so] m E E (fun r m' => r = some (zI (if sNormal (mT m) p so = 0 then ((tPairs (mT m')).length : Int) else -1)) ∧ mI m' ∧ zfr fEd m m' ∧ m' aM f_status = sNormal (mT m) p so ∧ (sNormal (mT m) p so = 0 → m' a_c = eU (m a_c) (32 + 9 * p + 2) so ∧ ∀ i, 0 ≤ i → i < 800 → m' a_worths i = 1) ∧ (sNormal (mT m) p so ≠ 0 → mT m' = mT m ∧ m' a_worths = m a_worths)) := by
  have hm := hI.1.1
  obtain ⟨hw, hl, hn⟩ := mI_wl hI
  have hq0 := mQ_rf hI
  have eT0 : mT m = mT m := rfl
  have t4 : (mT m).2.2.2 = m aM f_letters := rfl
  have t0 : (mT m).1 0 = m a_c 0 := rfl
  have t1 : (mT m).1 1 = m a_c 1 := rfl
  have t2 : (mT m).1 2 = m a_c 2 := rfl
  have b1 := hw.1
  have b2 := hw.2.1
  have b3 := hw.2.2.1
  refine zR_go [zP aM, zI p, zI so] (by decide +kernel) (Nat.le_of_ble_eq_true rfl) rfl rfl ?_
  refine z_aload_n dX12_normal_0 rfl ?_
  refine z_aload_n dX12_normal_1 rfl ?_
  refine z_iload_n dX12_normal_2 rfl ?_
  refine z_callV mlX12_332 dX12_normal_3 (sh_M hE) (av := [_]) rfl rfl (Nat.le_of_ble_eq_true rfl) (r_isPoint _ hE hm p hw) (Nat.le_refl _) (Nat.le_refl _) (Nat.le_refl _) (Nat.le_refl _) ?_
  rintro _ _ ⟨rfl, rfl⟩
  refine z_ifz_ne (tgt := 13) dX12_normal_6 rfl (fun h6 => ?_) (fun h6 => ?_)
  · refine z_aload_n dX12_normal_13 rfl ?_
    refine z_iload_n dX12_normal_14 rfl ?_
    refine z_callV mlX12_144 dX12_normal_15 (sh_M hE) (av := [_]) rfl rfl (Nat.le_of_ble_eq_true rfl) (r_isNormal _ hE hm p (by omega) (by omega)) (Nat.le_refl _) (Nat.le_refl _) (Nat.le_refl _) (Nat.le_refl _) ?_
    rintro _ _ ⟨rfl, rfl⟩
    refine z_iload_n dX12_normal_18 rfl ?_
    refine z_icmp_ne (tgt := 26) dX12_normal_19 rfl (fun h19 => ?_) (fun h19 => ?_)
    · refine z_iconst dX12_normal_26 (by decide) ?_
      refine z_callV mlX12_310 dX12_normal_27 (sh_M hE) (av := [_]) rfl rfl (Nat.le_of_ble_eq_true rfl) (r_is _ hE hm _) (Nat.le_refl _) (Nat.le_refl _) (Nat.le_refl _) (Nat.le_refl _) ?_
      rintro _ m1 ⟨rfl, e1⟩
      have hq1 : mQ m m1 0 := e1 ▸ mQ_is hq0
      have hI1 := hq1.1
      have hm1 := hI1.1.1
      have eT1 := mQ_T hq1
      have ec1 : m1 a_c = m a_c := congrArg (fun q => q.1) eT1
      have ec21 : m1 a_c 2 = m a_c 2 := congrFun ec1 2
      have ew1 : m1 a_what = m a_what := congrArg (fun q => q.2.1) eT1
      have ep1 : m1 a_pointOf = m a_pointOf := congrArg (fun q => q.2.2.1) eT1
      have en1 : m1 aM f_letters = m aM f_letters := congrArg (fun q => q.2.2.2) eT1
      obtain ⟨hw1, hl1, hn1⟩ := mI_wl hI1
      refine z_ifz_ne (tgt := 35) dX12_normal_30 rfl (fun h30 => ?_) (fun h => absurd (by decide) h)
      refine z_aload_n dX12_normal_35 rfl ?_
      refine z_gP 0 rfl (r := a_c) flX12_7 dX12_normal_36 (sh_M hE) rfl (pt_c hm1) (by decide) ?_
      refine z_aload_n dX12_normal_39 rfl ?_
      refine z_iload_n dX12_normal_40 rfl ?_
      refine z_callV mlX12_120 dX12_normal_41 (sh_M hE) (av := [_]) rfl rfl (Nat.le_of_ble_eq_true rfl) (r_at _ hE hm1 p (by omega) (by omega)) (Nat.le_refl _) (Nat.le_refl _) (Nat.le_refl _) (Nat.le_refl _) ?_
      rintro _ _ ⟨rfl, rfl⟩
      refine z_iconst dX12_normal_44 (by decide) ?_
      refine z_add dX12_normal_45 (by omega) ?_
      refine z_iload_n dX12_normal_46 rfl ?_
      refine z_if_eq (tgt := 54) dX12_normal_47 rfl (fun h47 => ?_) (fun h47 => ?_)
      · refine z_iconst dX12_normal_54 (by decide) ?_
        refine z_iast dX12_normal_55 (sh_c hE) (by omega) (by omega) ?_
        generalize em9 : zu m1 a_c (32 + 9 * p + 2) 0 = m9
        have hc9 : m9 a_c = eU (m a_c) (32 + 9 * p + 2) so := by rw [← em9, show so = 0 by omega]; exact eU_u ec1
        have h9 : ptM m9 := by rw [← em9]; exact ptM_a hm1 (by decide)
        have f9 : zfr fEd0 m1 m9 := by rw [← em9]; exact zfr_ua zfr_rf (by decide)
        have hw9 : wfC (eU (m a_c) (32 + 9 * p + 2) so) := eU_wfC hw (by omega) (by omega) hso
        have ht9 : cPre (eU (m a_c) (32 + 9 * p + 2) so) ((eU (m a_c) (32 + 9 * p + 2) so) 2).toNat ≤ 12 := by
          have h1 := hI.1.2.2.1.1
          rw [eU_o (by omega), show cPre (eU (m a_c) (32 + 9 * p + 2) so) (m a_c 2).toNat = cPre (m a_c) (m a_c 2).toNat from zsum_congr (fun i q0 q1 => eU_o (by omega)), ← h1]
          omega
        refine z_aload_n dX12_normal_56 rfl ?_
        refine z_callV mlX12_347 dX12_normal_57 (sh_M hE) (av := _) rfl rfl (Nat.le_of_ble_eq_true rfl) (r_pointsChange _ hE h9 (by rw [hc9]; exact hw9) (by rw [hc9]; exact ht9)) (Nat.le_refl _) (Nat.le_refl _) (Nat.le_refl _) (Nat.le_refl _) ?_
        rintro _ mp ⟨rfl, g1, g2, g3, g4, g5⟩
        have gc : mp a_c = eU (m a_c) (32 + 9 * p + 2) so := (zfr_cell g1 (by decide)).trans hc9
        have hmp : ptM mp := ptM_ed h9 (zfr_sub g1 (by decide))
        have hfl : isFlat (mp a_c) (mp a_what) (mp a_pointOf) (mp aM f_letters) := by rw [zfr_cell (a := a_c) g1 (by decide)]; exact g2
        have hwp : wfC (mp a_c) := by rw [gc]; exact hw9
        have hlp : mp aM f_letters ≤ 12 := by rw [hfl.1, gc]; exact ht9
        have fp : zfr fEd0 m1 mp := zfr_tr f9 (zfr_sub g1 (by decide))
        have hIp := mI_new hI1 fp hwp hfl hlp g3 g4 g5
        have fq : zfr fEd m mp := zfr_tr (zfr_sub hq1.2.1 (by decide)) (zfr_sub fp (by decide))
        have hst : mp aM f_status = 0 := (zfr_at fp (by decide)).trans hq1.2.2
        refine z_aload_n dX12_normal_60 rfl ?_
        refine z_callV mlX12_194 dX12_normal_61 (sh_M hE) (av := _) rfl rfl (Nat.le_of_ble_eq_true rfl) (q_lays _ hE hIp) (Nat.le_refl _) (Nat.le_refl _) (Nat.le_refl _) (Nat.le_refl _) ?_
        rintro _ m3 ⟨rfl, hI3, f3, hL3⟩
        have hm3 := hI3.1.1
        have hle3 := mL_len hI3.1 hL3
        have hsg3 := mL_sg hI3.1 hL3
        have gc3 : m3 a_c = eU (m a_c) (32 + 9 * p + 2) so := (zfr_cell f3 (by decide)).trans gc
        have gw3 : ∀ i, 0 ≤ i → i < 800 → m3 a_worths i = 1 := by rw [zfr_cell (a := a_worths) f3 (by decide)]; exact g5
        have fq3 : zfr fEd m m3 := zfr_tr fq (zfr_sub f3 (by decide))
        have hst3 : m3 aM f_status = 0 := (zfr_at f3 (by decide)).trans hst
        refine z_aload_n dX12_normal_64 rfl ?_
        refine z_gI f_laid rfl flX12_172 dX12_normal_65 (sh_M hE) rfl ?_
        refine z_iret dX12_normal_68 rfl rfl ?_
        have eS : sNormal (mT m) p so = 0 := by unfold sNormal; rw [if_neg (by omega), if_neg (by assumption)]
        rw [eS]
        refine ⟨?_, hI3, fq3, hst3, fun _ => ⟨gc3, gw3⟩, fun h => absurd rfl h⟩
        rw [if_pos rfl, hle3.1]
      · refine z_iconst dX12_normal_50 (by decide) ?_
        refine z_goto (tgt := 55) dX12_normal_51 rfl ?_
        refine z_iast dX12_normal_55 (sh_c hE) (by omega) (by omega) ?_
        generalize em9 : zu m1 a_c (32 + 9 * p + 2) 1 = m9
        have hc9 : m9 a_c = eU (m a_c) (32 + 9 * p + 2) so := by rw [← em9, show so = 1 by omega]; exact eU_u ec1
        have h9 : ptM m9 := by rw [← em9]; exact ptM_a hm1 (by decide)
        have f9 : zfr fEd0 m1 m9 := by rw [← em9]; exact zfr_ua zfr_rf (by decide)
        have hw9 : wfC (eU (m a_c) (32 + 9 * p + 2) so) := eU_wfC hw (by omega) (by omega) hso
        have ht9 : cPre (eU (m a_c) (32 + 9 * p + 2) so) ((eU (m a_c) (32 + 9 * p + 2) so) 2).toNat ≤ 12 := by
          have h1 := hI.1.2.2.1.1
          rw [eU_o (by omega), show cPre (eU (m a_c) (32 + 9 * p + 2) so) (m a_c 2).toNat = cPre (m a_c) (m a_c 2).toNat from zsum_congr (fun i q0 q1 => eU_o (by omega)), ← h1]
          omega
        refine z_aload_n dX12_normal_56 rfl ?_
        refine z_callV mlX12_347 dX12_normal_57 (sh_M hE) (av := _) rfl rfl (Nat.le_of_ble_eq_true rfl) (r_pointsChange _ hE h9 (by rw [hc9]; exact hw9) (by rw [hc9]; exact ht9)) (Nat.le_refl _) (Nat.le_refl _) (Nat.le_refl _) (Nat.le_refl _) ?_
        rintro _ mp ⟨rfl, g1, g2, g3, g4, g5⟩
        have gc : mp a_c = eU (m a_c) (32 + 9 * p + 2) so := (zfr_cell g1 (by decide)).trans hc9
        have hmp : ptM mp := ptM_ed h9 (zfr_sub g1 (by decide))
        have hfl : isFlat (mp a_c) (mp a_what) (mp a_pointOf) (mp aM f_letters) := by rw [zfr_cell (a := a_c) g1 (by decide)]; exact g2
        have hwp : wfC (mp a_c) := by rw [gc]; exact hw9
        have hlp : mp aM f_letters ≤ 12 := by rw [hfl.1, gc]; exact ht9
        have fp : zfr fEd0 m1 mp := zfr_tr f9 (zfr_sub g1 (by decide))
        have hIp := mI_new hI1 fp hwp hfl hlp g3 g4 g5
        have fq : zfr fEd m mp := zfr_tr (zfr_sub hq1.2.1 (by decide)) (zfr_sub fp (by decide))
        have hst : mp aM f_status = 0 := (zfr_at fp (by decide)).trans hq1.2.2
        refine z_aload_n dX12_normal_60 rfl ?_
        refine z_callV mlX12_194 dX12_normal_61 (sh_M hE) (av := _) rfl rfl (Nat.le_of_ble_eq_true rfl) (q_lays _ hE hIp) (Nat.le_refl _) (Nat.le_refl _) (Nat.le_refl _) (Nat.le_refl _) ?_
        rintro _ m3 ⟨rfl, hI3, f3, hL3⟩
        have hm3 := hI3.1.1
        have hle3 := mL_len hI3.1 hL3
        have hsg3 := mL_sg hI3.1 hL3
        have gc3 : m3 a_c = eU (m a_c) (32 + 9 * p + 2) so := (zfr_cell f3 (by decide)).trans gc
        have gw3 : ∀ i, 0 ≤ i → i < 800 → m3 a_worths i = 1 := by rw [zfr_cell (a := a_worths) f3 (by decide)]; exact g5
        have fq3 : zfr fEd m m3 := zfr_tr fq (zfr_sub f3 (by decide))
        have hst3 : m3 aM f_status = 0 := (zfr_at f3 (by decide)).trans hst
        refine z_aload_n dX12_normal_64 rfl ?_
        refine z_gI f_laid rfl flX12_172 dX12_normal_65 (sh_M hE) rfl ?_
        refine z_iret dX12_normal_68 rfl rfl ?_
        have eS : sNormal (mT m) p so = 0 := by unfold sNormal; rw [if_neg (by omega), if_neg (by assumption)]
        rw [eS]
        refine ⟨?_, hI3, fq3, hst3, fun _ => ⟨gc3, gw3⟩, fun h => absurd rfl h⟩
        rw [if_pos rfl, hle3.1]
    · refine z_iconst dX12_normal_22 (by decide) ?_
      refine z_goto (tgt := 27) dX12_normal_23 rfl ?_
      refine z_callV mlX12_310 dX12_normal_27 (sh_M hE) (av := [_]) rfl rfl (Nat.le_of_ble_eq_true rfl) (r_is _ hE hm _) (Nat.le_refl _) (Nat.le_refl _) (Nat.le_refl _) (Nat.le_refl _) ?_
      rintro _ m1 ⟨rfl, e1⟩
      have hq1 : mQ m m1 4 := e1 ▸ mQ_is hq0
      have hI1 := hq1.1
      have hm1 := hI1.1.1
      have eT1 := mQ_T hq1
      have ec1 : m1 a_c = m a_c := congrArg (fun q => q.1) eT1
      have ec21 : m1 a_c 2 = m a_c 2 := congrFun ec1 2
      have ew1 : m1 a_what = m a_what := congrArg (fun q => q.2.1) eT1
      have ep1 : m1 a_pointOf = m a_pointOf := congrArg (fun q => q.2.2.1) eT1
      have en1 : m1 aM f_letters = m aM f_letters := congrArg (fun q => q.2.2.2) eT1
      obtain ⟨hw1, hl1, hn1⟩ := mI_wl hI1
      refine z_ifz_ne (tgt := 35) dX12_normal_30 rfl (fun h => absurd h (by decide)) (fun h30 => ?_)
      refine z_iconst dX12_normal_33 (by decide) ?_
      refine z_iret dX12_normal_34 rfl rfl ?_
      have eS : sNormal (mT m) p so = 4 := by unfold sNormal; rw [if_neg (by omega), if_pos (show zb ((mT m).1 (32 + 9 * p + 2) = 1) = so from Decidable.not_not.mp h19)]
      rw [eS]
      exact ⟨rfl, hI1, zfr_sub hq1.2.1 (by decide), hq1.2.2, fun h => absurd h (by decide), fun _ => ⟨eT1, zfr_cell hq1.2.1 (by decide)⟩⟩
  · refine z_iconst dX12_normal_9 (by decide) ?_
    refine z_goto (tgt := 27) dX12_normal_10 rfl ?_
    refine z_callV mlX12_310 dX12_normal_27 (sh_M hE) (av := [_]) rfl rfl (Nat.le_of_ble_eq_true rfl) (r_is _ hE hm _) (Nat.le_refl _) (Nat.le_refl _) (Nat.le_refl _) (Nat.le_refl _) ?_
    rintro _ m1 ⟨rfl, e1⟩
    have hq1 : mQ m m1 2 := e1 ▸ mQ_is hq0
    have hI1 := hq1.1
    have hm1 := hI1.1.1
    have eT1 := mQ_T hq1
    have ec1 : m1 a_c = m a_c := congrArg (fun q => q.1) eT1
    have ec21 : m1 a_c 2 = m a_c 2 := congrFun ec1 2
    have ew1 : m1 a_what = m a_what := congrArg (fun q => q.2.1) eT1
    have ep1 : m1 a_pointOf = m a_pointOf := congrArg (fun q => q.2.2.1) eT1
    have en1 : m1 aM f_letters = m aM f_letters := congrArg (fun q => q.2.2.2) eT1
    obtain ⟨hw1, hl1, hn1⟩ := mI_wl hI1
    refine z_ifz_ne (tgt := 35) dX12_normal_30 rfl (fun h => absurd h (by decide)) (fun h30 => ?_)
    refine z_iconst dX12_normal_33 (by decide) ?_
    refine z_iret dX12_normal_34 rfl rfl ?_
    have eS : sNormal (mT m) p so = 2 := by unfold sNormal; rw [if_pos (by omega)]
    rw [eS]
    exact ⟨rfl, hI1, zfr_sub hq1.2.1 (by decide), hq1.2.2, fun h => absurd h (by decide), fun _ => ⟨eT1, zfr_cell hq1.2.1 (by decide)⟩⟩

theorem q_swap (d : Nat) {E : zE} {m : zM} (hE : shM E) (hI : mI m) (i : Int) : zR zX12_swap (d + 11) [zP aM, zI i] m E E (fun r m' => r = some (zI (if sSwap (mT m) i = 0 then tS (mT m') (tSign (mT m')) else -1)) ∧ mI m' ∧ zfr fEd m m' ∧ m' aM f_status = sSwap (mT m) i ∧ (sSwap (mT m) i = 0 → m' a_c = eSw (m a_c) (32 + 9 * m a_pointOf i + 3 + i - cPre (m a_c) (m a_pointOf i).toNat) ∧ ∀ i, 0 ≤ i → i < 800 → m' a_worths i = 1) ∧ (sSwap (mT m) i ≠ 0 → mT m' = mT m ∧ m' a_worths = m a_worths)) := by
  have hm := hI.1.1
  obtain ⟨hw, hl, hn⟩ := mI_wl hI
  have hq0 := mQ_rf hI
  have eT0 : mT m = mT m := rfl
  have t4 : (mT m).2.2.2 = m aM f_letters := rfl
  have t0 : (mT m).1 0 = m a_c 0 := rfl
  have t1 : (mT m).1 1 = m a_c 1 := rfl
  have t2 : (mT m).1 2 = m a_c 2 := rfl
  have b1 := hw.1
  have b2 := hw.2.1
  have b3 := hw.2.2.1
  refine zR_go [zP aM, zI i, zN, zN] (by decide +kernel) (Nat.le_of_ble_eq_true rfl) rfl rfl ?_
  refine z_aload_n dX12_swap_0 rfl ?_
  refine z_aload_n dX12_swap_1 rfl ?_
  refine z_iload_n dX12_swap_2 rfl ?_
  refine z_callV mlX12_329 dX12_swap_3 (sh_M hE) (av := [_]) rfl rfl (Nat.le_of_ble_eq_true rfl) (r_isLetter _ hE hm i hn) (Nat.le_refl _) (Nat.le_refl _) (Nat.le_refl _) (Nat.le_refl _) ?_
  rintro _ _ ⟨rfl, rfl⟩
  refine z_ifz_eq (tgt := 19) dX12_swap_6 rfl (fun h6 => ?_) (fun h6 => ?_)
  · refine z_iconst dX12_swap_19 (by decide) ?_
    refine z_goto (tgt := 66) dX12_swap_20 rfl ?_
    refine z_callV mlX12_310 dX12_swap_66 (sh_M hE) (av := [_]) rfl rfl (Nat.le_of_ble_eq_true rfl) (r_is _ hE hm _) (Nat.le_refl _) (Nat.le_refl _) (Nat.le_refl _) (Nat.le_refl _) ?_
    rintro _ m1 ⟨rfl, e1⟩
    have hq1 : mQ m m1 2 := e1 ▸ mQ_is hq0
    have hI1 := hq1.1
    have hm1 := hI1.1.1
    have eT1 := mQ_T hq1
    have ec1 : m1 a_c = m a_c := congrArg (fun q => q.1) eT1
    have ec21 : m1 a_c 2 = m a_c 2 := congrFun ec1 2
    have ew1 : m1 a_what = m a_what := congrArg (fun q => q.2.1) eT1
    have ep1 : m1 a_pointOf = m a_pointOf := congrArg (fun q => q.2.2.1) eT1
    have en1 : m1 aM f_letters = m aM f_letters := congrArg (fun q => q.2.2.2) eT1
    obtain ⟨hw1, hl1, hn1⟩ := mI_wl hI1
    refine z_ifz_ne (tgt := 74) dX12_swap_69 rfl (fun h => absurd h (by decide)) (fun h69 => ?_)
    refine z_iconst dX12_swap_72 (by decide) ?_
    refine z_iret dX12_swap_73 rfl rfl ?_
    have eS : sSwap (mT m) i = 2 := by unfold sSwap; rw [if_pos (by omega)]
    rw [eS]
    exact ⟨rfl, hI1, zfr_sub hq1.2.1 (by decide), hq1.2.2, fun h => absurd h (by decide), fun _ => ⟨eT1, zfr_cell hq1.2.1 (by decide)⟩⟩
  · refine z_aload_n dX12_swap_9 rfl ?_
    refine z_iload_n dX12_swap_10 rfl ?_
    refine z_iconst dX12_swap_11 (by decide) ?_
    refine z_add dX12_swap_12 (by omega) ?_
    refine z_callV mlX12_329 dX12_swap_13 (sh_M hE) (av := [_]) rfl rfl (Nat.le_of_ble_eq_true rfl) (r_isLetter _ hE hm (i + 1) hn) (Nat.le_refl _) (Nat.le_refl _) (Nat.le_refl _) (Nat.le_refl _) ?_
    rintro _ _ ⟨rfl, rfl⟩
    refine z_ifz_ne (tgt := 23) dX12_swap_16 rfl (fun h16 => ?_) (fun h16 => ?_)
    · refine z_aload_n dX12_swap_23 rfl ?_
      refine z_gP 6 rfl (r := a_pointOf) flX12_22 dX12_swap_24 (sh_M hE) rfl (pt_pointOf hm) (by decide) ?_
      refine z_iload_n dX12_swap_27 rfl ?_
      refine z_iald dX12_swap_28 (sh_pointOf hE) (by omega) (by omega) ?_
      refine z_aload_n dX12_swap_29 rfl ?_
      refine z_gP 6 rfl (r := a_pointOf) flX12_22 dX12_swap_30 (sh_M hE) rfl (pt_pointOf hm) (by decide) ?_
      refine z_iload_n dX12_swap_33 rfl ?_
      refine z_iconst dX12_swap_34 (by decide) ?_
      refine z_add dX12_swap_35 (by omega) ?_
      refine z_iald dX12_swap_36 (sh_pointOf hE) (by omega) (by omega) ?_
      refine z_icmp_eq (tgt := 44) dX12_swap_37 rfl (fun h37 => ?_) (fun h37 => ?_)
      · refine z_aload_n dX12_swap_44 rfl ?_
        refine z_gP 5 rfl (r := a_what) flX12_19 dX12_swap_45 (sh_M hE) rfl (pt_what hm) (by decide) ?_
        refine z_iload_n dX12_swap_48 rfl ?_
        refine z_iald dX12_swap_49 (sh_what hE) (by omega) (by omega) ?_
        refine z_aload_n dX12_swap_50 rfl ?_
        refine z_gP 5 rfl (r := a_what) flX12_19 dX12_swap_51 (sh_M hE) rfl (pt_what hm) (by decide) ?_
        refine z_iload_n dX12_swap_54 rfl ?_
        refine z_iconst dX12_swap_55 (by decide) ?_
        refine z_add dX12_swap_56 (by omega) ?_
        refine z_iald dX12_swap_57 (sh_what hE) (by omega) (by omega) ?_
        refine z_icmp_ne (tgt := 65) dX12_swap_58 rfl (fun h58 => ?_) (fun h58 => ?_)
        · refine z_iconst dX12_swap_65 (by decide) ?_
          refine z_callV mlX12_310 dX12_swap_66 (sh_M hE) (av := [_]) rfl rfl (Nat.le_of_ble_eq_true rfl) (r_is _ hE hm _) (Nat.le_refl _) (Nat.le_refl _) (Nat.le_refl _) (Nat.le_refl _) ?_
          rintro _ m1 ⟨rfl, e1⟩
          have hq1 : mQ m m1 0 := e1 ▸ mQ_is hq0
          have hI1 := hq1.1
          have hm1 := hI1.1.1
          have eT1 := mQ_T hq1
          have ec1 : m1 a_c = m a_c := congrArg (fun q => q.1) eT1
          have ec21 : m1 a_c 2 = m a_c 2 := congrFun ec1 2
          have ew1 : m1 a_what = m a_what := congrArg (fun q => q.2.1) eT1
          have ep1 : m1 a_pointOf = m a_pointOf := congrArg (fun q => q.2.2.1) eT1
          have en1 : m1 aM f_letters = m aM f_letters := congrArg (fun q => q.2.2.2) eT1
          obtain ⟨hw1, hl1, hn1⟩ := mI_wl hI1
          refine z_ifz_ne (tgt := 74) dX12_swap_69 rfl (fun h69 => ?_) (fun h => absurd (by decide) h)
          refine z_aload_n dX12_swap_74 rfl ?_
          refine z_aload_n dX12_swap_75 rfl ?_
          refine z_gP 6 rfl (r := a_pointOf) flX12_22 dX12_swap_76 (sh_M hE) rfl (pt_pointOf hm1) (by decide) ?_
          refine z_iload_n dX12_swap_79 rfl ?_
          obtain ⟨v0, v1, v2, v3⟩ := flat_two hw hI.1.2.2.1 (by omega) (show i + 1 < m aM f_letters by omega) (by assumption)
          have v4 := (hw.2.2.2.2.2 (m a_pointOf i) v0 v1).1
          have ex : zsum (fun q => m a_c (32 + 9 * q)) (m a_pointOf i).toNat 0 = cPre (m a_c) (m a_pointOf i).toNat := rfl
          refine z_ialv dX12_swap_80 (sh_pointOf hE) (by omega) (by omega) (congrFun ep1 i) ?_
          refine z_callV mlX12_120 dX12_swap_81 (sh_M hE) (av := [_]) rfl rfl (Nat.le_of_ble_eq_true rfl) (r_at _ hE hm1 (m a_pointOf i) v0 (by omega)) (Nat.le_refl _) (Nat.le_refl _) (Nat.le_refl _) (Nat.le_refl _) ?_
          rintro _ _ ⟨rfl, rfl⟩
          refine z_iconst dX12_swap_84 (by decide) ?_
          refine z_add dX12_swap_85 (by omega) ?_
          refine z_iload_n dX12_swap_86 rfl ?_
          refine z_add dX12_swap_87 (by omega) ?_
          refine z_aload_n dX12_swap_88 rfl ?_
          refine z_aload_n dX12_swap_89 rfl ?_
          refine z_gP 6 rfl (r := a_pointOf) flX12_22 dX12_swap_90 (sh_M hE) rfl (pt_pointOf hm1) (by decide) ?_
          refine z_iload_n dX12_swap_93 rfl ?_
          refine z_ialv dX12_swap_94 (sh_pointOf hE) (by omega) (by omega) (congrFun ep1 i) ?_
          refine z_callV mlX12_335 dX12_swap_95 (sh_M hE) (av := [_]) rfl rfl (Nat.le_of_ble_eq_true rfl) (r_firstOf _ hE hm1 (m a_pointOf i) hw1 v0 (by omega)) (Nat.le_refl _) (Nat.le_refl _) (Nat.le_refl _) (Nat.le_refl _) ?_
          rw [ec1, ex]
          rintro _ _ ⟨rfl, rfl⟩
          refine z_sub dX12_swap_98 (by omega) ?_
          refine z_ist 2 dX12_swap_99 rfl (Nat.le_of_ble_eq_true rfl) ?_
          refine z_aload_n dX12_swap_100 rfl ?_
          refine z_gP 0 rfl (r := a_c) flX12_7 dX12_swap_101 (sh_M hE) rfl (pt_c hm1) (by decide) ?_
          refine z_iload_n dX12_swap_104 rfl ?_
          refine z_ialv dX12_swap_105 (sh_c hE) (by omega) (by omega) (congrFun ec1 _) ?_
          refine z_ist 3 dX12_swap_106 rfl (Nat.le_of_ble_eq_true rfl) ?_
          refine z_aload_n dX12_swap_107 rfl ?_
          refine z_gP 0 rfl (r := a_c) flX12_7 dX12_swap_108 (sh_M hE) rfl (pt_c hm1) (by decide) ?_
          refine z_iload_n dX12_swap_111 rfl ?_
          refine z_aload_n dX12_swap_112 rfl ?_
          refine z_gP 0 rfl (r := a_c) flX12_7 dX12_swap_113 (sh_M hE) rfl (pt_c hm1) (by decide) ?_
          refine z_iload_n dX12_swap_116 rfl ?_
          refine z_iconst dX12_swap_117 (by decide) ?_
          refine z_add dX12_swap_118 (by omega) ?_
          refine z_ialv dX12_swap_119 (sh_c hE) (by omega) (by omega) (congrFun ec1 _) ?_
          refine z_iast dX12_swap_120 (sh_c hE) (by omega) (by omega) ?_
          refine z_aload_n dX12_swap_121 rfl ?_
          refine z_gP 0 rfl (r := a_c) flX12_7 dX12_swap_122 (sh_M hE) rfl (pt_c (ptM_a hm1 (by decide))) (by decide) ?_
          refine z_iload_n dX12_swap_125 rfl ?_
          refine z_iconst dX12_swap_126 (by decide) ?_
          refine z_add dX12_swap_127 (by omega) ?_
          refine z_iload_n dX12_swap_128 rfl ?_
          refine z_iast dX12_swap_129 (sh_c hE) (by omega) (by omega) ?_
          generalize em9 : zu (zu m1 a_c (32 + 9 * m a_pointOf i + 3 + i - cPre (m a_c) (m a_pointOf i).toNat) (m a_c ((32 + 9 * m a_pointOf i + 3 + i - cPre (m a_c) (m a_pointOf i).toNat) + 1))) a_c ((32 + 9 * m a_pointOf i + 3 + i - cPre (m a_c) (m a_pointOf i).toNat) + 1) (m a_c (32 + 9 * m a_pointOf i + 3 + i - cPre (m a_c) (m a_pointOf i).toNat)) = m9
          have hc9 : m9 a_c = eSw (m a_c) (32 + 9 * m a_pointOf i + 3 + i - cPre (m a_c) (m a_pointOf i).toNat) := by rw [← em9]; exact eSw_u ec1
          have h9 : ptM m9 := by rw [← em9]; exact ptM_a (ptM_a hm1 (by decide)) (by decide)
          have f9 : zfr fEd0 m1 m9 := by rw [← em9]; exact zfr_ua (zfr_ua zfr_rf (by decide)) (by decide)
          obtain ⟨hw9, ht9⟩ : wfC (eSw (m a_c) (32 + 9 * m a_pointOf i + 3 + i - cPre (m a_c) (m a_pointOf i).toNat)) ∧ cPre (eSw (m a_c) (32 + 9 * m a_pointOf i + 3 + i - cPre (m a_c) (m a_pointOf i).toNat)) ((eSw (m a_c) (32 + 9 * m a_pointOf i + 3 + i - cPre (m a_c) (m a_pointOf i).toNat)) 2).toNat ≤ 12 := by
            have h1 := hI.1.2.2.1.1
            have h := eSw_wfC (k := i - cPre (m a_c) (m a_pointOf i).toNat) hw v0 v1 v2 v3
            rw [show 32 + 9 * m a_pointOf i + 3 + (i - cPre (m a_c) (m a_pointOf i).toNat) = (32 + 9 * m a_pointOf i + 3 + i - cPre (m a_c) (m a_pointOf i).toNat) by omega] at h
            rw [h.2.1, h.2.2, ← h1]
            exact ⟨h.1, by omega⟩
          refine z_aload_n dX12_swap_130 rfl ?_
          try dsimp only [zs0, zsI, zsP, zsN, zsJ, zsS, zst2, Nat.reduceAdd]
          refine z_callV mlX12_347 dX12_swap_131 (sh_M hE) (av := _) rfl rfl (Nat.le_of_ble_eq_true rfl) (r_pointsChange _ hE h9 (by rw [hc9]; exact hw9) (by rw [hc9]; exact ht9)) (Nat.le_refl _) (Nat.le_refl _) (Nat.le_refl _) (Nat.le_refl _) ?_
          rintro _ mp ⟨rfl, g1, g2, g3, g4, g5⟩
          have gc : mp a_c = eSw (m a_c) (32 + 9 * m a_pointOf i + 3 + i - cPre (m a_c) (m a_pointOf i).toNat) := (zfr_cell g1 (by decide)).trans hc9
          have hmp : ptM mp := ptM_ed h9 (zfr_sub g1 (by decide))
          have hfl : isFlat (mp a_c) (mp a_what) (mp a_pointOf) (mp aM f_letters) := by rw [zfr_cell (a := a_c) g1 (by decide)]; exact g2
          have hwp : wfC (mp a_c) := by rw [gc]; exact hw9
          have hlp : mp aM f_letters ≤ 12 := by rw [hfl.1, gc]; exact ht9
          have fp : zfr fEd0 m1 mp := zfr_tr f9 (zfr_sub g1 (by decide))
          have hIp := mI_new hI1 fp hwp hfl hlp g3 g4 g5
          have fq : zfr fEd m mp := zfr_tr (zfr_sub hq1.2.1 (by decide)) (zfr_sub fp (by decide))
          have hst : mp aM f_status = 0 := (zfr_at fp (by decide)).trans hq1.2.2
          refine z_aload_n dX12_swap_134 rfl ?_
          refine z_callV mlX12_194 dX12_swap_135 (sh_M hE) (av := _) rfl rfl (Nat.le_of_ble_eq_true rfl) (q_lays _ hE hIp) (Nat.le_refl _) (Nat.le_refl _) (Nat.le_refl _) (Nat.le_refl _) ?_
          rintro _ m3 ⟨rfl, hI3, f3, hL3⟩
          have hm3 := hI3.1.1
          have hle3 := mL_len hI3.1 hL3
          have hsg3 := mL_sg hI3.1 hL3
          have gc3 : m3 a_c = eSw (m a_c) (32 + 9 * m a_pointOf i + 3 + i - cPre (m a_c) (m a_pointOf i).toNat) := (zfr_cell f3 (by decide)).trans gc
          have gw3 : ∀ i, 0 ≤ i → i < 800 → m3 a_worths i = 1 := by rw [zfr_cell (a := a_worths) f3 (by decide)]; exact g5
          have fq3 : zfr fEd m m3 := zfr_tr fq (zfr_sub f3 (by decide))
          have hst3 : m3 aM f_status = 0 := (zfr_at f3 (by decide)).trans hst
          refine z_aload_n dX12_swap_138 rfl ?_
          refine z_callV mlX12_319 dX12_swap_139 (sh_M hE) (av := _) rfl rfl (Nat.le_of_ble_eq_true rfl) (r_signs _ hE hm3 hle3.2.1 hsg3) (Nat.le_refl _) (Nat.le_refl _) (Nat.le_refl _) (Nat.le_refl _) ?_
          rintro _ _ ⟨rfl, rfl⟩
          refine z_iret dX12_swap_142 rfl rfl ?_
          have eS : sSwap (mT m) i = 0 := by unfold sSwap; rw [if_neg (by omega), if_neg (not_not_intro (by assumption)), if_neg (by assumption)]
          rw [eS]
          refine ⟨?_, hI3, fq3, hst3, fun _ => ⟨gc3, gw3⟩, fun h => absurd rfl h⟩
          rw [if_pos rfl, show zsum (fun k => m3 a_sign k) (m3 aM f_laid).toNat 0 = tS (mT m3) (tSign (mT m3)) from zsum_lS0 hle3.2.2.symm (fun t x ht => (mL_row hL3 t x ht).2.1)]
        · refine z_iconst dX12_swap_61 (by decide) ?_
          refine z_goto (tgt := 66) dX12_swap_62 rfl ?_
          refine z_callV mlX12_310 dX12_swap_66 (sh_M hE) (av := [_]) rfl rfl (Nat.le_of_ble_eq_true rfl) (r_is _ hE hm _) (Nat.le_refl _) (Nat.le_refl _) (Nat.le_refl _) (Nat.le_refl _) ?_
          rintro _ m1 ⟨rfl, e1⟩
          have hq1 : mQ m m1 4 := e1 ▸ mQ_is hq0
          have hI1 := hq1.1
          have hm1 := hI1.1.1
          have eT1 := mQ_T hq1
          have ec1 : m1 a_c = m a_c := congrArg (fun q => q.1) eT1
          have ec21 : m1 a_c 2 = m a_c 2 := congrFun ec1 2
          have ew1 : m1 a_what = m a_what := congrArg (fun q => q.2.1) eT1
          have ep1 : m1 a_pointOf = m a_pointOf := congrArg (fun q => q.2.2.1) eT1
          have en1 : m1 aM f_letters = m aM f_letters := congrArg (fun q => q.2.2.2) eT1
          obtain ⟨hw1, hl1, hn1⟩ := mI_wl hI1
          refine z_ifz_ne (tgt := 74) dX12_swap_69 rfl (fun h => absurd h (by decide)) (fun h69 => ?_)
          refine z_iconst dX12_swap_72 (by decide) ?_
          refine z_iret dX12_swap_73 rfl rfl ?_
          have eS : sSwap (mT m) i = 4 := by unfold sSwap; rw [if_neg (by omega), if_neg (not_not_intro (by assumption)), if_pos (show (mT m).2.1 i = (mT m).2.1 (i + 1) from Decidable.not_not.mp h58)]
          rw [eS]
          exact ⟨rfl, hI1, zfr_sub hq1.2.1 (by decide), hq1.2.2, fun h => absurd h (by decide), fun _ => ⟨eT1, zfr_cell hq1.2.1 (by decide)⟩⟩
      · refine z_iconst dX12_swap_40 (by decide) ?_
        refine z_goto (tgt := 66) dX12_swap_41 rfl ?_
        refine z_callV mlX12_310 dX12_swap_66 (sh_M hE) (av := [_]) rfl rfl (Nat.le_of_ble_eq_true rfl) (r_is _ hE hm _) (Nat.le_refl _) (Nat.le_refl _) (Nat.le_refl _) (Nat.le_refl _) ?_
        rintro _ m1 ⟨rfl, e1⟩
        have hq1 : mQ m m1 5 := e1 ▸ mQ_is hq0
        have hI1 := hq1.1
        have hm1 := hI1.1.1
        have eT1 := mQ_T hq1
        have ec1 : m1 a_c = m a_c := congrArg (fun q => q.1) eT1
        have ec21 : m1 a_c 2 = m a_c 2 := congrFun ec1 2
        have ew1 : m1 a_what = m a_what := congrArg (fun q => q.2.1) eT1
        have ep1 : m1 a_pointOf = m a_pointOf := congrArg (fun q => q.2.2.1) eT1
        have en1 : m1 aM f_letters = m aM f_letters := congrArg (fun q => q.2.2.2) eT1
        obtain ⟨hw1, hl1, hn1⟩ := mI_wl hI1
        refine z_ifz_ne (tgt := 74) dX12_swap_69 rfl (fun h => absurd h (by decide)) (fun h69 => ?_)
        refine z_iconst dX12_swap_72 (by decide) ?_
        refine z_iret dX12_swap_73 rfl rfl ?_
        have eS : sSwap (mT m) i = 5 := by unfold sSwap; rw [if_neg (by omega), if_pos (by assumption)]
        rw [eS]
        exact ⟨rfl, hI1, zfr_sub hq1.2.1 (by decide), hq1.2.2, fun h => absurd h (by decide), fun _ => ⟨eT1, zfr_cell hq1.2.1 (by decide)⟩⟩
    · refine z_iconst dX12_swap_19 (by decide) ?_
      refine z_goto (tgt := 66) dX12_swap_20 rfl ?_
      refine z_callV mlX12_310 dX12_swap_66 (sh_M hE) (av := [_]) rfl rfl (Nat.le_of_ble_eq_true rfl) (r_is _ hE hm _) (Nat.le_refl _) (Nat.le_refl _) (Nat.le_refl _) (Nat.le_refl _) ?_
      rintro _ m1 ⟨rfl, e1⟩
      have hq1 : mQ m m1 2 := e1 ▸ mQ_is hq0
      have hI1 := hq1.1
      have hm1 := hI1.1.1
      have eT1 := mQ_T hq1
      have ec1 : m1 a_c = m a_c := congrArg (fun q => q.1) eT1
      have ec21 : m1 a_c 2 = m a_c 2 := congrFun ec1 2
      have ew1 : m1 a_what = m a_what := congrArg (fun q => q.2.1) eT1
      have ep1 : m1 a_pointOf = m a_pointOf := congrArg (fun q => q.2.2.1) eT1
      have en1 : m1 aM f_letters = m aM f_letters := congrArg (fun q => q.2.2.2) eT1
      obtain ⟨hw1, hl1, hn1⟩ := mI_wl hI1
      refine z_ifz_ne (tgt := 74) dX12_swap_69 rfl (fun h => absurd h (by decide)) (fun h69 => ?_)
      refine z_iconst dX12_swap_72 (by decide) ?_
      refine z_iret dX12_swap_73 rfl rfl ?_
      have eS : sSwap (mT m) i = 2 := by unfold sSwap; rw [if_pos (by omega)]
      rw [eS]
      exact ⟨rfl, hI1, zfr_sub hq1.2.1 (by decide), hq1.2.2, fun h => absurd h (by decide), fun _ => ⟨eT1, zfr_cell hq1.2.1 (by decide)⟩⟩
