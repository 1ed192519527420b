def fW2 : List (Int × Option Int) := (a_places, none) :: fW
noncomputable def tSgn (T : zT) (dd : Int) : Int := tS T (fun mt => if tName T mt = tNm T dd then tSign T mt else 0)
/-- how many changes of places leave a diagram's name as it is -/
noncomputable def tLv (T : zT) (dd : Int) : Int := sSame (tNm T dd) (sPlc (T.1 2).toNat (cAlike T.1) (sV T.1 (tCo T dd) (tH T)) (T.1 2).toNat 0 0 (fun _ => 0))
theorem ptM_t2 {m m1 : zM} (h : ptM m) (b : zfr fLeast m m1) : ptM m1 := fun q hq => by
  have hq2 : ∀ q ∈ mPt, fLeast.all (fun r => r.1 != aM || (r.2 != none && r.2 != some q.1)) = true := by decide
  rw [zfr_at b (hq2 q hq)]
  exact h q hq
theorem mOp_V {m : zM} {co : Int → Int} {h : Nat} (ho : mOp m co h) : sV (m a_c) (m a_codes) (m aM f_lines).toNat = sV (m a_c) co h := by
  rw [show (m aM f_lines).toNat = h by have := ho.1; omega]
  exact sV_co (fun i q1 q2 => ho.2.2.1 i q1 q2)
theorem mI_fr2 {m m' : zM} (h : mI m) (f : zfr fW2 m m') (hp : mPl m') : mI m' := by
  obtain ⟨h1, ⟨h2, h3⟩, ⟨h4, h5⟩, h6, h7, h8, h9, h10⟩ := h
  have e : mT m' = mT m := mT_fr f (by decide)
  refine ⟨mOK_of h1 e ?_ ?_, ⟨?_, fun hl => ?_⟩, ⟨?_, fun hl => ?_⟩, hp, ?_, ?_, ?_, ?_⟩
  · exact fun q hq => by
      have hq2 : ∀ q ∈ mPt, fW2.all (fun r => r.1 != aM || (r.2 != none && r.2 != some q.1)) = true := by decide
      rw [zfr_at f (hq2 q hq)]
      exact h1.1 q hq
  · rw [zfr_cell (a := a_mate) f (by decide)]; exact h1.2.2.2.2
  · rw [zfr_at (j := f_isLaid) f (by decide)]; exact h2
  · rw [zfr_at (j := f_isLaid) f (by decide)] at hl
    exact mL_of (h3 hl) e (zfr_at f (by decide)) (zfr_cell f (by decide)) (zfr_cell f (by decide)) (zfr_cell f (by decide)) (zfr_cell f (by decide))
  · rw [zfr_at (j := f_isNamed) f (by decide)]; exact h4
  · rw [zfr_at (j := f_isNamed) f (by decide)] at hl
    exact mN_of (h5 hl) e (zfr_at f (by decide)) (zfr_cell f (by decide)) (zfr_cell f (by decide))
  · rw [zfr_cell (a := a_worths) f (by decide)]; exact h7
  · rw [zfr_at (j := f_taped) f (by decide)]; exact h8
  · rw [zfr_at (j := f_outMany) f (by decide)]; exact h9
  · unfold mWd; rw [zfr_cell (a := a_words) f (by decide)]; exact h10
theorem mQ_fr2 {m m1 m2 : zM} {st : Int} (h : mQ m m1 st) (f : zfr fW2 m1 m2) (hp : mPl m2) : mQ m m2 st := ⟨mI_fr2 h.1 f hp, zfr_tr h.2.1 (zfr_sub f (by decide)), (zfr_at f (by decide)).trans h.2.2⟩
theorem mL_kept2 {m m1 : zM} (f : zfr fW2 m m1) (h : mL m) : mL m1 := mL_of h (mT_fr f (by decide)) (zfr_at f (by decide)) (zfr_cell f (by decide)) (zfr_cell f (by decide)) (zfr_cell f (by decide)) (zfr_cell f (by decide))
theorem mN_kept2 {m m1 : zM} (f : zfr fW2 m m1) (h : mN m) : mN m1 := mN_of h (mT_fr f (by decide)) (zfr_at f (by decide)) (zfr_cell f (by decide)) (zfr_cell f (by decide))
/-- each diagram has a pairing -/
theorem tD_ex {T : zT} {d : Int} (h0 : 0 ≤ d) (h1 : d < ((tD T).length : Int)) : ∃ k : Int, 0 ≤ k ∧ k < ((tPairs T).length : Int) ∧ tName T (tMt T k) = tNm T d := by
  have hm := lf_mem h0 h1
  have hm : lf (tD T) d ∈ sSet ((tPairs T).map (tName T)) := hm
  rw [sSet_mem, List.mem_map] at hm
  obtain ⟨mt, g1, g2⟩ := hm
  obtain ⟨t, ht⟩ := List.mem_iff_getElem?.mp g1
  have hb := (List.getElem?_eq_some_iff.mp ht).1
  exact ⟨t, by omega, by omega, by rw [tMt_t ht]; exact g2⟩
theorem l_signedOf (d : Nat) {E : zE} {m : zM} {P : Option zV → zM → Prop} (hE : shM E) (hm : ptM m) (hk : mOK m) (hL : mL m) (hN : mN m) (dd : Int) (d0 : 0 ≤ dd) (d1 : dd < ((tD (mT m)).length : Int))  : ∀ (j : Nat) (k n : Int), (0 ≤ k) → (k + j = ((tPairs (mT m)).length : Int)) → (-k ≤ n ∧ n ≤ k) → (P (some (zI (n + zsum (fun k => if tName (mT m) (tMt (mT m) k) = tNm (mT m) dd then tSign (mT m) (tMt (mT m) k) else 0) j k))) m) → zA zX12_signedOf (d) E E P 4 [zP aM, zI dd, zI n, zI k] [] m E := by
  intro j
  induction j with
  | zero =>
    intro k n h0 hk2 hn hP
    have hlen := mL_len hk hL
    refine z_iload_n dX12_signedOf_4 rfl ?_
    refine z_aload_n dX12_signedOf_5 rfl ?_
    refine z_gI f_laid rfl flX12_172 dX12_signedOf_6 (sh_M hE) rfl ?_
    refine z_icmp_ge (tgt := 41) dX12_signedOf_9 rfl (fun h9 => ?_) (fun h => absurd (by omega) h)
    refine z_iload_n dX12_signedOf_41 rfl ?_
    refine z_iret dX12_signedOf_42 rfl rfl ?_
    rw [zsum_0, Int.add_zero] at hP
    exact hP
  | succ j ih =>
    intro k n h0 hk2 hn hP
    have hlen := mL_len hk hL
    have hdk := mN_at hN h0 (show k < ((tPairs (mT m)).length : Int) by omega) d0 d1
    have hat := mL_at hk hL h0 (show k < ((tPairs (mT m)).length : Int) by omega)
    have hsk : tSign (mT m) (tMt (mT m) k) = 1 ∨ tSign (mT m) (tMt (mT m) k) = -1 := zpar_or _
    refine z_iload_n dX12_signedOf_4 rfl ?_
    refine z_aload_n dX12_signedOf_5 rfl ?_
    refine z_gI f_laid rfl flX12_172 dX12_signedOf_6 (sh_M hE) rfl ?_
    refine z_icmp_ge (tgt := 41) dX12_signedOf_9 rfl (fun h => absurd h (by omega)) (fun h9 => ?_)
    refine z_iload_n dX12_signedOf_12 rfl ?_
    refine z_aload_n dX12_signedOf_13 rfl ?_
    refine z_gP 11 rfl (r := a_diagramOf) flX12_38 dX12_signedOf_14 (sh_M hE) rfl (pt_diagramOf hm) (by decide) ?_
    refine z_iload_n dX12_signedOf_17 rfl ?_
    refine z_iald dX12_signedOf_18 (sh_diagramOf hE) (by omega) (by omega) ?_
    refine z_iload_n dX12_signedOf_19 rfl ?_
    refine z_icmp_ne (tgt := 32) dX12_signedOf_20 rfl (fun h20 => ?_) (fun h20 => ?_)
    · refine z_iconst dX12_signedOf_32 (by decide) ?_
      refine z_add dX12_signedOf_33 (by omega) ?_
      refine z_ist 2 dX12_signedOf_34 rfl (Nat.le_of_ble_eq_true rfl) ?_
      refine z_inc dX12_signedOf_35 rfl (by omega) ?_
      refine z_goto (tgt := 4) dX12_signedOf_38 rfl ?_
      try dsimp only [zs0, zsI, zsP, zsN, zsJ, zsS, zst2, Nat.reduceAdd]
      rw [zsum_s, ← Int.add_assoc, if_neg (fun h => absurd (hdk.mpr h) (by omega))] at hP
      exact ih (k + 1) _ (by omega) (by omega) (by omega) hP
    · refine z_aload_n dX12_signedOf_23 rfl ?_
      refine z_gP 8 rfl (r := a_sign) flX12_29 dX12_signedOf_24 (sh_M hE) rfl (pt_sign hm) (by decide) ?_
      refine z_iload_n dX12_signedOf_27 rfl ?_
      refine z_ialv dX12_signedOf_28 (sh_sign hE) (by omega) (by omega) hat.2.1 ?_
      refine z_goto (tgt := 33) dX12_signedOf_29 rfl ?_
      refine z_add dX12_signedOf_33 (by omega) ?_
      refine z_ist 2 dX12_signedOf_34 rfl (Nat.le_of_ble_eq_true rfl) ?_
      refine z_inc dX12_signedOf_35 rfl (by omega) ?_
      refine z_goto (tgt := 4) dX12_signedOf_38 rfl ?_
      try dsimp only [zs0, zsI, zsP, zsN, zsJ, zsS, zst2, Nat.reduceAdd]
      rw [zsum_s, ← Int.add_assoc, if_pos (hdk.mp (by omega))] at hP
      exact ih (k + 1) _ (by omega) (by omega) (by omega) hP

theorem r_signedOf (d : Nat) {E : zE} {m : zM} (hE : shM E) (hm : ptM m) (hk : mOK m) (hL : mL m) (hN : mN m) (dd : Int) (d0 : 0 ≤ dd) (d1 : dd < ((tD (mT m)).length : Int))  : zR zX12_signedOf (d) [zP aM, zI dd] m E E (fun r m' => r = some (zI (tSgn (mT m) dd)) ∧ m = m') := by
  refine zR_go [zP aM, zI dd, zN, zN] (by decide +kernel) (Nat.le_of_ble_eq_true rfl) rfl rfl ?_
  refine z_iconst dX12_signedOf_0 (by decide) ?_
  refine z_ist 2 dX12_signedOf_1 rfl (Nat.le_of_ble_eq_true rfl) ?_
  refine z_iconst dX12_signedOf_2 (by decide) ?_
  refine z_ist 3 dX12_signedOf_3 rfl (Nat.le_of_ble_eq_true rfl) ?_
  try dsimp only [zs0, zsI, zsP, zsN, zsJ, zsS, zst2, Nat.reduceAdd]
  refine l_signedOf d hE hm hk hL hN dd d0 d1 (tPairs (mT m)).length 0 0 (by omega) (by omega) (by omega) ⟨?_, rfl⟩
  rw [Int.zero_add, zsum_lS0 (g := fun mt => if tName (mT m) mt = tNm (mT m) dd then tSign (mT m) mt else 0) rfl (fun t x ht => by rw [tMt_t ht])]
  rfl

theorem l_firstPairing (d : Nat) {E : zE} {m : zM} {P : Option zV → zM → Prop} (hE : shM E) (hm : ptM m) (hk : mOK m) (hL : mL m) (hN : mN m) (dd : Int) (d0 : 0 ≤ dd) (d1 : dd < ((tD (mT m)).length : Int))  : ∀ (j : Nat) (k : Int), (0 ≤ k) → (k + j = ((tPairs (mT m)).length : Int)) → (∃ x : Int, k ≤ x ∧ x < ((tPairs (mT m)).length : Int) ∧ tName (mT m) (tMt (mT m) x) = tNm (mT m) dd) → (P (some (zI (zfst (fun k => decide (tName (mT m) (tMt (mT m) k) = tNm (mT m) dd)) j k))) m) → zA zX12_firstPairing (d) E E P 2 [zP aM, zI dd, zI k] [] m E := by
  intro j
  induction j with
  | zero =>
    intro k h0 hk2 hex hP
    have hlen := mL_len hk hL
    obtain ⟨x, x1, x2, x3⟩ := hex
    omega
  | succ j ih =>
    intro k h0 hk2 hex hP
    have hlen := mL_len hk hL
    have hdk := mN_at hN h0 (show k < ((tPairs (mT m)).length : Int) by omega) d0 d1
    refine z_aload_n dX12_firstPairing_2 rfl ?_
    refine z_gP 11 rfl (r := a_diagramOf) flX12_38 dX12_firstPairing_3 (sh_M hE) rfl (pt_diagramOf hm) (by decide) ?_
    refine z_iload_n dX12_firstPairing_6 rfl ?_
    refine z_iald dX12_firstPairing_7 (sh_diagramOf hE) (by omega) (by omega) ?_
    refine z_iload_n dX12_firstPairing_8 rfl ?_
    refine z_icmp_eq (tgt := 18) dX12_firstPairing_9 rfl (fun h9 => ?_) (fun h9 => ?_)
    · refine z_iload_n dX12_firstPairing_18 rfl ?_
      refine z_iret dX12_firstPairing_19 rfl rfl ?_
      rw [zfst_t (by rw [decide_eq_true_eq]; exact hdk.mp (by omega))] at hP
      exact hP
    · refine z_inc dX12_firstPairing_12 rfl (by omega) ?_
      refine z_goto (tgt := 2) dX12_firstPairing_15 rfl ?_
      try dsimp only [zs0, zsI, zsP, zsN, zsJ, zsS, zst2, Nat.reduceAdd]
      rw [zfst_f (by rw [decide_eq_false_iff_not]; exact fun h => absurd (hdk.mpr h) (by omega))] at hP
      exact ih (k + 1) (by omega) (by omega) (by obtain ⟨x, x1, x2, x3⟩ := hex; refine ⟨x, ?_, x2, x3⟩; by_cases e : x = k; (subst e; exact absurd (hdk.mpr x3) (by omega)); omega) hP

theorem r_firstPairing (d : Nat) {E : zE} {m : zM} (hE : shM E) (hm : ptM m) (hk : mOK m) (hL : mL m) (hN : mN m) (dd : Int) (d0 : 0 ≤ dd) (d1 : dd < ((tD (mT m)).length : Int))  : zR zX12_firstPairing (d) [zP aM, zI dd] m E E (fun r m' => r = some (zI (zfst (fun k => decide (tName (mT m) (tMt (mT m) k) = tNm (mT m) dd)) (tPairs (mT m)).length 0)) ∧ m = m') := by
  refine zR_go [zP aM, zI dd, zN] (by decide +kernel) (Nat.le_of_ble_eq_true rfl) rfl rfl ?_
  refine z_iconst dX12_firstPairing_0 (by decide) ?_
  refine z_ist 2 dX12_firstPairing_1 rfl (Nat.le_of_ble_eq_true rfl) ?_
  try dsimp only [zs0, zsI, zsP, zsN, zsJ, zsS, zst2, Nat.reduceAdd]
  refine l_firstPairing d hE hm hk hL hN dd d0 d1 (tPairs (mT m)).length 0 (by omega) (by omega) ?_ ⟨rfl, rfl⟩
  obtain ⟨k, k0, k1, k2⟩ := tD_ex (T := mT m) d0 d1
  exact ⟨k, k0, k1, k2⟩

theorem l_mostOfOne_in (d : Nat) {E : zE} {m : zM} {P : Option zV → zM → Prop} (hE : shM E) (hm : ptM m) (co : Int → Int) (h : Nat) (ho : mOp m co h) (most k : Int) (hk0 : 0 ≤ k) (hk1 : k < h)  : ∀ (j : Nat) (i n : Int), (0 ≤ i) → (i + j = (h : Int)) → (0 ≤ n ∧ n ≤ i) → (zA zX12_mostOfOne d E E P 56 [zP aM, zI most, zI k, zI (n + zsum (fun i => zb (co i = co k)) j i), zN] [] m E) → zA zX12_mostOfOne (d) E E P 17 [zP aM, zI most, zI k, zI n, zI i] [] m E := by
  intro j
  induction j with
  | zero =>
    intro i n h0 hi hn hP
    have o1 := ho.1
    have o2 := ho.2.1
    refine z_iload dX12_mostOfOne_17 rfl ?_
    refine z_aload_n dX12_mostOfOne_19 rfl ?_
    refine z_gI f_lines rfl flX12_197 dX12_mostOfOne_20 (sh_M hE) rfl ?_
    refine z_icmp_ge (tgt := 56) dX12_mostOfOne_23 rfl (fun h23 => ?_) (fun h => absurd (by omega) h)
    refine zA_wk [_, _, _, _, zN] (by exact ⟨Or.inr rfl, Or.inr rfl, Or.inr rfl, Or.inr rfl, Or.inl rfl, trivial⟩) ?_
    rw [zsum_0, Int.add_zero] at hP
    exact hP
  | succ j ih =>
    intro i n h0 hi hn hP
    have o1 := ho.1
    have o2 := ho.2.1
    refine z_iload dX12_mostOfOne_17 rfl ?_
    refine z_aload_n dX12_mostOfOne_19 rfl ?_
    refine z_gI f_lines rfl flX12_197 dX12_mostOfOne_20 (sh_M hE) rfl ?_
    refine z_icmp_ge (tgt := 56) dX12_mostOfOne_23 rfl (fun h => absurd h (by omega)) (fun h23 => ?_)
    refine z_iload_n dX12_mostOfOne_26 rfl ?_
    refine z_aload_n dX12_mostOfOne_27 rfl ?_
    refine z_gP 18 rfl (r := a_codes) flX12_44 dX12_mostOfOne_28 (sh_M hE) rfl (pt_codes hm) (by decide) ?_
    refine z_iload dX12_mostOfOne_31 rfl ?_
    refine z_ialv dX12_mostOfOne_33 (sh_codes hE) (by omega) (by omega) (ho.2.2.1 i h0 (by omega)) ?_
    refine z_aload_n dX12_mostOfOne_34 rfl ?_
    refine z_gP 18 rfl (r := a_codes) flX12_44 dX12_mostOfOne_35 (sh_M hE) rfl (pt_codes hm) (by decide) ?_
    refine z_iload_n dX12_mostOfOne_38 rfl ?_
    refine z_ialv dX12_mostOfOne_39 (sh_codes hE) (by omega) (by omega) (ho.2.2.1 k hk0 hk1) ?_
    refine z_icmp_ne (tgt := 47) dX12_mostOfOne_40 rfl (fun h40 => ?_) (fun h40 => ?_)
    · refine z_iconst dX12_mostOfOne_47 (by decide) ?_
      refine z_add dX12_mostOfOne_48 (by omega) ?_
      refine z_ist 3 dX12_mostOfOne_49 rfl (Nat.le_of_ble_eq_true rfl) ?_
      refine z_inc dX12_mostOfOne_50 rfl (by omega) ?_
      refine z_goto (tgt := 17) dX12_mostOfOne_53 rfl ?_
      try dsimp only [zs0, zsI, zsP, zsN, zsJ, zsS, zst2, Nat.reduceAdd]
      rw [zsum_s, ← Int.add_assoc, zb_f (by omega)] at hP
      exact ih (i + 1) _ (by omega) (by omega) (by omega) hP
    · refine z_iconst dX12_mostOfOne_43 (by decide) ?_
      refine z_goto (tgt := 48) dX12_mostOfOne_44 rfl ?_
      refine z_add dX12_mostOfOne_48 (by omega) ?_
      refine z_ist 3 dX12_mostOfOne_49 rfl (Nat.le_of_ble_eq_true rfl) ?_
      refine z_inc dX12_mostOfOne_50 rfl (by omega) ?_
      refine z_goto (tgt := 17) dX12_mostOfOne_53 rfl ?_
      try dsimp only [zs0, zsI, zsP, zsN, zsJ, zsS, zst2, Nat.reduceAdd]
      rw [zsum_s, ← Int.add_assoc, zb_t (by omega)] at hP
      exact ih (i + 1) _ (by omega) (by omega) (by omega) hP

theorem l_mostOfOne (d : Nat) {E : zE} {m : zM} {P : Option zV → zM → Prop} (hE : shM E) (hm : ptM m) (co : Int → Int) (h : Nat) (ho : mOp m co h)  : ∀ (j : Nat) (k most : Int), (0 ≤ k) → (k + j = (h : Int)) → (P (some (zI (zfd (fun k v => if v < zsum (fun i => zb (co i = co k)) h 0 then zsum (fun i => zb (co i = co k)) h 0 else v) j k most))) m) → zA zX12_mostOfOne (d) E E P 4 [zP aM, zI most, zI k, zN, zN] [] m E := by
  intro j
  induction j with
  | zero =>
    intro k most h0 hk hP
    have o1 := ho.1
    have o2 := ho.2.1
    refine z_iload_n dX12_mostOfOne_4 rfl ?_
    refine z_aload_n dX12_mostOfOne_5 rfl ?_
    refine z_gI f_lines rfl flX12_197 dX12_mostOfOne_6 (sh_M hE) rfl ?_
    refine z_icmp_ge (tgt := 73) dX12_mostOfOne_9 rfl (fun h9 => ?_) (fun h => absurd (by omega) h)
    refine z_iload_n dX12_mostOfOne_73 rfl ?_
    refine z_iret dX12_mostOfOne_74 rfl rfl ?_
    exact hP
  | succ j ih =>
    intro k most h0 hk hP
    have o1 := ho.1
    have o2 := ho.2.1
    refine z_iload_n dX12_mostOfOne_4 rfl ?_
    refine z_aload_n dX12_mostOfOne_5 rfl ?_
    refine z_gI f_lines rfl flX12_197 dX12_mostOfOne_6 (sh_M hE) rfl ?_
    refine z_icmp_ge (tgt := 73) dX12_mostOfOne_9 rfl (fun h => absurd h (by omega)) (fun h9 => ?_)
    refine z_iconst dX12_mostOfOne_12 (by decide) ?_
    refine z_ist 3 dX12_mostOfOne_13 rfl (Nat.le_of_ble_eq_true rfl) ?_
    refine z_iconst dX12_mostOfOne_14 (by decide) ?_
    refine z_istore dX12_mostOfOne_15 (Nat.le_of_ble_eq_true rfl) ?_
    try dsimp only [zs0, zsI, zsP, zsN, zsJ, zsS, zst2, Nat.reduceAdd]
    refine l_mostOfOne_in d hE hm co h ho most k h0 (by omega) h 0 0 (by omega) (by omega) (by omega) ?_
    rw [Int.zero_add]
    refine z_iload_n dX12_mostOfOne_56 rfl ?_
    refine z_iload_n dX12_mostOfOne_57 rfl ?_
    refine z_icmp_le (tgt := 65) dX12_mostOfOne_58 rfl (fun h58 => ?_) (fun h58 => ?_)
    · refine z_iload_n dX12_mostOfOne_65 rfl ?_
      refine z_ist 1 dX12_mostOfOne_66 rfl (Nat.le_of_ble_eq_true rfl) ?_
      refine z_inc dX12_mostOfOne_67 rfl (by omega) ?_
      refine z_goto (tgt := 4) dX12_mostOfOne_70 rfl ?_
      try dsimp only [zs0, zsI, zsP, zsN, zsJ, zsS, zst2, Nat.reduceAdd]
      rw [zfd_s, if_neg (by omega)] at hP
      refine zA_wk [_, _, _, zN, zN] (by exact ⟨Or.inr rfl, Or.inr rfl, Or.inr rfl, Or.inl rfl, Or.inl rfl, trivial⟩) ?_
      exact ih (k + 1) _ (by omega) (by omega) hP
    · refine z_iload_n dX12_mostOfOne_61 rfl ?_
      refine z_goto (tgt := 66) dX12_mostOfOne_62 rfl ?_
      refine z_ist 1 dX12_mostOfOne_66 rfl (Nat.le_of_ble_eq_true rfl) ?_
      refine z_inc dX12_mostOfOne_67 rfl (by omega) ?_
      refine z_goto (tgt := 4) dX12_mostOfOne_70 rfl ?_
      try dsimp only [zs0, zsI, zsP, zsN, zsJ, zsS, zst2, Nat.reduceAdd]
      rw [zfd_s, if_pos (by omega)] at hP
      refine zA_wk [_, _, _, zN, zN] (by exact ⟨Or.inr rfl, Or.inr rfl, Or.inr rfl, Or.inl rfl, Or.inl rfl, trivial⟩) ?_
      exact ih (k + 1) _ (by omega) (by omega) hP

theorem r_mostOfOne (d : Nat) {E : zE} {m : zM} (hE : shM E) (hm : ptM m) (co : Int → Int) (h : Nat) (ho : mOp m co h)  : zR zX12_mostOfOne (d) [zP aM] m E E (fun r m' => r = some (zI (zfd (fun k v => if v < zsum (fun i => zb (co i = co k)) h 0 then zsum (fun i => zb (co i = co k)) h 0 else v) h 0 0)) ∧ m = m') := by
  refine zR_go [zP aM, zN, zN, zN, zN] (by decide +kernel) (Nat.le_of_ble_eq_true rfl) rfl rfl ?_
  refine z_iconst dX12_mostOfOne_0 (by decide) ?_
  refine z_ist 1 dX12_mostOfOne_1 rfl (Nat.le_of_ble_eq_true rfl) ?_
  refine z_iconst dX12_mostOfOne_2 (by decide) ?_
  refine z_ist 2 dX12_mostOfOne_3 rfl (Nat.le_of_ble_eq_true rfl) ?_
  try dsimp only [zs0, zsI, zsP, zsN, zsJ, zsS, zst2, Nat.reduceAdd]
  refine l_mostOfOne d hE hm co h ho h 0 0 (by omega) (by omega) ⟨rfl, rfl⟩

theorem r_leaving (d : Nat) {E : zE} {m : zM} (hE : shM E) (hm : ptM m) (hk : mOK m) (hL : mL m) (hN : mN m) (dd : Int) (d0 : 0 ≤ dd) (d1 : dd < ((tD (mT m)).length : Int)) (hpl : mPl m) (ho : mOp m (tCo (mT m) dd) (tH (mT m))) : zR zX12_leaving (d + 13) [zP aM, zI dd] m E E (fun r m' => r = some (zI (tLv (mT m) dd)) ∧ zfr fW2 m m' ∧ mPl m') := by
  have nD := mN_D hN
  refine zR_go [zP aM, zI dd] (by decide +kernel) (Nat.le_of_ble_eq_true rfl) rfl rfl ?_
  refine z_aload_n dX12_leaving_0 rfl ?_
  refine z_aload_n dX12_leaving_1 rfl ?_
  refine z_gP 28 rfl (r := a_names) flX12_63 dX12_leaving_2 (sh_M hE) rfl (pt_names hm) (by decide) ?_
  refine z_iload_n dX12_leaving_5 rfl ?_
  refine z_lalv dX12_leaving_6 (sh_names hE) (by omega) (by omega) (nD.2.2.1 dd d0 d1) ?_
  refine z_callV mlX12_262 dX12_leaving_7 (sh_M hE) (av := [_]) rfl rfl (Nat.le_of_ble_eq_true rfl) (r_leastOf d hE hm hk.2.1 (mOp_ln ho) (mOp_rg2 hk.2.1 ho) hpl (tNm (mT m) dd)) (Nat.le_refl _) (Nat.le_refl _) (Nat.le_refl _) (Nat.le_refl _) ?_
  rintro _ m1 ⟨rfl, l1, l2, l3⟩
  have hm1 : ptM m1 := ptM_t2 hm l1
  refine z_pop2 dX12_leaving_10 ?_
  refine z_aload_n dX12_leaving_11 rfl ?_
  refine z_gI f_sameNames rfl flX12_228 dX12_leaving_12 (sh_M hE) rfl ?_
  refine z_iret dX12_leaving_15 rfl rfl ?_
  refine ⟨?_, zfr_sub l1 (by decide), l3⟩
  rw [l2, mOp_V ho]
  rfl
