/-- the facts as one number -/
def fN (n : Nat) (od br : Int → Bool) (ρ : Int) (M : Int → Int) : Nat := (pF n od br M + 32 * (ρ * sRounds n M)).toNat
theorem sRounds_rg (n : Nat) (M : Int → Int) : 0 ≤ sRounds n M ∧ sRounds n M ≤ n := by
  unfold sRounds
  have := sRings_le (sNx n M) n n 0 0
  omega
theorem fN_is {n : Nat} {od br : Int → Bool} {ρ : Int} {M : Int → Int} (hn : n ≤ 12) (hc : crR n M ≤ 15) (hρ : 0 ≤ ρ ∧ ρ ≤ 1) : ((fN n od br ρ M : Nat) : Int) = pF n od br M + 32 * (ρ * sRounds n M) ∧ fN n od br ρ M < 512 ∧ ((fN n od br ρ M % 16 : Nat) : Int) = crR n M ∧ (if fN n od br ρ M / 16 % 2 = 0 then (1 : Int) else -1) = zpar (trR n od br M) ∧ ((fN n od br ρ M / 32 : Nat) : Int) = ρ * sRounds n M := by
  have h1 := sRounds_rg n M
  have h2 := crR_nn n M
  have h3 := trR_nn n od br M
  have h4 : 0 ≤ ρ * sRounds n M ∧ ρ * sRounds n M ≤ 12 := by
    rcases (show ρ = 0 ∨ ρ = 1 by omega) with e | e
    · rw [e, Int.zero_mul]; omega
    · rw [e, Int.one_mul]; omega
  unfold fN pF
  generalize ρ * sRounds n M = X at *
  refine ⟨by omega, by omega, by omega, ?_, by omega⟩
  unfold zpar
  by_cases e : trR n od br M % 2 = 0
  · rw [if_pos e, if_pos (by omega)]
  · rw [if_neg e, if_neg (by omega)]
theorem zpar_1 (x : Int) : -1 ≤ zpar x ∧ zpar x ≤ 1 := by unfold zpar; split <;> omega
theorem drop_at {α : Type} {L : List α} {k : Nat} {x : α} (h : L[k]? = some x) : L.drop k = x :: L.drop (k + 1) := by
  obtain ⟨h1, h2⟩ := List.getElem?_eq_some_iff.mp h
  rw [List.drop_eq_getElem_cons h1, h2]
theorem c_tMate (d : Nat) {E : zE} {m : zM} (p a cap : Int) (sp : E.1 p = (10, 7)) (sa : E.1 a = (2, cap)) (sb : E.1 (a + 1) = (1, cap)) (a0 : 0 < a) (n : Nat) (hn : n ≤ 12) (may : Int → Int → Bool) (od br : Int → Bool) (A : Nat) (L : zLr) (ρ : Int) (hT : pTb m p a n od br A L ρ) (hok : ∀ r ∈ L, rOk n may A r) (hL : (L.length : Int) ≤ cap) (hLb : L.length ≤ 10395) (hρ : 0 ≤ ρ ∧ ρ ≤ 1) (k : Nat) (mt : Int → Int) (hk : L[k]? = some mt) (i : Nat) (hi : i < 12) : zR zX4_mateOf (d) [zP p, zI (k : Nat), zI (i : Nat)] m E E (fun r m' => r = some (zI ((dg (sMk A mt) n i : Nat))) ∧ m = m') := by
  have hkl := List.getElem?_eq_some_iff.mp hk
  have hkl1 : k < L.length := hkl.1
  have hr := hok mt (List.mem_of_getElem? hk)
  have hf := fN_is (od := od) (br := br) hn hr.2.1 hρ
  have hrow := hT.2.2.2.2.2.2 k mt hk
  have h := c_mateOf d p a cap sp sa sb a0 hT.1 hT.2.1 (k : Int) (by omega) (by omega) (dg (sMk A mt) n) (dg_16 hr.1 hn) hrow.1 i hi
  skip
  exact h

theorem c_tCross (d : Nat) {E : zE} {m : zM} (p a cap : Int) (sp : E.1 p = (10, 7)) (sa : E.1 a = (2, cap)) (sb : E.1 (a + 1) = (1, cap)) (a0 : 0 < a) (n : Nat) (hn : n ≤ 12) (may : Int → Int → Bool) (od br : Int → Bool) (A : Nat) (L : zLr) (ρ : Int) (hT : pTb m p a n od br A L ρ) (hok : ∀ r ∈ L, rOk n may A r) (hL : (L.length : Int) ≤ cap) (hLb : L.length ≤ 10395) (hρ : 0 ≤ ρ ∧ ρ ≤ 1) (k : Nat) (mt : Int → Int) (hk : L[k]? = some mt)  : zR zX4_crossings (d) [zP p, zI (k : Nat)] m E E (fun r m' => r = some (zI (crR n (sMk A mt))) ∧ m = m') := by
  have hkl := List.getElem?_eq_some_iff.mp hk
  have hkl1 : k < L.length := hkl.1
  have hr := hok mt (List.mem_of_getElem? hk)
  have hf := fN_is (od := od) (br := br) hn hr.2.1 hρ
  have hrow := hT.2.2.2.2.2.2 k mt hk
  have h := c_crossings d p a cap sp sa sb a0 hT.1 hT.2.1 (k : Int) (by omega) (by omega) (fN n od br ρ (sMk A mt)) hf.2.1 (by rw [hrow.2]; exact hf.1.symm)
  rw [hf.2.2.1] at h
  exact h

theorem c_tSign (d : Nat) {E : zE} {m : zM} (p a cap : Int) (sp : E.1 p = (10, 7)) (sa : E.1 a = (2, cap)) (sb : E.1 (a + 1) = (1, cap)) (a0 : 0 < a) (n : Nat) (hn : n ≤ 12) (may : Int → Int → Bool) (od br : Int → Bool) (A : Nat) (L : zLr) (ρ : Int) (hT : pTb m p a n od br A L ρ) (hok : ∀ r ∈ L, rOk n may A r) (hL : (L.length : Int) ≤ cap) (hLb : L.length ≤ 10395) (hρ : 0 ≤ ρ ∧ ρ ≤ 1) (k : Nat) (mt : Int → Int) (hk : L[k]? = some mt)  : zR zX4_sign (d) [zP p, zI (k : Nat)] m E E (fun r m' => r = some (zI (zpar (trR n od br (sMk A mt)))) ∧ m = m') := by
  have hkl := List.getElem?_eq_some_iff.mp hk
  have hkl1 : k < L.length := hkl.1
  have hr := hok mt (List.mem_of_getElem? hk)
  have hf := fN_is (od := od) (br := br) hn hr.2.1 hρ
  have hrow := hT.2.2.2.2.2.2 k mt hk
  have h := c_sign d p a cap sp sa sb a0 hT.1 hT.2.1 (k : Int) (by omega) (by omega) (fN n od br ρ (sMk A mt)) hf.2.1 (by rw [hrow.2]; exact hf.1.symm)
  rw [hf.2.2.2.1] at h
  exact h

theorem c_tHoles (d : Nat) {E : zE} {m : zM} (p a cap : Int) (sp : E.1 p = (10, 7)) (sa : E.1 a = (2, cap)) (sb : E.1 (a + 1) = (1, cap)) (a0 : 0 < a) (n : Nat) (hn : n ≤ 12) (may : Int → Int → Bool) (od br : Int → Bool) (A : Nat) (L : zLr) (ρ : Int) (hT : pTb m p a n od br A L ρ) (hok : ∀ r ∈ L, rOk n may A r) (hL : (L.length : Int) ≤ cap) (hLb : L.length ≤ 10395) (hρ : 0 ≤ ρ ∧ ρ ≤ 1) (k : Nat) (mt : Int → Int) (hk : L[k]? = some mt)  : zR zX4_holesOf (d + 1) [zP p, zI (k : Nat)] m E E (fun r m' => r = some (zI (sHoles n (ρ * sRounds n (sMk A mt)))) ∧ m = m') := by
  have hkl := List.getElem?_eq_some_iff.mp hk
  have hkl1 : k < L.length := hkl.1
  have hr := hok mt (List.mem_of_getElem? hk)
  have hf := fN_is (od := od) (br := br) hn hr.2.1 hρ
  have hrow := hT.2.2.2.2.2.2 k mt hk
  have h := c_holesOf d p a cap sp sa sb a0 hT.1 hT.2.1 (n : Int) hT.2.2.2.2.1 (by omega) (k : Int) (by omega) (by omega) (fN n od br ρ (sMk A mt)) hf.2.1 (by rw [hrow.2]; exact hf.1.symm)
  rw [hf.2.2.2.2] at h
  exact h

theorem l_pt_signs (d : Nat) {E : zE} {m : zM} {P : Option zV → zM → Prop} (p a cap : Int) (sp : E.1 p = (10, 7)) (sa : E.1 a = (2, cap)) (sb : E.1 (a + 1) = (1, cap)) (a0 : 0 < a) (n : Nat) (hn : n ≤ 12) (may : Int → Int → Bool) (od br : Int → Bool) (A : Nat) (L : zLr) (ρ : Int) (hT : pTb m p a n od br A L ρ) (hok : ∀ r ∈ L, rOk n may A r) (hL : (L.length : Int) ≤ cap) (hLb : L.length ≤ 10395) (hρ : 0 ≤ ρ ∧ ρ ≤ 1)  : ∀ (j : Nat) (k : Nat) (x : Int), (k + j = L.length) → (-(k : Int) ≤ x ∧ x ≤ k) → (P (some (zI (x + lS (fun r => zpar (trR n od br (sMk A r))) (L.drop k)))) m) → zA zX4_signs (d + 1) E E P 4 [zP p, zI x, zI (k : Nat)] [] m E := by
  intro j
  induction j with
  | zero =>
    intro k x hj hx hP
    refine z_iload_n dX4_signs_4 rfl ?_
    refine z_aload_n dX4_signs_5 rfl ?_
    refine z_gIv 2 rfl flX4_28 dX4_signs_6 sp rfl hT.2.2.1 ?_
    refine z_icmp_ge (tgt := 26) dX4_signs_9 rfl (fun h9 => ?_) (fun h => absurd (by omega) h)
    refine z_iload_n dX4_signs_26 rfl ?_
    refine z_iret dX4_signs_27 rfl rfl ?_
    rw [List.drop_eq_nil_of_le (by omega)] at hP
    rw [show lS (fun r => zpar (trR n od br (sMk A r))) ([] : zLr) = 0 from rfl, Int.add_zero] at hP
    exact hP
  | succ j ih =>
    intro k x hj hx hP
    obtain ⟨mt, hk⟩ : ∃ mt, L[k]? = some mt := ⟨L[k]'(by omega), List.getElem?_eq_getElem (by omega)⟩
    have hdr : L.drop k = mt :: L.drop (k + 1) := drop_at hk
    have hpa := zpar_1 (trR n od br (sMk A mt))
    rw [hdr] at hP
    have hlc : ∀ (f : (Int → Int) → Int) (a : Int → Int) (l : zLr), lS f (a :: l) = f a + lS f l := fun _ _ _ => rfl
    rw [hlc, ← Int.add_assoc] at hP
    refine z_iload_n dX4_signs_4 rfl ?_
    refine z_aload_n dX4_signs_5 rfl ?_
    refine z_gIv 2 rfl flX4_28 dX4_signs_6 sp rfl hT.2.2.1 ?_
    refine z_icmp_ge (tgt := 26) dX4_signs_9 rfl (fun h => absurd h (by omega)) (fun h9 => ?_)
    refine z_iload_n dX4_signs_12 rfl ?_
    refine z_aload_n dX4_signs_13 rfl ?_
    refine z_iload_n dX4_signs_14 rfl ?_
    refine z_callV mlX4_91 dX4_signs_15 sp (av := [_]) rfl rfl (Nat.le_of_ble_eq_true rfl) (c_tSign _ p a cap sp sa sb a0 n hn may od br A L ρ hT hok hL hLb hρ k mt hk) (Nat.le_refl _) (Nat.le_refl _) (Nat.le_refl _) (Nat.le_refl _) ?_
    rintro _ _ ⟨rfl, rfl⟩
    refine z_add dX4_signs_18 (by omega) ?_
    refine z_ist 1 dX4_signs_19 rfl (Nat.le_of_ble_eq_true rfl) ?_
    refine z_inc dX4_signs_20 rfl (by omega) ?_
    refine z_goto (tgt := 4) dX4_signs_23 rfl ?_
    try dsimp only [zs0, zsI, zsP, zsN, zsJ, zsS, zst2, Nat.reduceAdd]
    rw [show (k : Int) + 1 = ((k + 1 : Nat) : Int) by omega]
    exact ih (k + 1) _ (by omega) (by omega) hP

theorem c_signs (d : Nat) {E : zE} {m : zM} (p a cap : Int) (sp : E.1 p = (10, 7)) (sa : E.1 a = (2, cap)) (sb : E.1 (a + 1) = (1, cap)) (a0 : 0 < a) (n : Nat) (hn : n ≤ 12) (may : Int → Int → Bool) (od br : Int → Bool) (A : Nat) (L : zLr) (ρ : Int) (hT : pTb m p a n od br A L ρ) (hok : ∀ r ∈ L, rOk n may A r) (hL : (L.length : Int) ≤ cap) (hLb : L.length ≤ 10395) (hρ : 0 ≤ ρ ∧ ρ ≤ 1) : zR zX4_signs (d + 1) [zP p] m E E (fun r m' => r = some (zI (lS (fun r => zpar (trR n od br (sMk A r))) L)) ∧ m = m') := by
  refine zR_go [zP p, zN, zN] (by decide +kernel) (Nat.le_of_ble_eq_true rfl) rfl rfl ?_
  refine z_iconst dX4_signs_0 (by decide) ?_
  refine z_ist 1 dX4_signs_1 rfl (Nat.le_of_ble_eq_true rfl) ?_
  refine z_iconst dX4_signs_2 (by decide) ?_
  refine z_ist 2 dX4_signs_3 rfl (Nat.le_of_ble_eq_true rfl) ?_
  try dsimp only [zs0, zsI, zsP, zsN, zsJ, zsS, zst2, Nat.reduceAdd]
  exact l_pt_signs d p a cap sp sa sb a0 n hn may od br A L ρ hT hok hL hLb hρ L.length 0 0 (by omega) (by omega) ⟨by rw [Int.zero_add]; rfl, rfl⟩

theorem l_pt_together (d : Nat) {E : zE} {m : zM} {P : Option zV → zM → Prop} (p a cap : Int) (sp : E.1 p = (10, 7)) (sa : E.1 a = (2, cap)) (sb : E.1 (a + 1) = (1, cap)) (a0 : 0 < a) (n : Nat) (hn : n ≤ 12) (may : Int → Int → Bool) (od br : Int → Bool) (A : Nat) (L : zLr) (ρ : Int) (hT : pTb m p a n od br A L ρ) (hok : ∀ r ∈ L, rOk n may A r) (hL : (L.length : Int) ≤ cap) (hLb : L.length ≤ 10395) (hρ : 0 ≤ ρ ∧ ρ ≤ 1) (i : Nat) (hi : i < 12) (v sg : Int) : ∀ (j : Nat) (k : Nat) (x : Int), (k + j = L.length) → (-(k : Int) ≤ x ∧ x ≤ k) → (P (some (zI (x + lS (fun r => if ((dg (sMk A r) n i : Nat) : Int) = v then (if sg = 0 then 1 else zpar (trR n od br (sMk A r))) else 0) (L.drop k)))) m) → zA zX4_together (d + 1) E E P 6 [zP p, zI (i : Nat), zI v, zI sg, zI x, zI (k : Nat)] [] m E := by
  intro j
  induction j with
  | zero =>
    intro k x hj hx hP
    refine z_iload dX4_together_6 rfl ?_
    refine z_aload_n dX4_together_8 rfl ?_
    refine z_gIv 2 rfl flX4_28 dX4_together_9 sp rfl hT.2.2.1 ?_
    refine z_icmp_ge (tgt := 51) dX4_together_12 rfl (fun h12 => ?_) (fun h => absurd (by omega) h)
    refine z_iload dX4_together_51 rfl ?_
    refine z_iret dX4_together_53 rfl rfl ?_
    rw [List.drop_eq_nil_of_le (by omega)] at hP
    rw [show lS (fun r => if ((dg (sMk A r) n i : Nat) : Int) = v then (if sg = 0 then 1 else zpar (trR n od br (sMk A r))) else 0) ([] : zLr) = 0 from rfl, Int.add_zero] at hP
    exact hP
  | succ j ih =>
    intro k x hj hx hP
    obtain ⟨mt, hk⟩ : ∃ mt, L[k]? = some mt := ⟨L[k]'(by omega), List.getElem?_eq_getElem (by omega)⟩
    have hdr : L.drop k = mt :: L.drop (k + 1) := drop_at hk
    have hpa := zpar_1 (trR n od br (sMk A mt))
    rw [hdr] at hP
    have hlc : ∀ (f : (Int → Int) → Int) (a : Int → Int) (l : zLr), lS f (a :: l) = f a + lS f l := fun _ _ _ => rfl
    rw [hlc, ← Int.add_assoc] at hP
    refine z_iload dX4_together_6 rfl ?_
    refine z_aload_n dX4_together_8 rfl ?_
    refine z_gIv 2 rfl flX4_28 dX4_together_9 sp rfl hT.2.2.1 ?_
    refine z_icmp_ge (tgt := 51) dX4_together_12 rfl (fun h => absurd h (by omega)) (fun h12 => ?_)
    refine z_aload_n dX4_together_15 rfl ?_
    refine z_iload dX4_together_16 rfl ?_
    refine z_iload_n dX4_together_18 rfl ?_
    refine z_callV mlX4_84 dX4_together_19 sp (av := [_, _]) rfl rfl (Nat.le_of_ble_eq_true rfl) (c_tMate _ p a cap sp sa sb a0 n hn may od br A L ρ hT hok hL hLb hρ k mt hk i hi) (Nat.le_refl _) (Nat.le_refl _) (Nat.le_refl _) (Nat.le_refl _) ?_
    rintro _ _ ⟨rfl, rfl⟩
    refine z_iload_n dX4_together_22 rfl ?_
    refine z_icmp_ne (tgt := 45) dX4_together_23 rfl (fun h23 => ?_) (fun h23 => ?_)
    · refine z_inc dX4_together_45 rfl (by omega) ?_
      refine z_goto (tgt := 6) dX4_together_48 rfl ?_
      try dsimp only [zs0, zsI, zsP, zsN, zsJ, zsS, zst2, Nat.reduceAdd]
      rw [if_neg (by omega), Int.add_zero] at hP
      rw [show (k : Int) + 1 = ((k + 1 : Nat) : Int) by omega]
      exact ih (k + 1) _ (by omega) (by omega) hP
    · refine z_iload dX4_together_26 rfl ?_
      refine z_iload_n dX4_together_28 rfl ?_
      refine z_if_eq (tgt := 41) dX4_together_29 rfl (fun h29 => ?_) (fun h29 => ?_)
      · refine z_iconst dX4_together_41 (by decide) ?_
        refine z_add dX4_together_42 (by omega) ?_
        refine z_istore dX4_together_43 (Nat.le_of_ble_eq_true rfl) ?_
        refine z_inc dX4_together_45 rfl (by omega) ?_
        refine z_goto (tgt := 6) dX4_together_48 rfl ?_
        try dsimp only [zs0, zsI, zsP, zsN, zsJ, zsS, zst2, Nat.reduceAdd]
        rw [if_pos (by omega), if_pos (by omega)] at hP
        rw [show (k : Int) + 1 = ((k + 1 : Nat) : Int) by omega]
        exact ih (k + 1) _ (by omega) (by omega) hP
      · refine z_aload_n dX4_together_32 rfl ?_
        refine z_iload dX4_together_33 rfl ?_
        refine z_callV mlX4_91 dX4_together_35 sp (av := [_]) rfl rfl (Nat.le_of_ble_eq_true rfl) (c_tSign _ p a cap sp sa sb a0 n hn may od br A L ρ hT hok hL hLb hρ k mt hk) (Nat.le_refl _) (Nat.le_refl _) (Nat.le_refl _) (Nat.le_refl _) ?_
        rintro _ _ ⟨rfl, rfl⟩
        refine z_goto (tgt := 42) dX4_together_38 rfl ?_
        refine z_add dX4_together_42 (by omega) ?_
        refine z_istore dX4_together_43 (Nat.le_of_ble_eq_true rfl) ?_
        refine z_inc dX4_together_45 rfl (by omega) ?_
        refine z_goto (tgt := 6) dX4_together_48 rfl ?_
        try dsimp only [zs0, zsI, zsP, zsN, zsJ, zsS, zst2, Nat.reduceAdd]
        rw [if_pos (by omega), if_neg (by omega)] at hP
        rw [show (k : Int) + 1 = ((k + 1 : Nat) : Int) by omega]
        exact ih (k + 1) _ (by omega) (by omega) hP

theorem c_together (d : Nat) {E : zE} {m : zM} (p a cap : Int) (sp : E.1 p = (10, 7)) (sa : E.1 a = (2, cap)) (sb : E.1 (a + 1) = (1, cap)) (a0 : 0 < a) (n : Nat) (hn : n ≤ 12) (may : Int → Int → Bool) (od br : Int → Bool) (A : Nat) (L : zLr) (ρ : Int) (hT : pTb m p a n od br A L ρ) (hok : ∀ r ∈ L, rOk n may A r) (hL : (L.length : Int) ≤ cap) (hLb : L.length ≤ 10395) (hρ : 0 ≤ ρ ∧ ρ ≤ 1) (i : Nat) (hi : i < 12) (v sg : Int) : zR zX4_together (d + 1) [zP p, zI (i : Nat), zI v, zI sg] m E E (fun r m' => r = some (zI (lS (fun r => if ((dg (sMk A r) n i : Nat) : Int) = v then (if sg = 0 then 1 else zpar (trR n od br (sMk A r))) else 0) L)) ∧ m = m') := by
  refine zR_go [zP p, zI (i : Nat), zI v, zI sg, zN, zN] (by decide +kernel) (Nat.le_of_ble_eq_true rfl) rfl rfl ?_
  refine z_iconst dX4_together_0 (by decide) ?_
  refine z_istore dX4_together_1 (Nat.le_of_ble_eq_true rfl) ?_
  refine z_iconst dX4_together_3 (by decide) ?_
  refine z_istore dX4_together_4 (Nat.le_of_ble_eq_true rfl) ?_
  try dsimp only [zs0, zsI, zsP, zsN, zsJ, zsS, zst2, Nat.reduceAdd]
  exact l_pt_together d p a cap sp sa sb a0 n hn may od br A L ρ hT hok hL hLb hρ i hi v sg L.length 0 0 (by omega) (by omega) ⟨by rw [Int.zero_add]; rfl, rfl⟩

theorem l_pt_tally (d : Nat) {E : zE} {m : zM} {P : Option zV → zM → Prop} (p a cap : Int) (sp : E.1 p = (10, 7)) (sa : E.1 a = (2, cap)) (sb : E.1 (a + 1) = (1, cap)) (a0 : 0 < a) (n : Nat) (hn : n ≤ 12) (may : Int → Int → Bool) (od br : Int → Bool) (A : Nat) (L : zLr) (ρ : Int) (hT : pTb m p a n od br A L ρ) (hok : ∀ r ∈ L, rOk n may A r) (hL : (L.length : Int) ≤ cap) (hLb : L.length ≤ 10395) (hρ : 0 ≤ ρ ∧ ρ ≤ 1) (ho v sg : Int) : ∀ (j : Nat) (k : Nat) (x : Int), (k + j = L.length) → (-(k : Int) ≤ x ∧ x ≤ k) → (P (some (zI (x + lS (fun r => if (if ho = 0 then crR n (sMk A r) else sHoles n (ρ * sRounds n (sMk A r))) = v then (if sg = 0 then 1 else zpar (trR n od br (sMk A r))) else 0) (L.drop k)))) m) → zA zX4_tally (d + 2) E E P 6 [zP p, zI ho, zI v, zI sg, zI x, zI (k : Nat)] [] m E := by
  intro j
  induction j with
  | zero =>
    intro k x hj hx hP
    refine z_iload dX4_tally_6 rfl ?_
    refine z_aload_n dX4_tally_8 rfl ?_
    refine z_gIv 2 rfl flX4_28 dX4_tally_9 sp rfl hT.2.2.1 ?_
    refine z_icmp_ge (tgt := 63) dX4_tally_12 rfl (fun h12 => ?_) (fun h => absurd (by omega) h)
    refine z_iload dX4_tally_63 rfl ?_
    refine z_iret dX4_tally_65 rfl rfl ?_
    rw [List.drop_eq_nil_of_le (by omega)] at hP
    rw [show lS (fun r => if (if ho = 0 then crR n (sMk A r) else sHoles n (ρ * sRounds n (sMk A r))) = v then (if sg = 0 then 1 else zpar (trR n od br (sMk A r))) else 0) ([] : zLr) = 0 from rfl, Int.add_zero] at hP
    exact hP
  | succ j ih =>
    intro k x hj hx hP
    obtain ⟨mt, hk⟩ : ∃ mt, L[k]? = some mt := ⟨L[k]'(by omega), List.getElem?_eq_getElem (by omega)⟩
    have hdr : L.drop k = mt :: L.drop (k + 1) := drop_at hk
    have hpa := zpar_1 (trR n od br (sMk A mt))
    rw [hdr] at hP
    have hlc : ∀ (f : (Int → Int) → Int) (a : Int → Int) (l : zLr), lS f (a :: l) = f a + lS f l := fun _ _ _ => rfl
    rw [hlc, ← Int.add_assoc] at hP
    refine z_iload dX4_tally_6 rfl ?_
    refine z_aload_n dX4_tally_8 rfl ?_
    refine z_gIv 2 rfl flX4_28 dX4_tally_9 sp rfl hT.2.2.1 ?_
    refine z_icmp_ge (tgt := 63) dX4_tally_12 rfl (fun h => absurd h (by omega)) (fun h12 => ?_)
    refine z_iload_n dX4_tally_15 rfl ?_
    refine z_if_eq (tgt := 28) dX4_tally_16 rfl (fun h16 => ?_) (fun h16 => ?_)
    · refine z_aload_n dX4_tally_28 rfl ?_
      refine z_iload dX4_tally_29 rfl ?_
      refine z_callV mlX4_97 dX4_tally_31 sp (av := [_]) rfl rfl (Nat.le_of_ble_eq_true rfl) (c_tCross _ p a cap sp sa sb a0 n hn may od br A L ρ hT hok hL hLb hρ k mt hk) (Nat.le_refl _) (Nat.le_refl _) (Nat.le_refl _) (Nat.le_refl _) ?_
      rintro _ _ ⟨rfl, rfl⟩
      refine z_iload_n dX4_tally_34 rfl ?_
      refine z_icmp_ne (tgt := 57) dX4_tally_35 rfl (fun h35 => ?_) (fun h35 => ?_)
      · refine z_inc dX4_tally_57 rfl (by omega) ?_
        refine z_goto (tgt := 6) dX4_tally_60 rfl ?_
        try dsimp only [zs0, zsI, zsP, zsN, zsJ, zsS, zst2, Nat.reduceAdd]
        rw [if_pos (show ho = 0 by omega)] at hP
        rw [if_neg (by omega), Int.add_zero] at hP
        rw [show (k : Int) + 1 = ((k + 1 : Nat) : Int) by omega]
        exact ih (k + 1) _ (by omega) (by omega) hP
      · refine z_iload dX4_tally_38 rfl ?_
        refine z_iload_n dX4_tally_40 rfl ?_
        refine z_if_eq (tgt := 53) dX4_tally_41 rfl (fun h41 => ?_) (fun h41 => ?_)
        · refine z_iconst dX4_tally_53 (by decide) ?_
          refine z_add dX4_tally_54 (by omega) ?_
          refine z_istore dX4_tally_55 (Nat.le_of_ble_eq_true rfl) ?_
          refine z_inc dX4_tally_57 rfl (by omega) ?_
          refine z_goto (tgt := 6) dX4_tally_60 rfl ?_
          try dsimp only [zs0, zsI, zsP, zsN, zsJ, zsS, zst2, Nat.reduceAdd]
          rw [if_pos (show ho = 0 by omega)] at hP
          rw [if_pos (by omega), if_pos (by omega)] at hP
          rw [show (k : Int) + 1 = ((k + 1 : Nat) : Int) by omega]
          exact ih (k + 1) _ (by omega) (by omega) hP
        · refine z_aload_n dX4_tally_44 rfl ?_
          refine z_iload dX4_tally_45 rfl ?_
          refine z_callV mlX4_91 dX4_tally_47 sp (av := [_]) rfl rfl (Nat.le_of_ble_eq_true rfl) (c_tSign _ p a cap sp sa sb a0 n hn may od br A L ρ hT hok hL hLb hρ k mt hk) (Nat.le_refl _) (Nat.le_refl _) (Nat.le_refl _) (Nat.le_refl _) ?_
          rintro _ _ ⟨rfl, rfl⟩
          refine z_goto (tgt := 54) dX4_tally_50 rfl ?_
          refine z_add dX4_tally_54 (by omega) ?_
          refine z_istore dX4_tally_55 (Nat.le_of_ble_eq_true rfl) ?_
          refine z_inc dX4_tally_57 rfl (by omega) ?_
          refine z_goto (tgt := 6) dX4_tally_60 rfl ?_
          try dsimp only [zs0, zsI, zsP, zsN, zsJ, zsS, zst2, Nat.reduceAdd]
          rw [if_pos (show ho = 0 by omega)] at hP
          rw [if_pos (by omega), if_neg (by omega)] at hP
          rw [show (k : Int) + 1 = ((k + 1 : Nat) : Int) by omega]
          exact ih (k + 1) _ (by omega) (by omega) hP
    · refine z_aload_n dX4_tally_19 rfl ?_
      refine z_iload dX4_tally_20 rfl ?_
      refine z_callV mlX4_94 dX4_tally_22 sp (av := [_]) rfl rfl (Nat.le_of_ble_eq_true rfl) (c_tHoles _ p a cap sp sa sb a0 n hn may od br A L ρ hT hok hL hLb hρ k mt hk) (Nat.le_refl _) (Nat.le_refl _) (Nat.le_refl _) (Nat.le_refl _) ?_
      rintro _ _ ⟨rfl, rfl⟩
      refine z_goto (tgt := 34) dX4_tally_25 rfl ?_
      refine z_iload_n dX4_tally_34 rfl ?_
      refine z_icmp_ne (tgt := 57) dX4_tally_35 rfl (fun h35 => ?_) (fun h35 => ?_)
      · refine z_inc dX4_tally_57 rfl (by omega) ?_
        refine z_goto (tgt := 6) dX4_tally_60 rfl ?_
        try dsimp only [zs0, zsI, zsP, zsN, zsJ, zsS, zst2, Nat.reduceAdd]
        rw [if_neg (show ¬ ho = 0 by omega)] at hP
        rw [if_neg (by omega), Int.add_zero] at hP
        rw [show (k : Int) + 1 = ((k + 1 : Nat) : Int) by omega]
        exact ih (k + 1) _ (by omega) (by omega) hP
      · refine z_iload dX4_tally_38 rfl ?_
        refine z_iload_n dX4_tally_40 rfl ?_
        refine z_if_eq (tgt := 53) dX4_tally_41 rfl (fun h41 => ?_) (fun h41 => ?_)
        · refine z_iconst dX4_tally_53 (by decide) ?_
          refine z_add dX4_tally_54 (by omega) ?_
          refine z_istore dX4_tally_55 (Nat.le_of_ble_eq_true rfl) ?_
          refine z_inc dX4_tally_57 rfl (by omega) ?_
          refine z_goto (tgt := 6) dX4_tally_60 rfl ?_
          try dsimp only [zs0, zsI, zsP, zsN, zsJ, zsS, zst2, Nat.reduceAdd]
          rw [if_neg (show ¬ ho = 0 by omega)] at hP
          rw [if_pos (by omega), if_pos (by omega)] at hP
          rw [show (k : Int) + 1 = ((k + 1 : Nat) : Int) by omega]
          exact ih (k + 1) _ (by omega) (by omega) hP
        · refine z_aload_n dX4_tally_44 rfl ?_
          refine z_iload dX4_tally_45 rfl ?_
          refine z_callV mlX4_91 dX4_tally_47 sp (av := [_]) rfl rfl (Nat.le_of_ble_eq_true rfl) (c_tSign _ p a cap sp sa sb a0 n hn may od br A L ρ hT hok hL hLb hρ k mt hk) (Nat.le_refl _) (Nat.le_refl _) (Nat.le_refl _) (Nat.le_refl _) ?_
          rintro _ _ ⟨rfl, rfl⟩
          refine z_goto (tgt := 54) dX4_tally_50 rfl ?_
          refine z_add dX4_tally_54 (by omega) ?_
          refine z_istore dX4_tally_55 (Nat.le_of_ble_eq_true rfl) ?_
          refine z_inc dX4_tally_57 rfl (by omega) ?_
          refine z_goto (tgt := 6) dX4_tally_60 rfl ?_
          try dsimp only [zs0, zsI, zsP, zsN, zsJ, zsS, zst2, Nat.reduceAdd]
          rw [if_neg (show ¬ ho = 0 by omega)] at hP
          rw [if_pos (by omega), if_neg (by omega)] at hP
          rw [show (k : Int) + 1 = ((k + 1 : Nat) : Int) by omega]
          exact ih (k + 1) _ (by omega) (by omega) hP

theorem c_tally (d : Nat) {E : zE} {m : zM} (p a cap : Int) (sp : E.1 p = (10, 7)) (sa : E.1 a = (2, cap)) (sb : E.1 (a + 1) = (1, cap)) (a0 : 0 < a) (n : Nat) (hn : n ≤ 12) (may : Int → Int → Bool) (od br : Int → Bool) (A : Nat) (L : zLr) (ρ : Int) (hT : pTb m p a n od br A L ρ) (hok : ∀ r ∈ L, rOk n may A r) (hL : (L.length : Int) ≤ cap) (hLb : L.length ≤ 10395) (hρ : 0 ≤ ρ ∧ ρ ≤ 1) (ho v sg : Int) : zR zX4_tally (d + 2) [zP p, zI ho, zI v, zI sg] m E E (fun r m' => r = some (zI (lS (fun r => if (if ho = 0 then crR n (sMk A r) else sHoles n (ρ * sRounds n (sMk A r))) = v then (if sg = 0 then 1 else zpar (trR n od br (sMk A r))) else 0) L)) ∧ m = m') := by
  refine zR_go [zP p, zI ho, zI v, zI sg, zN, zN] (by decide +kernel) (Nat.le_of_ble_eq_true rfl) rfl rfl ?_
  refine z_iconst dX4_tally_0 (by decide) ?_
  refine z_istore dX4_tally_1 (Nat.le_of_ble_eq_true rfl) ?_
  refine z_iconst dX4_tally_3 (by decide) ?_
  refine z_istore dX4_tally_4 (Nat.le_of_ble_eq_true rfl) ?_
  try dsimp only [zs0, zsI, zsP, zsN, zsJ, zsS, zst2, Nat.reduceAdd]
  exact l_pt_tally d p a cap sp sa sb a0 n hn may od br A L ρ hT hok hL hLb hρ ho v sg L.length 0 0 (by omega) (by omega) ⟨by rw [Int.zero_add]; rfl, rfl⟩

theorem l_comLines (d : Nat) {E : zE} {m : zM} {P : Option zV → zM → Prop} (p a cap : Int) (sp : E.1 p = (10, 7)) (sa : E.1 a = (2, cap)) (sb : E.1 (a + 1) = (1, cap)) (a0 : 0 < a) (n : Nat) (hn : n ≤ 12) (may : Int → Int → Bool) (od br : Int → Bool) (A : Nat) (L : zLr) (ρ : Int) (hT : pTb m p a n od br A L ρ) (hok : ∀ r ∈ L, rOk n may A r) (hL : (L.length : Int) ≤ cap) (hLb : L.length ≤ 10395) (hρ : 0 ≤ ρ ∧ ρ ≤ 1) (k : Nat) (mt : Int → Int) (hk : L[k]? = some mt) (o : Nat) (mu : Int → Int) (ho : L[o]? = some mu) : ∀ (j : Nat) (i : Nat) (x : Int), (i + j = n) → (0 ≤ x ∧ x ≤ i) → (P (some (zI ((x + zsum (fun i => zb (dg (sMk A mt) n i.toNat = dg (sMk A mu) n i.toNat)) j (i : Int)) / 2))) m) → zA zX4_commonLines (d + 1) E E P 5 [zP p, zI (k : Nat), zI (o : Nat), zI x, zI (i : Nat)] [] m E := by
  intro j
  induction j with
  | zero =>
    intro i x hj hx hP
    refine z_iload dX4_commonLines_5 rfl ?_
    refine z_aload_n dX4_commonLines_7 rfl ?_
    refine z_gIv 4 rfl flX4_40 dX4_commonLines_8 sp rfl hT.2.2.2.2.1 ?_
    refine z_icmp_ge (tgt := 45) dX4_commonLines_11 rfl (fun h11 => ?_) (fun h => absurd (by omega) h)
    refine z_iload_n dX4_commonLines_45 rfl ?_
    refine z_iconst dX4_commonLines_46 (by decide) ?_
    refine z_div dX4_commonLines_47 (by omega) (by omega) ?_
    refine z_iret dX4_commonLines_48 rfl rfl ?_
    rw [zsum_0, Int.add_zero] at hP
    exact hP
  | succ j ih =>
    intro i x hj hx hP
    refine z_iload dX4_commonLines_5 rfl ?_
    refine z_aload_n dX4_commonLines_7 rfl ?_
    refine z_gIv 4 rfl flX4_40 dX4_commonLines_8 sp rfl hT.2.2.2.2.1 ?_
    refine z_icmp_ge (tgt := 45) dX4_commonLines_11 rfl (fun h => absurd h (by omega)) (fun h11 => ?_)
    refine z_iload_n dX4_commonLines_14 rfl ?_
    refine z_aload_n dX4_commonLines_15 rfl ?_
    refine z_iload_n dX4_commonLines_16 rfl ?_
    refine z_iload dX4_commonLines_17 rfl ?_
    refine z_callV mlX4_84 dX4_commonLines_19 sp (av := [_, _]) rfl rfl (Nat.le_of_ble_eq_true rfl) (c_tMate _ p a cap sp sa sb a0 n hn may od br A L ρ hT hok hL hLb hρ k mt hk i (by omega)) (Nat.le_refl _) (Nat.le_refl _) (Nat.le_refl _) (Nat.le_refl _) ?_
    rintro _ _ ⟨rfl, rfl⟩
    refine z_aload_n dX4_commonLines_22 rfl ?_
    refine z_iload_n dX4_commonLines_23 rfl ?_
    refine z_iload dX4_commonLines_24 rfl ?_
    refine z_callV mlX4_84 dX4_commonLines_26 sp (av := [_, _]) rfl rfl (Nat.le_of_ble_eq_true rfl) (c_tMate _ p a cap sp sa sb a0 n hn may od br A L ρ hT hok hL hLb hρ o mu ho i (by omega)) (Nat.le_refl _) (Nat.le_refl _) (Nat.le_refl _) (Nat.le_refl _) ?_
    rintro _ _ ⟨rfl, rfl⟩
    refine z_icmp_ne (tgt := 36) dX4_commonLines_29 rfl (fun h29 => ?_) (fun h29 => ?_)
    · refine z_iconst dX4_commonLines_36 (by decide) ?_
      refine z_add dX4_commonLines_37 (by omega) ?_
      refine z_ist 3 dX4_commonLines_38 rfl (Nat.le_of_ble_eq_true rfl) ?_
      refine z_inc dX4_commonLines_39 rfl (by omega) ?_
      refine z_goto (tgt := 5) dX4_commonLines_42 rfl ?_
      try dsimp only [zs0, zsI, zsP, zsN, zsJ, zsS, zst2, Nat.reduceAdd]
      rw [zsum_s, ← Int.add_assoc, Int.toNat_natCast, zb_f (by omega), show (i : Int) + 1 = ((i + 1 : Nat) : Int) by omega] at hP
      rw [show (i : Int) + 1 = ((i + 1 : Nat) : Int) by omega]
      exact ih (i + 1) _ (by omega) (by omega) hP
    · refine z_iconst dX4_commonLines_32 (by decide) ?_
      refine z_goto (tgt := 37) dX4_commonLines_33 rfl ?_
      refine z_add dX4_commonLines_37 (by omega) ?_
      refine z_ist 3 dX4_commonLines_38 rfl (Nat.le_of_ble_eq_true rfl) ?_
      refine z_inc dX4_commonLines_39 rfl (by omega) ?_
      refine z_goto (tgt := 5) dX4_commonLines_42 rfl ?_
      try dsimp only [zs0, zsI, zsP, zsN, zsJ, zsS, zst2, Nat.reduceAdd]
      rw [zsum_s, ← Int.add_assoc, Int.toNat_natCast, zb_t (by omega), show (i : Int) + 1 = ((i + 1 : Nat) : Int) by omega] at hP
      rw [show (i : Int) + 1 = ((i + 1 : Nat) : Int) by omega]
      exact ih (i + 1) _ (by omega) (by omega) hP

theorem c_comLines (d : Nat) {E : zE} {m : zM} (p a cap : Int) (sp : E.1 p = (10, 7)) (sa : E.1 a = (2, cap)) (sb : E.1 (a + 1) = (1, cap)) (a0 : 0 < a) (n : Nat) (hn : n ≤ 12) (may : Int → Int → Bool) (od br : Int → Bool) (A : Nat) (L : zLr) (ρ : Int) (hT : pTb m p a n od br A L ρ) (hok : ∀ r ∈ L, rOk n may A r) (hL : (L.length : Int) ≤ cap) (hLb : L.length ≤ 10395) (hρ : 0 ≤ ρ ∧ ρ ≤ 1) (k : Nat) (mt : Int → Int) (hk : L[k]? = some mt) (o : Nat) (mu : Int → Int) (ho : L[o]? = some mu) : zR zX4_commonLines (d + 1) [zP p, zI (k : Nat), zI (o : Nat)] m E E (fun r m' => r = some (zI (zsum (fun i => zb (dg (sMk A mt) n i.toNat = dg (sMk A mu) n i.toNat)) n 0 / 2)) ∧ m = m') := by
  refine zR_go [zP p, zI (k : Nat), zI (o : Nat), zN, zN] (by decide +kernel) (Nat.le_of_ble_eq_true rfl) rfl rfl ?_
  refine z_iconst dX4_commonLines_0 (by decide) ?_
  refine z_ist 3 dX4_commonLines_1 rfl (Nat.le_of_ble_eq_true rfl) ?_
  refine z_iconst dX4_commonLines_2 (by decide) ?_
  refine z_istore dX4_commonLines_3 (Nat.le_of_ble_eq_true rfl) ?_
  try dsimp only [zs0, zsI, zsP, zsN, zsJ, zsS, zst2, Nat.reduceAdd]
  exact l_comLines d p a cap sp sa sb a0 n hn may od br A L ρ hT hok hL hLb hρ k mt hk o mu ho n 0 0 (by omega) (by omega) ⟨by rw [Int.zero_add]; rfl, rfl⟩
