theorem fRT_B {m m1 : zM} {t : Int} (g : zfr (fRT t) m m1) : zfr (fRB t) m m1 := zfr_sub g (fun q hq => List.mem_cons_of_mem _ (List.mem_cons_of_mem _ hq))
theorem kSo_end {K : zK} {p : Int} (hk : kOk K) (h : K.2.1 ≤ p) : kSo K p = 0 := by
  unfold kSo
  rw [if_neg (by rw [kL_o hk p h]; decide), if_neg (by rw [kD_o hk p h]; simp), if_pos h]
theorem cZ_0 {c : Int → Int} {x : Int} (h0 : 0 ≤ x) (h1 : x < 104) : cZ c x = 0 := if_pos ⟨h0, h1⟩
theorem cZ_mz (c : Int → Int) : cMz (cZ c) := fun k q0 q1 => by rw [cZ_0 (x := 1) (by decide) (by decide)] at q1; omega
theorem cAddF_mz {c : Int → Int} {l a b : Int} (hw : wfD c) (h6 : c 0 < 6) (hz : cMz c) : cMz (cAddF c l a b) := by
  have w1 := hw.1
  have w2 := hw.2.1
  have eo : ∀ x, x ≠ 0 → x ≠ 4 + 3 * c 0 + 2 → x ≠ 4 + 3 * c 0 + 1 → x ≠ 4 + 3 * c 0 → cAddF c l a b x = c x := fun x q0 q1 q2 q3 => by unfold cAddF; rw [if_neg q0, if_neg q1, if_neg q2, if_neg q3]
  intro k q0 q1
  rw [eo 1 (by omega) (by omega) (by omega) (by omega)] at q1
  have h := hw.2.2.2.2.1 k q0 q1
  rw [eo (24 + 2 * k) (by omega) (by omega) (by omega) (by omega), eo (24 + 2 * k + 1) (by omega) (by omega) (by omega) (by omega), eo _ (by omega) (by omega) (by omega) (by omega), eo _ (by omega) (by omega) (by omega) (by omega)]
  exact hz k q0 q1
theorem cAddM_mz {c : Int → Int} {f g : Int} (hw : wfD c) (h4 : c 1 < 4) (hz : cMz c) (hf : 0 ≤ f ∧ f < c 0) (hg : 0 ≤ g ∧ g < c 0) (hne : f ≠ g) (h1 : c (4 + 3 * f + 1) ≠ 1) (h2 : c (4 + 3 * g + 1) ≠ 1) : cMz (cAddM c f g) := by
  have w1 := hw.1
  have w2 := hw.2.1
  have e1 : cAddM c f g 1 = c 1 + 1 := if_pos rfl
  have eo : ∀ x, x ≠ 1 → x ≠ 24 + 2 * c 1 + 1 → x ≠ 24 + 2 * c 1 → cAddM c f g x = c x := fun x q0 q1 q2 => by unfold cAddM; rw [if_neg q0, if_neg q1, if_neg q2]
  intro k q0 q1
  rw [e1] at q1
  by_cases e : k = c 1
  · subst e
    have k1 : cAddM c f g (24 + 2 * c 1) = f := by unfold cAddM; rw [if_neg (by omega), if_neg (by omega), if_pos rfl]
    have k2 : cAddM c f g (24 + 2 * c 1 + 1) = g := by unfold cAddM; rw [if_neg (by omega), if_pos rfl]
    rw [k1, k2, eo _ (by omega) (by omega) (by omega), eo _ (by omega) (by omega) (by omega)]
    exact ⟨hne, h1, h2⟩
  · have h := hw.2.2.2.2.1 k q0 (by omega)
    rw [eo (24 + 2 * k) (by omega) (by omega) (by omega), eo (24 + 2 * k + 1) (by omega) (by omega) (by omega), eo _ (by omega) (by omega) (by omega), eo _ (by omega) (by omega) (by omega)]
    exact hz k q0 (by omega)
theorem pField_mz {K : zK} {c : Int → Int} {p : Int} (hI : cInv c) (hz : cMz c) (e : (pField K c p).1 = 0) : cMz (pField K c p).2.2.1 := by
  revert e
  unfold pField
  split
  · intro e; simp at e
  · split
    · intro e; exact hz
    · split
      · intro e; exact hz
      · split
        · intro e; exact hz
        · intro e; exact cAddF_mz (wfD_of hI.1) (by omega) hz
theorem pMix_mz {K : zK} {c : Int → Int} {p : Int} (hI : cInv c) (hz : cMz c) (e : (pMix K c p).1 = 0) : cMz (pMix K c p).2.2.1 := by
  have hw := wfD_of hI.1
  have l1 := cFld_lt (c := c) (v := kW K (kR K p)) hw
  have l2 := cFld_lt (c := c) (v := kW K (kR K (kR K p))) hw
  revert e
  unfold pMix
  split
  · intro e; exact hz
  · split
    · intro e; exact hz
    · split
      · intro e; exact hz
      · split
        · intro e; exact hz
        · split
          · intro e; exact hz
          · split
            · intro e; exact hz
            · split
              · intro e; exact hz
              · rename_i q1 q2 q3 q4 q5 q6 q7
                intro e
                have q7 := Decidable.not_not.mp q7
                exact cAddM_mz hw (by omega) hz (by omega) (by omega) q7.2.1 q4 q7.1
theorem pRow_mz {K : zK} {c0 : Int → Int} {ve no : Int} (hI : cInv c0) (hz : cMz c0) (h2 : c0 2 < 8) (hve : ve = 0 ∨ ve = 1) (hno : no = 0 ∨ no = 1) : ∀ (j : Nat) (c : Int → Int) (n p : Int), n + j = 7 → 0 ≤ n ∧ n ≤ 6 → cHalf c0 c n → cPre c0 (c0 2).toNat + n ≤ 12 → (pRow K (32 + 9 * c0 2) (cPre c0 (c0 2).toNat) ve no j c n p).1 = 0 → cMz (pRow K (32 + 9 * c0 2) (cPre c0 (c0 2).toNat) ve no j c n p).2.2.1
  | 0, c, n, p, hn, hn6, _, _ => by omega
  | j + 1, c, n, p, hn, hn6, hc, h12 => by
    have w0 := hI.1.1
    have w3 := hI.1.2.2.1
    have hcl := cFld_lt0 (c := c) (v := kW K p) (by rw [hc.1 0 (by omega)]; exact w0.1)
    rw [hc.1 0 (by omega)] at hcl
    rw [pRow_s]
    split
    · intro _; exact (half_OK hI hz h2 hve hno hc hn6 h12).2.1
    · split
      · intro e; exact absurd e kMis_ne
      · split
        · intro e; simp at e
        · split
          · intro e; simp at e
          · split
            · intro e; simp at e
            · rename_i q1 q2 q3 q4 q5
              intro e
              have hb := zb01 (kSn K (kR K p) 39)
              exact pRow_mz hI hz h2 hve hno j _ (n + 1) _ (by omega) (by omega) (half_next hc (by omega) (by omega) (by omega) (by omega)) (by omega) e
theorem pPoint_mz {K : zK} {c : Int → Int} {p : Int} (hI : cInv c) (hz : cMz c) (e : (pPoint K c p).1 = 0) : cMz (pPoint K c p).2.2.1 := by
  revert e
  unfold pPoint
  split
  · intro e; simp at e
  · split
    · intro e; exact absurd e kMis_ne
    · rename_i q1 q2
      intro e
      have q1 := Decidable.not_not.mp q1
      exact pRow_mz hI hz q1.1 (by unfold pVe; split <;> exact zb01 _) (zb01 _) 7 c 0 _ (by omega) (by omega) half_0 (by have := hI.2.1; omega) e
theorem pBody_mz {K : zK} {c : Int → Int} {p : Int} (hI : cInv c) (hz : cMz c) (e : (pBody K c p).1 = 0) : cMz (pBody K c p).2.2.1 := by
  revert e
  unfold pBody
  split
  · exact pField_mz hI hz
  · split
    · exact pMix_mz hI hz
    · split
      · exact pPoint_mz hI hz
      · intro e; exact hz
theorem line_OK {K : zK} {c : Int → Int} {p : Int} (hk : kOk K) (hI : cInv c) (hz : cMz c) (r : zPr) (e : pBody K c p = r) (h : r.1 = 0) : cOK r.2.2.1 := by
  subst e
  have hm := pBody_mz hI hz h
  have hi : cInv (pBody K c p).2.2.1 := by
    revert h
    unfold pBody
    split
    · intro h; exact (pField_ok hk hI h).1
    · split
      · intro h; exact (pMix_ok hk hI h).1
      · split
        · intro h; exact (pPoint_ok hk hI h).1
        · intro h; exact hI
  exact ⟨wfD_of hi.1, hm, hi.2.1⟩
theorem pLine_mz {K : zK} {c : Int → Int} {p : Int} (hI : cInv c) (hz : cMz c) (e : (pLine K c p).1 = 0) : cMz (pLine K c p).2.2.1 := by
  revert e
  unfold pLine pEnd
  split
  · rename_i h; intro e; exact absurd e h
  · rename_i h
    have hb := pBody_mz hI hz (Decidable.not_not.mp h)
    split
    · intro _; exact hb
    · intro _; exact hb
theorem pText_mz {K : zK} : ∀ (j : Nat) (c : Int → Int) (p : Int), cInv c → cMz c → kOk K → (pText K j c p).1 = 0 → cMz (pText K j c p).2.2.1
  | 0, c, p, _, hz, _ => fun _ => hz
  | j + 1, c, p, hI, hz, hk => by
    rw [pText_s]
    split
    · intro _; exact hz
    · split
      · rename_i h1 h2; intro e; exact absurd e h2
      · rename_i h1 h2
        have e1 := Decidable.not_not.mp h2
        exact pText_mz j _ _ (pLine_ok hk hI e1).1 (pLine_mz hI hz e1) hk
theorem l_readTheory (d : Nat) {E : zE} {m : zM} {P : Option zV → zM → Prop} (t : Int) (t3 : 3 < t) (sK : shK E) (sR : E.1 3 = (14, 0)) (sT : shT E t) (K : zK) : ∀ (j : Nat) (l : Nat) (p : Int) (m1 : zM) (c : Int → Int), (l + j = 400) → ((l : Int) ≤ p) → (cInv c) → (cMz c) → (rS m1 K t c (cPre c (c 2).toNat) p) → (zfr (fRT t) m m1) → (∀ (m2 : zM) (wl : Int), rOut m m2 (some (zI wl)) K t (pText K (j + 1) c p) → zA zX8_readTheory (d + 6) E E P 98 [zP 3, zP 1, zP t, zI wl, zN] [] m2 E) → zA zX8_readTheory (d + 6) E E P 9 [zP 3, zP 1, zP t, zI 1, zI (l : Nat)] [] m1 E := by
  intro j
  induction j with
  | zero =>
    intro l p m1 c hl hlp hI hz hS0 g0 hP
    have hto := kTo_is K p
    refine z_iload dX8_readTheory_9 rfl ?_
    refine z_sipush dX8_readTheory_11 rfl (by decide) ?_
    refine z_icmp_ge (tgt := 98) dX8_readTheory_14 rfl (fun h14 => ?_) (fun h => absurd (by omega) h)
    refine zA_wk [_, _, _, _, zN] (by exact ⟨Or.inr rfl, Or.inr rfl, Or.inr rfl, Or.inr rfl, Or.inl rfl, trivial⟩) ?_
    rw [pText_s, if_pos (kSo_end hS0.1.1 (by have := hS0.2.1.1; have := hS0.1.1.1; omega))] at hP
    exact hP m1 1 (Or.inl ⟨rfl, rfl, g0, hS0⟩)
  | succ j ih =>
    intro l p m1 c hl hlp hI hz hS0 g0 hP
    have hto := kTo_is K p
    refine z_iload dX8_readTheory_9 rfl ?_
    refine z_sipush dX8_readTheory_11 rfl (by decide) ?_
    refine z_icmp_ge (tgt := 98) dX8_readTheory_14 rfl (fun h => absurd h (by omega)) (fun h14 => ?_)
    refine z_iload_n dX8_readTheory_17 rfl ?_
    refine z_if_eq (tgt := 98) dX8_readTheory_18 rfl (fun h => absurd h (by decide)) (fun h18 => ?_)
    refine z_aload_n dX8_readTheory_21 rfl ?_
    refine z_gIv 6 rfl flX8_14 dX8_readTheory_22 sK.1 rfl hS0.2.1.2.2.2.1 ?_
    refine z_if_eq (tgt := 98) dX8_readTheory_25 rfl (fun h25 => ?_) (fun h25 => ?_)
    · refine zA_wk [_, _, _, _, zN] (by exact ⟨Or.inr rfl, Or.inr rfl, Or.inr rfl, Or.inr rfl, Or.inl rfl, trivial⟩) ?_
      rw [pText_s, if_pos (by omega)] at hP
      exact hP m1 1 (Or.inl ⟨rfl, rfl, g0, hS0⟩)
    · have hso : kSo K p ≠ 0 := by omega
      have hO2 := line_OK (c := c) (p := p) hS0.1.1 hI hz
      refine z_aload_n dX8_readTheory_28 rfl ?_
      refine z_ldcS (i := 0) rfl rfl dX8_readTheory_29 ?_
      refine z_callV mlX8_22 dX8_readTheory_31 sK.1 (av := [_]) rfl rfl (Nat.le_of_ble_eq_true rfl) (c_isWd _ sK K hS0.1 p hS0.2.1 0 (by decide) 3369766 rfl) (Nat.le_refl _) (Nat.le_refl _) (Nat.le_refl _) (Nat.le_refl _) ?_
      rintro _ _ ⟨rfl, rfl⟩
      refine z_ifz_eq (tgt := 47) dX8_readTheory_34 rfl (fun h34 => ?_) (fun h34 => ?_)
      · refine z_aload_n dX8_readTheory_47 rfl ?_
        refine z_ldcS (i := 4) rfl rfl dX8_readTheory_48 ?_
        refine z_callV mlX8_22 dX8_readTheory_50 sK.1 (av := [_]) rfl rfl (Nat.le_of_ble_eq_true rfl) (c_isWd _ sK K hS0.1 p hS0.2.1 4 (by decide) 9744 rfl) (Nat.le_refl _) (Nat.le_refl _) (Nat.le_refl _) (Nat.le_refl _) ?_
        rintro _ _ ⟨rfl, rfl⟩
        refine z_ifz_eq (tgt := 66) dX8_readTheory_53 rfl (fun h53 => ?_) (fun h53 => ?_)
        · refine z_aload_n dX8_readTheory_66 rfl ?_
          refine z_aload_n dX8_readTheory_67 rfl ?_
          refine z_aload_n dX8_readTheory_68 rfl ?_
          refine z_callV mlX8_37 dX8_readTheory_69 sR (av := [_, _]) rfl rfl (Nat.le_of_ble_eq_true rfl) (c_readPoint d t t3 sK sR sT K c p hI hz hS0) (Nat.le_refl _) (Nat.le_refl _) (Nat.le_refl _) (Nat.le_refl _) ?_
          rintro r7 m7 h7
          rcases h7 with ⟨a1, rfl, a3, a4⟩ | ⟨a1, rfl, a3, a4, a5, a6⟩
          · refine z_ist 3 dX8_readTheory_72 rfl (Nat.le_of_ble_eq_true rfl) ?_
            refine z_iload_n dX8_readTheory_73 rfl ?_
            try dsimp only [zs0, zsI, zsP, zsN, zsJ, zsS, zst2, Nat.reduceAdd]
            refine z_if_eq (tgt := 90) dX8_readTheory_74 rfl (fun h => absurd h (by decide)) (fun h74 => ?_)
            refine z_aload_n dX8_readTheory_77 rfl ?_
            refine z_bipush dX8_readTheory_78 rfl (by decide) ?_
            refine z_callV mlX8_40 dX8_readTheory_80 sK.1 (av := [_]) rfl rfl (Nat.le_of_ble_eq_true rfl) (c_passSign (d + 2) sK K a4.1 _ a4.2.1 59) (Nat.le_refl _) (Nat.le_refl _) (Nat.le_refl _) (Nat.le_refl _) ?_
            rintro r8 m8 (⟨b1, rfl, b3, b4⟩ | ⟨b1, rfl, rfl⟩)
            · refine z_if_eq (tgt := 90) dX8_readTheory_83 rfl (fun h => absurd h (by decide)) (fun h83 => ?_)
              refine z_iconst dX8_readTheory_86 (by decide) ?_
              refine z_goto (tgt := 91) dX8_readTheory_87 rfl ?_
              refine z_ist 3 dX8_readTheory_91 rfl (Nat.le_of_ble_eq_true rfl) ?_
              refine z_inc dX8_readTheory_92 rfl (by omega) ?_
              refine z_goto (tgt := 9) dX8_readTheory_95 rfl ?_
              try dsimp only [zs0, zsI, zsP, zsN, zsJ, zsS, zst2, Nat.reduceAdd]
              have eL : pLine K c p = pEnd K (pPt K c p) := by unfold pLine; rw [show pBody K c p = pPt K c p by unfold pBody pPt; rw [if_neg h34, if_neg h53]]
              have eE : pEnd K (pPt K c p) = (0, 0, (pPt K c p).2.2.1, kR K (pPt K c p).2.2.2) := by unfold pEnd; rw [if_neg (fun h => h a1), if_pos b1]
              have e1 : (pLine K c p).1 = 0 := by rw [eL, eE]
              have hk := pLine_ok hS0.1.1 hI e1
              have hmz := pLine_mz hI hz e1
              rw [pText_s, if_neg hso, if_neg (fun h => h e1), eL, eE] at hP
              rw [eL, eE] at hk hmz
              rw [show (l : Int) + 1 = ((l + 1 : Nat) : Int) by omega]
              exact ih (l + 1) _ m8 _ (by omega) (by have hk2 : p + 1 ≤ kR K (pPt K c p).2.2.2 := hk.2; omega) hk.1 hmz (rS_tk a4 b3 b4 t3) (fRT_tk (zfr_tr g0 a3) b3) hP
            · refine z_if_eq (tgt := 90) dX8_readTheory_83 rfl (fun h83 => ?_) (fun h => absurd rfl h)
              refine z_iconst dX8_readTheory_90 (by decide) ?_
              refine z_ist 3 dX8_readTheory_91 rfl (Nat.le_of_ble_eq_true rfl) ?_
              refine z_inc dX8_readTheory_92 rfl (by omega) ?_
              refine z_goto (tgt := 9) dX8_readTheory_95 rfl ?_
              try dsimp only [zs0, zsI, zsP, zsN, zsJ, zsS, zst2, Nat.reduceAdd]
              refine z_iload dX8_readTheory_9 rfl ?_
              refine z_sipush dX8_readTheory_11 rfl (by decide) ?_
              refine z_icmp_ge (tgt := 98) dX8_readTheory_14 rfl (fun h14' => ?_) (fun h14' => ?_)
              · refine zA_wk [_, _, _, _, zN] (by exact ⟨Or.inr rfl, Or.inr rfl, Or.inr rfl, Or.inr rfl, Or.inl rfl, trivial⟩) ?_
                have eL : pLine K c p = pEnd K (pPt K c p) := by unfold pLine; rw [show pBody K c p = pPt K c p by unfold pBody pPt; rw [if_neg h34, if_neg h53]]
                have eE : pEnd K (pPt K c p) = (kMis K (pPt K c p).2.2.2, (pPt K c p).2.2.2, (pPt K c p).2.2.1, (pPt K c p).2.2.2) := by unfold pEnd; rw [if_neg (fun h => h a1), if_neg b1]
                rw [pText_s, if_neg hso, if_pos (by rw [eL, eE]; exact kMis_ne), eL, eE] at hP
                exact hP _ 0 (rOut_bad0 t3 a4 (zfr_tr g0 a3) (hO2 _ (show pBody K c p = pPt K c p by unfold pBody pPt; rw [if_neg h34, if_neg h53]) a1) rfl kMis_ne)
              · refine z_iload_n dX8_readTheory_17 rfl ?_
                refine z_if_eq (tgt := 98) dX8_readTheory_18 rfl (fun _ => ?_) (fun h => absurd rfl h)
                refine zA_wk [_, _, _, _, zN] (by exact ⟨Or.inr rfl, Or.inr rfl, Or.inr rfl, Or.inr rfl, Or.inl rfl, trivial⟩) ?_
                have eL : pLine K c p = pEnd K (pPt K c p) := by unfold pLine; rw [show pBody K c p = pPt K c p by unfold pBody pPt; rw [if_neg h34, if_neg h53]]
                have eE : pEnd K (pPt K c p) = (kMis K (pPt K c p).2.2.2, (pPt K c p).2.2.2, (pPt K c p).2.2.1, (pPt K c p).2.2.2) := by unfold pEnd; rw [if_neg (fun h => h a1), if_neg b1]
                rw [pText_s, if_neg hso, if_pos (by rw [eL, eE]; exact kMis_ne), eL, eE] at hP
                exact hP _ 0 (rOut_bad0 t3 a4 (zfr_tr g0 a3) (hO2 _ (show pBody K c p = pPt K c p by unfold pBody pPt; rw [if_neg h34, if_neg h53]) a1) rfl kMis_ne)
          · refine z_ist 3 dX8_readTheory_72 rfl (Nat.le_of_ble_eq_true rfl) ?_
            refine z_iload_n dX8_readTheory_73 rfl ?_
            try dsimp only [zs0, zsI, zsP, zsN, zsJ, zsS, zst2, Nat.reduceAdd]
            refine z_if_eq (tgt := 90) dX8_readTheory_74 rfl (fun h74 => ?_) (fun h => absurd rfl h)
            refine z_iconst dX8_readTheory_90 (by decide) ?_
            refine z_ist 3 dX8_readTheory_91 rfl (Nat.le_of_ble_eq_true rfl) ?_
            refine z_inc dX8_readTheory_92 rfl (by omega) ?_
            refine z_goto (tgt := 9) dX8_readTheory_95 rfl ?_
            try dsimp only [zs0, zsI, zsP, zsN, zsJ, zsS, zst2, Nat.reduceAdd]
            refine z_iload dX8_readTheory_9 rfl ?_
            refine z_sipush dX8_readTheory_11 rfl (by decide) ?_
            refine z_icmp_ge (tgt := 98) dX8_readTheory_14 rfl (fun h14' => ?_) (fun h14' => ?_)
            · refine zA_wk [_, _, _, _, zN] (by exact ⟨Or.inr rfl, Or.inr rfl, Or.inr rfl, Or.inr rfl, Or.inl rfl, trivial⟩) ?_
              have eL : pLine K c p = pEnd K (pPt K c p) := by unfold pLine; rw [show pBody K c p = pPt K c p by unfold pBody pPt; rw [if_neg h34, if_neg h53]]
              rw [pText_s, if_neg hso, if_pos (by rw [eL]; exact a1), eL] at hP
              exact hP m7 0 (Or.inr ⟨a1, rfl, zfr_tr (fRT_B g0) a3, a4, a5, a6⟩)
            · refine z_iload_n dX8_readTheory_17 rfl ?_
              refine z_if_eq (tgt := 98) dX8_readTheory_18 rfl (fun _ => ?_) (fun h => absurd rfl h)
              refine zA_wk [_, _, _, _, zN] (by exact ⟨Or.inr rfl, Or.inr rfl, Or.inr rfl, Or.inr rfl, Or.inl rfl, trivial⟩) ?_
              have eL : pLine K c p = pEnd K (pPt K c p) := by unfold pLine; rw [show pBody K c p = pPt K c p by unfold pBody pPt; rw [if_neg h34, if_neg h53]]
              rw [pText_s, if_neg hso, if_pos (by rw [eL]; exact a1), eL] at hP
              exact hP m7 0 (Or.inr ⟨a1, rfl, zfr_tr (fRT_B g0) a3, a4, a5, a6⟩)
        · refine z_aload_n dX8_readTheory_56 rfl ?_
          refine z_aload_n dX8_readTheory_57 rfl ?_
          refine z_aload_n dX8_readTheory_58 rfl ?_
          refine z_callV mlX8_34 dX8_readTheory_59 sR (av := [_, _]) rfl rfl (Nat.le_of_ble_eq_true rfl) (c_readMix (d + 1) t t3 sK sR sT K c p hI hz hS0 hso) (Nat.le_refl _) (Nat.le_refl _) (Nat.le_refl _) (Nat.le_refl _) ?_
          rintro r7 m7 h7
          rcases (rOut1_of h7) with ⟨a1, rfl, a3, a4⟩ | ⟨a1, rfl, a3, a4, a5, a6⟩
          · refine z_ist 3 dX8_readTheory_62 rfl (Nat.le_of_ble_eq_true rfl) ?_
            refine z_goto (tgt := 73) dX8_readTheory_63 rfl ?_
            refine z_iload_n dX8_readTheory_73 rfl ?_
            try dsimp only [zs0, zsI, zsP, zsN, zsJ, zsS, zst2, Nat.reduceAdd]
            refine z_if_eq (tgt := 90) dX8_readTheory_74 rfl (fun h => absurd h (by decide)) (fun h74 => ?_)
            refine z_aload_n dX8_readTheory_77 rfl ?_
            refine z_bipush dX8_readTheory_78 rfl (by decide) ?_
            refine z_callV mlX8_40 dX8_readTheory_80 sK.1 (av := [_]) rfl rfl (Nat.le_of_ble_eq_true rfl) (c_passSign (d + 2) sK K a4.1 _ a4.2.1 59) (Nat.le_refl _) (Nat.le_refl _) (Nat.le_refl _) (Nat.le_refl _) ?_
            rintro r8 m8 (⟨b1, rfl, b3, b4⟩ | ⟨b1, rfl, rfl⟩)
            · refine z_if_eq (tgt := 90) dX8_readTheory_83 rfl (fun h => absurd h (by decide)) (fun h83 => ?_)
              refine z_iconst dX8_readTheory_86 (by decide) ?_
              refine z_goto (tgt := 91) dX8_readTheory_87 rfl ?_
              refine z_ist 3 dX8_readTheory_91 rfl (Nat.le_of_ble_eq_true rfl) ?_
              refine z_inc dX8_readTheory_92 rfl (by omega) ?_
              refine z_goto (tgt := 9) dX8_readTheory_95 rfl ?_
              try dsimp only [zs0, zsI, zsP, zsN, zsJ, zsS, zst2, Nat.reduceAdd]
              have eL : pLine K c p = pEnd K (pMix K c p) := by unfold pLine; rw [show pBody K c p = pMix K c p by unfold pBody; rw [if_neg h34, if_pos h53]]
              have eE : pEnd K (pMix K c p) = (0, 0, (pMix K c p).2.2.1, kR K (pMix K c p).2.2.2) := by unfold pEnd; rw [if_neg (fun h => h a1), if_pos b1]
              have e1 : (pLine K c p).1 = 0 := by rw [eL, eE]
              have hk := pLine_ok hS0.1.1 hI e1
              have hmz := pLine_mz hI hz e1
              rw [pText_s, if_neg hso, if_neg (fun h => h e1), eL, eE] at hP
              rw [eL, eE] at hk hmz
              rw [show (l : Int) + 1 = ((l + 1 : Nat) : Int) by omega]
              exact ih (l + 1) _ m8 _ (by omega) (by have hk2 : p + 1 ≤ kR K (pMix K c p).2.2.2 := hk.2; omega) hk.1 hmz (rS_tk a4 b3 b4 t3) (fRT_tk (zfr_tr g0 a3) b3) hP
            · refine z_if_eq (tgt := 90) dX8_readTheory_83 rfl (fun h83 => ?_) (fun h => absurd rfl h)
              refine z_iconst dX8_readTheory_90 (by decide) ?_
              refine z_ist 3 dX8_readTheory_91 rfl (Nat.le_of_ble_eq_true rfl) ?_
              refine z_inc dX8_readTheory_92 rfl (by omega) ?_
              refine z_goto (tgt := 9) dX8_readTheory_95 rfl ?_
              try dsimp only [zs0, zsI, zsP, zsN, zsJ, zsS, zst2, Nat.reduceAdd]
              refine z_iload dX8_readTheory_9 rfl ?_
              refine z_sipush dX8_readTheory_11 rfl (by decide) ?_
              refine z_icmp_ge (tgt := 98) dX8_readTheory_14 rfl (fun h14' => ?_) (fun h14' => ?_)
              · refine zA_wk [_, _, _, _, zN] (by exact ⟨Or.inr rfl, Or.inr rfl, Or.inr rfl, Or.inr rfl, Or.inl rfl, trivial⟩) ?_
                have eL : pLine K c p = pEnd K (pMix K c p) := by unfold pLine; rw [show pBody K c p = pMix K c p by unfold pBody; rw [if_neg h34, if_pos h53]]
                have eE : pEnd K (pMix K c p) = (kMis K (pMix K c p).2.2.2, (pMix K c p).2.2.2, (pMix K c p).2.2.1, (pMix K c p).2.2.2) := by unfold pEnd; rw [if_neg (fun h => h a1), if_neg b1]
                rw [pText_s, if_neg hso, if_pos (by rw [eL, eE]; exact kMis_ne), eL, eE] at hP
                exact hP _ 0 (rOut_bad0 t3 a4 (zfr_tr g0 a3) (hO2 _ (show pBody K c p = pMix K c p by unfold pBody; rw [if_neg h34, if_pos h53]) a1) rfl kMis_ne)
              · refine z_iload_n dX8_readTheory_17 rfl ?_
                refine z_if_eq (tgt := 98) dX8_readTheory_18 rfl (fun _ => ?_) (fun h => absurd rfl h)
                refine zA_wk [_, _, _, _, zN] (by exact ⟨Or.inr rfl, Or.inr rfl, Or.inr rfl, Or.inr rfl, Or.inl rfl, trivial⟩) ?_
                have eL : pLine K c p = pEnd K (pMix K c p) := by unfold pLine; rw [show pBody K c p = pMix K c p by unfold pBody; rw [if_neg h34, if_pos h53]]
                have eE : pEnd K (pMix K c p) = (kMis K (pMix K c p).2.2.2, (pMix K c p).2.2.2, (pMix K c p).2.2.1, (pMix K c p).2.2.2) := by unfold pEnd; rw [if_neg (fun h => h a1), if_neg b1]
                rw [pText_s, if_neg hso, if_pos (by rw [eL, eE]; exact kMis_ne), eL, eE] at hP
                exact hP _ 0 (rOut_bad0 t3 a4 (zfr_tr g0 a3) (hO2 _ (show pBody K c p = pMix K c p by unfold pBody; rw [if_neg h34, if_pos h53]) a1) rfl kMis_ne)
          · refine z_ist 3 dX8_readTheory_62 rfl (Nat.le_of_ble_eq_true rfl) ?_
            refine z_goto (tgt := 73) dX8_readTheory_63 rfl ?_
            refine z_iload_n dX8_readTheory_73 rfl ?_
            try dsimp only [zs0, zsI, zsP, zsN, zsJ, zsS, zst2, Nat.reduceAdd]
            refine z_if_eq (tgt := 90) dX8_readTheory_74 rfl (fun h74 => ?_) (fun h => absurd rfl h)
            refine z_iconst dX8_readTheory_90 (by decide) ?_
            refine z_ist 3 dX8_readTheory_91 rfl (Nat.le_of_ble_eq_true rfl) ?_
            refine z_inc dX8_readTheory_92 rfl (by omega) ?_
            refine z_goto (tgt := 9) dX8_readTheory_95 rfl ?_
            try dsimp only [zs0, zsI, zsP, zsN, zsJ, zsS, zst2, Nat.reduceAdd]
            refine z_iload dX8_readTheory_9 rfl ?_
            refine z_sipush dX8_readTheory_11 rfl (by decide) ?_
            refine z_icmp_ge (tgt := 98) dX8_readTheory_14 rfl (fun h14' => ?_) (fun h14' => ?_)
            · refine zA_wk [_, _, _, _, zN] (by exact ⟨Or.inr rfl, Or.inr rfl, Or.inr rfl, Or.inr rfl, Or.inl rfl, trivial⟩) ?_
              have eL : pLine K c p = pEnd K (pMix K c p) := by unfold pLine; rw [show pBody K c p = pMix K c p by unfold pBody; rw [if_neg h34, if_pos h53]]
              rw [pText_s, if_neg hso, if_pos (by rw [eL]; exact a1), eL] at hP
              exact hP m7 0 (Or.inr ⟨a1, rfl, zfr_tr (fRT_B g0) a3, a4, a5, a6⟩)
            · refine z_iload_n dX8_readTheory_17 rfl ?_
              refine z_if_eq (tgt := 98) dX8_readTheory_18 rfl (fun _ => ?_) (fun h => absurd rfl h)
              refine zA_wk [_, _, _, _, zN] (by exact ⟨Or.inr rfl, Or.inr rfl, Or.inr rfl, Or.inr rfl, Or.inl rfl, trivial⟩) ?_
              have eL : pLine K c p = pEnd K (pMix K c p) := by unfold pLine; rw [show pBody K c p = pMix K c p by unfold pBody; rw [if_neg h34, if_pos h53]]
              rw [pText_s, if_neg hso, if_pos (by rw [eL]; exact a1), eL] at hP
              exact hP m7 0 (Or.inr ⟨a1, rfl, zfr_tr (fRT_B g0) a3, a4, a5, a6⟩)
      · refine z_aload_n dX8_readTheory_37 rfl ?_
        refine z_aload_n dX8_readTheory_38 rfl ?_
        refine z_aload_n dX8_readTheory_39 rfl ?_
        refine z_callV mlX8_26 dX8_readTheory_40 sR (av := [_, _]) rfl rfl (Nat.le_of_ble_eq_true rfl) (c_readField d t t3 sK sR sT K c p hI hz hS0 hso) (Nat.le_refl _) (Nat.le_refl _) (Nat.le_refl _) (Nat.le_refl _) ?_
        rintro r7 m7 h7
        rcases (rOut1_of h7) with ⟨a1, rfl, a3, a4⟩ | ⟨a1, rfl, a3, a4, a5, a6⟩
        · refine z_ist 3 dX8_readTheory_43 rfl (Nat.le_of_ble_eq_true rfl) ?_
          refine z_goto (tgt := 73) dX8_readTheory_44 rfl ?_
          refine z_iload_n dX8_readTheory_73 rfl ?_
          try dsimp only [zs0, zsI, zsP, zsN, zsJ, zsS, zst2, Nat.reduceAdd]
          refine z_if_eq (tgt := 90) dX8_readTheory_74 rfl (fun h => absurd h (by decide)) (fun h74 => ?_)
          refine z_aload_n dX8_readTheory_77 rfl ?_
          refine z_bipush dX8_readTheory_78 rfl (by decide) ?_
          refine z_callV mlX8_40 dX8_readTheory_80 sK.1 (av := [_]) rfl rfl (Nat.le_of_ble_eq_true rfl) (c_passSign (d + 2) sK K a4.1 _ a4.2.1 59) (Nat.le_refl _) (Nat.le_refl _) (Nat.le_refl _) (Nat.le_refl _) ?_
          rintro r8 m8 (⟨b1, rfl, b3, b4⟩ | ⟨b1, rfl, rfl⟩)
          · refine z_if_eq (tgt := 90) dX8_readTheory_83 rfl (fun h => absurd h (by decide)) (fun h83 => ?_)
            refine z_iconst dX8_readTheory_86 (by decide) ?_
            refine z_goto (tgt := 91) dX8_readTheory_87 rfl ?_
            refine z_ist 3 dX8_readTheory_91 rfl (Nat.le_of_ble_eq_true rfl) ?_
            refine z_inc dX8_readTheory_92 rfl (by omega) ?_
            refine z_goto (tgt := 9) dX8_readTheory_95 rfl ?_
            try dsimp only [zs0, zsI, zsP, zsN, zsJ, zsS, zst2, Nat.reduceAdd]
            have eL : pLine K c p = pEnd K (pField K c p) := by unfold pLine; rw [show pBody K c p = pField K c p from if_pos h34]
            have eE : pEnd K (pField K c p) = (0, 0, (pField K c p).2.2.1, kR K (pField K c p).2.2.2) := by unfold pEnd; rw [if_neg (fun h => h a1), if_pos b1]
            have e1 : (pLine K c p).1 = 0 := by rw [eL, eE]
            have hk := pLine_ok hS0.1.1 hI e1
            have hmz := pLine_mz hI hz e1
            rw [pText_s, if_neg hso, if_neg (fun h => h e1), eL, eE] at hP
            rw [eL, eE] at hk hmz
            rw [show (l : Int) + 1 = ((l + 1 : Nat) : Int) by omega]
            exact ih (l + 1) _ m8 _ (by omega) (by have hk2 : p + 1 ≤ kR K (pField K c p).2.2.2 := hk.2; omega) hk.1 hmz (rS_tk a4 b3 b4 t3) (fRT_tk (zfr_tr g0 a3) b3) hP
          · refine z_if_eq (tgt := 90) dX8_readTheory_83 rfl (fun h83 => ?_) (fun h => absurd rfl h)
            refine z_iconst dX8_readTheory_90 (by decide) ?_
            refine z_ist 3 dX8_readTheory_91 rfl (Nat.le_of_ble_eq_true rfl) ?_
            refine z_inc dX8_readTheory_92 rfl (by omega) ?_
            refine z_goto (tgt := 9) dX8_readTheory_95 rfl ?_
            try dsimp only [zs0, zsI, zsP, zsN, zsJ, zsS, zst2, Nat.reduceAdd]
            refine z_iload dX8_readTheory_9 rfl ?_
            refine z_sipush dX8_readTheory_11 rfl (by decide) ?_
            refine z_icmp_ge (tgt := 98) dX8_readTheory_14 rfl (fun h14' => ?_) (fun h14' => ?_)
            · refine zA_wk [_, _, _, _, zN] (by exact ⟨Or.inr rfl, Or.inr rfl, Or.inr rfl, Or.inr rfl, Or.inl rfl, trivial⟩) ?_
              have eL : pLine K c p = pEnd K (pField K c p) := by unfold pLine; rw [show pBody K c p = pField K c p from if_pos h34]
              have eE : pEnd K (pField K c p) = (kMis K (pField K c p).2.2.2, (pField K c p).2.2.2, (pField K c p).2.2.1, (pField K c p).2.2.2) := by unfold pEnd; rw [if_neg (fun h => h a1), if_neg b1]
              rw [pText_s, if_neg hso, if_pos (by rw [eL, eE]; exact kMis_ne), eL, eE] at hP
              exact hP _ 0 (rOut_bad0 t3 a4 (zfr_tr g0 a3) (hO2 _ (show pBody K c p = pField K c p from if_pos h34) a1) rfl kMis_ne)
            · refine z_iload_n dX8_readTheory_17 rfl ?_
              refine z_if_eq (tgt := 98) dX8_readTheory_18 rfl (fun _ => ?_) (fun h => absurd rfl h)
              refine zA_wk [_, _, _, _, zN] (by exact ⟨Or.inr rfl, Or.inr rfl, Or.inr rfl, Or.inr rfl, Or.inl rfl, trivial⟩) ?_
              have eL : pLine K c p = pEnd K (pField K c p) := by unfold pLine; rw [show pBody K c p = pField K c p from if_pos h34]
              have eE : pEnd K (pField K c p) = (kMis K (pField K c p).2.2.2, (pField K c p).2.2.2, (pField K c p).2.2.1, (pField K c p).2.2.2) := by unfold pEnd; rw [if_neg (fun h => h a1), if_neg b1]
              rw [pText_s, if_neg hso, if_pos (by rw [eL, eE]; exact kMis_ne), eL, eE] at hP
              exact hP _ 0 (rOut_bad0 t3 a4 (zfr_tr g0 a3) (hO2 _ (show pBody K c p = pField K c p from if_pos h34) a1) rfl kMis_ne)
        · refine z_ist 3 dX8_readTheory_43 rfl (Nat.le_of_ble_eq_true rfl) ?_
          refine z_goto (tgt := 73) dX8_readTheory_44 rfl ?_
          refine z_iload_n dX8_readTheory_73 rfl ?_
          try dsimp only [zs0, zsI, zsP, zsN, zsJ, zsS, zst2, Nat.reduceAdd]
          refine z_if_eq (tgt := 90) dX8_readTheory_74 rfl (fun h74 => ?_) (fun h => absurd rfl h)
          refine z_iconst dX8_readTheory_90 (by decide) ?_
          refine z_ist 3 dX8_readTheory_91 rfl (Nat.le_of_ble_eq_true rfl) ?_
          refine z_inc dX8_readTheory_92 rfl (by omega) ?_
          refine z_goto (tgt := 9) dX8_readTheory_95 rfl ?_
          try dsimp only [zs0, zsI, zsP, zsN, zsJ, zsS, zst2, Nat.reduceAdd]
          refine z_iload dX8_readTheory_9 rfl ?_
          refine z_sipush dX8_readTheory_11 rfl (by decide) ?_
          refine z_icmp_ge (tgt := 98) dX8_readTheory_14 rfl (fun h14' => ?_) (fun h14' => ?_)
          · refine zA_wk [_, _, _, _, zN] (by exact ⟨Or.inr rfl, Or.inr rfl, Or.inr rfl, Or.inr rfl, Or.inl rfl, trivial⟩) ?_
            have eL : pLine K c p = pEnd K (pField K c p) := by unfold pLine; rw [show pBody K c p = pField K c p from if_pos h34]
            rw [pText_s, if_neg hso, if_pos (by rw [eL]; exact a1), eL] at hP
            exact hP m7 0 (Or.inr ⟨a1, rfl, zfr_tr (fRT_B g0) a3, a4, a5, a6⟩)
          · refine z_iload_n dX8_readTheory_17 rfl ?_
            refine z_if_eq (tgt := 98) dX8_readTheory_18 rfl (fun _ => ?_) (fun h => absurd rfl h)
            refine zA_wk [_, _, _, _, zN] (by exact ⟨Or.inr rfl, Or.inr rfl, Or.inr rfl, Or.inr rfl, Or.inl rfl, trivial⟩) ?_
            have eL : pLine K c p = pEnd K (pField K c p) := by unfold pLine; rw [show pBody K c p = pField K c p from if_pos h34]
            rw [pText_s, if_neg hso, if_pos (by rw [eL]; exact a1), eL] at hP
            exact hP m7 0 (Or.inr ⟨a1, rfl, zfr_tr (fRT_B g0) a3, a4, a5, a6⟩)

theorem c_readTheory (d : Nat) {E : zE} {m : zM} (t : Int) (t3 : 3 < t) (sK : shK E) (sR : E.1 3 = (14, 0)) (sT : shT E t) (K : zK) (pT : ptT m t) (p : Int) (hK : kTx m K) (hA : kAt m K p) (c : Int → Int) : zR zX8_readTheory (d + 6) [zP 3, zP 1, zP t] m E E (fun r m' => ((pText K 401 (cZ c) p).1 = 0 ∧ r = some (zI 1) ∧ zfr (fRT t) m m' ∧ ptT m' t ∧ cTh m' t (pText K 401 (cZ c) p).2.2.1 ∧ (∃ w q n, isFlat (pText K 401 (cZ c) p).2.2.1 w q n ∧ cFl m' t (pText K 401 (cZ c) p).2.2.1 w q n) ∧ ∀ i, 0 ≤ i → i < 800 → m' (t + 11) i = 1) ∨ ((pText K 401 (cZ c) p).1 ≠ 0 ∧ r = some (zI 0) ∧ zfr (fRB t) m m' ∧ m' 1 8 = (pText K 401 (cZ c) p).1 ∧ m' 1 9 = (pText K 401 (cZ c) p).2.1 ∧ ptT m' t)) := by
  obtain ⟨w0, q0, hf0⟩ := flat_ex (wfD_of (cZ_inv c).1)
  refine zR_go [zP 3, zP 1, zP t, zN, zN] (by decide +kernel) (Nat.le_of_ble_eq_true rfl) rfl rfl ?_
  refine z_aload_n dX8_readTheory_0 rfl ?_
  refine z_callV mlX8_9 dX8_readTheory_1 (sT0 sT) (av := _) rfl rfl (Nat.le_of_ble_eq_true rfl) (c_tclear (d + 1) t (by omega) sT pT (cZ c) (wfD_of (cZ_inv c).1) (cZ_mz c) w0 q0 _ hf0 (by have := (cZ_inv c).2.1; exact this) (cZ_0 (by decide) (by decide)) (cZ_0 (by decide) (by decide)) (cZ_0 (by decide) (by decide))) (Nat.le_refl _) (Nat.le_refl _) (Nat.le_refl _) (Nat.le_refl _) ?_
  rintro _ m1 ⟨rfl, f1, p1, c1, l1, v1⟩
  refine z_iconst dX8_readTheory_4 (by decide) ?_
  refine z_ist 3 dX8_readTheory_5 rfl (Nat.le_of_ble_eq_true rfl) ?_
  refine z_iconst dX8_readTheory_6 (by decide) ?_
  refine z_istore dX8_readTheory_7 (Nat.le_of_ble_eq_true rfl) ?_
  try dsimp only [zs0, zsI, zsP, zsN, zsJ, zsS, zst2, Nat.reduceAdd]
  refine l_readTheory d t t3 sK sR sT K 400 0 p m1 (cZ c) (by omega) (by have := hA.1; omega) (cZ_inv c) (cZ_mz c) ⟨kTx_1 hK (fun j _ => fE_at f1 (by omega)) (fun j => fE_at f1 (by omega)), kAt_1 hA (fun j _ _ => fE_at f1 (by omega)), p1, c1, l1.1, wfD_of (cZ_inv c).1⟩ (fRT_th zfr_rf f1) (fun m2 wl h => ?_)
  rcases h with ⟨a1, a2, a3, a4⟩ | ⟨a1, a2, a3, a4, a5, a6⟩
  · have hI2 := pText_ok hK.1 401 (cZ c) p (cZ_inv c) a1
    have hz2 := pText_mz 401 (cZ c) p (cZ_inv c) (cZ_mz c) hK.1 a1
    obtain ⟨w2, q2, hf2⟩ := flat_ex (wfD_of hI2.1)
    refine z_aload_n dX8_readTheory_98 rfl ?_
    refine z_callV mlX8_44 dX8_readTheory_99 (sT0 sT) (av := _) rfl rfl (Nat.le_of_ble_eq_true rfl) (c_renumber (d + 2) t (by omega) sT a4.2.2.1 _ a4.2.2.2.2.2 a4.2.2.2.1 hz2 w2 q2 _ hf2 hI2.2.1) (Nat.le_refl _) (Nat.le_refl _) (Nat.le_refl _) (Nat.le_refl _) ?_
    rintro _ m3 ⟨rfl, f3, p3, c3, l3, v3⟩
    refine z_iload_n dX8_readTheory_102 rfl ?_
    rw [show wl = 1 by simpa using a2]
    refine z_zret dX8_readTheory_103 rfl (Or.inr rfl) rfl ?_
    exact Or.inl ⟨a1, rfl, fRT_th (zfr_tr zfr_rf a3) (zfr_sub f3 fR_sub), p3, c3, ⟨w2, q2, _, hf2, l3⟩, v3⟩
  · obtain ⟨p2, c2, hO2, ct2⟩ := a6
    obtain ⟨w2, q2, hf2⟩ := flat_ex hO2.1
    refine z_aload_n dX8_readTheory_98 rfl ?_
    refine z_callV mlX8_44 dX8_readTheory_99 (sT0 sT) (av := _) rfl rfl (Nat.le_of_ble_eq_true rfl) (c_renumber (d + 2) t (by omega) sT p2 _ hO2.1 ct2 hO2.2.1 w2 q2 _ hf2 hO2.2.2) (Nat.le_refl _) (Nat.le_refl _) (Nat.le_refl _) (Nat.le_refl _) ?_
    rintro _ m3 ⟨rfl, f3, p3, -, -, -⟩
    refine z_iload_n dX8_readTheory_102 rfl ?_
    rw [show wl = 0 by simpa using a2]
    refine z_zret dX8_readTheory_103 rfl (Or.inl rfl) rfl ?_
    refine Or.inr ⟨a1, rfl, zfr_tr a3 (zfr_sub f3 (fun q hq => List.mem_cons_of_mem _ (List.mem_cons_of_mem _ (List.mem_append_right _ (fR_sub q hq))))), ?_, ?_, p3⟩
    · rw [fR_at f3 (by omega) (by omega)]; exact a4
    · rw [fR_at f3 (by omega) (by omega)]; exact a5
