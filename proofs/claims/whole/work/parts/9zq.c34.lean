abbrev zLi := List Int
theorem pTb_fr {m m' : zM} {p a : Int} {n : Nat} {od br : Int → Bool} {A : Nat} {L : zLr} {ρ : Int} {x : Int} (h : pTb m p a n od br A L ρ) (f : zfr [(x, none)] m m') (hx : p ≠ x ∧ a ≠ x ∧ a + 1 ≠ x) : pTb m' p a n od br A L ρ := by
  unfold pTb at *
  rw [fB_o f hx.1, fB_o f hx.1, fB_o f hx.1, fB_o f hx.1, fB_o f hx.1, fB_o f hx.1]
  exact ⟨h.1, h.2.1, h.2.2.1, h.2.2.2.1, h.2.2.2.2.1, h.2.2.2.2.2.1, fun t mt ht => by rw [fB_o f hx.2.1, fB_o f hx.2.2]; exact h.2.2.2.2.2.2 t mt ht⟩
theorem rOk_full {n : Nat} {may : Int → Int → Bool} {A : Nat} {r : Int → Int} (h : rOk n may A r) (hA : ∀ x, x < n → A.testBit x = true) (_hn : n ≤ 12) : sFull n may (sMk A r) := by
  have h0 : ∀ i : Int, 0 ≤ i → i < n → 0 ≤ sMk A r i := fun i i0 i1 => by
    have := h.2.2.1 i.toNat (by omega) (hA _ (by omega))
    rw [show ((i.toNat : Nat) : Int) = i by omega] at this
    exact this
  refine ⟨fun i i0 i1 => ?_, ?_⟩
  · have g := h.1 i i0 i1 (h0 i i0 i1)
    exact ⟨h0 i i0 i1, g.1, g.2.1, g.2.2, h.2.2.2 i i0 i1⟩
  · have e1 : sOp (sMk A r) n = zsum (fun x => zb (sMk A r x < x)) n 0 := by
      unfold sOp
      rw [← pIv_re (G := fun i => zb (i < sMk A r i)) h.1]
      refine zsum_congr (fun x x0 x1 => ?_)
      show zb ((if sMk A r x < 0 then x else sMk A r x) < sMk A r (if sMk A r x < 0 then x else sMk A r x)) = _
      have := h0 x x0 (by omega)
      rw [if_neg (by omega), (h.1 x x0 (by omega) this).2.2]
    have e2 : zsum (fun x => zb (x < sMk A r x) + zb (sMk A r x < x)) n 0 = zsum (fun _ => 1) n 0 := zsum_congr (fun x x0 x1 => by
      have g := (h.1 x x0 (by omega) (h0 x x0 (by omega))).2.1
      rcases Int.lt_trichotomy x (sMk A r x) with z | z | z
      · rw [zb_t z, zb_f (by omega)]; rfl
      · exact absurd z.symm g
      · rw [zb_f (by omega), zb_t z]; rfl)
    rw [zsum_add, zsum_k1] at e2
    have e3 : sOp (sMk A r) n = zsum (fun i => zb (i < sMk A r i)) n 0 := rfl
    omega
theorem l_rowOf (d : Nat) {E : zE} {m : zM} {P : Option zV → zM → Prop} (s14 : E.1 14 = (6, 20)) (s22 : E.1 22 = (1, 120)) (s23 : E.1 23 = (1, 6)) (s24 : E.1 24 = (1, 6)) (q22 : m 14 2 = 22) (q23 : m 14 3 = 23) (q24 : m 14 4 = 24) (t : Int) (t7 : 24 < t) (sT : shT E t) (pT : ptT m t) (c w q : Int → Int) (n : Int) (hw : wfC c) (hl : wfL c w q n) (hc : cTh m t c) (hF : cFl m t c w q n) (p a cap : Int) (sp : E.1 p = (10, 7)) (sa : E.1 a = (2, cap)) (sb : E.1 (a + 1) = (1, cap)) (a0 : 0 < a) (pf : p ≠ 23 ∧ a ≠ 23 ∧ a + 1 ≠ 23) (A : Nat) (hA : ∀ x, x < n.toNat → A.testBit x = true) (L : zLr) (ρ : Int) (hT : pTb m p a n.toNat (cOd c w) (cBr c w) A L ρ) (hok : ∀ r ∈ L, rOk n.toNat (cMay c w q) A r) (hL : (L.length : Int) ≤ cap) (hLb : L.length ≤ 10395) (hρ : 0 ≤ ρ ∧ ρ ≤ 1) (k : Nat) (mt : Int → Int) (hk : L[k]? = some mt) : ∀ (j : Nat) (i : Nat) (Pre : zLi) (m1 : zM), (i + j = n.toNat) → (zfr [(23, none)] m m1) → (sCL n.toNat (cCode c w q) (sMk A mt) (n.toNat) (0) = Pre ++ sCL n.toNat (cCode c w q) (sMk A mt) (j) ((i : Int))) → (∀ x : Nat, x < Pre.length → m1 23 (x : Int) = lf Pre (x : Int)) → (∀ m', zfr [(23, none)] m m' → (∀ x : Nat, x < (sCL n.toNat (cCode c w q) (sMk A mt) (n.toNat) (0)).length → m' 23 (x : Int) = lf (sCL n.toNat (cCode c w q) (sMk A mt) (n.toNat) (0)) (x : Int)) → zA zX0_rowOf (d + 1) E E P 62 [zP 14, zP t, zP p, zI (k : Nat), zI ((sCL n.toNat (cCode c w q) (sMk A mt) (n.toNat) (0)).length : Nat), zN, zN] [] m' E) → zA zX0_rowOf (d + 1) E E P 6 [zP 14, zP t, zP p, zI (k : Nat), zI (Pre.length : Nat), zI (i : Nat), zN] [] m1 E := by
  intro j
  induction j with
  | zero =>
    intro i Pre m1 hj hf hpre hrow hP
    have hn := hl.1
    have hr := hok mt (List.mem_of_getElem? hk)
    have hfu := rOk_full hr hA (by omega)
    have hlen : 2 * ((sCL n.toNat (cCode c w q) (sMk A mt) (n.toNat) (0)).length : Int) = n := by rw [sCL_len hfu (Nat.le_refl _)]; have := hfu.2; unfold sOp at this; omega
    have hpl : (sCL n.toNat (cCode c w q) (sMk A mt) (n.toNat) (0)).length = Pre.length + (sCL n.toNat (cCode c w q) (sMk A mt) (0) ((i : Int))).length := by rw [hpre, List.length_append]
    refine z_iload dX0_rowOf_6 rfl ?_
    refine z_aload_n dX0_rowOf_8 rfl ?_
    refine z_gIv 14 rfl flX0_74 dX0_rowOf_9 (sT0 sT) rfl ((fB_o hf (by omega)).trans hF.1) ?_
    refine z_icmp_ge (tgt := 62) dX0_rowOf_12 rfl (fun h12 => ?_) (fun h => absurd (by omega) h)
    have hnil : sCL n.toNat (cCode c w q) (sMk A mt) (0) ((i : Int)) = [] := rfl
    refine zA_wk [_, _, _, _, _, zN, zN] (by exact ⟨Or.inr rfl, Or.inr rfl, Or.inr rfl, Or.inr rfl, Or.inr rfl, Or.inl rfl, Or.inl rfl, trivial⟩) ?_
    rw [show Pre = sCL n.toNat (cCode c w q) (sMk A mt) (n.toNat) (0) by rw [hpre, hnil, List.append_nil]] at hrow ⊢
    exact hP m1 hf hrow
  | succ j ih =>
    intro i Pre m1 hj hf hpre hrow hP
    have hn := hl.1
    have hr := hok mt (List.mem_of_getElem? hk)
    have hfu := rOk_full hr hA (by omega)
    have hlen : 2 * ((sCL n.toNat (cCode c w q) (sMk A mt) (n.toNat) (0)).length : Int) = n := by rw [sCL_len hfu (Nat.le_refl _)]; have := hfu.2; unfold sOp at this; omega
    have hpl : (sCL n.toNat (cCode c w q) (sMk A mt) (n.toNat) (0)).length = Pre.length + (sCL n.toNat (cCode c w q) (sMk A mt) (j + 1) ((i : Int))).length := by rw [hpre, List.length_append]
    have hin := hfu.1 (i : Int) (by omega) (by omega)
    have hdg : ((dg (sMk A mt) n.toNat i : Nat) : Int) = sMk A mt (i : Int) := by unfold dg; rw [if_pos ⟨by omega, hin.1⟩]; omega
    have hs1 : sCL n.toNat (cCode c w q) (sMk A mt) (j + 1) ((i : Int)) = (if sMk A mt (i : Int) < (i : Int) then [] else [cCode c w q (i : Int) (sMk A mt (i : Int))]) ++ sCL n.toNat (cCode c w q) (sMk A mt) (j) ((i : Int) + 1) := sCat_s _ _ _
    refine z_iload dX0_rowOf_6 rfl ?_
    refine z_aload_n dX0_rowOf_8 rfl ?_
    refine z_gIv 14 rfl flX0_74 dX0_rowOf_9 (sT0 sT) rfl ((fB_o hf (by omega)).trans hF.1) ?_
    refine z_icmp_ge (tgt := 62) dX0_rowOf_12 rfl (fun h => absurd h (by omega)) (fun h12 => ?_)
    refine z_iload dX0_rowOf_15 rfl ?_
    refine z_bipush dX0_rowOf_17 rfl (by decide) ?_
    refine z_icmp_ge (tgt := 62) dX0_rowOf_19 rfl (fun h19 => ?_) (fun h19 => ?_)
    · have hnil : sCL n.toNat (cCode c w q) (sMk A mt) (j + 1) ((i : Int)) = [] := List.length_eq_zero_iff.mp (by omega)
      refine zA_wk [_, _, _, _, _, zN, zN] (by exact ⟨Or.inr rfl, Or.inr rfl, Or.inr rfl, Or.inr rfl, Or.inr rfl, Or.inl rfl, Or.inl rfl, trivial⟩) ?_
      rw [show Pre = sCL n.toNat (cCode c w q) (sMk A mt) (n.toNat) (0) by rw [hpre, hnil, List.append_nil]] at hrow ⊢
      exact hP m1 hf hrow
    · refine z_aload_n dX0_rowOf_22 rfl ?_
      refine z_iload_n dX0_rowOf_23 rfl ?_
      refine z_iload dX0_rowOf_24 rfl ?_
      refine z_callV mlX0_144 dX0_rowOf_26 sp (av := [_, _]) rfl rfl (Nat.le_of_ble_eq_true rfl) (c_tMate _ p a cap sp sa sb a0 n.toNat (by omega) (cMay c w q) (cOd c w) (cBr c w) A L ρ (pTb_fr hT hf pf) hok hL hLb hρ k mt hk i (by omega)) (Nat.le_refl _) (Nat.le_refl _) (Nat.le_refl _) (Nat.le_refl _) ?_
      rintro _ _ ⟨rfl, rfl⟩
      rw [hdg]
      refine z_istore dX0_rowOf_29 (Nat.le_of_ble_eq_true rfl) ?_
      refine z_iload dX0_rowOf_31 rfl ?_
      refine z_iload dX0_rowOf_33 rfl ?_
      try dsimp only [zs0, zsI, zsP, zsN, zsJ, zsS, zst2, Nat.reduceAdd]
      refine z_icmp_ge (tgt := 56) dX0_rowOf_35 rfl (fun h35 => ?_) (fun h35 => ?_)
      · refine z_inc dX0_rowOf_56 rfl (by omega) ?_
        refine z_goto (tgt := 6) dX0_rowOf_59 rfl ?_
        try dsimp only [zs0, zsI, zsP, zsN, zsJ, zsS, zst2, Nat.reduceAdd]
        refine zA_wk [_, _, _, _, _, _, zN] (by exact ⟨Or.inr rfl, Or.inr rfl, Or.inr rfl, Or.inr rfl, Or.inr rfl, Or.inr rfl, Or.inl rfl, trivial⟩) ?_
        rw [show (i : Int) + 1 = ((i + 1 : Nat) : Int) by omega]
        rw [hs1, if_pos (by omega), show (i : Int) + 1 = ((i + 1 : Nat) : Int) by omega, List.nil_append] at hpre
        exact ih (i + 1) Pre m1 (by omega) hf hpre hrow hP
      · refine z_aload_n dX0_rowOf_38 rfl ?_
        refine z_gP 3 rfl (r := 23) flX0_29 dX0_rowOf_39 s14 rfl ((fB_o hf (by omega)).trans q23) (by omega) ?_
        refine z_iload dX0_rowOf_42 rfl ?_
        refine z_aload_n dX0_rowOf_44 rfl ?_
        refine z_iload dX0_rowOf_45 rfl ?_
        refine z_iload dX0_rowOf_47 rfl ?_
        refine z_callV mlX0_148 dX0_rowOf_49 (sT0 sT) (av := [_, _]) rfl rfl (Nat.le_of_ble_eq_true rfl) (c_codeOf _ t (by omega) sT (ptT_in pT (fun b j h1 h2 => fB_o hf (by omega))) c (wfD_of hw) (cTh_in pT (wfD_of hw) hc (fun b j h1 h2 => fB_o hf (by omega))) w q n hl (cFl_in hF (fun b j h1 h2 => fB_o hf (by omega))) (i : Int) (sMk A mt (i : Int)) (by omega) (by omega) (by omega) (by omega) (hin.2.2.2.2 (by omega))) (Nat.le_refl _) (Nat.le_refl _) (Nat.le_refl _) (Nat.le_refl _) ?_
        rintro _ _ ⟨rfl, rfl⟩
        refine z_iast dX0_rowOf_52 s23 (by omega) (by omega) ?_
        refine z_inc dX0_rowOf_53 rfl (by omega) ?_
        refine z_inc dX0_rowOf_56 rfl (by omega) ?_
        refine z_goto (tgt := 6) dX0_rowOf_59 rfl ?_
        try dsimp only [zs0, zsI, zsP, zsN, zsJ, zsS, zst2, Nat.reduceAdd]
        refine zA_wk [_, _, _, _, _, _, zN] (by exact ⟨Or.inr rfl, Or.inr rfl, Or.inr rfl, Or.inr rfl, Or.inr rfl, Or.inr rfl, Or.inl rfl, trivial⟩) ?_
        rw [show (i : Int) + 1 = ((i + 1 : Nat) : Int) by omega]
        rw [hs1, if_neg (by omega), show (i : Int) + 1 = ((i + 1 : Nat) : Int) by omega, ← List.append_assoc] at hpre
        rw [show ((Pre.length : Nat) : Int) + 1 = (((Pre ++ [cCode c w q (i : Int) (sMk A mt (i : Int))]).length : Nat) : Int) by rw [List.length_append]; rfl]
        refine ih (i + 1) (Pre ++ [cCode c w q (i : Int) (sMk A mt (i : Int))]) _ (by omega) (zfr_ua hf (by simp)) hpre (fun x hx => ?_) hP
        rw [List.length_append] at hx
        simp only [List.length_cons, List.length_nil] at hx
        by_cases z : x = Pre.length
        · rw [z, zu_s]
          unfold lf
          rw [Int.toNat_natCast, List.getD_eq_getElem?_getD, List.getElem?_append_right (Nat.le_refl _), Nat.sub_self]
          rfl
        · rw [zu_j (by omega), hrow x (by omega)]
          unfold lf
          rw [Int.toNat_natCast, List.getD_eq_getElem?_getD, List.getD_eq_getElem?_getD, List.getElem?_append_left (by omega)]

theorem c_rowOf (d : Nat) {E : zE} {m : zM} (s14 : E.1 14 = (6, 20)) (s22 : E.1 22 = (1, 120)) (s23 : E.1 23 = (1, 6)) (s24 : E.1 24 = (1, 6)) (q22 : m 14 2 = 22) (q23 : m 14 3 = 23) (q24 : m 14 4 = 24) (t : Int) (t7 : 24 < t) (sT : shT E t) (pT : ptT m t) (c w q : Int → Int) (n : Int) (hw : wfC c) (hl : wfL c w q n) (hc : cTh m t c) (hF : cFl m t c w q n) (p a cap : Int) (sp : E.1 p = (10, 7)) (sa : E.1 a = (2, cap)) (sb : E.1 (a + 1) = (1, cap)) (a0 : 0 < a) (pf : p ≠ 23 ∧ a ≠ 23 ∧ a + 1 ≠ 23) (A : Nat) (hA : ∀ x, x < n.toNat → A.testBit x = true) (L : zLr) (ρ : Int) (hT : pTb m p a n.toNat (cOd c w) (cBr c w) A L ρ) (hok : ∀ r ∈ L, rOk n.toNat (cMay c w q) A r) (hL : (L.length : Int) ≤ cap) (hLb : L.length ≤ 10395) (hρ : 0 ≤ ρ ∧ ρ ≤ 1) (k : Nat) (mt : Int → Int) (hk : L[k]? = some mt) : zR zX0_rowOf (d + 1) [zP 14, zP t, zP p, zI (k : Nat)] m E E (fun r m' => r = some (zJ (sKey (lf (sCL n.toNat (cCode c w q) (sMk A mt) (n.toNat) (0))) (n / 2).toNat)) ∧ zfr [(23, none)] m m' ∧ pm (m' 23) (lf (sCL n.toNat (cCode c w q) (sMk A mt) (n.toNat) (0))) (n / 2).toNat ∧ srt (m' 23) (n / 2).toNat) := by
  have hn := hl.1
  have hr := hok mt (List.mem_of_getElem? hk)
  have hfu := rOk_full hr hA (by omega)
  have hlen : 2 * ((sCL n.toNat (cCode c w q) (sMk A mt) (n.toNat) (0)).length : Int) = n := by rw [sCL_len hfu (Nat.le_refl _)]; have := hfu.2; unfold sOp at this; omega
  refine zR_go [zP 14, zP t, zP p, zI (k : Nat), zN, zN, zN] (by decide +kernel) (Nat.le_of_ble_eq_true rfl) rfl rfl ?_
  refine z_iconst dX0_rowOf_0 (by decide) ?_
  refine z_istore dX0_rowOf_1 (Nat.le_of_ble_eq_true rfl) ?_
  refine z_iconst dX0_rowOf_3 (by decide) ?_
  refine z_istore dX0_rowOf_4 (Nat.le_of_ble_eq_true rfl) ?_
  try dsimp only [zs0, zsI, zsP, zsN, zsJ, zsS, zst2, Nat.reduceAdd]
  refine l_rowOf d s14 s22 s23 s24 q22 q23 q24 t t7 sT pT c w q n hw hl hc hF p a cap sp sa sb a0 pf A hA L ρ hT hok hL hLb hρ k mt hk n.toNat 0 [] m (by omega) zfr_rf rfl (fun x hx => absurd hx (by simp)) (fun m2 g1 h1x => ?_)
  refine z_aload_n dX0_rowOf_62 rfl ?_
  refine z_gP 3 rfl (r := 23) flX0_29 dX0_rowOf_63 s14 rfl ((fB_o g1 (by omega)).trans q23) (by omega) ?_
  refine z_iload dX0_rowOf_66 rfl ?_
  refine z_callS mlX0_151 dX0_rowOf_68 (av := [_, _]) rfl rfl (Nat.le_of_ble_eq_true rfl) (c_keyOf _ 23 6 (by decide) s23 (sCL n.toNat (cCode c w q) (sMk A mt) (n.toNat) (0)).length (by omega) (by omega) (fun x h0 h1 => by have hx := h1x x.toNat (by omega); rw [show ((x.toNat : Nat) : Int) = x by omega] at hx; rw [hx]; have := lf_code hw hl hfu h0 h1; omega)) (Nat.le_refl _) (Nat.le_refl _) (Nat.le_refl _) (Nat.le_refl _) ?_
  rintro _ m3 ⟨rfl, f3, p3, s3⟩
  refine z_lret dX0_rowOf_71 rfl rfl ?_
  have ek : sKey (m2 23) (sCL n.toNat (cCode c w q) (sMk A mt) (n.toNat) (0)).length = sKey (lf (sCL n.toNat (cCode c w q) (sMk A mt) (n.toNat) (0))) (n / 2).toNat := by
    rw [show (sCL n.toNat (cCode c w q) (sMk A mt) (n.toNat) (0)).length = (n / 2).toNat by omega]
    exact sKey_congr (fun x x0 x1 => by have hx := h1x x.toNat (by omega); rw [show ((x.toNat : Nat) : Int) = x by omega] at hx; exact hx)
  rw [ek]
  refine ⟨rfl, fun b i z1 z2 => by rw [f3 b i z1 z2, g1 b i z1 z2], ?_, ?_⟩
  · rw [show (sCL n.toNat (cCode c w q) (sMk A mt) (n.toNat) (0)).length = (n / 2).toNat by omega] at p3
    exact pm_tr p3 (pm_eq (fun x x0 x1 => by have hx := h1x x.toNat (by omega); rw [show ((x.toNat : Nat) : Int) = x by omega] at hx; exact hx))
  · rw [show (sCL n.toNat (cCode c w q) (sMk A mt) (n.toNat) (0)).length = (n / 2).toNat by omega] at s3
    exact s3
