abbrev zLn := List Nat
/-- where a change leads a point -/
def chP (ch : Nat) (x : Int) : Int := ((ch / 2 ^ (3 * x.toNat) % 8 : Nat) : Int)
theorem chP_rg (ch : Nat) (x : Int) : 0 ≤ chP ch x ∧ chP ch x < 8 := by unfold chP; omega
theorem zand_7 {a : Nat} (h : a < 2147483648) : zand (a : Int) 7 = ((a % 8 : Nat) : Int) := by
  rw [show (7 : Int) = ((7 : Nat) : Int) from rfl, zand_N h, show a &&& 7 = a % 8 from Nat.and_two_pow_sub_one_eq_mod a 3]
theorem cImg_ch {c : Int → Int} {ch : Nat} {co : Int} (h : cCodeOk c co = true) (hw : wfC c) : 0 ≤ cImg c (chP ch) co ∧ cImg c (chP ch) co < 1024 := by
  have h1 := chP_rg ch (co / 10 % 10)
  have h2 := chP_rg ch (co / 100)
  have h3 := cCodeOk_rg hw h
  unfold cImg
  split <;> omega
def sCh (nP : Nat) (al : Int → Int → Bool) : Nat → Nat → Nat → Nat → List Nat
  | 0, _, _, ch => [ch]
  | s + 1, p, used, ch => sCat (fun q => if used.testBit q.toNat = false ∧ (q = p ∨ al p q = true) then sCh nP al s (p + 1) (used ||| 2 ^ q.toNat) (ch ||| q.toNat * 2 ^ (3 * p)) else []) nP 0
def gCh (nP : Nat) (al : Int → Int → Bool) (s p used ch : Nat) : Int → zLn := fun q => if used.testBit q.toNat = false ∧ (q = p ∨ al p q = true) then sCh nP al s (p + 1) (used ||| 2 ^ q.toNat) (ch ||| q.toNat * 2 ^ (3 * p)) else []
/-- changes so far -/
def xC (m : zM) (L : zLn) : Prop := m 14 13 = (L.length : Int) ∧ ∀ (i ch : Nat), L[i]? = some ch → m 22 (i : Int) = (ch : Int)
theorem fC_o {m m' : zM} {b k : Int} (f : zfr [(22, none), (14, some 13)] m m') (h : b ≠ 22 ∧ (b ≠ 14 ∨ k ≠ 13)) : m' b k = m b k := f b k (by simp; omega) (by simp; omega)
theorem pt_nn {m : zM} {t : Int} (h : ptT m t) (t7 : 24 < t) {p : Int} (p0 : 0 ≤ p) (p1 : p < 8) : 0 ≤ m (t + 6) p := by
  obtain ⟨i, i0, i1, e⟩ := h.2.2.1 p p0 p1
  omega
theorem gCh_is (nP : Nat) (al : Int → Int → Bool) (s p used ch : Nat) : sCh nP al (s + 1) p used ch = sCat (gCh nP al s p used ch) nP ((0 : Nat) : Int) := rfl
theorem xC_st {m : zM} {L : zLn} {ch : Nat} (h : xC m L) : xC (zu (zu m 22 (L.length : Int) (ch : Int)) 14 13 ((L.length : Int) + 1)) (L ++ [ch]) := by
  refine ⟨by rw [zu_s, List.length_append]; rfl, fun t c ht => ?_⟩
  rw [zu_a (by decide)]
  rcases Nat.lt_or_ge t L.length with g | g
  · rw [List.getElem?_append_left g] at ht
    rw [zu_j (by omega)]
    exact h.2 t c ht
  · rw [List.getElem?_append_right g] at ht
    rcases Nat.eq_or_lt_of_le g with e | e
    · rw [← e, Nat.sub_self] at ht
      cases ht
      rw [← e, zu_s]
    · obtain ⟨z, hz⟩ : ∃ z, t - L.length = z + 1 := ⟨t - L.length - 1, by omega⟩
      rw [hz] at ht
      cases ht
theorem l_imageOf (d : Nat) {E : zE} {m : zM} {P : Option zV → zM → Prop} (s14 : E.1 14 = (6, 20)) (s22 : E.1 22 = (1, 120)) (s23 : E.1 23 = (1, 6)) (s24 : E.1 24 = (1, 6)) (q22 : m 14 2 = 22) (q23 : m 14 3 = 23) (q24 : m 14 4 = 24) (t : Int) (t7 : 24 < t) (sT : shT E t) (pT : ptT m t) (c : Int → Int) (hw : wfC c) (hc : cTh m t c) (h : Nat) (h6 : h ≤ 6) (q14 : m 14 14 = (h : Int)) (hco : ∀ x : Int, 0 ≤ x → x < h → cCodeOk c (m 23 x) = true) (ch : Nat) (hch : ch < 16777216) : ∀ (j : Nat) (i : Nat) (m1 : zM), (i + j = h) → (zfr [(24, none)] m m1) → (∀ x : Int, 0 ≤ x → x < (i : Int) → m1 24 x = (fun x => cImg c (chP ch) (m 23 x)) x) → (∀ m', zfr [(24, none)] m m' → P (some (zJ (sV c (m 23) h (chP ch)))) m') → zA zX0_imageOf (d + 1) E E P 2 [zP 14, zP t, zI (ch : Nat), zI (i : Nat), zN, zN] [] m1 E := by
  intro j
  induction j with
  | zero =>
    intro i m1 hj hf hi_ hP
    refine z_iload_n dX0_imageOf_2 rfl ?_
    refine z_aload_n dX0_imageOf_3 rfl ?_
    refine z_gIv 14 rfl flX0_79 dX0_imageOf_4 s14 rfl ((fB_o hf (by omega)).trans q14) ?_
    refine z_icmp_ge (tgt := 78) dX0_imageOf_7 rfl (fun h7 => ?_) (fun h => absurd (by omega) h)
    refine z_aload_n dX0_imageOf_78 rfl ?_
    refine z_gP 4 rfl (r := 24) flX0_32 dX0_imageOf_79 s14 rfl ((fB_o hf (by omega)).trans q24) (by omega) ?_
    refine z_aload_n dX0_imageOf_82 rfl ?_
    refine z_gIv 14 rfl flX0_79 dX0_imageOf_83 s14 rfl ((fB_o hf (by omega)).trans q14) ?_
    refine z_callS mlX0_151 dX0_imageOf_86 (av := [_, _]) rfl rfl (Nat.le_of_ble_eq_true rfl) (c_keyOf _ 24 6 (by decide) s24 h (by omega) h6 (fun x h0 h1 => by rw [hi_ x h0 (by omega)]; exact cImg_ch (hco x h0 h1) hw)) (Nat.le_refl _) (Nat.le_refl _) (Nat.le_refl _) (Nat.le_refl _) ?_
    rintro _ m3 ⟨rfl, f3, -, -⟩
    refine z_lret dX0_imageOf_89 rfl rfl ?_
    have ek : sKey (m1 24) h = sV c (m 23) h (chP ch) := sKey_congr (fun x x0 x1 => hi_ x x0 (by omega))
    rw [ek]
    exact hP m3 (fun b i z1 z2 => by rw [f3 b i z1 z2, hf b i z1 z2])
  | succ j ih =>
    intro i m1 hj hf hi_ hP
    have hok := cCodeOk_iff.mp (hco (i : Int) (by omega) (by omega))
    have hrg := cCodeOk_rg hw (hco (i : Int) (by omega) (by omega))
    have hc2 := hw.2.2.1
    refine z_iload_n dX0_imageOf_2 rfl ?_
    refine z_aload_n dX0_imageOf_3 rfl ?_
    refine z_gIv 14 rfl flX0_79 dX0_imageOf_4 s14 rfl ((fB_o hf (by omega)).trans q14) ?_
    refine z_icmp_ge (tgt := 78) dX0_imageOf_7 rfl (fun h => absurd h (by omega)) (fun h7 => ?_)
    refine z_iload_n dX0_imageOf_10 rfl ?_
    refine z_iconst dX0_imageOf_11 (by decide) ?_
    refine z_aload_n dX0_imageOf_12 rfl ?_
    refine z_gP 3 rfl (r := 23) flX0_29 dX0_imageOf_13 s14 rfl ((fB_o hf (by omega)).trans q23) (by omega) ?_
    refine z_iload_n dX0_imageOf_16 rfl ?_
    refine z_ialv (v := (m 23 (i : Int))) dX0_imageOf_17 s23 (by omega) (by omega) (fB_o hf (by omega)) ?_
    refine z_bipush dX0_imageOf_18 rfl (by decide) ?_
    refine z_div dX0_imageOf_20 (by omega) (by omega) ?_
    refine z_mul dX0_imageOf_21 (by omega) ?_
    refine z_ishr dX0_imageOf_22 ?_
    rw [show 3 * ((m 23 (i : Int)) / 100) = ((3 * ((m 23 (i : Int)) / 100).toNat : Nat) : Int) by omega, zshr_N (by omega) (by omega)]
    refine z_bipush dX0_imageOf_23 rfl (by decide) ?_
    refine z_iand dX0_imageOf_25 ?_
    rw [zand_7 (by have := Nat.div_le_self ch (2 ^ (3 * ((m 23 (i : Int)) / 100).toNat)); omega), show ((ch / 2 ^ (3 * ((m 23 (i : Int)) / 100).toNat) % 8 : Nat) : Int) = chP ch ((m 23 (i : Int)) / 100) from rfl]
    refine z_istore dX0_imageOf_26 (Nat.le_of_ble_eq_true rfl) ?_
    refine z_iload_n dX0_imageOf_28 rfl ?_
    refine z_iconst dX0_imageOf_29 (by decide) ?_
    refine z_aload_n dX0_imageOf_30 rfl ?_
    refine z_gP 3 rfl (r := 23) flX0_29 dX0_imageOf_31 s14 rfl ((fB_o hf (by omega)).trans q23) (by omega) ?_
    refine z_iload_n dX0_imageOf_34 rfl ?_
    refine z_ialv (v := (m 23 (i : Int))) dX0_imageOf_35 s23 (by omega) (by omega) (fB_o hf (by omega)) ?_
    refine z_bipush dX0_imageOf_36 rfl (by decide) ?_
    refine z_div dX0_imageOf_38 (by omega) (by omega) ?_
    refine z_bipush dX0_imageOf_39 rfl (by decide) ?_
    refine z_rem dX0_imageOf_41 (by omega) (by omega) ?_
    refine z_mul dX0_imageOf_42 (by omega) ?_
    refine z_ishr dX0_imageOf_43 ?_
    rw [show 3 * ((m 23 (i : Int)) / 10 % 10) = ((3 * ((m 23 (i : Int)) / 10 % 10).toNat : Nat) : Int) by omega, zshr_N (by omega) (by omega)]
    refine z_bipush dX0_imageOf_44 rfl (by decide) ?_
    refine z_iand dX0_imageOf_46 ?_
    rw [zand_7 (by have := Nat.div_le_self ch (2 ^ (3 * ((m 23 (i : Int)) / 10 % 10).toNat)); omega), show ((ch / 2 ^ (3 * ((m 23 (i : Int)) / 10 % 10).toNat) % 8 : Nat) : Int) = chP ch ((m 23 (i : Int)) / 10 % 10) from rfl]
    refine z_istore dX0_imageOf_47 (Nat.le_of_ble_eq_true rfl) ?_
    refine z_aload_n dX0_imageOf_49 rfl ?_
    refine z_gP 4 rfl (r := 24) flX0_32 dX0_imageOf_50 s14 rfl ((fB_o hf (by omega)).trans q24) (by omega) ?_
    refine z_iload_n dX0_imageOf_53 rfl ?_
    refine z_aload_n dX0_imageOf_54 rfl ?_
    refine z_iload dX0_imageOf_55 rfl ?_
    refine z_iload dX0_imageOf_57 rfl ?_
    refine z_aload_n dX0_imageOf_59 rfl ?_
    refine z_gP 3 rfl (r := 23) flX0_29 dX0_imageOf_60 s14 rfl ((fB_o hf (by omega)).trans q23) (by omega) ?_
    refine z_iload_n dX0_imageOf_63 rfl ?_
    refine z_ialv (v := (m 23 (i : Int))) dX0_imageOf_64 s23 (by omega) (by omega) (fB_o hf (by omega)) ?_
    refine z_bipush dX0_imageOf_65 rfl (by decide) ?_
    refine z_rem dX0_imageOf_67 (by omega) (by omega) ?_
    try dsimp only [zs0, zsI, zsP, zsN, zsJ, zsS, zst2, Nat.reduceAdd]
    refine z_callV mlX0_169 dX0_imageOf_68 (sT0 sT) (av := [_, _, _]) rfl rfl (Nat.le_of_ble_eq_true rfl) (c_codeFor _ t (by omega) sT (ptT_in pT (fun b j h1 h2 => fB_o hf (by omega))) c (wfD_of hw) (cTh_in pT (wfD_of hw) hc (fun b j h1 h2 => fB_o hf (by omega))) (chP ch ((m 23 (i : Int)) / 100)) (chP ch ((m 23 (i : Int)) / 10 % 10)) ((m 23 (i : Int)) % 10) (by omega) (fun z => by have g := hok.2.2.2; rw [if_neg (by omega)] at g; omega) (chP_rg ch _) (chP_rg ch _) (by omega)) (Nat.le_refl _) (Nat.le_refl _) (Nat.le_refl _) (Nat.le_refl _) ?_
    rintro _ _ ⟨rfl, rfl⟩
    refine z_iast dX0_imageOf_71 s24 (by omega) (by omega) ?_
    refine z_inc dX0_imageOf_72 rfl (by omega) ?_
    refine z_goto (tgt := 2) dX0_imageOf_75 rfl ?_
    try dsimp only [zs0, zsI, zsP, zsN, zsJ, zsS, zst2, Nat.reduceAdd]
    refine zA_wk [_, _, _, _, zN, zN] (by exact ⟨Or.inr rfl, Or.inr rfl, Or.inr rfl, Or.inr rfl, Or.inl rfl, Or.inl rfl, trivial⟩) ?_
    rw [show (i : Int) + 1 = ((i + 1 : Nat) : Int) by omega]
    refine ih (i + 1) _ (by omega) (zfr_ua hf (by simp)) (fun x x0 x1 => ?_) hP
    by_cases z : x = (i : Int)
    · rw [z, zu_s]; rfl
    · rw [zu_j z]; exact hi_ x x0 (by omega)

theorem c_imageOf (d : Nat) {E : zE} {m : zM} (s14 : E.1 14 = (6, 20)) (s22 : E.1 22 = (1, 120)) (s23 : E.1 23 = (1, 6)) (s24 : E.1 24 = (1, 6)) (q22 : m 14 2 = 22) (q23 : m 14 3 = 23) (q24 : m 14 4 = 24) (t : Int) (t7 : 24 < t) (sT : shT E t) (pT : ptT m t) (c : Int → Int) (hw : wfC c) (hc : cTh m t c) (h : Nat) (h6 : h ≤ 6) (q14 : m 14 14 = (h : Int)) (hco : ∀ x : Int, 0 ≤ x → x < h → cCodeOk c (m 23 x) = true) (ch : Nat) (hch : ch < 16777216) : zR zX0_imageOf (d + 1) [zP 14, zP t, zI (ch : Nat)] m E E (fun r m' => r = some (zJ (sV c (m 23) h (chP ch))) ∧ zfr [(24, none)] m m') := by
  refine zR_go [zP 14, zP t, zI (ch : Nat), zN, zN, zN] (by decide +kernel) (Nat.le_of_ble_eq_true rfl) rfl rfl ?_
  refine z_iconst dX0_imageOf_0 (by decide) ?_
  refine z_ist 3 dX0_imageOf_1 rfl (Nat.le_of_ble_eq_true rfl) ?_
  try dsimp only [zs0, zsI, zsP, zsN, zsJ, zsS, zst2, Nat.reduceAdd]
  exact l_imageOf d s14 s22 s23 s24 q22 q23 q24 t t7 sT pT c hw hc h h6 q14 hco ch hch h 0 m (by omega) zfr_rf (fun x x0 x1 => by omega) (fun m2 f2 => ⟨rfl, f2⟩)

theorem l_listCh (d : Nat) {E : zE} {m : zM} {P : Option zV → zM → Prop} (s14 : E.1 14 = (6, 20)) (s22 : E.1 22 = (1, 120)) (s23 : E.1 23 = (1, 6)) (s24 : E.1 24 = (1, 6)) (q22 : m 14 2 = 22) (q23 : m 14 3 = 23) (q24 : m 14 4 = 24) (t : Int) (t7 : 24 < t) (sT : shT E t) (pT : ptT m t) (c : Int → Int) (hw : wfC c) (hc : cTh m t c) (u : Nat) (rec : ∀ (m1 : zM) (p used ch : Nat) (L : zLn), p + u = (c 2).toNat → used < 256 → ch < 2 ^ (3 * p) → zfr [(22, none), (14, some 13)] m m1 → xC m1 L → L.length + (sCh (c 2).toNat (cAlike c) u p used ch).length ≤ 120 → zR zX0_listChanges (d + u + 1) [zP 14, zP t, zI (p : Nat), zI (used : Nat), zI (ch : Nat)] m1 E E (fun r m' => r = none ∧ zfr [(22, none), (14, some 13)] m m' ∧ xC m' (L ++ sCh (c 2).toNat (cAlike c) u p used ch))) (p used ch : Nat) (hpu : p + (u + 1) = (c 2).toNat) (hus : used < 256) (hcl : ch < 2 ^ (3 * p)) : ∀ (j : Nat) (x : Nat) (L : zLn) (m1 : zM), (x + j = (c 2).toNat) → (zfr [(22, none), (14, some 13)] m m1) → (xC m1 L) → (L.length + (sCat (gCh (c 2).toNat (cAlike c) u p used ch) j (x : Int)).length ≤ 120) → (∀ m', zfr [(22, none), (14, some 13)] m m' → xC m' (L ++ sCat (gCh (c 2).toNat (cAlike c) u p used ch) j (x : Int)) → P none m') → zA zX0_listChanges (d + u + 2) E E P 42 [zP 14, zP t, zI (p : Nat), zI (used : Nat), zI (ch : Nat), zI (x : Nat), zN] [] m1 E := by
  intro j
  induction j with
  | zero =>
    intro x L m1 hj hf hx1 hcap hP
    have hc2 := hw.2.2.1
    have pT1 : ptT m1 t := ptT_in pT (fun b j h1 h2 => fC_o hf (by omega))
    have hc1 : cTh m1 t c := cTh_in pT (wfD_of hw) hc (fun b j h1 h2 => fC_o hf (by omega))
    refine z_iload dX0_listChanges_42 rfl ?_
    refine z_aload_n dX0_listChanges_44 rfl ?_
    refine z_gIv 13 rfl flX0_131 dX0_listChanges_45 (sT0 sT) rfl ((fC_o hf (by omega)).trans hc.2.2.1) ?_
    refine z_icmp_ge (tgt := 126) dX0_listChanges_48 rfl (fun h48 => ?_) (fun h => absurd (by omega) h)
    refine z_vret dX0_listChanges_126 rfl rfl ?_
    refine hP m1 hf ?_
    rw [show sCat (gCh (c 2).toNat (cAlike c) u p used ch) 0 (x : Int) = [] from rfl, List.append_nil]
    exact hx1
  | succ j ih =>
    intro x L m1 hj hf hx1 hcap hP
    have hc2 := hw.2.2.1
    have pT1 : ptT m1 t := ptT_in pT (fun b j h1 h2 => fC_o hf (by omega))
    have hc1 : cTh m1 t c := cTh_in pT (wfD_of hw) hc (fun b j h1 h2 => fC_o hf (by omega))
    rw [sCat_s, List.length_append] at hcap
    rw [sCat_s] at hP
    have hxe : (x : Int) + 1 = ((x + 1 : Nat) : Int) := by omega
    rw [hxe] at hcap hP
    have hx2 : 2 ^ x < 2 ^ 8 := Nat.pow_lt_pow_right (by decide) (by omega)
    have hp2 : 2 ^ (3 * p) ≤ 2 ^ 21 := Nat.pow_le_pow_right (by decide) (by omega)
    have hp3 : x * 2 ^ (3 * p) ≤ 7 * 2 ^ (3 * p) := Nat.mul_le_mul_right _ (by omega)
    have hp8 : 2 ^ (3 * (p + 1)) = 8 * 2 ^ (3 * p) := by rw [show 3 * (p + 1) = 3 * p + 3 by omega, Nat.pow_add]; omega
    refine z_iload dX0_listChanges_42 rfl ?_
    refine z_aload_n dX0_listChanges_44 rfl ?_
    refine z_gIv 13 rfl flX0_131 dX0_listChanges_45 (sT0 sT) rfl ((fC_o hf (by omega)).trans hc.2.2.1) ?_
    refine z_icmp_ge (tgt := 126) dX0_listChanges_48 rfl (fun h => absurd h (by omega)) (fun h48 => ?_)
    refine z_iload_n dX0_listChanges_51 rfl ?_
    refine z_iload dX0_listChanges_52 rfl ?_
    refine z_icmp_eq (tgt := 76) dX0_listChanges_54 rfl (fun h54 => ?_) (fun h54 => ?_)
    · refine z_iconst dX0_listChanges_76 (by decide) ?_
      refine z_goto (tgt := 81) dX0_listChanges_77 rfl ?_
      refine z_istore dX0_listChanges_81 (Nat.le_of_ble_eq_true rfl) ?_
      refine z_iload dX0_listChanges_83 rfl ?_
      try dsimp only [zs0, zsI, zsP, zsN, zsJ, zsS, zst2, Nat.reduceAdd]
      refine z_if_eq (tgt := 120) dX0_listChanges_85 rfl (fun h => absurd h (by omega)) (fun h85 => ?_)
      refine z_iload_n dX0_listChanges_88 rfl ?_
      refine z_iload dX0_listChanges_89 rfl ?_
      refine z_ishr dX0_listChanges_91 ?_
      refine z_iconst dX0_listChanges_92 (by decide) ?_
      refine z_iand dX0_listChanges_93 ?_
      rw [zbit (by omega) (by omega)]
      refine z_if_ne (tgt := 120) dX0_listChanges_94 rfl (fun h94 => ?_) (fun h94 => ?_)
      · refine z_inc dX0_listChanges_120 rfl (by omega) ?_
        refine z_goto (tgt := 42) dX0_listChanges_123 rfl ?_
        try dsimp only [zs0, zsI, zsP, zsN, zsJ, zsS, zst2, Nat.reduceAdd]
        refine zA_wk [_, _, _, _, _, _, zN] (by exact ⟨Or.inr rfl, Or.inr rfl, Or.inr rfl, Or.inr rfl, Or.inr rfl, Or.inr rfl, Or.inl rfl, trivial⟩) ?_
        rw [show (x : Int) + 1 = ((x + 1 : Nat) : Int) by omega]
        have hg0 : (gCh (c 2).toNat (cAlike c) u p used ch) (x : Int) = [] := if_neg (fun g => by
          rw [Int.toNat_natCast] at g
          rw [zb_f (by rw [g.1]; decide)] at h94
          exact absurd rfl h94)
        rw [hg0] at hcap hP
        exact ih (x + 1) L m1 (by omega) hf hx1 (by rw [List.length_nil] at hcap; omega) hP
      · have hg : (gCh (c 2).toNat (cAlike c) u p used ch) (x : Int) = sCh (c 2).toNat (cAlike c) u (p + 1) (used ||| 2 ^ x) (ch ||| x * 2 ^ (3 * p)) := if_pos ⟨by
          rw [Int.toNat_natCast]
          by_cases e : used.testBit x = true
          · rw [zb_t e] at h94; exact absurd (show (1 : Int) ≠ 0 by decide) h94
          · cases e2 : used.testBit x; rfl; exact absurd e2 e, Or.inl (by omega)⟩
        refine z_aload_n dX0_listChanges_97 rfl ?_
        refine z_aload_n dX0_listChanges_98 rfl ?_
        refine z_iload_n dX0_listChanges_99 rfl ?_
        refine z_iconst dX0_listChanges_100 (by decide) ?_
        refine z_add dX0_listChanges_101 (by omega) ?_
        rw [show (p : Int) + 1 = ((p + 1 : Nat) : Int) by omega]
        refine z_iload_n dX0_listChanges_102 rfl ?_
        refine z_iconst dX0_listChanges_103 (by decide) ?_
        refine z_iload dX0_listChanges_104 rfl ?_
        refine z_ishl dX0_listChanges_106 ?_
        rw [zshl_1 (by omega)]
        refine z_ior dX0_listChanges_107 ?_
        rw [zor_N (by omega) (by omega)]
        refine z_iload dX0_listChanges_108 rfl ?_
        refine z_iload dX0_listChanges_110 rfl ?_
        refine z_iconst dX0_listChanges_112 (by decide) ?_
        refine z_iload_n dX0_listChanges_113 rfl ?_
        refine z_mul dX0_listChanges_114 (by omega) ?_
        refine z_ishl dX0_listChanges_115 ?_
        rw [show 3 * (p : Int) = ((3 * p : Nat) : Int) by omega, zshl_N (by omega) (by omega)]
        refine z_ior dX0_listChanges_116 ?_
        rw [zor_N (by omega) (by omega)]
        refine z_callV mlX0_101 dX0_listChanges_117 s14 (av := [_, _, _, _]) rfl rfl (Nat.le_of_ble_eq_true rfl) (rec m1 (p + 1) (used ||| 2 ^ x) (ch ||| x * 2 ^ (3 * p)) L (by omega) (Nat.or_lt_two_pow (n := 8) hus hx2) (Nat.or_lt_two_pow (by omega) (by omega)) hf hx1 (by rw [hg] at hcap; omega)) (Nat.le_refl _) (Nat.le_refl _) (Nat.le_refl _) (Nat.le_refl _) ?_
        rintro _ m2 ⟨rfl, f2, x2⟩
        refine z_inc dX0_listChanges_120 rfl (by omega) ?_
        refine z_goto (tgt := 42) dX0_listChanges_123 rfl ?_
        try dsimp only [zs0, zsI, zsP, zsN, zsJ, zsS, zst2, Nat.reduceAdd]
        refine zA_wk [_, _, _, _, _, _, zN] (by exact ⟨Or.inr rfl, Or.inr rfl, Or.inr rfl, Or.inr rfl, Or.inr rfl, Or.inr rfl, Or.inl rfl, trivial⟩) ?_
        rw [show (x : Int) + 1 = ((x + 1 : Nat) : Int) by omega]
        rw [← hg] at x2
        exact ih (x + 1) (L ++ (gCh (c 2).toNat (cAlike c) u p used ch) (x : Int)) m2 (by omega) f2 x2 (by rw [List.length_append]; omega) (fun m3 g1 g2 => hP m3 g1 (by rw [List.append_assoc] at g2; exact g2))
    · refine z_aload_n dX0_listChanges_57 rfl ?_
      refine z_gP 5 rfl (r := t + 6) flX0_134 dX0_listChanges_58 (sT0 sT) rfl (pT5 pT1) (by omega) ?_
      refine z_iload_n dX0_listChanges_61 rfl ?_
      refine z_aald dX0_listChanges_62 (sT6 sT) (by omega) (by omega) (r := m1 (t + 6) (p : Int)) rfl (pt_nn pT1 t7 (by omega) (by omega)) ?_
      refine z_aload_n dX0_listChanges_63 rfl ?_
      refine z_gP 5 rfl (r := t + 6) flX0_134 dX0_listChanges_64 (sT0 sT) rfl (pT5 pT1) (by omega) ?_
      refine z_iload dX0_listChanges_67 rfl ?_
      refine z_aald dX0_listChanges_69 (sT6 sT) (by omega) (by omega) (r := m1 (t + 6) (x : Int)) rfl (pt_nn pT1 t7 (by omega) (by omega)) ?_
      refine z_callV mlX0_138 dX0_listChanges_70 (pO sT pT1 (by omega : (0 : Int) ≤ (p : Int)) (by omega)).1 (av := [_]) rfl rfl (Nat.le_of_ble_eq_true rfl) (c_isAlike _ t (by omega) sT pT1 c (wfD_of hw) hc1 (p : Int) (x : Int) (by omega) (by omega) (by omega) (by omega)) (Nat.le_refl _) (Nat.le_refl _) (Nat.le_refl _) (Nat.le_refl _) ?_
      rintro _ _ ⟨rfl, rfl⟩
      refine z_ifz_eq (tgt := 80) dX0_listChanges_73 rfl (fun h73 => ?_) (fun h73 => ?_)
      · refine z_iconst dX0_listChanges_80 (by decide) ?_
        refine z_istore dX0_listChanges_81 (Nat.le_of_ble_eq_true rfl) ?_
        refine z_iload dX0_listChanges_83 rfl ?_
        try dsimp only [zs0, zsI, zsP, zsN, zsJ, zsS, zst2, Nat.reduceAdd]
        refine z_if_eq (tgt := 120) dX0_listChanges_85 rfl (fun h85 => ?_) (fun h => absurd (by omega) h)
        refine z_inc dX0_listChanges_120 rfl (by omega) ?_
        refine z_goto (tgt := 42) dX0_listChanges_123 rfl ?_
        try dsimp only [zs0, zsI, zsP, zsN, zsJ, zsS, zst2, Nat.reduceAdd]
        refine zA_wk [_, _, _, _, _, _, zN] (by exact ⟨Or.inr rfl, Or.inr rfl, Or.inr rfl, Or.inr rfl, Or.inr rfl, Or.inr rfl, Or.inl rfl, trivial⟩) ?_
        rw [show (x : Int) + 1 = ((x + 1 : Nat) : Int) by omega]
        have hg0 : (gCh (c 2).toNat (cAlike c) u p used ch) (x : Int) = [] := if_neg (fun g => by
          rcases g.2 with z | z
          · exact h54 z.symm
          · exact h73 z)
        rw [hg0] at hcap hP
        exact ih (x + 1) L m1 (by omega) hf hx1 (by rw [List.length_nil] at hcap; omega) hP
      · refine z_iconst dX0_listChanges_76 (by decide) ?_
        refine z_goto (tgt := 81) dX0_listChanges_77 rfl ?_
        refine z_istore dX0_listChanges_81 (Nat.le_of_ble_eq_true rfl) ?_
        refine z_iload dX0_listChanges_83 rfl ?_
        try dsimp only [zs0, zsI, zsP, zsN, zsJ, zsS, zst2, Nat.reduceAdd]
        refine z_if_eq (tgt := 120) dX0_listChanges_85 rfl (fun h => absurd h (by omega)) (fun h85 => ?_)
        refine z_iload_n dX0_listChanges_88 rfl ?_
        refine z_iload dX0_listChanges_89 rfl ?_
        refine z_ishr dX0_listChanges_91 ?_
        refine z_iconst dX0_listChanges_92 (by decide) ?_
        refine z_iand dX0_listChanges_93 ?_
        rw [zbit (by omega) (by omega)]
        refine z_if_ne (tgt := 120) dX0_listChanges_94 rfl (fun h94 => ?_) (fun h94 => ?_)
        · refine z_inc dX0_listChanges_120 rfl (by omega) ?_
          refine z_goto (tgt := 42) dX0_listChanges_123 rfl ?_
          try dsimp only [zs0, zsI, zsP, zsN, zsJ, zsS, zst2, Nat.reduceAdd]
          refine zA_wk [_, _, _, _, _, _, zN] (by exact ⟨Or.inr rfl, Or.inr rfl, Or.inr rfl, Or.inr rfl, Or.inr rfl, Or.inr rfl, Or.inl rfl, trivial⟩) ?_
          rw [show (x : Int) + 1 = ((x + 1 : Nat) : Int) by omega]
          have hg0 : (gCh (c 2).toNat (cAlike c) u p used ch) (x : Int) = [] := if_neg (fun g => by
            rw [Int.toNat_natCast] at g
            rw [zb_f (by rw [g.1]; decide)] at h94
            exact absurd rfl h94)
          rw [hg0] at hcap hP
          exact ih (x + 1) L m1 (by omega) hf hx1 (by rw [List.length_nil] at hcap; omega) hP
        · have hg : (gCh (c 2).toNat (cAlike c) u p used ch) (x : Int) = sCh (c 2).toNat (cAlike c) u (p + 1) (used ||| 2 ^ x) (ch ||| x * 2 ^ (3 * p)) := if_pos ⟨by
            rw [Int.toNat_natCast]
            by_cases e : used.testBit x = true
            · rw [zb_t e] at h94; exact absurd (show (1 : Int) ≠ 0 by decide) h94
            · cases e2 : used.testBit x; rfl; exact absurd e2 e, Or.inr h73⟩
          refine z_aload_n dX0_listChanges_97 rfl ?_
          refine z_aload_n dX0_listChanges_98 rfl ?_
          refine z_iload_n dX0_listChanges_99 rfl ?_
          refine z_iconst dX0_listChanges_100 (by decide) ?_
          refine z_add dX0_listChanges_101 (by omega) ?_
          rw [show (p : Int) + 1 = ((p + 1 : Nat) : Int) by omega]
          refine z_iload_n dX0_listChanges_102 rfl ?_
          refine z_iconst dX0_listChanges_103 (by decide) ?_
          refine z_iload dX0_listChanges_104 rfl ?_
          refine z_ishl dX0_listChanges_106 ?_
          rw [zshl_1 (by omega)]
          refine z_ior dX0_listChanges_107 ?_
          rw [zor_N (by omega) (by omega)]
          refine z_iload dX0_listChanges_108 rfl ?_
          refine z_iload dX0_listChanges_110 rfl ?_
          refine z_iconst dX0_listChanges_112 (by decide) ?_
          refine z_iload_n dX0_listChanges_113 rfl ?_
          refine z_mul dX0_listChanges_114 (by omega) ?_
          refine z_ishl dX0_listChanges_115 ?_
          rw [show 3 * (p : Int) = ((3 * p : Nat) : Int) by omega, zshl_N (by omega) (by omega)]
          refine z_ior dX0_listChanges_116 ?_
          rw [zor_N (by omega) (by omega)]
          refine z_callV mlX0_101 dX0_listChanges_117 s14 (av := [_, _, _, _]) rfl rfl (Nat.le_of_ble_eq_true rfl) (rec m1 (p + 1) (used ||| 2 ^ x) (ch ||| x * 2 ^ (3 * p)) L (by omega) (Nat.or_lt_two_pow (n := 8) hus hx2) (Nat.or_lt_two_pow (by omega) (by omega)) hf hx1 (by rw [hg] at hcap; omega)) (Nat.le_refl _) (Nat.le_refl _) (Nat.le_refl _) (Nat.le_refl _) ?_
          rintro _ m2 ⟨rfl, f2, x2⟩
          refine z_inc dX0_listChanges_120 rfl (by omega) ?_
          refine z_goto (tgt := 42) dX0_listChanges_123 rfl ?_
          try dsimp only [zs0, zsI, zsP, zsN, zsJ, zsS, zst2, Nat.reduceAdd]
          refine zA_wk [_, _, _, _, _, _, zN] (by exact ⟨Or.inr rfl, Or.inr rfl, Or.inr rfl, Or.inr rfl, Or.inr rfl, Or.inr rfl, Or.inl rfl, trivial⟩) ?_
          rw [show (x : Int) + 1 = ((x + 1 : Nat) : Int) by omega]
          rw [← hg] at x2
          exact ih (x + 1) (L ++ (gCh (c 2).toNat (cAlike c) u p used ch) (x : Int)) m2 (by omega) f2 x2 (by rw [List.length_append]; omega) (fun m3 g1 g2 => hP m3 g1 (by rw [List.append_assoc] at g2; exact g2))

theorem c_listChanges (d : Nat) {E : zE} {m : zM} (s14 : E.1 14 = (6, 20)) (s22 : E.1 22 = (1, 120)) (s23 : E.1 23 = (1, 6)) (s24 : E.1 24 = (1, 6)) (q22 : m 14 2 = 22) (q23 : m 14 3 = 23) (q24 : m 14 4 = 24) (t : Int) (t7 : 24 < t) (sT : shT E t) (pT : ptT m t) (c : Int → Int) (hw : wfC c) (hc : cTh m t c) : ∀ (u : Nat) (m1 : zM) (p used ch : Nat) (L : zLn), p + u = (c 2).toNat → used < 256 → ch < 2 ^ (3 * p) → zfr [(22, none), (14, some 13)] m m1 → xC m1 L → L.length + (sCh (c 2).toNat (cAlike c) u p used ch).length ≤ 120 → zR zX0_listChanges (d + u + 1) [zP 14, zP t, zI (p : Nat), zI (used : Nat), zI (ch : Nat)] m1 E E (fun r m' => r = none ∧ zfr [(22, none), (14, some 13)] m m' ∧ xC m' (L ++ sCh (c 2).toNat (cAlike c) u p used ch)) := by
  intro u
  induction u with
  | zero =>
    intro m1 p used ch L hpu hus hcl hf hx hcap
    have hc2 := hw.2.2.1
    have pT1 : ptT m1 t := ptT_in pT (fun b j h1 h2 => fC_o hf (by omega))
    have hc1 : cTh m1 t c := cTh_in pT (wfD_of hw) hc (fun b j h1 h2 => fC_o hf (by omega))
    rw [show (sCh (c 2).toNat (cAlike c) 0 p used ch).length = 1 from rfl] at hcap
    refine zR_go [zP 14, zP t, zI (p : Nat), zI (used : Nat), zI (ch : Nat), zN, zN] (by decide +kernel) (Nat.le_of_ble_eq_true rfl) rfl rfl ?_
    refine z_iload_n dX0_listChanges_0 rfl ?_
    refine z_aload_n dX0_listChanges_1 rfl ?_
    refine z_gIv 13 rfl flX0_131 dX0_listChanges_2 (sT0 sT) rfl ((fC_o hf (by omega)).trans hc.2.2.1) ?_
    refine z_icmp_lt (tgt := 39) dX0_listChanges_5 rfl (fun h => absurd h (by omega)) (fun h5 => ?_)
    refine z_aload_n dX0_listChanges_8 rfl ?_
    refine z_gIv 13 rfl flX0_98 dX0_listChanges_9 s14 rfl hx.1 ?_
    refine z_bipush dX0_listChanges_12 rfl (by decide) ?_
    refine z_icmp_ge (tgt := 38) dX0_listChanges_14 rfl (fun h => absurd h (by omega)) (fun h14 => ?_)
    refine z_aload_n dX0_listChanges_17 rfl ?_
    refine z_gP 2 rfl (r := 22) flX0_25 dX0_listChanges_18 s14 rfl ((fC_o hf (by omega)).trans q22) (by omega) ?_
    refine z_aload_n dX0_listChanges_21 rfl ?_
    refine z_gIv 13 rfl flX0_98 dX0_listChanges_22 s14 rfl hx.1 ?_
    refine z_iload dX0_listChanges_25 rfl ?_
    refine z_iast dX0_listChanges_27 s22 (by omega) (by omega) ?_
    refine z_aload_n dX0_listChanges_28 rfl ?_
    refine z_dup dX0_listChanges_29 rfl ?_
    refine z_gIv 13 rfl flX0_98 dX0_listChanges_30 s14 rfl ((zu_a (by decide)).trans hx.1) ?_
    refine z_iconst dX0_listChanges_33 (by decide) ?_
    refine z_add dX0_listChanges_34 (by omega) ?_
    refine z_pI 13 rfl (fpX0_98 _) dX0_listChanges_35 s14 rfl ?_
    refine z_vret dX0_listChanges_38 rfl rfl ?_
    exact ⟨rfl, zfr_uj (zfr_ua hf (by simp)) (by simp), xC_st hx⟩
  | succ u rec =>
    intro m1 p used ch L hpu hus hcl hf hx hcap
    have hc2 := hw.2.2.1
    have pT1 : ptT m1 t := ptT_in pT (fun b j h1 h2 => fC_o hf (by omega))
    have hc1 : cTh m1 t c := cTh_in pT (wfD_of hw) hc (fun b j h1 h2 => fC_o hf (by omega))
    have ed : d + (u + 1) + 1 = d + u + 2 := by omega
    rw [ed]
    refine zR_go [zP 14, zP t, zI (p : Nat), zI (used : Nat), zI (ch : Nat), zN, zN] (by decide +kernel) (Nat.le_of_ble_eq_true rfl) rfl rfl ?_
    refine z_iload_n dX0_listChanges_0 rfl ?_
    refine z_aload_n dX0_listChanges_1 rfl ?_
    refine z_gIv 13 rfl flX0_131 dX0_listChanges_2 (sT0 sT) rfl ((fC_o hf (by omega)).trans hc.2.2.1) ?_
    refine z_icmp_lt (tgt := 39) dX0_listChanges_5 rfl (fun h5 => ?_) (fun h => absurd (by omega) h)
    refine z_iconst dX0_listChanges_39 (by decide) ?_
    refine z_istore dX0_listChanges_40 (Nat.le_of_ble_eq_true rfl) ?_
    try dsimp only [zs0, zsI, zsP, zsN, zsJ, zsS, zst2, Nat.reduceAdd]
    refine zA_wk [_, _, _, _, _, _, zN] (by exact ⟨Or.inr rfl, Or.inr rfl, Or.inr rfl, Or.inr rfl, Or.inr rfl, Or.inr rfl, Or.inl rfl, trivial⟩) ?_
    exact l_listCh d s14 s22 s23 s24 q22 q23 q24 t t7 sT pT c hw hc u rec p used ch hpu hus hcl (c 2).toNat 0 L m1 (by omega) hf hx (by rw [← gCh_is]; exact hcap) (fun m2 g1 g2 => ⟨rfl, g1, by rw [gCh_is]; exact g2⟩)
