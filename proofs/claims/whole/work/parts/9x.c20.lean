def fL4 : List (Int × Option Int) := [(4, some 1), (4, some 2), (4, some 3), (5, none)]
def fL : List (Int × Option Int) := fTk ++ fL4
def fLB : List (Int × Option Int) := (1, some 8) :: (1, some 9) :: fL
/-- the class's reader of pairs and lines, a theory at t -/
def lR (m : zM) (K : zK) (t : Int) (c w q : Int → Int) (n p : Int) : Prop := kTx m K ∧ kAt m K p ∧ ptT m t ∧ cTh m t c ∧ cFl m t c w q n ∧ m 4 0 = 5
theorem cFl_of {m m' : zM} {t : Int} {c w q : Int → Int} {n : Int} (h : cFl m t c w q n) (hs : ∀ a j, t ≤ a → m' a j = m a j) : cFl m' t c w q n := by
  obtain ⟨h1, h2, h3, h4⟩ := h
  refine ⟨by rw [hs _ _ (by omega)]; exact h1, fun i q0 q1 => ?_, fun i j i0 i1 j0 j1 hm => by rw [hs _ _ (by omega)]; exact h3 i j i0 i1 j0 j1 hm, by rw [hs _ _ (by omega)]; exact h4⟩
  rw [hs _ _ (by omega), hs _ _ (by omega), hs _ _ (by omega)]
  exact h2 i q0 q1
theorem fL4_at {m m' : zM} {a j : Int} (h : zfr fL4 m m') (ha : a ≠ 5) (hj : a ≠ 4 ∨ j < 1 ∨ 3 < j) : m' a j = m a j := h a j (by simp [fL4]; exact ha) (by simp only [fL4, List.mem_cons, Prod.mk.injEq, Option.some.injEq, List.not_mem_nil, or_false, reduceCtorEq, and_false]; omega)
theorem fL_at {m m' : zM} {a j : Int} (h : zfr fL m m') (ha : a ≠ 5) (hj : a ≠ 4 ∨ j < 1 ∨ 3 < j) (hk : a ≠ 1 ∨ j < 4 ∨ 7 < j) : m' a j = m a j := h a j (by simp [fL, fL4, fTk]; exact ha) (by simp only [fL, fL4, fTk, List.mem_append, List.mem_cons, Prod.mk.injEq, Option.some.injEq, List.not_mem_nil, or_false, reduceCtorEq, and_false]; omega)
theorem lR_tk {m m' : zM} {K : zK} {t : Int} {c w q : Int → Int} {n p p' : Int} (h : lR m K t c w q n p) (f : zfr fTk m m') (a : kAt m' K p') (t5 : 5 < t) (hw : wfD c) : lR m' K t c w q n p' := by
  obtain ⟨h1, h2, h3, h4, h5, h6⟩ := h
  have hs : ∀ a j, t ≤ a → m' a j = m a j := fun a j ha => fTk_at f (by omega)
  exact ⟨kTx_fr h1 f, a, ptT_of h3 hs, cTh_of h3 hw h4 hs, cFl_of h5 hs, by rw [fTk_at f (by omega)]; exact h6⟩
theorem lR_4 {m m' : zM} {K : zK} {t : Int} {c w q : Int → Int} {n p : Int} (h : lR m K t c w q n p) (f : zfr fL4 m m') (t5 : 5 < t) (hw : wfD c) : lR m' K t c w q n p := by
  obtain ⟨h1, h2, h3, h4, h5, h6⟩ := h
  have hs : ∀ a j, t ≤ a → m' a j = m a j := fun a j ha => fL4_at f (by omega) (by omega)
  exact ⟨kTx_1 h1 (fun j _ => fL4_at f (by omega) (by omega)) (fun j => fL4_at f (by omega) (by omega)), kAt_1 h2 (fun j _ _ => fL4_at f (by omega) (by omega)), ptT_of h3 hs, cTh_of h3 hw h4 hs, cFl_of h5 hs, by rw [fL4_at f (by omega) (by omega)]; exact h6⟩
theorem fL_tk {m m1 m2 : zM} (g : zfr fL m m1) (f : zfr fTk m1 m2) : zfr fL m m2 := zfr_tr g (zfr_sub f (fun q hq => List.mem_append_left _ hq))
theorem fL_4 {m m1 m2 : zM} (g : zfr fL m m1) (f : zfr fL4 m1 m2) : zfr fL m m2 := zfr_tr g (zfr_sub f (fun q hq => List.mem_append_right _ hq))
theorem fL_B {m m1 : zM} (g : zfr fL m m1) : zfr fLB m m1 := zfr_sub g (fun q hq => List.mem_cons_of_mem _ (List.mem_cons_of_mem _ hq))
/-- how a piece of a text of pairs or lines was read -/
def lO (m m' : zM) (ret : Option zV) (K : zK) (t : Int) (c w q : Int → Int) (n : Int) (Q : zM → (Int → Int) → Int → Prop) (r : zPq) : Prop := (r.1 = 0 ∧ ret = some (zI 1) ∧ zfr fL m m' ∧ lR m' K t c w q n r.2.2.2.2 ∧ Q m' r.2.2.1 r.2.2.2.1) ∨ (r.1 ≠ 0 ∧ ret = some (zI 0) ∧ zfr fLB m m' ∧ m' 1 8 = r.1 ∧ m' 1 9 = r.2.1)
theorem lO_ok {m m' : zM} {K : zK} {t : Int} {c w q : Int → Int} {n : Int} {Q : zM → (Int → Int) → Int → Prop} {r : zPq} {mt : Int → Int} {u p : Int} (e : r = (0, 0, mt, u, p)) (g : zfr fL m m') (h : lR m' K t c w q n p) (hQ : Q m' mt u) : lO m m' (some (zI 1)) K t c w q n Q r := by
  subst e
  exact Or.inl ⟨rfl, rfl, g, h, hQ⟩
theorem lO_bad {m m1 : zM} {K : zK} {t : Int} {c w q : Int → Int} {n : Int} {Q : zM → (Int → Int) → Int → Prop} {r : zPq} {mt : Int → Int} {u p k x : Int} (g : zfr fL m m1) (e : r = (k, x, mt, u, p)) (hk : k ≠ 0) : lO m (kBad m1 k x) (some (zI 0)) K t c w q n Q r := by
  subst e
  exact Or.inr ⟨hk, rfl, zfr_uj (zfr_uj (fL_B g) (by simp [fLB])) (by simp [fLB]), (zu_j (by decide)).trans zu_s, zu_s⟩
/-- digits of a pairing as far as it goes -/
def dg (mt : Int → Int) (n : Int) (x : Nat) : Nat := if (x : Int) < n ∧ 0 ≤ mt (x : Int) then (mt (x : Int)).toNat else 0
def lP (m : zM) (mt : Int → Int) (u n : Int) : Prop := m 4 1 = ((pkN (dg mt n) 12 : Nat) : Int) ∧ m 4 2 = ((zmask (fun x => decide (0 ≤ mt (x : Int))) n.toNat : Nat) : Int) ∧ m 4 3 = u ∧ (∀ x, 0 ≤ x → x < n → mt x < n ∧ -1 ≤ mt x) ∧ sFr mt n.toNat = n - 2 * u ∧ (0 ≤ u ∧ u ≤ 6)
theorem lP_fr {m m' : zM} {mt : Int → Int} {u n : Int} (h : lP m mt u n) (f : zfr fTk m m') : lP m' mt u n := by
  unfold lP at h ⊢
  rw [fTk_at f (by omega), fTk_at f (by omega), fTk_at f (by omega)]
  exact h
theorem tl_bit {mt : Int → Int} {k x : Nat} : (zmask (fun x => decide (0 ≤ mt (x : Int))) k).testBit x = true ↔ x < k ∧ 0 ≤ mt (x : Int) := by
  rw [zmask_bit, Bool.and_eq_true, decide_eq_true_eq, decide_eq_true_eq]
theorem dg_lt {m : zM} {mt : Int → Int} {u n : Int} (h : lP m mt u n) (hn : 0 ≤ n ∧ n ≤ 12) : ∀ x, x < 12 → dg mt n x < 16 := fun x _ => by
  unfold dg
  split
  · rename_i q; have := (h.2.2.2.1 x (by omega) q.1).1; omega
  · decide
theorem lP_up {m m' : zM} {mt : Int → Int} {u n a b : Int} (h : lP m mt u n) (hn : 0 ≤ n ∧ n ≤ 12) (ha : 0 ≤ a ∧ a < n) (hb : 0 ≤ b ∧ b < n) (hab : a ≠ b) (h1 : ¬ 0 ≤ mt a) (h2 : ¬ 0 ≤ mt b) (e1 : m' 4 1 = ((pkN (dg mt n) 12 ||| pkp a.toNat b.toNat : Nat) : Int)) (e2 : m' 4 2 = ((zmask (fun x => decide (0 ≤ mt (x : Int))) n.toNat ||| (2 ^ a.toNat ||| 2 ^ b.toNat) : Nat) : Int)) (e3 : m' 4 3 = u + 1) : lP m' (sUp mt a b) (u + 1) n := by
  have hd := dg_lt h hn
  obtain ⟨-, -, -, q1, q2, q3⟩ := h
  have hs := sFr_up (mt := mt) (n := n.toNat) ha.1 (by omega) hb.1 (by omega) hab (by omega) (by omega)
  have hnn := sFr_nn (sUp mt a b) n.toNat
  refine ⟨?_, ?_, e3, fun x x0 x1 => ?_, by rw [hs, q2]; omega, by omega⟩
  · rw [e1, pk_up hd (by omega) (by omega) (by omega) (by unfold dg; rw [if_neg (by rw [show ((a.toNat : Nat) : Int) = a by omega]; omega)]) (by unfold dg; rw [if_neg (by rw [show ((b.toNat : Nat) : Int) = b by omega]; omega)])]
    congr 1
    refine pkN_congr (fun x hx => ?_)
    unfold dUp dg sUp
    by_cases e : (x : Int) = b
    · rw [if_pos (by omega), if_pos e, if_pos (by omega)]
    · rw [if_neg (by omega), if_neg e]
      by_cases e' : (x : Int) = a
      · rw [if_pos (by omega), if_pos e', if_pos (by omega)]
      · rw [if_neg (by omega), if_neg e']
  · rw [e2]
    congr 1
    refine zset_ext (fun x => ?_)
    rw [Nat.testBit_or, Nat.testBit_or, Nat.testBit_two_pow, Nat.testBit_two_pow, zmask_bit, zmask_bit]
    unfold sUp
    by_cases e : (x : Int) = b
    · rw [if_pos e, decide_eq_true (show b.toNat = x by omega), decide_eq_true (show x < n.toNat by omega), decide_eq_true (show 0 ≤ a by omega)]
      simp
    · rw [if_neg e, decide_eq_false (show ¬ b.toNat = x by omega)]
      by_cases e' : (x : Int) = a
      · rw [if_pos e', decide_eq_true (show a.toNat = x by omega), decide_eq_true (show x < n.toNat by omega), decide_eq_true (show 0 ≤ b by omega)]
        simp
      · rw [if_neg e', decide_eq_false (show ¬ a.toNat = x by omega)]
        simp
  · unfold sUp
    split
    · omega
    · split
      · omega
      · exact q1 x x0 x1
theorem lP_0 {m : zM} {n : Int} (hn : 0 ≤ n ∧ n ≤ 12) (h1 : m 4 1 = 0) (h2 : m 4 2 = 0) (h3 : m 4 3 = 0) : lP m mt0 0 n := by
  have hm : ∀ x : Int, 0 ≤ x → x < n → mt0 x = -1 := fun x q0 q1 => by unfold mt0; rw [if_pos (by omega)]
  refine ⟨?_, ?_, h3, fun x q0 q1 => by rw [hm x q0 q1]; omega, by rw [sFr_mt0 (by omega)]; omega, by omega⟩
  · rw [h1, pkN_congr (D' := fun _ => 0) (fun x hx => by unfold dg; split; rename_i q; rw [hm x (by omega) q.1] at q; omega; rfl)]
    rfl
  · rw [h2, zmask_none (fun x hx => by rw [hm x (by omega) (by omega)]; rfl)]
    rfl
theorem c_readNumber (d : Nat) {E : zE} {m : zM} (t : Int) (t5 : 5 < t) (sK : shK E) (sL : E.1 4 = (9, 4)) (sC : E.1 5 = (1, 6)) (sT : shT E t) (K : zK) (c w q : Int → Int) (n : Int) (hw : wfD c) (hl : wfL c w q n) (p b : Int) (hS0 : lR m K t c w q n p) : zR zX3_readNumber (d + 2) [zP 4, zP 1, zI b] m E E (fun r m' => (kSo K p = 2 ∧ kN K p < b ∧ r = some (zI 1) ∧ m = m') ∨ (kSo K p ≠ 2 ∧ r = some (zI 0) ∧ m' = kBad m (kMis K p) p) ∨ (kSo K p = 2 ∧ ¬ kN K p < b ∧ r = some (zI 0) ∧ m' = kBad m 3 p)) := by
  have hto := kTo_is K p
  refine zR_go [zP 4, zP 1, zI b] (by decide +kernel) (Nat.le_of_ble_eq_true rfl) rfl rfl ?_
  refine z_aload_n dX3_readNumber_0 rfl ?_
  refine z_gIv 6 rfl flX3_26 dX3_readNumber_1 sK.1 rfl hS0.2.1.2.2.2.1 ?_
  refine z_iconst dX3_readNumber_4 (by decide) ?_
  refine z_icmp_eq (tgt := 13) dX3_readNumber_5 rfl (fun h5 => ?_) (fun h5 => ?_)
  · refine z_aload_n dX3_readNumber_13 rfl ?_
    refine z_gIv 7 rfl flX3_44 dX3_readNumber_14 sK.1 rfl (hS0.2.1.2.2.2.2.2.1 (by omega)) ?_
    refine z_iload_n dX3_readNumber_17 rfl ?_
    refine z_icmp_lt (tgt := 29) dX3_readNumber_18 rfl (fun h18 => ?_) (fun h18 => ?_)
    · refine z_iconst dX3_readNumber_29 (by decide) ?_
      refine z_goto (tgt := 34) dX3_readNumber_30 rfl ?_
      refine z_zret dX3_readNumber_34 rfl (by first | omega | exact zb01 _) rfl ?_
      exact Or.inl ⟨by omega, by omega, rfl, rfl⟩
    · refine z_aload_n dX3_readNumber_21 rfl ?_
      refine z_iconst dX3_readNumber_22 (by decide) ?_
      refine z_callV mlX3_47 dX3_readNumber_23 sK.1 (av := [_]) rfl rfl (Nat.le_of_ble_eq_true rfl) (c_failHere _ sK K p hS0.2.1 3) (Nat.le_refl _) (Nat.le_refl _) (Nat.le_refl _) (Nat.le_refl _) ?_
      rintro _ _ ⟨rfl, rfl⟩
      refine z_if_eq (tgt := 33) dX3_readNumber_26 rfl (fun h26 => ?_) (fun h => absurd rfl h)
      refine z_iconst dX3_readNumber_33 (by decide) ?_
      refine z_zret dX3_readNumber_34 rfl (by first | omega | exact zb01 _) rfl ?_
      exact Or.inr (Or.inr ⟨by omega, by omega, rfl, rfl⟩)
  · refine z_aload_n dX3_readNumber_8 rfl ?_
    refine z_callV mlX3_68 dX3_readNumber_9 sK.1 (av := _) rfl rfl (Nat.le_of_ble_eq_true rfl) (c_misplaced _ sK K p hS0.2.1) (Nat.le_refl _) (Nat.le_refl _) (Nat.le_refl _) (Nat.le_refl _) ?_
    rintro _ _ ⟨rfl, rfl⟩
    refine z_zret dX3_readNumber_12 rfl (by first | omega | exact zb01 _) rfl ?_
    exact Or.inr (Or.inl ⟨by omega, rfl, rfl⟩)

theorem c_readOnePair (d : Nat) {E : zE} {m : zM} (t : Int) (t5 : 5 < t) (sK : shK E) (sL : E.1 4 = (9, 4)) (sC : E.1 5 = (1, 6)) (sT : shT E t) (K : zK) (c w q : Int → Int) (n : Int) (hw : wfD c) (hl : wfL c w q n) (p u : Int) (mt : Int → Int) (hS0 : lR m K t c w q n p) (hP : lP m mt u n) : zR zX3_readOnePair (d + 4) [zP 4, zP 1, zP t] m E E (fun r m' => lO m m' r K t c w q n (fun m' mt' u' => lP m' mt' u' n) (pTwo K n (cMay c w q) mt u p)) := by
  have hn := hl.1
  have g0 : zfr fL m m := zfr_rf
  have j0 : zfr fTk m m := zfr_rf
  have hto := kTo_is K p
  have htl := zmask_lt (fun x => decide (0 ≤ mt (x : Int))) n.toNat
  have htl2 : 2 ^ n.toNat ≤ 2 ^ 12 := Nat.pow_le_pow_right (by decide) (by omega)
  have hu0 := hP.2.2.2.2.2
  refine zR_go [zP 4, zP 1, zP t, zN, zN] (by decide +kernel) (Nat.le_of_ble_eq_true rfl) rfl rfl ?_
  refine z_aload_n dX3_readOnePair_0 rfl ?_
  refine z_aload_n dX3_readOnePair_1 rfl ?_
  refine z_aload_n dX3_readOnePair_2 rfl ?_
  refine z_gIv 14 rfl flX3_35 dX3_readOnePair_3 (sT0 sT) rfl hS0.2.2.2.2.1.1 ?_
  refine z_callV mlX3_40 dX3_readOnePair_6 sL (av := [_, _]) rfl rfl (Nat.le_of_ble_eq_true rfl) (c_readNumber _ t t5 sK sL sC sT K c w q n hw hl p n hS0) (Nat.le_refl _) (Nat.le_refl _) (Nat.le_refl _) (Nat.le_refl _) ?_
  rintro r7 m7 (⟨uA, vA, rfl, rfl⟩ | ⟨uA, rfl, rfl⟩ | ⟨uA, vA, rfl, rfl⟩)
  · refine z_if_ne (tgt := 14) dX3_readOnePair_9 rfl (fun h9 => ?_) (fun h => absurd (by decide) h)
    refine z_aload_n dX3_readOnePair_14 rfl ?_
    have nA := kN_rg uA
    refine z_gIv 7 rfl flX3_44 dX3_readOnePair_15 sK.1 rfl (hS0.2.1.2.2.2.2.2.1 uA) ?_
    rw [show kN K p = (((kN K p).toNat : Nat) : Int) by omega]
    refine z_ist 3 dX3_readOnePair_18 rfl (Nat.le_of_ble_eq_true rfl) ?_
    refine z_aload_n dX3_readOnePair_19 rfl ?_
    refine z_gIv 2 rfl flX3_19 dX3_readOnePair_20 sL rfl hP.2.1 ?_
    refine z_iload_n dX3_readOnePair_23 rfl ?_
    refine z_ishr dX3_readOnePair_24 ?_
    refine z_iconst dX3_readOnePair_25 (by decide) ?_
    refine z_iand dX3_readOnePair_26 ?_
    rw [zbit (by omega) (by omega)]
    try dsimp only [zs0, zsI, zsP, zsN, zsJ, zsS, zst2, Nat.reduceAdd]
    refine z_if_eq (tgt := 36) dX3_readOnePair_27 rfl (fun h27 => ?_) (fun h27 => ?_)
    · have tA : ¬ 0 ≤ mt (kN K p) := fun hh => zb_0.mp h27 (tl_bit.mpr ⟨by omega, by rw [show (((kN K p).toNat : Nat) : Int) = kN K p by omega]; exact hh⟩)
      refine z_aload_n dX3_readOnePair_36 rfl ?_
      refine z_gIv 3 rfl flX3_23 dX3_readOnePair_37 sL rfl hP.2.2.1 ?_
      refine z_aload_n dX3_readOnePair_40 rfl ?_
      refine z_gIv 14 rfl flX3_35 dX3_readOnePair_41 (sT0 sT) rfl hS0.2.2.2.2.1.1 ?_
      refine z_iconst dX3_readOnePair_44 (by decide) ?_
      refine z_div dX3_readOnePair_45 (by omega) (by omega) ?_
      refine z_icmp_lt (tgt := 56) dX3_readOnePair_46 rfl (fun h46 => ?_) (fun h46 => ?_)
      · refine z_aload_n dX3_readOnePair_56 rfl ?_
        refine z_callV mlX3_51 dX3_readOnePair_57 sK.1 (av := _) rfl rfl (Nat.le_of_ble_eq_true rfl) (c_next _ sK K hS0.1 p hS0.2.1 (by omega)) (Nat.le_refl _) (Nat.le_refl _) (Nat.le_refl _) (Nat.le_refl _) ?_
        rintro _ y1 ⟨rfl, f1, a1⟩
        have hS1 := lR_tk hS0 f1 a1 t5 hw
        have g1 := fL_tk g0 f1
        have j1 := zfr_tr j0 f1
        refine z_aload_n dX3_readOnePair_60 rfl ?_
        refine z_bipush dX3_readOnePair_61 rfl (by decide) ?_
        refine z_callV mlX3_54 dX3_readOnePair_63 sK.1 (av := [_]) rfl rfl (Nat.le_of_ble_eq_true rfl) (c_passSign _ sK K hS1.1 (kR K p) hS1.2.1 45) (Nat.le_refl _) (Nat.le_refl _) (Nat.le_refl _) (Nat.le_refl _) ?_
        rintro r8 y2 (⟨sM, rfl, f2, a2⟩ | ⟨sM, rfl, rfl⟩)
        · have hS2 := lR_tk hS1 f2 a2 t5 hw
          have g2 := fL_tk g1 f2
          have j2 := zfr_tr j1 f2
          refine z_if_eq (tgt := 81) dX3_readOnePair_66 rfl (fun h => absurd h (by decide)) (fun h66 => ?_)
          refine z_aload_n dX3_readOnePair_69 rfl ?_
          refine z_aload_n dX3_readOnePair_70 rfl ?_
          refine z_aload_n dX3_readOnePair_71 rfl ?_
          refine z_gIv 14 rfl flX3_35 dX3_readOnePair_72 (sT0 sT) rfl hS2.2.2.2.2.1.1 ?_
          refine z_callV mlX3_40 dX3_readOnePair_75 sL (av := [_, _]) rfl rfl (Nat.le_of_ble_eq_true rfl) (c_readNumber _ t t5 sK sL sC sT K c w q n hw hl (kR K (kR K p)) n hS2) (Nat.le_refl _) (Nat.le_refl _) (Nat.le_refl _) (Nat.le_refl _) ?_
          rintro r7 m7 (⟨uB, vB, rfl, rfl⟩ | ⟨uB, rfl, rfl⟩ | ⟨uB, vB, rfl, rfl⟩)
          · refine z_if_ne (tgt := 83) dX3_readOnePair_78 rfl (fun h78 => ?_) (fun h => absurd (by decide) h)
            refine z_aload_n dX3_readOnePair_83 rfl ?_
            have nB := kN_rg uB
            refine z_gIv 7 rfl flX3_44 dX3_readOnePair_84 sK.1 rfl (hS2.2.1.2.2.2.2.2.1 uB) ?_
            rw [show kN K (kR K (kR K p)) = (((kN K (kR K (kR K p))).toNat : Nat) : Int) by omega]
            refine z_istore dX3_readOnePair_87 (Nat.le_of_ble_eq_true rfl) ?_
            refine z_aload_n dX3_readOnePair_89 rfl ?_
            refine z_iload_n dX3_readOnePair_90 rfl ?_
            refine z_iload dX3_readOnePair_91 rfl ?_
            try dsimp only [zs0, zsI, zsP, zsN, zsJ, zsS, zst2, Nat.reduceAdd]
            refine z_callV mlX3_58 dX3_readOnePair_93 (sT0 sT) (av := [_, _]) rfl rfl (Nat.le_of_ble_eq_true rfl) (c_mayPair _ t (by omega) sT hS2.2.2.1 c hw hS2.2.2.2.1 w q n hl hS2.2.2.2.2.1 ((kN K p).toNat : Nat) (kN K (kR K (kR K p))).toNat (by omega) (by omega) (by omega)) (Nat.le_refl _) (Nat.le_refl _) (Nat.le_refl _) (Nat.le_refl _) ?_
            rintro _ _ ⟨rfl, rfl⟩
            refine z_ifz_ne (tgt := 105) dX3_readOnePair_96 rfl (fun h96 => ?_) (fun h96 => ?_)
            · rw [show (((kN K p).toNat : Nat) : Int) = kN K p by omega, show (((kN K (kR K (kR K p))).toNat : Nat) : Int) = kN K (kR K (kR K p)) by omega] at h96
              refine z_aload_n dX3_readOnePair_105 rfl ?_
              refine z_gIv 2 rfl flX3_19 dX3_readOnePair_106 sL rfl (lP_fr hP j2).2.1 ?_
              refine z_iload dX3_readOnePair_109 rfl ?_
              refine z_ishr dX3_readOnePair_111 ?_
              refine z_iconst dX3_readOnePair_112 (by decide) ?_
              refine z_iand dX3_readOnePair_113 ?_
              rw [zbit (by omega) (by omega)]
              refine z_if_eq (tgt := 123) dX3_readOnePair_114 rfl (fun h114 => ?_) (fun h114 => ?_)
              · have tB : ¬ 0 ≤ mt (kN K (kR K (kR K p))) := fun hh => zb_0.mp h114 (tl_bit.mpr ⟨by omega, by rw [show (((kN K (kR K (kR K p))).toNat : Nat) : Int) = kN K (kR K (kR K p)) by omega]; exact hh⟩)
                have pa31 : 2 ^ (kN K p).toNat < 4096 := p2_lt (by omega)
                have pb31 : 2 ^ (kN K (kR K (kR K p))).toNat < 4096 := p2_lt (by omega)
                have hpk := pkN_lt 12 (dg_lt hP hl.1)
                rw [show (16 : Nat) ^ 12 = 281474976710656 from rfl] at hpk
                have hpp := pkp_lt (i := (kN K p).toNat) (j := (kN K (kR K (kR K p))).toNat) (by omega) (by omega)
                rw [show (2 : Nat) ^ 48 = 281474976710656 from rfl] at hpp
                have hor : 2 ^ (kN K p).toNat ||| 2 ^ (kN K (kR K (kR K p))).toNat < 4096 := Nat.or_lt_two_pow (n := 12) pa31 pb31
                refine z_aload_n dX3_readOnePair_123 rfl ?_
                refine z_callV mlX3_51 dX3_readOnePair_124 sK.1 (av := _) rfl rfl (Nat.le_of_ble_eq_true rfl) (c_next _ sK K hS2.1 (kR K (kR K p)) hS2.2.1 (by omega)) (Nat.le_refl _) (Nat.le_refl _) (Nat.le_refl _) (Nat.le_refl _) ?_
                rintro _ y3 ⟨rfl, f3, a3⟩
                have hS3 := lR_tk hS2 f3 a3 t5 hw
                have g3 := fL_tk g2 f3
                have j3 := zfr_tr j2 f3
                refine z_aload_n dX3_readOnePair_127 rfl ?_
                refine z_dup dX3_readOnePair_128 rfl ?_
                refine z_gIv 2 rfl flX3_19 dX3_readOnePair_129 sL rfl (lP_fr hP j3).2.1 ?_
                refine z_iconst dX3_readOnePair_132 (by decide) ?_
                refine z_iload_n dX3_readOnePair_133 rfl ?_
                refine z_ishl dX3_readOnePair_134 ?_
                refine z_iconst dX3_readOnePair_135 (by decide) ?_
                refine z_iload dX3_readOnePair_136 rfl ?_
                refine z_ishl dX3_readOnePair_138 ?_
                refine z_ior dX3_readOnePair_139 ?_
                rw [zshl_1 (by omega), zshl_1 (by omega), zor_N (by omega) (by omega)]
                refine z_ior dX3_readOnePair_140 ?_
                rw [zor_N (by omega) (by omega)]
                refine z_pI 2 rfl (fpX3_19 _) dX3_readOnePair_141 sL rfl ?_
                refine z_aload_n dX3_readOnePair_144 rfl ?_
                refine z_dup dX3_readOnePair_145 rfl ?_
                refine z_gJv 1 rfl flX3_15 dX3_readOnePair_146 sL rfl ((zu_j (by decide)).trans (lP_fr hP j3).1) ?_
                refine z_iload_n dX3_readOnePair_149 rfl ?_
                refine z_iload dX3_readOnePair_150 rfl ?_
                refine z_callS mlX3_62 dX3_readOnePair_152 (av := [_, _]) rfl rfl (Nat.le_of_ble_eq_true rfl) (c_packed _ (kN K p).toNat (kN K (kR K (kR K p))).toNat (by omega) (by omega)) (Nat.le_refl _) (Nat.le_refl _) (Nat.le_refl _) (Nat.le_refl _) ?_
                rintro _ _ ⟨rfl, rfl⟩
                refine z_lor dX3_readOnePair_155 ?_
                rw [zlor_N (by omega) (by omega)]
                refine z_pJ 1 rfl (fpX3_15 _) dX3_readOnePair_156 sL rfl ?_
                refine z_aload_n dX3_readOnePair_159 rfl ?_
                refine z_dup dX3_readOnePair_160 rfl ?_
                refine z_gIv 3 rfl flX3_23 dX3_readOnePair_161 sL rfl ((zu_j (by decide)).trans ((zu_j (by decide)).trans (lP_fr hP j3).2.2.1)) ?_
                refine z_iconst dX3_readOnePair_164 (by decide) ?_
                refine z_add dX3_readOnePair_165 (by omega) ?_
                refine z_pI 3 rfl (fpX3_23 _) dX3_readOnePair_166 sL rfl ?_
                obtain ⟨m9, em9⟩ : ∃ x, x = zu (zu (zu y3 4 2 ((zmask (fun x => decide (0 ≤ mt (x : Int))) n.toNat ||| (2 ^ (kN K p).toNat ||| 2 ^ (kN K (kR K (kR K p))).toNat) : Nat) : Int)) 4 1 ((pkN (dg mt n) 12 ||| pkp (kN K p).toNat (kN K (kR K (kR K p))).toNat : Nat) : Int)) 4 3 (u + 1) := ⟨_, rfl⟩
                rw [← em9]
                have f9 : zfr fL4 y3 m9 := by rw [em9]; exact zfr_uj (zfr_uj (zfr_uj zfr_rf (by simp [fL4])) (by simp [fL4])) (by simp [fL4])
                have hS9 := lR_4 hS3 f9 t5 hw
                have g9 := fL_4 g3 f9
                have hP9 := lP_up hP (a := kN K p) (b := kN K (kR K (kR K p))) hl.1 (by omega) (by omega) (fun e => by rw [may_1 e] at h96; cases h96) (by omega) (by omega) (m' := m9) (by rw [em9, zu_j (by decide), zu_s]) (by rw [em9, zu_j (by decide), zu_j (by decide), zu_s]) (by rw [em9, zu_s])
                refine z_aload_n dX3_readOnePair_169 rfl ?_
                refine z_bipush dX3_readOnePair_170 rfl (by decide) ?_
                refine z_callV mlX3_54 dX3_readOnePair_172 sK.1 (av := [_]) rfl rfl (Nat.le_of_ble_eq_true rfl) (c_passSign _ sK K hS9.1 (kR K (kR K (kR K p))) hS9.2.1 59) (Nat.le_refl _) (Nat.le_refl _) (Nat.le_refl _) (Nat.le_refl _) ?_
                rintro r8 y10 (⟨sE, rfl, f10, a10⟩ | ⟨sE, rfl, rfl⟩)
                · have hS10 := lR_tk hS9 f10 a10 t5 hw
                  have g10 := fL_tk g9 f10
                  refine z_zret dX3_readOnePair_175 rfl (by first | omega | exact zb01 _) rfl ?_
                  exact lO_ok (show pTwo K n (cMay c w q) mt u p = (0, 0, sUp mt (kN K p) (kN K (kR K (kR K p))), u + 1, kR K (kR K (kR K (kR K p)))) by unfold pTwo; rw [if_neg (fun h => h uA), if_neg (fun h => h vA), if_neg tA, if_neg (by omega), if_neg (fun h => h sM), if_neg (fun h => h uB), if_neg (fun h => h vB), if_neg (fun h => h h96), if_neg tB, if_neg (fun h => h sE)]) g10 hS10 (lP_fr hP9 f10)
                · refine z_zret dX3_readOnePair_175 rfl (by first | omega | exact zb01 _) rfl ?_
                  exact lO_bad g9 (show pTwo K n (cMay c w q) mt u p = (kMis K (kR K (kR K (kR K p))), (kR K (kR K (kR K p))), mt, u, p) by unfold pTwo; rw [if_neg (fun h => h uA), if_neg (fun h => h vA), if_neg tA, if_neg (by omega), if_neg (fun h => h sM), if_neg (fun h => h uB), if_neg (fun h => h vB), if_neg (fun h => h h96), if_neg tB, if_pos sE]) (kMis_ne)
              · have tB : 0 ≤ mt (kN K (kR K (kR K p))) := by have := (tl_bit.mp (Classical.byContradiction (fun hh => h114 (zb_f hh)))).2; rwa [show (((kN K (kR K (kR K p))).toNat : Nat) : Int) = kN K (kR K (kR K p)) by omega] at this
                refine z_aload_n dX3_readOnePair_117 rfl ?_
                refine z_iconst dX3_readOnePair_118 (by decide) ?_
                refine z_callV mlX3_47 dX3_readOnePair_119 sK.1 (av := [_]) rfl rfl (Nat.le_of_ble_eq_true rfl) (c_failHere _ sK K (kR K (kR K p)) hS2.2.1 5) (Nat.le_refl _) (Nat.le_refl _) (Nat.le_refl _) (Nat.le_refl _) ?_
                rintro _ _ ⟨rfl, rfl⟩
                refine z_zret dX3_readOnePair_122 rfl (by first | omega | exact zb01 _) rfl ?_
                exact lO_bad g2 (show pTwo K n (cMay c w q) mt u p = (5, (kR K (kR K p)), mt, u, p) by unfold pTwo; rw [if_neg (fun h => h uA), if_neg (fun h => h vA), if_neg tA, if_neg (by omega), if_neg (fun h => h sM), if_neg (fun h => h uB), if_neg (fun h => h vB), if_neg (fun h => h h96), if_pos tB]) (by decide)
            · rw [show (((kN K p).toNat : Nat) : Int) = kN K p by omega, show (((kN K (kR K (kR K p))).toNat : Nat) : Int) = kN K (kR K (kR K p)) by omega] at h96
              refine z_aload_n dX3_readOnePair_99 rfl ?_
              refine z_iconst dX3_readOnePair_100 (by decide) ?_
              refine z_callV mlX3_47 dX3_readOnePair_101 sK.1 (av := [_]) rfl rfl (Nat.le_of_ble_eq_true rfl) (c_failHere _ sK K (kR K (kR K p)) hS2.2.1 4) (Nat.le_refl _) (Nat.le_refl _) (Nat.le_refl _) (Nat.le_refl _) ?_
              rintro _ _ ⟨rfl, rfl⟩
              refine z_zret dX3_readOnePair_104 rfl (by first | omega | exact zb01 _) rfl ?_
              exact lO_bad g2 (show pTwo K n (cMay c w q) mt u p = (4, (kR K (kR K p)), mt, u, p) by unfold pTwo; rw [if_neg (fun h => h uA), if_neg (fun h => h vA), if_neg tA, if_neg (by omega), if_neg (fun h => h sM), if_neg (fun h => h uB), if_neg (fun h => h vB), if_pos h96]) (by decide)
          · refine z_if_ne (tgt := 83) dX3_readOnePair_78 rfl (fun h => absurd h (fun h => h rfl)) (fun h78 => ?_)
            refine z_iconst dX3_readOnePair_81 (by decide) ?_
            refine z_zret dX3_readOnePair_82 rfl (by first | omega | exact zb01 _) rfl ?_
            exact lO_bad g2 (show pTwo K n (cMay c w q) mt u p = (kMis K (kR K (kR K p)), (kR K (kR K p)), mt, u, p) by unfold pTwo; rw [if_neg (fun h => h uA), if_neg (fun h => h vA), if_neg tA, if_neg (by omega), if_neg (fun h => h sM), if_pos uB]) (kMis_ne)
          · refine z_if_ne (tgt := 83) dX3_readOnePair_78 rfl (fun h => absurd h (fun h => h rfl)) (fun h78 => ?_)
            refine z_iconst dX3_readOnePair_81 (by decide) ?_
            refine z_zret dX3_readOnePair_82 rfl (by first | omega | exact zb01 _) rfl ?_
            exact lO_bad g2 (show pTwo K n (cMay c w q) mt u p = (3, (kR K (kR K p)), mt, u, p) by unfold pTwo; rw [if_neg (fun h => h uA), if_neg (fun h => h vA), if_neg tA, if_neg (by omega), if_neg (fun h => h sM), if_neg (fun h => h uB), if_pos vB]) (by decide)
        · refine z_if_eq (tgt := 81) dX3_readOnePair_66 rfl (fun h66 => ?_) (fun h => absurd rfl h)
          refine z_iconst dX3_readOnePair_81 (by decide) ?_
          refine z_zret dX3_readOnePair_82 rfl (by first | omega | exact zb01 _) rfl ?_
          exact lO_bad g1 (show pTwo K n (cMay c w q) mt u p = (kMis K (kR K p), (kR K p), mt, u, p) by unfold pTwo; rw [if_neg (fun h => h uA), if_neg (fun h => h vA), if_neg tA, if_neg (by omega), if_pos sM]) (kMis_ne)
      · refine z_aload_n dX3_readOnePair_49 rfl ?_
        refine z_bipush dX3_readOnePair_50 rfl (by decide) ?_
        refine z_callV mlX3_47 dX3_readOnePair_52 sK.1 (av := [_]) rfl rfl (Nat.le_of_ble_eq_true rfl) (c_failHere _ sK K p hS0.2.1 6) (Nat.le_refl _) (Nat.le_refl _) (Nat.le_refl _) (Nat.le_refl _) ?_
        rintro _ _ ⟨rfl, rfl⟩
        refine z_zret dX3_readOnePair_55 rfl (by first | omega | exact zb01 _) rfl ?_
        exact lO_bad g0 (show pTwo K n (cMay c w q) mt u p = (6, p, mt, u, p) by unfold pTwo; rw [if_neg (fun h => h uA), if_neg (fun h => h vA), if_neg tA, if_pos (by omega)]) (by decide)
    · have tA : 0 ≤ mt (kN K p) := by have := (tl_bit.mp (Classical.byContradiction (fun hh => h27 (zb_f hh)))).2; rwa [show (((kN K p).toNat : Nat) : Int) = kN K p by omega] at this
      refine z_aload_n dX3_readOnePair_30 rfl ?_
      refine z_iconst dX3_readOnePair_31 (by decide) ?_
      refine z_callV mlX3_47 dX3_readOnePair_32 sK.1 (av := [_]) rfl rfl (Nat.le_of_ble_eq_true rfl) (c_failHere _ sK K p hS0.2.1 5) (Nat.le_refl _) (Nat.le_refl _) (Nat.le_refl _) (Nat.le_refl _) ?_
      rintro _ _ ⟨rfl, rfl⟩
      refine z_zret dX3_readOnePair_35 rfl (by first | omega | exact zb01 _) rfl ?_
      exact lO_bad g0 (show pTwo K n (cMay c w q) mt u p = (5, p, mt, u, p) by unfold pTwo; rw [if_neg (fun h => h uA), if_neg (fun h => h vA), if_pos tA]) (by decide)
  · refine z_if_ne (tgt := 14) dX3_readOnePair_9 rfl (fun h => absurd h (fun h => h rfl)) (fun h9 => ?_)
    refine z_iconst dX3_readOnePair_12 (by decide) ?_
    refine z_zret dX3_readOnePair_13 rfl (by first | omega | exact zb01 _) rfl ?_
    exact lO_bad g0 (show pTwo K n (cMay c w q) mt u p = (kMis K p, p, mt, u, p) by unfold pTwo; rw [if_pos uA]) (kMis_ne)
  · refine z_if_ne (tgt := 14) dX3_readOnePair_9 rfl (fun h => absurd h (fun h => h rfl)) (fun h9 => ?_)
    refine z_iconst dX3_readOnePair_12 (by decide) ?_
    refine z_zret dX3_readOnePair_13 rfl (by first | omega | exact zb01 _) rfl ?_
    exact lO_bad g0 (show pTwo K n (cMay c w q) mt u p = (3, p, mt, u, p) by unfold pTwo; rw [if_neg (fun h => h uA), if_pos vA]) (by decide)

theorem l_readPairs (d : Nat) {E : zE} {m : zM} {P : Option zV → zM → Prop} (t : Int) (t5 : 5 < t) (sK : shK E) (sL : E.1 4 = (9, 4)) (sC : E.1 5 = (1, 6)) (sT : shT E t) (K : zK) (c w q : Int → Int) (n : Int) (hw : wfD c) (hl : wfL c w q n) : ∀ (j : Nat) (l : Nat) (p u : Int) (m1 : zM) (mt : Int → Int), (l + j = 400) → ((l : Int) ≤ p) → (lR m1 K t c w q n p) → (lP m1 mt u n) → (zfr fL m m1) → (∀ r m', lO m m' r K t c w q n (fun m' mt' u' => lP m' mt' u' n) (pPairs K n (cMay c w q) (j + 1) mt u p) → P r m') → zA zX3_readPairs (d + 5) E E P 17 [zP 4, zP 1, zP t, zI (l : Nat)] [] m1 E := by
  intro j
  induction j with
  | zero =>
    intro l p u m1 mt hll hlp hS0 hP g0 hR
    have hto := kTo_is K p
    refine z_iload_n dX3_readPairs_17 rfl ?_
    refine z_sipush dX3_readPairs_18 rfl (by decide) ?_
    refine z_icmp_ge (tgt := 48) dX3_readPairs_21 rfl (fun h21 => ?_) (fun h => absurd (by omega) h)
    refine z_iconst dX3_readPairs_48 (by decide) ?_
    refine z_zret dX3_readPairs_49 rfl (by first | omega | exact zb01 _) rfl ?_
    rw [pPairs_s, if_pos (kSo_end hS0.1.1 (by have := hS0.2.1.1; have := hS0.1.1.1; omega))] at hR
    exact hR _ _ (Or.inl ⟨rfl, rfl, g0, hS0, hP⟩)
  | succ j ih =>
    intro l p u m1 mt hll hlp hS0 hP g0 hR
    have hto := kTo_is K p
    refine z_iload_n dX3_readPairs_17 rfl ?_
    refine z_sipush dX3_readPairs_18 rfl (by decide) ?_
    refine z_icmp_ge (tgt := 48) dX3_readPairs_21 rfl (fun h => absurd h (by omega)) (fun h21 => ?_)
    refine z_aload_n dX3_readPairs_24 rfl ?_
    refine z_gIv 6 rfl flX3_26 dX3_readPairs_25 sK.1 rfl hS0.2.1.2.2.2.1 ?_
    refine z_if_eq (tgt := 48) dX3_readPairs_28 rfl (fun h28 => ?_) (fun h28 => ?_)
    · refine z_iconst dX3_readPairs_48 (by decide) ?_
      refine z_zret dX3_readPairs_49 rfl (by first | omega | exact zb01 _) rfl ?_
      rw [pPairs_s, if_pos (by omega)] at hR
      exact hR _ _ (Or.inl ⟨rfl, rfl, g0, hS0, hP⟩)
    · have hso : kSo K p ≠ 0 := by omega
      refine z_aload_n dX3_readPairs_31 rfl ?_
      refine z_aload_n dX3_readPairs_32 rfl ?_
      refine z_aload_n dX3_readPairs_33 rfl ?_
      refine z_callV mlX3_31 dX3_readPairs_34 sL (av := [_, _]) rfl rfl (Nat.le_of_ble_eq_true rfl) (c_readOnePair d t t5 sK sL sC sT K c w q n hw hl p u mt hS0 hP) (Nat.le_refl _) (Nat.le_refl _) (Nat.le_refl _) (Nat.le_refl _) ?_
      rintro r7 m7 h7
      rcases h7 with ⟨a1, rfl, a3, a4, a5⟩ | ⟨a1, rfl, a3, a4, a5⟩
      · refine z_if_ne (tgt := 42) dX3_readPairs_37 rfl (fun h37 => ?_) (fun h => absurd (by decide) h)
        refine z_inc dX3_readPairs_42 rfl (by omega) ?_
        refine z_goto (tgt := 17) dX3_readPairs_45 rfl ?_
        try dsimp only [zs0, zsI, zsP, zsN, zsJ, zsS, zst2, Nat.reduceAdd]
        have hk := pTwo_ok (n := n) (may := (cMay c w q)) (mt := mt) (w := u) (p := p) hS0.1.1
        have hk2 := (hk.2 a1).1
        rw [pPairs_s, if_neg hso, if_neg (fun h => h a1)] at hR
        rw [show (l : Int) + 1 = ((l + 1 : Nat) : Int) by omega]
        exact ih (l + 1) _ _ m7 _ (by omega) (by omega) a4 a5 (zfr_tr g0 a3) hR
      · refine z_if_ne (tgt := 42) dX3_readPairs_37 rfl (fun h => absurd h (fun h => h rfl)) (fun h37 => ?_)
        refine z_iconst dX3_readPairs_40 (by decide) ?_
        refine z_zret dX3_readPairs_41 rfl (by first | omega | exact zb01 _) rfl ?_
        rw [pPairs_s, if_neg hso, if_pos a1] at hR
        exact hR _ _ (Or.inr ⟨a1, rfl, zfr_tr (fL_B g0) a3, a4, a5⟩)

theorem c_readPairs (d : Nat) {E : zE} {m : zM} (t : Int) (t5 : 5 < t) (sK : shK E) (sL : E.1 4 = (9, 4)) (sC : E.1 5 = (1, 6)) (sT : shT E t) (K : zK) (c w q : Int → Int) (n : Int) (hw : wfD c) (hl : wfL c w q n) (p : Int) (hS0 : lR m K t c w q n p) : zR zX3_readPairs (d + 5) [zP 4, zP 1, zP t] m E E (fun r m' => lO m m' r K t c w q n (fun m' mt' u' => lP m' mt' u' n) (pPairs K n (cMay c w q) 401 mt0 0 p)) := by
  refine zR_go [zP 4, zP 1, zP t, zN] (by decide +kernel) (Nat.le_of_ble_eq_true rfl) rfl rfl ?_
  refine z_aload_n dX3_readPairs_0 rfl ?_
  refine z_lconst0 dX3_readPairs_1 ?_
  refine z_pJ 1 rfl (fpX3_15 _) dX3_readPairs_2 sL rfl ?_
  refine z_aload_n dX3_readPairs_5 rfl ?_
  refine z_iconst dX3_readPairs_6 (by decide) ?_
  refine z_pI 2 rfl (fpX3_19 _) dX3_readPairs_7 sL rfl ?_
  refine z_aload_n dX3_readPairs_10 rfl ?_
  refine z_iconst dX3_readPairs_11 (by decide) ?_
  refine z_pI 3 rfl (fpX3_23 _) dX3_readPairs_12 sL rfl ?_
  obtain ⟨m1, em1⟩ : ∃ x, x = zu (zu (zu m 4 1 0) 4 2 0) 4 3 0 := ⟨_, rfl⟩
  rw [← em1]
  have f1 : zfr fL4 m m1 := by rw [em1]; exact zfr_uj (zfr_uj (zfr_uj zfr_rf (by simp [fL4])) (by simp [fL4])) (by simp [fL4])
  have hP1 : lP m1 mt0 0 n := lP_0 hl.1 (by rw [em1, zu_j (by decide), zu_j (by decide), zu_s]) (by rw [em1, zu_j (by decide), zu_s]) (by rw [em1, zu_s])
  refine z_iconst dX3_readPairs_15 (by decide) ?_
  refine z_ist 3 dX3_readPairs_16 rfl (Nat.le_of_ble_eq_true rfl) ?_
  try dsimp only [zs0, zsI, zsP, zsN, zsJ, zsS, zst2, Nat.reduceAdd]
  exact l_readPairs d t t5 sK sL sC sT K c w q n hw hl 400 0 p 0 m1 mt0 (by omega) (by have := hS0.2.1.1; omega) (lR_4 hS0 f1 t5 hw) hP1 (fL_4 zfr_rf f1) (fun r m' h => h)
