def shP (E : zE) (p : Int) : Prop := E.1 p = (12, 2) ∧ E.1 (p + 1) = (1, 48)
def ptP (m : zM) (p : Int) : Prop := m p 0 = p + 1
def fP (p : Int) : List (Int × Option Int) := [(p + 1, none), (p, some 1)]
/-- a text was added, in the class -/
def cOt (m m' : zM) (p : Int) (L : List Int) : Prop := m' p 1 = m p 1 + L.length ∧ (∀ (t : Nat) (x : Int), L[t]? = some x → m' (p + 1) (m p 1 + t) = x) ∧ (∀ y, y < m p 1 → m' (p + 1) y = m (p + 1) y) ∧ zfr (fP p) m m'
theorem cOt_one {m : zM} {p v : Int} : cOt m (zu (zu m (p + 1) (m p 1) v) p 1 (m p 1 + 1)) p [v] := by
  refine ⟨by rw [zu_s]; rfl, fun t x h => ?_, fun y hy => ?_, zfr_uj (zfr_ua zfr_rf (by simp [fP])) (by simp [fP])⟩
  · have h0 : t = 0 := by have := (List.getElem?_eq_some_iff.mp h).1; simp at this; exact this
    subst h0
    simp only [List.getElem?_cons_zero, Option.some.injEq] at h
    rw [zu_a (by omega), Int.natCast_zero, Int.add_zero, zu_s]
    exact h
  · rw [zu_a (by omega), zu_j (by omega)]
theorem cOt_tr {m m1 m2 : zM} {p : Int} {L1 L2 : List Int} (h1 : cOt m m1 p L1) (h2 : cOt m1 m2 p L2) : cOt m m2 p (L1 ++ L2) := by
  obtain ⟨a1, a2, a3, a4⟩ := h1
  obtain ⟨b1, b2, b3, b4⟩ := h2
  refine ⟨by rw [b1, a1, List.length_append]; omega, fun t x h => ?_, fun y hy => ?_, zfr_tr a4 b4⟩
  · rcases Nat.lt_or_ge t L1.length with q | q
    · rw [List.getElem?_append_left q] at h
      rw [b3 _ (by omega)]
      exact a2 t x h
    · rw [List.getElem?_append_right q] at h
      have := b2 _ x h
      rw [a1] at this
      rw [show m p 1 + (t : Int) = m p 1 + (L1.length : Int) + ((t - L1.length : Nat) : Int) by omega]
      exact this
  · rw [b3 y (by omega)]
    exact a3 y hy
theorem fP_out {m m' : zM} {p a j : Int} (h : zfr (fP p) m m') (ha : a ≠ p + 1) (hb : a ≠ p ∨ j ≠ 1) : m' a j = m a j := h a j (by simp [fP]; exact ha) (by simp [fP]; intro q; rcases hb with hb | hb; exact absurd q hb; exact hb)
theorem pP_ot {m m' : zM} {p : Int} {L : List Int} (h : ptP m p) (o : cOt m m' p L) : ptP m' p := (fP_out o.2.2.2 (by omega) (Or.inr (by decide))).trans h
theorem cTh_of {m m' : zM} {t : Int} {c : Int → Int} (hp : ptT m t) (hw : wfD c) (h : cTh m t c) (hs : ∀ a j, t ≤ a → m' a j = m a j) : cTh m' t c := by
  have b3 := hw.2.2.1
  obtain ⟨h1, h2, h3, h4, h5, h6⟩ := h
  refine ⟨(hs _ _ (by omega)).trans h1, (hs _ _ (by omega)).trans h2, (hs _ _ (by omega)).trans h3, fun f q0 q1 => ?_, fun k q0 q1 => ?_, fun p q0 q1 => ?_⟩
  · rw [hs _ _ (by omega), hs _ _ (by omega), hs _ _ (by omega)]; exact h4 f q0 q1
  · rw [hs _ _ (by omega), hs _ _ (by omega)]; exact h5 k q0 q1
  · rw [hs (t + 6) _ (by omega)]
    obtain ⟨i, i0, i1, i2⟩ := hp.2.2.1 p q0 (by omega)
    have h := h6 p q0 q1
    unfold cPt at h ⊢
    rw [hs _ _ (by omega), hs _ _ (by omega), hs _ _ (by omega)]
    exact ⟨h.1, h.2.1, h.2.2.1, fun k r0 r1 => by rw [hs _ _ (by omega)]; exact h.2.2.2 k r0 r1⟩
theorem ptT_of {m m' : zM} {t : Int} (h : ptT m t) (hs : ∀ a j, t ≤ a → m' a j = m a j) : ptT m' t := by
  obtain ⟨h1, h2, h3, h4⟩ := h
  refine ⟨?_, fun i q0 q1 => by rw [hs _ _ (by omega)]; exact h2 i q0 q1, fun p q0 q1 => by rw [hs _ _ (by omega)]; exact h3 p q0 q1, fun p q a1 a2 a3 a4 => by rw [hs _ _ (by omega), hs _ _ (by omega)]; exact h4 p q a1 a2 a3 a4⟩
  rw [hs _ _ (by omega), hs _ _ (by omega), hs _ _ (by omega), hs _ _ (by omega), hs _ _ (by omega), hs _ _ (by omega), hs _ _ (by omega), hs _ _ (by omega), hs _ _ (by omega), hs _ _ (by omega), hs _ _ (by omega)]
  exact h1
theorem ptT_ot {m m' : zM} {p t : Int} {L : List Int} (h : p + 1 < t) (hp : ptT m t) (o : cOt m m' p L) : ptT m' t := ptT_of hp (fun a j ha => fP_out o.2.2.2 (by omega) (Or.inl (by omega)))
theorem cTh_ot {m m' : zM} {p t : Int} {c : Int → Int} {L : List Int} (h : p + 1 < t) (hp : ptT m t) (hw : wfD c) (hc : cTh m t c) (o : cOt m m' p L) : cTh m' t c := cTh_of hp hw hc (fun a j ha => fP_out o.2.2.2 (by omega) (Or.inl (by omega)))
theorem c_put (d : Nat) {E : zE} {m : zM} (p : Int) (p0 : 0 < p) (sP : shP E p) (pP : ptP m p) (v : Int) (h0 : 0 ≤ m p 1) (h1 : m p 1 + 1 ≤ 48) : zR zX6_put (d) [zP p, zI v] m E E (fun r m' => r = none ∧ cOt m m' p [v] ∧ ptP m' p) := by
  refine zR_go [zP p, zI v] (by decide +kernel) (Nat.le_of_ble_eq_true rfl) rfl rfl ?_
  refine z_aload_n dX6_put_0 rfl ?_
  refine z_gI 1 rfl flX6_15 dX6_put_1 sP.1 rfl ?_
  refine z_aload_n dX6_put_4 rfl ?_
  refine z_gP 0 rfl (r := (p + 1)) flX6_9 dX6_put_5 sP.1 rfl pP (by omega) ?_
  refine z_alen dX6_put_8 sP.2 (by decide) ?_
  refine z_icmp_ge (tgt := 32) dX6_put_9 rfl (fun h => absurd h (by omega)) (fun h9 => ?_)
  refine z_aload_n dX6_put_12 rfl ?_
  refine z_gP 0 rfl (r := (p + 1)) flX6_9 dX6_put_13 sP.1 rfl pP (by omega) ?_
  refine z_aload_n dX6_put_16 rfl ?_
  refine z_gI 1 rfl flX6_15 dX6_put_17 sP.1 rfl ?_
  refine z_iload_n dX6_put_20 rfl ?_
  refine z_iast dX6_put_21 sP.2 (by omega) (by omega) ?_
  refine z_aload_n dX6_put_22 rfl ?_
  refine z_dup dX6_put_23 rfl ?_
  refine z_gIv 1 rfl flX6_15 dX6_put_24 sP.1 rfl (zu_a (by omega)) ?_
  refine z_iconst dX6_put_27 (by decide) ?_
  refine z_add dX6_put_28 (by omega) ?_
  refine z_pI 1 rfl (fpX6_15 _) dX6_put_29 sP.1 rfl ?_
  refine z_vret dX6_put_32 rfl rfl ?_
  exact ⟨rfl, cOt_one, pP_ot pP cOt_one⟩

theorem c_pclear (d : Nat) {E : zE} {m : zM} (p : Int) (p0 : 0 < p) (sP : shP E p) (pP : ptP m p) : zR zX6_clear (d) [zP p] m E E (fun r m' => r = none ∧ zfr (fP p) m m' ∧ m' p 1 = 0 ∧ ptP m' p) := by
  refine zR_go [zP p] (by decide +kernel) (Nat.le_of_ble_eq_true rfl) rfl rfl ?_
  refine z_aload_n dX6_clear_0 rfl ?_
  refine z_iconst dX6_clear_1 (by decide) ?_
  refine z_pI 1 rfl (fpX6_15 _) dX6_clear_2 sP.1 rfl ?_
  refine z_vret dX6_clear_5 rfl rfl ?_
  exact ⟨rfl, zfr_uj zfr_rf (by simp [fP]), zu_s, (zu_j (by decide)).trans pP⟩

theorem c_putNumber (d : Nat) {E : zE} {m : zM} (p : Int) (p0 : 0 < p) (sP : shP E p) (pP : ptP m p) (v : Int) (hv : 0 ≤ v ∧ v ≤ 99) (h0 : 0 ≤ m p 1) (h1 : m p 1 + 2 ≤ 48) : zR zX6_putNumber (d + 1) [zP p, zI v] m E E (fun r m' => r = none ∧ cOt m m' p (pN v) ∧ ptP m' p) := by
  refine zR_go [zP p, zI v] (by decide +kernel) (Nat.le_of_ble_eq_true rfl) rfl rfl ?_
  refine z_iload_n dX6_putNumber_0 rfl ?_
  refine z_bipush dX6_putNumber_1 rfl (by decide) ?_
  refine z_icmp_lt (tgt := 17) dX6_putNumber_3 rfl (fun h3 => ?_) (fun h3 => ?_)
  · refine z_aload_n dX6_putNumber_17 rfl ?_
    refine z_bipush dX6_putNumber_18 rfl (by decide) ?_
    refine z_iload_n dX6_putNumber_20 rfl ?_
    refine z_bipush dX6_putNumber_21 rfl (by decide) ?_
    refine z_rem dX6_putNumber_23 (by omega) (by omega) ?_
    refine z_add dX6_putNumber_24 (by omega) ?_
    refine z_callV mlX6_19 dX6_putNumber_25 sP.1 (av := [_]) rfl rfl (Nat.le_of_ble_eq_true rfl) (c_put _ p p0 sP pP _ (by omega) (by omega)) (Nat.le_refl _) (Nat.le_refl _) (Nat.le_refl _) (Nat.le_refl _) ?_
    rintro _ m1 ⟨rfl, o1, p1⟩
    have n1 := o1.1
    simp only [List.length_cons, List.length_nil] at n1
    have a1 := o1
    refine z_vret dX6_putNumber_28 rfl rfl ?_
    refine ⟨rfl, ?_, p1⟩
    unfold pN
    rw [if_neg (by omega)]
    exact a1
  · refine z_aload_n dX6_putNumber_6 rfl ?_
    refine z_bipush dX6_putNumber_7 rfl (by decide) ?_
    refine z_iload_n dX6_putNumber_9 rfl ?_
    refine z_bipush dX6_putNumber_10 rfl (by decide) ?_
    refine z_div dX6_putNumber_12 (by omega) (by omega) ?_
    refine z_add dX6_putNumber_13 (by omega) ?_
    refine z_callV mlX6_19 dX6_putNumber_14 sP.1 (av := [_]) rfl rfl (Nat.le_of_ble_eq_true rfl) (c_put _ p p0 sP pP _ (by omega) (by omega)) (Nat.le_refl _) (Nat.le_refl _) (Nat.le_refl _) (Nat.le_refl _) ?_
    rintro _ m1 ⟨rfl, o1, p1⟩
    have n1 := o1.1
    simp only [List.length_cons, List.length_nil] at n1
    have a1 := o1
    refine z_aload_n dX6_putNumber_17 rfl ?_
    refine z_bipush dX6_putNumber_18 rfl (by decide) ?_
    refine z_iload_n dX6_putNumber_20 rfl ?_
    refine z_bipush dX6_putNumber_21 rfl (by decide) ?_
    refine z_rem dX6_putNumber_23 (by omega) (by omega) ?_
    refine z_add dX6_putNumber_24 (by omega) ?_
    refine z_callV mlX6_19 dX6_putNumber_25 sP.1 (av := [_]) rfl rfl (Nat.le_of_ble_eq_true rfl) (c_put _ p p0 sP p1 _ (by omega) (by omega)) (Nat.le_refl _) (Nat.le_refl _) (Nat.le_refl _) (Nat.le_refl _) ?_
    rintro _ m2 ⟨rfl, o2, p2⟩
    have n2 := o2.1
    simp only [List.length_cons, List.length_nil] at n2
    have a2 := cOt_tr a1 o2
    refine z_vret dX6_putNumber_28 rfl rfl ?_
    refine ⟨rfl, ?_, p2⟩
    unfold pN
    rw [if_pos (by omega)]
    exact a2

theorem c_putPair (d : Nat) {E : zE} {m : zM} (p : Int) (p0 : 0 < p) (sP : shP E p) (pP : ptP m p) (i j : Int) (hi : 0 ≤ i ∧ i ≤ 99) (hj : 0 ≤ j ∧ j ≤ 99) (h0 : 0 ≤ m p 1) (h1 : m p 1 + 6 ≤ 48) : zR zX6_putPair (d + 2) [zP p, zI i, zI j] m E E (fun r m' => r = none ∧ cOt m m' p (pN i ++ (45 :: (pN j ++ [59]))) ∧ ptP m' p) := by
  refine zR_go [zP p, zI i, zI j] (by decide +kernel) (Nat.le_of_ble_eq_true rfl) rfl rfl ?_
  refine z_aload_n dX6_putPair_0 rfl ?_
  refine z_iload_n dX6_putPair_1 rfl ?_
  refine z_callV mlX6_23 dX6_putPair_2 sP.1 (av := [_]) rfl rfl (Nat.le_of_ble_eq_true rfl) (c_putNumber _ p p0 sP pP i (by omega) (by omega) (by omega)) (Nat.le_refl _) (Nat.le_refl _) (Nat.le_refl _) (Nat.le_refl _) ?_
  rintro _ m1 ⟨rfl, o1, p1⟩
  have n1 := o1.1
  have l1 := pN_len i
  have a1 := o1
  refine z_aload_n dX6_putPair_5 rfl ?_
  refine z_bipush dX6_putPair_6 rfl (by decide) ?_
  refine z_callV mlX6_19 dX6_putPair_8 sP.1 (av := [_]) rfl rfl (Nat.le_of_ble_eq_true rfl) (c_put _ p p0 sP p1 _ (by omega) (by omega)) (Nat.le_refl _) (Nat.le_refl _) (Nat.le_refl _) (Nat.le_refl _) ?_
  rintro _ m2 ⟨rfl, o2, p2⟩
  have n2 := o2.1
  simp only [List.length_cons, List.length_nil] at n2
  have a2 := cOt_tr a1 o2
  refine z_aload_n dX6_putPair_11 rfl ?_
  refine z_iload_n dX6_putPair_12 rfl ?_
  refine z_callV mlX6_23 dX6_putPair_13 sP.1 (av := [_]) rfl rfl (Nat.le_of_ble_eq_true rfl) (c_putNumber _ p p0 sP p2 j (by omega) (by omega) (by omega)) (Nat.le_refl _) (Nat.le_refl _) (Nat.le_refl _) (Nat.le_refl _) ?_
  rintro _ m3 ⟨rfl, o3, p3⟩
  have n3 := o3.1
  have l3 := pN_len j
  have a3 := cOt_tr a2 o3
  refine z_aload_n dX6_putPair_16 rfl ?_
  refine z_bipush dX6_putPair_17 rfl (by decide) ?_
  refine z_callV mlX6_19 dX6_putPair_19 sP.1 (av := [_]) rfl rfl (Nat.le_of_ble_eq_true rfl) (c_put _ p p0 sP p3 _ (by omega) (by omega)) (Nat.le_refl _) (Nat.le_refl _) (Nat.le_refl _) (Nat.le_refl _) ?_
  rintro _ m4 ⟨rfl, o4, p4⟩
  have n4 := o4.1
  simp only [List.length_cons, List.length_nil] at n4
  have a4 := cOt_tr a3 o4
  refine z_vret dX6_putPair_22 rfl rfl ?_
  refine ⟨rfl, ?_, p4⟩
  have e := a4
  simp only [List.append_assoc, List.cons_append, List.nil_append] at e
  exact e

theorem c_putSymbol (d : Nat) {E : zE} {m : zM} (p : Int) (p0 : 0 < p) (sP : shP E p) (pP : ptP m p) (t : Int) (htp : p + 1 < t) (sT : shT E t) (pT : ptT m t) (c : Int → Int) (hw : wfD c) (hc : cTh m t c) (f : Int) (hf : 0 ≤ f ∧ f < c 0) (h0 : 0 ≤ m p 1) (h1 : m p 1 + 1 ≤ 48) : zR zX6_putSymbol (d + 1) [zP p, zP t, zI f] m E E (fun r m' => r = none ∧ cOt m m' p [c (4 + 3 * f) + 97 - 1] ∧ ptP m' p) := by
  refine zR_go [zP p, zP t, zI f] (by decide +kernel) (Nat.le_of_ble_eq_true rfl) rfl rfl ?_
  refine z_aload_n dX6_putSymbol_0 rfl ?_
  refine z_bipush dX6_putSymbol_1 rfl (by decide) ?_
  refine z_aload_n dX6_putSymbol_3 rfl ?_
  refine z_gP 0 rfl (r := (t + 1)) flX6_42 dX6_putSymbol_4 (sT0 sT) rfl (pT0 pT) (by omega) ?_
  refine z_iload_n dX6_putSymbol_7 rfl ?_
  refine z_ialv dX6_putSymbol_8 (sT1 sT) (by omega) (by have := hw.1; omega) (hc.2.2.2.1 f hf.1 hf.2).1 ?_
  refine z_add dX6_putSymbol_9 (by have := (hw.2.2.2.1 f hf.1 hf.2).1; omega) ?_
  refine z_callV mlX6_19 dX6_putSymbol_10 sP.1 (av := [_]) rfl rfl (Nat.le_of_ble_eq_true rfl) (c_put _ p p0 sP pP _ (by omega) (by omega)) (Nat.le_refl _) (Nat.le_refl _) (Nat.le_refl _) (Nat.le_refl _) ?_
  rintro _ m1 ⟨rfl, o1, p1⟩
  have n1 := o1.1
  simp only [List.length_cons, List.length_nil] at n1
  have a1 := o1
  refine z_vret dX6_putSymbol_13 rfl rfl ?_
  refine ⟨rfl, ?_, p1⟩
  rw [show c (4 + 3 * f) + 97 - 1 = 96 + c (4 + 3 * f) by omega]
  exact a1

theorem c_putLine (d : Nat) {E : zE} {m : zM} (p : Int) (p0 : 0 < p) (sP : shP E p) (pP : ptP m p) (t : Int) (htp : p + 1 < t) (sT : shT E t) (pT : ptT m t) (c : Int → Int) (hw : wfD c) (hc : cTh m t c) (co : Int) (hco : cCodeOk c co = true) (h0 : 0 ≤ m p 1) (h1 : m p 1 + 8 ≤ 48) : zR zX6_putLine (d + 2) [zP p, zI co, zP t] m E E (fun r m' => r = none ∧ cOt m m' p (pLn c co) ∧ ptP m' p) := by
  have hci := cCodeOk_iff.mp hco
  have hcr := cCodeOk_rgD hw hco
  have b1 := hw.1
  have b2 := hw.2.1
  have b3 := hw.2.2.1
  have hso : co % 10 < 6 → co % 10 < c 0 := fun h => by rw [if_neg (by omega)] at hci; exact hci.2.2.2.1
  refine zR_go [zP p, zI co, zP t, zN] (by decide +kernel) (Nat.le_of_ble_eq_true rfl) rfl rfl ?_
  refine z_iload_n dX6_putLine_0 rfl ?_
  refine z_bipush dX6_putLine_1 rfl (by decide) ?_
  refine z_rem dX6_putLine_3 (by omega) (by omega) ?_
  refine z_ist 3 dX6_putLine_4 rfl (Nat.le_of_ble_eq_true rfl) ?_
  refine z_aload_n dX6_putLine_5 rfl ?_
  refine z_iload_n dX6_putLine_6 rfl ?_
  refine z_bipush dX6_putLine_7 rfl (by decide) ?_
  refine z_div dX6_putLine_9 (by omega) (by omega) ?_
  try dsimp only [zs0, zsI, zsP, zsN, zsJ, zsS, zst2, Nat.reduceAdd]
  refine z_callV mlX6_23 dX6_putLine_10 sP.1 (av := [_]) rfl rfl (Nat.le_of_ble_eq_true rfl) (c_putNumber _ p p0 sP pP (co / 100) (by omega) (by omega) (by omega)) (Nat.le_refl _) (Nat.le_refl _) (Nat.le_refl _) (Nat.le_refl _) ?_
  rintro _ m1 ⟨rfl, o1, p1⟩
  have n1 := o1.1
  have l1 := pN_len (co / 100)
  have a1 := o1
  refine z_aload_n dX6_putLine_13 rfl ?_
  refine z_aload_n dX6_putLine_14 rfl ?_
  refine z_iload_n dX6_putLine_15 rfl ?_
  refine z_callV mlX6_26 dX6_putLine_16 (sT0 sT) (av := [_]) rfl rfl (Nat.le_of_ble_eq_true rfl) (c_isPairSort _ t (by omega) sT (ptT_ot htp pT a1) c hw (cTh_ot htp pT hw hc a1) (co % 10) (by omega) hso) (Nat.le_refl _) (Nat.le_refl _) (Nat.le_refl _) (Nat.le_refl _) ?_
  rintro _ _ ⟨rfl, rfl⟩
  refine z_ifz_eq (tgt := 27) dX6_putLine_19 rfl (fun h19 => ?_) (fun h19 => ?_)
  · refine z_bipush dX6_putLine_27 rfl (by decide) ?_
    refine z_callV mlX6_19 dX6_putLine_29 sP.1 (av := [_]) rfl rfl (Nat.le_of_ble_eq_true rfl) (c_put _ p p0 sP p1 _ (by omega) (by omega)) (Nat.le_refl _) (Nat.le_refl _) (Nat.le_refl _) (Nat.le_refl _) ?_
    rintro _ m2 ⟨rfl, o2, p2⟩
    have n2 := o2.1
    simp only [List.length_cons, List.length_nil] at n2
    have a2 := cOt_tr a1 o2
    refine z_aload_n dX6_putLine_32 rfl ?_
    refine z_iload_n dX6_putLine_33 rfl ?_
    refine z_bipush dX6_putLine_34 rfl (by decide) ?_
    refine z_div dX6_putLine_36 (by omega) (by omega) ?_
    refine z_bipush dX6_putLine_37 rfl (by decide) ?_
    refine z_rem dX6_putLine_39 (by omega) (by omega) ?_
    refine z_callV mlX6_23 dX6_putLine_40 sP.1 (av := [_]) rfl rfl (Nat.le_of_ble_eq_true rfl) (c_putNumber _ p p0 sP p2 (co / 10 % 10) (by omega) (by omega) (by omega)) (Nat.le_refl _) (Nat.le_refl _) (Nat.le_refl _) (Nat.le_refl _) ?_
    rintro _ m3 ⟨rfl, o3, p3⟩
    have n3 := o3.1
    have l3 := pN_len (co / 10 % 10)
    have a3 := cOt_tr a2 o3
    refine z_iload_n dX6_putLine_43 rfl ?_
    refine z_bipush dX6_putLine_44 rfl (by decide) ?_
    refine z_icmp_ge (tgt := 58) dX6_putLine_46 rfl (fun h46 => ?_) (fun h46 => ?_)
    · have hmx : co % 10 - 6 < c 1 := by rw [if_pos (by omega)] at hci; exact hci.2.2.2
      have hx := hw.2.2.2.2.1 (co % 10 - 6) (by omega) hmx
      refine z_iload_n dX6_putLine_58 rfl ?_
      refine z_bipush dX6_putLine_59 rfl (by decide) ?_
      refine z_sub dX6_putLine_61 (by omega) ?_
      refine z_iconst dX6_putLine_62 (by decide) ?_
      refine z_icmp_ge (tgt := 94) dX6_putLine_63 rfl (fun h => absurd h (by omega)) (fun h63 => ?_)
      refine z_aload_n dX6_putLine_66 rfl ?_
      refine z_aload_n dX6_putLine_67 rfl ?_
      refine z_aload_n dX6_putLine_68 rfl ?_
      refine z_gP 3 rfl (r := (t + 4)) flX6_36 dX6_putLine_69 (sT0 sT) rfl (pT3 (ptT_ot htp pT a3)) (by omega) ?_
      refine z_iload_n dX6_putLine_72 rfl ?_
      refine z_bipush dX6_putLine_73 rfl (by decide) ?_
      refine z_sub dX6_putLine_75 (by omega) ?_
      refine z_ialv dX6_putLine_76 (sT4 sT) (by omega) (by omega) ((cTh_ot htp pT hw hc a3).2.2.2.2.1 (co % 10 - 6) (by omega) hmx).1 ?_
      refine z_callV mlX6_32 dX6_putLine_77 sP.1 (av := [_, _]) rfl rfl (Nat.le_of_ble_eq_true rfl) (c_putSymbol _ p p0 sP p3 t htp sT (ptT_ot htp pT a3) c hw (cTh_ot htp pT hw hc a3) (c (24 + 2 * (co % 10 - 6))) ⟨hx.1.1, hx.1.2⟩ (by omega) (by omega)) (Nat.le_refl _) (Nat.le_refl _) (Nat.le_refl _) (Nat.le_refl _) ?_
      rintro _ m4 ⟨rfl, o4, p4⟩
      have n4 := o4.1
      simp only [List.length_cons, List.length_nil] at n4
      have a4 := cOt_tr a3 o4
      refine z_aload_n dX6_putLine_80 rfl ?_
      refine z_aload_n dX6_putLine_81 rfl ?_
      refine z_aload_n dX6_putLine_82 rfl ?_
      refine z_gP 4 rfl (r := (t + 5)) flX6_39 dX6_putLine_83 (sT0 sT) rfl (pT4 (ptT_ot htp pT a4)) (by omega) ?_
      refine z_iload_n dX6_putLine_86 rfl ?_
      refine z_bipush dX6_putLine_87 rfl (by decide) ?_
      refine z_sub dX6_putLine_89 (by omega) ?_
      refine z_ialv dX6_putLine_90 (sT5 sT) (by omega) (by omega) ((cTh_ot htp pT hw hc a4).2.2.2.2.1 (co % 10 - 6) (by omega) hmx).2 ?_
      refine z_callV mlX6_32 dX6_putLine_91 sP.1 (av := [_, _]) rfl rfl (Nat.le_of_ble_eq_true rfl) (c_putSymbol _ p p0 sP p4 t htp sT (ptT_ot htp pT a4) c hw (cTh_ot htp pT hw hc a4) (c (24 + 2 * (co % 10 - 6) + 1)) ⟨hx.2.1, hx.2.2⟩ (by omega) (by omega)) (Nat.le_refl _) (Nat.le_refl _) (Nat.le_refl _) (Nat.le_refl _) ?_
      rintro _ m5 ⟨rfl, o5, p5⟩
      have n5 := o5.1
      simp only [List.length_cons, List.length_nil] at n5
      have a5 := cOt_tr a4 o5
      refine z_aload_n dX6_putLine_94 rfl ?_
      refine z_bipush dX6_putLine_95 rfl (by decide) ?_
      refine z_callV mlX6_19 dX6_putLine_97 sP.1 (av := [_]) rfl rfl (Nat.le_of_ble_eq_true rfl) (c_put _ p p0 sP p5 _ (by omega) (by omega)) (Nat.le_refl _) (Nat.le_refl _) (Nat.le_refl _) (Nat.le_refl _) ?_
      rintro _ m6 ⟨rfl, o6, p6⟩
      have n6 := o6.1
      simp only [List.length_cons, List.length_nil] at n6
      have a6 := cOt_tr a5 o6
      refine z_vret dX6_putLine_100 rfl rfl ?_
      refine ⟨rfl, ?_, p6⟩
      have e := a6
      unfold pLn
      rw [if_neg h19, if_pos (by omega)]
      simp only [List.append_assoc, List.cons_append, List.nil_append] at e ⊢
      exact e
    · refine z_aload_n dX6_putLine_49 rfl ?_
      refine z_aload_n dX6_putLine_50 rfl ?_
      refine z_iload_n dX6_putLine_51 rfl ?_
      refine z_callV mlX6_32 dX6_putLine_52 sP.1 (av := [_, _]) rfl rfl (Nat.le_of_ble_eq_true rfl) (c_putSymbol _ p p0 sP p3 t htp sT (ptT_ot htp pT a3) c hw (cTh_ot htp pT hw hc a3) (co % 10) ⟨by omega, hso (by omega)⟩ (by omega) (by omega)) (Nat.le_refl _) (Nat.le_refl _) (Nat.le_refl _) (Nat.le_refl _) ?_
      rintro _ m4 ⟨rfl, o4, p4⟩
      have n4 := o4.1
      simp only [List.length_cons, List.length_nil] at n4
      have a4 := cOt_tr a3 o4
      refine z_goto (tgt := 94) dX6_putLine_55 rfl ?_
      refine z_aload_n dX6_putLine_94 rfl ?_
      refine z_bipush dX6_putLine_95 rfl (by decide) ?_
      refine z_callV mlX6_19 dX6_putLine_97 sP.1 (av := [_]) rfl rfl (Nat.le_of_ble_eq_true rfl) (c_put _ p p0 sP p4 _ (by omega) (by omega)) (Nat.le_refl _) (Nat.le_refl _) (Nat.le_refl _) (Nat.le_refl _) ?_
      rintro _ m5 ⟨rfl, o5, p5⟩
      have n5 := o5.1
      simp only [List.length_cons, List.length_nil] at n5
      have a5 := cOt_tr a4 o5
      refine z_vret dX6_putLine_100 rfl rfl ?_
      refine ⟨rfl, ?_, p5⟩
      have e := a5
      unfold pLn
      rw [if_neg h19, if_neg (by omega)]
      simp only [List.append_assoc, List.cons_append, List.nil_append] at e ⊢
      exact e
  · refine z_bipush dX6_putLine_22 rfl (by decide) ?_
    refine z_goto (tgt := 29) dX6_putLine_24 rfl ?_
    refine z_callV mlX6_19 dX6_putLine_29 sP.1 (av := [_]) rfl rfl (Nat.le_of_ble_eq_true rfl) (c_put _ p p0 sP p1 _ (by omega) (by omega)) (Nat.le_refl _) (Nat.le_refl _) (Nat.le_refl _) (Nat.le_refl _) ?_
    rintro _ m2 ⟨rfl, o2, p2⟩
    have n2 := o2.1
    simp only [List.length_cons, List.length_nil] at n2
    have a2 := cOt_tr a1 o2
    refine z_aload_n dX6_putLine_32 rfl ?_
    refine z_iload_n dX6_putLine_33 rfl ?_
    refine z_bipush dX6_putLine_34 rfl (by decide) ?_
    refine z_div dX6_putLine_36 (by omega) (by omega) ?_
    refine z_bipush dX6_putLine_37 rfl (by decide) ?_
    refine z_rem dX6_putLine_39 (by omega) (by omega) ?_
    refine z_callV mlX6_23 dX6_putLine_40 sP.1 (av := [_]) rfl rfl (Nat.le_of_ble_eq_true rfl) (c_putNumber _ p p0 sP p2 (co / 10 % 10) (by omega) (by omega) (by omega)) (Nat.le_refl _) (Nat.le_refl _) (Nat.le_refl _) (Nat.le_refl _) ?_
    rintro _ m3 ⟨rfl, o3, p3⟩
    have n3 := o3.1
    have l3 := pN_len (co / 10 % 10)
    have a3 := cOt_tr a2 o3
    refine z_iload_n dX6_putLine_43 rfl ?_
    refine z_bipush dX6_putLine_44 rfl (by decide) ?_
    refine z_icmp_ge (tgt := 58) dX6_putLine_46 rfl (fun h46 => ?_) (fun h46 => ?_)
    · have hmx : co % 10 - 6 < c 1 := by rw [if_pos (by omega)] at hci; exact hci.2.2.2
      have hx := hw.2.2.2.2.1 (co % 10 - 6) (by omega) hmx
      refine z_iload_n dX6_putLine_58 rfl ?_
      refine z_bipush dX6_putLine_59 rfl (by decide) ?_
      refine z_sub dX6_putLine_61 (by omega) ?_
      refine z_iconst dX6_putLine_62 (by decide) ?_
      refine z_icmp_ge (tgt := 94) dX6_putLine_63 rfl (fun h => absurd h (by omega)) (fun h63 => ?_)
      refine z_aload_n dX6_putLine_66 rfl ?_
      refine z_aload_n dX6_putLine_67 rfl ?_
      refine z_aload_n dX6_putLine_68 rfl ?_
      refine z_gP 3 rfl (r := (t + 4)) flX6_36 dX6_putLine_69 (sT0 sT) rfl (pT3 (ptT_ot htp pT a3)) (by omega) ?_
      refine z_iload_n dX6_putLine_72 rfl ?_
      refine z_bipush dX6_putLine_73 rfl (by decide) ?_
      refine z_sub dX6_putLine_75 (by omega) ?_
      refine z_ialv dX6_putLine_76 (sT4 sT) (by omega) (by omega) ((cTh_ot htp pT hw hc a3).2.2.2.2.1 (co % 10 - 6) (by omega) hmx).1 ?_
      refine z_callV mlX6_32 dX6_putLine_77 sP.1 (av := [_, _]) rfl rfl (Nat.le_of_ble_eq_true rfl) (c_putSymbol _ p p0 sP p3 t htp sT (ptT_ot htp pT a3) c hw (cTh_ot htp pT hw hc a3) (c (24 + 2 * (co % 10 - 6))) ⟨hx.1.1, hx.1.2⟩ (by omega) (by omega)) (Nat.le_refl _) (Nat.le_refl _) (Nat.le_refl _) (Nat.le_refl _) ?_
      rintro _ m4 ⟨rfl, o4, p4⟩
      have n4 := o4.1
      simp only [List.length_cons, List.length_nil] at n4
      have a4 := cOt_tr a3 o4
      refine z_aload_n dX6_putLine_80 rfl ?_
      refine z_aload_n dX6_putLine_81 rfl ?_
      refine z_aload_n dX6_putLine_82 rfl ?_
      refine z_gP 4 rfl (r := (t + 5)) flX6_39 dX6_putLine_83 (sT0 sT) rfl (pT4 (ptT_ot htp pT a4)) (by omega) ?_
      refine z_iload_n dX6_putLine_86 rfl ?_
      refine z_bipush dX6_putLine_87 rfl (by decide) ?_
      refine z_sub dX6_putLine_89 (by omega) ?_
      refine z_ialv dX6_putLine_90 (sT5 sT) (by omega) (by omega) ((cTh_ot htp pT hw hc a4).2.2.2.2.1 (co % 10 - 6) (by omega) hmx).2 ?_
      refine z_callV mlX6_32 dX6_putLine_91 sP.1 (av := [_, _]) rfl rfl (Nat.le_of_ble_eq_true rfl) (c_putSymbol _ p p0 sP p4 t htp sT (ptT_ot htp pT a4) c hw (cTh_ot htp pT hw hc a4) (c (24 + 2 * (co % 10 - 6) + 1)) ⟨hx.2.1, hx.2.2⟩ (by omega) (by omega)) (Nat.le_refl _) (Nat.le_refl _) (Nat.le_refl _) (Nat.le_refl _) ?_
      rintro _ m5 ⟨rfl, o5, p5⟩
      have n5 := o5.1
      simp only [List.length_cons, List.length_nil] at n5
      have a5 := cOt_tr a4 o5
      refine z_aload_n dX6_putLine_94 rfl ?_
      refine z_bipush dX6_putLine_95 rfl (by decide) ?_
      refine z_callV mlX6_19 dX6_putLine_97 sP.1 (av := [_]) rfl rfl (Nat.le_of_ble_eq_true rfl) (c_put _ p p0 sP p5 _ (by omega) (by omega)) (Nat.le_refl _) (Nat.le_refl _) (Nat.le_refl _) (Nat.le_refl _) ?_
      rintro _ m6 ⟨rfl, o6, p6⟩
      have n6 := o6.1
      simp only [List.length_cons, List.length_nil] at n6
      have a6 := cOt_tr a5 o6
      refine z_vret dX6_putLine_100 rfl rfl ?_
      refine ⟨rfl, ?_, p6⟩
      have e := a6
      unfold pLn
      rw [if_pos h19, if_pos (by omega)]
      simp only [List.append_assoc, List.cons_append, List.nil_append] at e ⊢
      exact e
    · refine z_aload_n dX6_putLine_49 rfl ?_
      refine z_aload_n dX6_putLine_50 rfl ?_
      refine z_iload_n dX6_putLine_51 rfl ?_
      refine z_callV mlX6_32 dX6_putLine_52 sP.1 (av := [_, _]) rfl rfl (Nat.le_of_ble_eq_true rfl) (c_putSymbol _ p p0 sP p3 t htp sT (ptT_ot htp pT a3) c hw (cTh_ot htp pT hw hc a3) (co % 10) ⟨by omega, hso (by omega)⟩ (by omega) (by omega)) (Nat.le_refl _) (Nat.le_refl _) (Nat.le_refl _) (Nat.le_refl _) ?_
      rintro _ m4 ⟨rfl, o4, p4⟩
      have n4 := o4.1
      simp only [List.length_cons, List.length_nil] at n4
      have a4 := cOt_tr a3 o4
      refine z_goto (tgt := 94) dX6_putLine_55 rfl ?_
      refine z_aload_n dX6_putLine_94 rfl ?_
      refine z_bipush dX6_putLine_95 rfl (by decide) ?_
      refine z_callV mlX6_19 dX6_putLine_97 sP.1 (av := [_]) rfl rfl (Nat.le_of_ble_eq_true rfl) (c_put _ p p0 sP p4 _ (by omega) (by omega)) (Nat.le_refl _) (Nat.le_refl _) (Nat.le_refl _) (Nat.le_refl _) ?_
      rintro _ m5 ⟨rfl, o5, p5⟩
      have n5 := o5.1
      simp only [List.length_cons, List.length_nil] at n5
      have a5 := cOt_tr a4 o5
      refine z_vret dX6_putLine_100 rfl rfl ?_
      refine ⟨rfl, ?_, p5⟩
      have e := a5
      unfold pLn
      rw [if_pos h19, if_neg (by omega)]
      simp only [List.append_assoc, List.cons_append, List.nil_append] at e ⊢
      exact e
