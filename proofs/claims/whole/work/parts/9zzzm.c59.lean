theorem zTn_p {yc ym : zY} {args : List zV} {v : Int × Int} {L' : List Int → List Int} {m : zM} {E : zE} (h : lwI m E) (hc : ∀ (X : Int → Int) (t s a cap a2 cap2 ka kcap b bcap : Int), cJ m E (mT m) X t s a cap a2 cap2 ka kcap b bcap → ∀ L, cTx m L → ∃ E1 : zE, (E.2.1 ≤ E1.2.1 ∧ E.2.2 ≤ E1.2.2) ∧ EB E1 ∧ zR yc 20 (zP 0 :: args) m E E1 (fun r m' => r = some (zI v.2) ∧ cPq m m' E1 (mT m) X v.1 (L' L))) (hm : ∀ (m1 : zM) (E1 : zE), shM E1 → mI m1 → sameM m m1 → ∀ L, mTxt m1 L → zR ym 20 (zP aM :: args) m1 E1 E1 (fun r m' => r = some (zI v.2) ∧ mI m' ∧ zfr fQP m1 m' ∧ m' aM f_status = v.1 ∧ mTxt m' (L' L))) : zTn zI yc ym args m E := by
  obtain ⟨X, ⟨t, s, a, cap, a2, cap2, ka, kcap, b, bcap, hJ⟩, hX⟩ := h.1
  obtain ⟨L, l1, l2⟩ := h.2.2.2.2.1
  obtain ⟨E1, le, eb, hr⟩ := hc X t s a cap a2 cap2 ka kcap b bcap hJ L l1
  refine ⟨E1, le, eb, zR_imp hr ?_⟩
  rintro r m1 ⟨rfl, j1, f1, s1, x1⟩
  have sm : sameM m m1 := fun x k x0 x1 => f1 x k (by omega)
  have hs : shM E1 := cX_sh (show cX m1 E1 (mT m) X from j1)
  have l3 : mTxt m1 L := by
    unfold mTxt
    rw [sm aM f_outMany (by decide) (by decide), sM_c sm (a := a_out) (by decide) (by decide)]
    exact l2
  refine ⟨_, rfl, hs, zR_imp (hm m1 E1 hs (mI_loc h.2.1 sm) sm L l3) ?_⟩
  rintro r' m2 ⟨rfl, i2, f2, s2, x2⟩
  have tf := kp_tf h.2.2.1 h.2.2.2.1 (fun x k z => f1 x k (by omega)) f2 (by decide)
  have g : ∀ x k : Int, (x < 95 ∨ 121 ≤ x) → m2 x k = m1 x k := fun x k hx => zfr_cls f2 (by decide) hx
  refine ⟨rfl, ⟨X, ?_, ?_⟩, i2, tf.1, tf.2, ⟨L' L, ?_, x2⟩, ?_⟩
  · rw [show mT m2 = mT m from (mT_fr f2 (by decide)).trans (mT_loc sm)]
    exact cX_cls j1 g
  · rw [show m2 a_c = m a_c from (zfr_cell f2 (by decide)).trans (sM_c sm (by decide) (by decide)), show m2 a_worths = m a_worths from (zfr_cell f2 (by decide)).trans (sM_c sm (by decide) (by decide))]
    exact hX
  · unfold cTx
    rw [g 37 1 (by omega)]
    exact ⟨x1.1, x1.2.1, fun t x e => by rw [g 38 _ (by omega)]; exact x1.2.2 t x e⟩
  · rw [g 0 11 (by omega), s1, s2]
theorem k_print {m : zM} {E : zE} (h : lwI m E) (dd : Int) : zTn zI zX11_print zX12_print [zI dd] m E := zTn_p (v := aPrint (mT m) dd) (L' := fun L => if (aPrint (mT m) dd).1 = 0 then tTxt (mT m) dd else L) h (fun X t s a cap a2 cap2 ka kcap b bcap hJ L l1 => p_print 4 (mT m) X t s a cap a2 cap2 ka kcap b bcap hJ dd L l1) (fun m1 E1 hE hI sm L l2 => by
  have q := q_print 5 hE hI dd l2
  rw [mT_loc sm] at q
  exact q)
theorem k_printPairs {m : zM} {E : zE} (h : lwI m E) (k : Int) : zTn zI zX11_printPairs zX12_printPairs [zI k] m E := zTn_p (v := aPrintP (mT m) k) (L' := fun L => if (aPrintP (mT m) k).1 = 0 then tTxtP (mT m) k else L) h (fun X t s a cap a2 cap2 ka kcap b bcap hJ L l1 => p_printPairs 4 (mT m) X t s a cap a2 cap2 ka kcap b bcap hJ k L l1) (fun m1 E1 hE hI sm L l2 => by
  have q := q_printPairs 8 hE hI k l2
  rw [mT_loc sm] at q
  exact q)
theorem lw_thr {m : zM} {E : zE} (h : lwI m E) : lwI (zu m aM f_thrown 0) E := by
  have f2 : zfr [(aM, some f_thrown)] m (zu m aM f_thrown 0) := zfr_uj zfr_rf (by decide)
  have tf := kp_tf (m1 := m) h.2.2.1 h.2.2.2.1 (fun x k z => rfl) f2 (by decide)
  have tx := kp_tx (m1 := m) h.2.2.2.2.1 (fun x k z => rfl) f2 (by decide) (by decide)
  obtain ⟨X, j1, hX⟩ := h.1
  refine ⟨⟨X, ?_, ?_⟩, mI_fr h.2.1 (zfr_sub f2 (by decide)), tf.1, tf.2, tx, ?_⟩
  · rw [mT_fr f2 (by decide)]
    exact cX_cls j1 (fun x k hx => zfr_cls f2 (by decide) hx)
  · rw [zfr_cell f2 (a := a_c) (by decide), zfr_cell f2 (a := a_worths) (by decide)]
    exact hX
  · rw [zfr_cls f2 (by decide) (by omega), zfr_at f2 (by decide)]
    exact h.2.2.2.2.2
theorem k_status {m : zM} {E : zE} (h : lwI m E) : zTn zI zX11_status zX12_status [] m E := by
  obtain ⟨X, ⟨t, s, a, cap, a2, cap2, ka, kcap, b, bcap, hJ⟩, hX⟩ := h.1
  refine ⟨E, ⟨Nat.le_refl _, Nat.le_refl _⟩, EB_e hJ, zR_imp (p_status 4 (mT m) X t s a cap a2 cap2 ka kcap b bcap hJ) ?_⟩
  rintro r m1 ⟨rfl, rfl⟩
  have hs : shM E := cX_sh ⟨t, s, a, cap, a2, cap2, ka, kcap, b, bcap, hJ⟩
  refine ⟨_, rfl, hs, zR_imp (r_status 20 hs h.2.1.1.1) ?_⟩
  rintro r' m2 ⟨rfl, rfl⟩
  exact ⟨by rw [h.2.2.2.2.2], lw_thr h⟩
theorem k_fault {m : zM} {E : zE} (h : lwI m E) (w : Int) : zTn zI zX11_fault zX12_fault [zI w] m E := by
  obtain ⟨X, ⟨t, s, a, cap, a2, cap2, ka, kcap, b, bcap, hJ⟩, hX⟩ := h.1
  refine ⟨E, ⟨Nat.le_refl _, Nat.le_refl _⟩, EB_e hJ, zR_imp (p_fault 4 (mT m) X t s a cap a2 cap2 ka kcap b bcap hJ w) ?_⟩
  rintro r m1 ⟨rfl, rfl⟩
  have hs : shM E := cX_sh ⟨t, s, a, cap, a2, cap2, ka, kcap, b, bcap, hJ⟩
  refine ⟨_, rfl, hs, zR_imp (r_fault 20 hs h.2.1.1.1 w) ?_⟩
  rintro r' m2 ⟨rfl, rfl⟩
  exact ⟨by rw [h.2.2.2.1.1, h.2.2.2.1.2], lw_thr h⟩
theorem mI_tp {m m1 : zM} (h : mI m) (f : ∀ a k : Int, 95 ≤ a → a < 121 → a ≠ a_tape → m1 a k = m a k) : mI m1 := by
  have g : ∀ {a : Int}, 95 ≤ a → a < 121 → a ≠ a_tape → m1 a = m a := fun {a} a0 a1 a2 => funext (fun k => f a k a0 a1 a2)
  have e0 : m1 aM = m aM := g (by decide) (by decide) (by decide)
  have e1 : m1 a_c = m a_c := g (by decide) (by decide) (by decide)
  have e2 : m1 a_what = m a_what := g (by decide) (by decide) (by decide)
  have e3 : m1 a_pointOf = m a_pointOf := g (by decide) (by decide) (by decide)
  have e4 : m1 a_mate = m a_mate := g (by decide) (by decide) (by decide)
  have e5 : m1 a_table = m a_table := g (by decide) (by decide) (by decide)
  have e6 : m1 a_sign = m a_sign := g (by decide) (by decide) (by decide)
  have e7 : m1 a_crossings = m a_crossings := g (by decide) (by decide) (by decide)
  have e8 : m1 a_rounds = m a_rounds := g (by decide) (by decide) (by decide)
  have e9 : m1 a_names = m a_names := g (by decide) (by decide) (by decide)
  have e10 : m1 a_diagramOf = m a_diagramOf := g (by decide) (by decide) (by decide)
  have e11 : m1 a_places = m a_places := g (by decide) (by decide) (by decide)
  have e12 : m1 a_worths = m a_worths := g (by decide) (by decide) (by decide)
  have e13 : m1 a_words = m a_words := g (by decide) (by decide) (by decide)
  simp only [mI, mOK, mL, mN, mPl, mWd, mPairs, mName, ptM] at h ⊢
  rw [e0, e1, e2, e3, e4, e5, e6, e7, e8, e9, e10, e11, e12, e13]
  exact h
theorem mI_fd {m m2 : zM} (h : mI m) (f2 : zfr fFd m m2) (ht : 0 ≤ m2 aM f_taped ∧ m2 aM f_taped ≤ 400) : mI m2 := by
  have f3 : zfr fLdDX m (zfill m2 a_tape (m a_tape)) := fun x k q1 q2 => by
    show (if x = a_tape then m a_tape k else m2 x k) = m x k
    by_cases e : x = a_tape
    · rw [if_pos e, e]
    · rw [if_neg e]
      refine f2 x k (fun z => ?_) (fun z => ?_)
      · simp only [fFd, List.mem_cons, Prod.mk.injEq, reduceCtorEq, and_false, and_true, List.not_mem_nil, or_false] at z
        exact e z
      · simp only [fFd, List.mem_cons, Prod.mk.injEq, Option.some.injEq, reduceCtorEq, and_false, List.not_mem_nil, or_false, false_or] at z
        rcases z with ⟨z1, z2⟩ | ⟨z1, z2⟩
        · exact q2 (by rw [z1, z2]; decide)
        · exact q2 (by rw [z1, z2]; decide)
  have hc : zfill m2 a_tape (m a_tape) a_c = m a_c := funext (fun k => (if_neg (by decide)).trans (congrFun (zfr_cell f2 (a := a_c) (by decide)) k))
  have h3 := mI_ldX h f3 hc ht
  exact mI_tp h3 (fun x k x0 x1 x2 => (if_neg x2).symm)
theorem k_feed {m : zM} {E : zE} (h : lwI m E) (v1 v2 v3 v4 v5 : Int) : zTn zI zX11_feed zX12_feed [zI v1, zI v2, zI v3, zI v4, zI v5] m E := by
  obtain ⟨X, ⟨t, s, a, cap, a2, cap2, ka, kcap, b, bcap, hJ⟩, hX⟩ := h.1
  have ht := h.2.2.1
  refine ⟨E, ⟨Nat.le_refl _, Nat.le_refl _⟩, EB_e hJ, zR_imp (p_feed 4 (mT m) X t s a cap a2 cap2 ka kcap b bcap hJ v1 v2 v3 v4 v5) ?_⟩
  rintro r m1 ⟨rfl, j1, f1, t1, k1⟩
  have hs : shM E := cX_sh ⟨t, s, a, cap, a2, cap2, ka, kcap, b, bcap, hJ⟩
  have sm : sameM m m1 := fun x k x0 x1 => f1 x k (by omega) (by omega)
  have hi := mI_loc h.2.1 sm
  have et : m1 aM f_taped = m 1 1 := (sm _ _ (by decide) (by decide)).trans ht.1.symm
  have etp : m1 a_tape = m a_tape := sM_c sm (by decide) (by decide)
  have q := r_feed 19 hs hi.1.1 v1 v2 v3 v4 v5 hi.2.2.2.2.2.1
  rw [et] at q
  refine ⟨_, rfl, hs, zR_imp q ?_⟩
  rintro r' m2 ⟨rfl, f2, t2, k2⟩
  have hb := hJ.1.2.2.2.2.2.2.2
  have g : ∀ x k : Int, (x < 95 ∨ 121 ≤ x) → m2 x k = m1 x k := fun x k hx => zfr_cls f2 (by decide) hx
  have tx := kp_tx h.2.2.2.2.1 (fun x k z => f1 x k (by omega) (by omega)) f2 (by decide) (by decide)
  have i2 : mI m2 := mI_fd hi f2 (by rw [t2]; split <;> omega)
  refine ⟨rfl, ⟨X, ?_, ?_⟩, i2, ⟨?_, fun x x0 x1 => ?_⟩, ⟨?_, ?_⟩, tx, ?_⟩
  · rw [show mT m2 = mT m from (mT_fr f2 (by decide)).trans (mT_loc sm)]
    exact cX_cls ⟨t, s, a, cap, a2, cap2, ka, kcap, b, bcap, j1⟩ g
  · rw [show m2 a_c = m a_c from (zfr_cell f2 (by decide)).trans (sM_c sm (by decide) (by decide)), show m2 a_worths = m a_worths from (zfr_cell f2 (by decide)).trans (sM_c sm (by decide) (by decide))]
    exact hX
  · rw [g 1 1 (by omega), t1, t2]
  · rw [g 1 1 (by omega), t1] at x1
    rw [g 2 x (by omega), k1 x x0, k2 x]
    split
    · rfl
    · rename_i hn
      rw [etp]
      refine ht.2 x x0 ?_
      split at x1 <;> omega
  · rw [g 1 8 (by omega), f1 1 8 (by omega) (by omega), h.2.2.2.1.1]
    exact ((zfr_at f2 (by decide)).trans (sm _ _ (by decide) (by decide))).symm
  · rw [g 1 9 (by omega), f1 1 9 (by omega) (by omega), h.2.2.2.1.2]
    exact ((zfr_at f2 (by decide)).trans (sm _ _ (by decide) (by decide))).symm
  · rw [g 0 11 (by omega), f1 0 11 (by omega) (by omega), h.2.2.2.2.2]
    exact ((zfr_at f2 (by decide)).trans (sm _ _ (by decide) (by decide))).symm
theorem mV_2 {m : zM} (h : tpR m) {n : Int} (hn : n ≤ m 1 1) : mV (m 2) n = mV (m a_tape) n := by
  funext k
  unfold mV
  by_cases z : 0 ≤ k ∧ k < n
  · rw [if_pos z, if_pos z]
    exact h.2 k z.1 (by omega)
  · rw [if_neg z, if_neg z]
theorem ld_eq {m : zM} (h : tpR m) (c : Int → Int) (n : Int) : sLoad (m 2) c (m 1 1) n = sLoad (m a_tape) c (m aM f_taped) n ∧ (0 ≤ n ∧ n ≤ m 1 1 → tLoad (m 2) c n = tLoad (m a_tape) c n) := by
  have e : 0 ≤ n ∧ n ≤ m 1 1 → tLoad (m 2) c n = tLoad (m a_tape) c n := fun z => by unfold tLoad; rw [mV_2 h z.2]
  refine ⟨?_, e⟩
  unfold sLoad
  rw [← h.1]
  by_cases z : 0 ≤ n ∧ n ≤ m 1 1
  · rw [e z]
  · rw [if_pos z, if_pos z]
theorem k_load {m : zM} {E : zE} (h : lwI m E) (n : Int) : zTn zI zX11_load zX12_load [zI n] m E := by
  obtain ⟨X, ⟨t, s, a, cap, a2, cap2, ka, kcap, b, bcap, hJ⟩, hX⟩ := h.1
  have ht := h.2.2.1
  have le := ld_eq ht (m a_c) n
  have hcl := p_load 4 (mT m) X t s a cap a2 cap2 ka kcap b bcap hJ n (m a_c)
  have hone : ¬ (0 ≤ n ∧ n ≤ m 1 1) → sLoad (m a_tape) (m a_c) (m aM f_taped) n = 1 := fun z => by
    unfold sLoad
    rw [← ht.1, if_pos z]
  rw [le.1] at hcl
  refine ⟨E, ⟨Nat.le_refl _, Nat.le_refl _⟩, EB_e hJ, zR_imp hcl ?_⟩
  rintro r m1 ⟨rfl, d1, d9, d0⟩
  have hsv : sLoad (m a_tape) (m a_c) (m aM f_taped) n = 1 ∨ sLoad (m a_tape) (m a_c) (m aM f_taped) n = 9 ∨ sLoad (m a_tape) (m a_c) (m aM f_taped) n = 0 := by
    unfold sLoad
    split
    · exact Or.inl rfl
    · split
      · exact Or.inr (Or.inl rfl)
      · exact Or.inr (Or.inr rfl)
  have fr : ∀ x k : Int, (x = 2 ∨ (37 ≤ x ∧ x ≤ 38) ∨ (95 ≤ x ∧ x < 121)) → m1 x k = m x k := by
    rcases hsv with z | z | z
    · exact (d1 z).2.1
    · exact (d9 z).2.1
    · obtain ⟨T1, -, e, -⟩ := d0 z
      exact e.2.1
  have sm : sameM m m1 := fun x k x0 x1 => fr x k (by omega)
  have hs : shM E := cX_sh ⟨t, s, a, cap, a2, cap2, ka, kcap, b, bcap, hJ⟩
  have q := q_loadX 14 hs (mI_loc h.2.1 sm) n
  rw [show m1 a_tape = m a_tape from sM_c sm (by decide) (by decide), show m1 a_c = m a_c from sM_c sm (by decide) (by decide), show m1 aM = m aM from sM_c sm (by decide) (by decide)] at q
  refine ⟨_, rfl, hs, zR_imp q ?_⟩
  rintro r' m2 ⟨rfl, i2, f2, s2, o1, o9, o0⟩
  have g : ∀ x k : Int, (x < 95 ∨ 121 ≤ x) → m2 x k = m1 x k := fun x k hx => zfr_cls f2 (by decide) hx
  have tx := kp_tx h.2.2.2.2.1 (fun x k z => fr x k (by omega)) f2 (by decide) (by decide)
  have ea : m2 a_tape = m a_tape := (zfr_cell f2 (by decide)).trans (sM_c sm (by decide) (by decide))
  rcases hsv with z | z | z
  · obtain ⟨j1, -, st1, p1, p2, p3⟩ := d1 z
    obtain ⟨eT, ew, et, ek, ef⟩ := o1 z
    have eT2 : mT m2 = mT m := eT.trans (mT_loc sm)
    refine ⟨by rw [z, if_neg (by decide), if_neg (by decide)], ⟨X, ?_, ?_⟩, i2, tp_keep ht ((g 1 1 (by omega)).trans p1) (fun x => (g 2 x (by omega)).trans (fr 2 x (by omega))) et ea, ⟨(g 1 8 (by omega)).trans (p2.trans (h.2.2.2.1.1.trans ek.symm)), (g 1 9 (by omega)).trans (p3.trans (h.2.2.2.1.2.trans ef.symm))⟩, tx, ?_⟩
    · rw [eT2]
      exact cX_cls j1 g
    · rw [show m2 a_c = m a_c from congrArg (fun z => z.1) eT2, ew, show m1 a_worths = m a_worths from sM_c sm (by decide) (by decide)]
      exact hX
    · rw [g 0 11 (by omega), st1, s2, z]
  · have hn : 0 ≤ n ∧ n ≤ m 1 1 := Classical.byContradiction (fun y => absurd ((hone y).symm.trans z) (by decide))
    obtain ⟨j1, -, st1, p1, p2, p3⟩ := d9 z
    obtain ⟨eT, ew, et, ek, ef⟩ := o9 z
    rw [le.2 hn] at p2 p3
    have eT2 : mT m2 = mT m := eT.trans (mT_loc sm)
    refine ⟨by rw [z, if_neg (by decide), if_neg (by decide)], ⟨X, ?_, ?_⟩, i2, ⟨((g 1 1 (by omega)).trans p1).trans et.symm, fun x x0 x1 => ?_⟩, ⟨(g 1 8 (by omega)).trans (p2.trans ek.symm), (g 1 9 (by omega)).trans (p3.trans ef.symm)⟩, tx, ?_⟩
    · rw [eT2]
      exact cX_cls j1 g
    · rw [show m2 a_c = m a_c from congrArg (fun z => z.1) eT2, ew, show m1 a_worths = m a_worths from sM_c sm (by decide) (by decide)]
      exact hX
    · rw [g 1 1 (by omega), p1] at x1
      omega
    · rw [g 0 11 (by omega), st1, s2, z]
  · have hn : 0 ≤ n ∧ n ≤ m 1 1 := Classical.byContradiction (fun y => absurd ((hone y).symm.trans z) (by decide))
    obtain ⟨T1, eT1, ⟨⟨t', s', a', cap', a2', cap2', ka', kcap', b', bcap', j1⟩, -, st1, p1, p2, p3⟩, n9⟩ := d0 z
    obtain ⟨ec, ew, et, ek, ef⟩ := o0 z
    rw [le.2 hn] at eT1
    obtain ⟨j3, el, es⟩ := cJ_tr (cJ_cls j1 g) (T' := mT m2) (X' := m2 a_worths) (ec.trans eT1.symm) i2.1.2.2.1 (fun i i0 i1 => (ew i i0 i1).symm) ((g 14 19 (by omega)).trans n9)
    have en : m2 aM f_letters = cPre (m2 a_c) (m2 a_c 2).toNat := i2.1.2.2.1.1
    refine ⟨by rw [z, if_pos rfl, if_pos rfl, en, ec, le.2 hn], ⟨m2 a_worths, ⟨t', s', a', cap', a2', cap2', ka', kcap', b', bcap', j3⟩, Or.inr rfl⟩, i2, ⟨((g 1 1 (by omega)).trans p1).trans et.symm, fun x x0 x1 => ?_⟩, ⟨(g 1 8 (by omega)).trans (p2.trans ek.symm), (g 1 9 (by omega)).trans (p3.trans ef.symm)⟩, tx, ?_⟩
    · rw [g 1 1 (by omega), p1] at x1
      omega
    · rw [g 0 11 (by omega), st1, s2, z]
theorem zTn_l {yc ym : zY} {args : List zV} {s0 v k0 a0 : Int} {F : List (Int × Option Int)} {m : zM} {E : zE} (h : lwI m E) (hF1 : F.all (fun q => decide (95 ≤ q.1 ∧ q.1 < 121)) = true) (hF2 : keepT F = true) (hF3 : F.all (fun q => q.1 != a_worths) = true) (hF4 : F.all (fun q => q.1 != a_tape) = true)
    (hc : ∀ (X : Int → Int) (t s a cap a2 cap2 ka kcap b bcap : Int), cJ m E (mT m) X t s a cap a2 cap2 ka kcap b bcap → ∃ E1 : zE, (E.2.1 ≤ E1.2.1 ∧ E.2.2 ≤ E1.2.2) ∧ EB E1 ∧ zR yc 20 (zP 0 :: args) m E E1 (fun r m' => r = some (zI (if s0 = 0 then v else -1)) ∧ (s0 = 1 → cLd m m' E1 (mT m) X 1 (m 1 1) (m 1 8) (m 1 9)) ∧ (s0 ≠ 1 → cLd m m' E1 (mT m) X s0 0 k0 a0)))
    (hm : ∀ (m1 : zM) (E1 : zE), shM E1 → mI m1 → sameM m m1 → zR ym 20 (zP aM :: args) m1 E1 E1 (fun r m' => r = some (zI (if s0 = 0 then v else -1)) ∧ mI m' ∧ zfr F m1 m' ∧ m' aM f_status = s0 ∧ mT m' = mT m1 ∧ (s0 = 1 → m' aM f_taped = m1 aM f_taped ∧ m' aM f_faultKind = m1 aM f_faultKind ∧ m' aM f_faultAt = m1 aM f_faultAt) ∧ (s0 ≠ 1 → m' aM f_taped = 0 ∧ m' aM f_faultKind = k0 ∧ m' aM f_faultAt = a0))) : zTn zI yc ym args m E := by
  obtain ⟨X, ⟨t, s, a, cap, a2, cap2, ka, kcap, b, bcap, hJ⟩, hX⟩ := h.1
  have ht := h.2.2.1
  obtain ⟨E1, le, eb, hr⟩ := hc X t s a cap a2 cap2 ka kcap b bcap hJ
  refine ⟨E1, le, eb, zR_imp hr ?_⟩
  rintro r m1 ⟨rfl, d1, d2⟩
  have dd : (∃ st tp fk fa, cLd m m1 E1 (mT m) X st tp fk fa) := by
    by_cases z : s0 = 1
    · exact ⟨_, _, _, _, d1 z⟩
    · exact ⟨_, _, _, _, d2 z⟩
  obtain ⟨st, tp, fk, fa, dl⟩ := dd
  have fr := dl.2.1
  have sm : sameM m m1 := fun x k x0 x1 => fr x k (by omega)
  have hs : shM E1 := cX_sh (show cX m1 E1 (mT m) X from dl.1)
  refine ⟨_, rfl, hs, zR_imp (hm m1 E1 hs (mI_loc h.2.1 sm) sm) ?_⟩
  rintro r' m2 ⟨rfl, i2, f2, s2, eT, o1, o2⟩
  have g : ∀ x k : Int, (x < 95 ∨ 121 ≤ x) → m2 x k = m1 x k := fun x k hx => zfr_cls f2 hF1 hx
  have tx := kp_tx h.2.2.2.2.1 (fun x k z => fr x k (by omega)) f2 hF1 hF2
  have eT2 : mT m2 = mT m := eT.trans (mT_loc sm)
  have ew : m2 a_worths = m a_worths := (zfr_cell f2 hF3).trans (sM_c sm (by decide) (by decide))
  have ea : m2 a_tape = m a_tape := (zfr_cell f2 hF4).trans (sM_c sm (by decide) (by decide))
  have hx : m2 a_c 2 = 0 ∨ X = m2 a_worths := by
    rw [show m2 a_c = m a_c from congrArg (fun z => z.1) eT2, ew]
    exact hX
  have jj : cX m2 E1 (mT m2) X := by
    rw [eT2]
    exact cX_cls dl.1 g
  by_cases z : s0 = 1
  · obtain ⟨-, -, st1, p1, p2, p3⟩ := d1 z
    obtain ⟨et, ek, ef⟩ := o1 z
    have e0 : m1 aM = m aM := sM_c sm (by decide) (by decide)
    rw [e0] at et ek ef
    exact ⟨rfl, ⟨X, jj, hx⟩, i2, tp_keep ht ((g 1 1 (by omega)).trans p1) (fun x => (g 2 x (by omega)).trans (fr 2 x (by omega))) et ea, ⟨(g 1 8 (by omega)).trans (p2.trans (h.2.2.2.1.1.trans ek.symm)), (g 1 9 (by omega)).trans (p3.trans (h.2.2.2.1.2.trans ef.symm))⟩, tx, by rw [g 0 11 (by omega), st1, s2, z]⟩
  · obtain ⟨-, -, st1, p1, p2, p3⟩ := d2 z
    obtain ⟨et, ek, ef⟩ := o2 z
    exact ⟨rfl, ⟨X, jj, hx⟩, i2, ⟨((g 1 1 (by omega)).trans p1).trans et.symm, fun x x0 x1 => by rw [g 1 1 (by omega), p1] at x1; omega⟩, ⟨(g 1 8 (by omega)).trans (p2.trans ek.symm), (g 1 9 (by omega)).trans (p3.trans ef.symm)⟩, tx, by rw [g 0 11 (by omega), st1, s2]⟩
theorem pr_eq {m : zM} (h : tpR m) (T : zT) (n : Int) : sPrs (m 2) T (m 1 1) n = sPrs (m a_tape) T (m aM f_taped) n ∧ (0 ≤ n ∧ n ≤ m 1 1 → tPrs (m 2) T n = tPrs (m a_tape) T n) ∧ (¬ (0 ≤ n ∧ n ≤ m 1 1) → sPrs (m a_tape) T (m aM f_taped) n = 1) := by
  have e : 0 ≤ n ∧ n ≤ m 1 1 → tPrs (m 2) T n = tPrs (m a_tape) T n := fun z => by unfold tPrs; rw [mV_2 h z.2]
  refine ⟨?_, e, fun z => by unfold sPrs; rw [← h.1, if_pos z]⟩
  unfold sPrs
  rw [← h.1]
  by_cases z : 0 ≤ n ∧ n ≤ m 1 1
  · rw [e z]
  · rw [if_pos z, if_pos z]
theorem ln_eq {m : zM} (h : tpR m) (T : zT) (td : Int → Int) (n : Int) : sLns (m 2) T td (m 1 1) n = sLns (m a_tape) T td (m aM f_taped) n ∧ (0 ≤ n ∧ n ≤ m 1 1 → tLns (m 2) T td n = tLns (m a_tape) T td n) ∧ (¬ (0 ≤ n ∧ n ≤ m 1 1) → sLns (m a_tape) T td (m aM f_taped) n = 1) := by
  have e : 0 ≤ n ∧ n ≤ m 1 1 → tLns (m 2) T td n = tLns (m a_tape) T td n := fun z => by unfold tLns; rw [mV_2 h z.2]
  refine ⟨?_, e, fun z => by unfold sLns; rw [← h.1, if_pos z]⟩
  unfold sLns
  rw [← h.1]
  by_cases z : 0 ≤ n ∧ n ≤ m 1 1
  · rw [e z]
  · rw [if_pos z, if_pos z]
theorem k_pairs {m : zM} {E : zE} (h : lwI m E) (n : Int) : zTn zI zX11_pairs zX12_pairs [zI n] m E := by
  have pe := pr_eq h.2.2.1 (mT m) n
  refine zTn_l (s0 := sPrs (m a_tape) (mT m) (m aM f_taped) n) (v := tWh (mT m) (tPrs (m a_tape) (mT m) n).2.2.1) (k0 := (tPrs (m a_tape) (mT m) n).1) (a0 := if (tPrs (m a_tape) (mT m) n).1 ≠ 0 then (tPrs (m a_tape) (mT m) n).2.1 else -1) (F := fPrLX) h (by decide) (by decide) (by decide) (by decide) (fun X t s a cap a2 cap2 ka kcap b bcap hJ => ?_) (fun m1 E1 hE hI sm => ?_)
  · obtain ⟨E1, le, eb, hr⟩ := p_pairs 4 (mT m) X t s a cap a2 cap2 ka kcap b bcap hJ n
    rw [pe.1] at hr
    refine ⟨E1, le, eb, ?_⟩
    by_cases z : 0 ≤ n ∧ n ≤ m 1 1
    · rw [pe.2.1 z] at hr
      exact hr
    · have e1 := pe.2.2 z
      refine zR_imp hr ?_
      rintro r m' ⟨rfl, d1, d2⟩
      rw [e1] at d1 ⊢
      exact ⟨by rw [if_neg (by decide), if_neg (by decide)], d1, fun y => absurd rfl y⟩
  · have q := q_pairsX 8 hE hI n
    rw [show m1 a_tape = m a_tape from sM_c sm (by decide) (by decide), mT_loc sm, sm aM f_taped (by decide) (by decide)] at q
    rw [mT_loc sm, sm aM f_taped (by decide) (by decide)]
    exact q
theorem k_lines {m : zM} {E : zE} (h : lwI m E) (n : Int) : zTn zI zX11_lines zX12_lines [zI n] m E := by
  have pe := ln_eq h.2.2.1 (mT m) (m a_toldCodes) n
  refine zTn_l (s0 := sLns (m a_tape) (mT m) (m a_toldCodes) (m aM f_taped) n) (v := tIx (mT m) (tLc (mT m) (tLns (m a_tape) (mT m) (m a_toldCodes) n).2.2.1 (tLns (m a_tape) (mT m) (m a_toldCodes) n).2.2.2.1.toNat)) (k0 := (tLns (m a_tape) (mT m) (m a_toldCodes) n).1) (a0 := if (tLns (m a_tape) (mT m) (m a_toldCodes) n).1 ≠ 0 then (tLns (m a_tape) (mT m) (m a_toldCodes) n).2.1 else -1) (F := fLnLX) h (by decide) (by decide) (by decide) (by decide) (fun X t s a cap a2 cap2 ka kcap b bcap hJ => ?_) (fun m1 E1 hE hI sm => ?_)
  · obtain ⟨E1, le, eb, hr⟩ := p_lines 4 (mT m) X t s a cap a2 cap2 ka kcap b bcap hJ n (m a_toldCodes)
    rw [pe.1] at hr
    refine ⟨E1, le, eb, ?_⟩
    by_cases z : 0 ≤ n ∧ n ≤ m 1 1
    · rw [pe.2.1 z] at hr
      exact hr
    · have e1 := pe.2.2 z
      refine zR_imp hr ?_
      rintro r m' ⟨rfl, d1, d2⟩
      rw [e1] at d1 ⊢
      exact ⟨by rw [if_neg (by decide), if_neg (by decide)], d1, fun y => absurd rfl y⟩
  · have q := q_linesX 6 hE hI n
    rw [show m1 a_tape = m a_tape from sM_c sm (by decide) (by decide), show m1 a_toldCodes = m a_toldCodes from sM_c sm (by decide) (by decide), mT_loc sm, sm aM f_taped (by decide) (by decide)] at q
    rw [mT_loc sm, sm aM f_taped (by decide) (by decide)]
    exact q
