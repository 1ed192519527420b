/-! the law's rule between two turns of its loop -/
def sameM (m m1 : zM) : Prop := ∀ a k : Int, 95 ≤ a → a < 121 → m1 a k = m a k
theorem sM_c {m m1 : zM} (h : sameM m m1) {a : Int} (h0 : 95 ≤ a) (h1 : a < 121) : m1 a = m a := funext (fun k => h a k h0 h1)
theorem mI_loc {m m1 : zM} (h : mI m) (f : sameM m m1) : mI m1 := by
  have e0 : m1 aM = m aM := sM_c f (by decide) (by decide)
  have e1 : m1 a_c = m a_c := sM_c f (by decide) (by decide)
  have e2 : m1 a_what = m a_what := sM_c f (by decide) (by decide)
  have e3 : m1 a_pointOf = m a_pointOf := sM_c f (by decide) (by decide)
  have e4 : m1 a_mate = m a_mate := sM_c f (by decide) (by decide)
  have e5 : m1 a_table = m a_table := sM_c f (by decide) (by decide)
  have e6 : m1 a_sign = m a_sign := sM_c f (by decide) (by decide)
  have e7 : m1 a_crossings = m a_crossings := sM_c f (by decide) (by decide)
  have e8 : m1 a_rounds = m a_rounds := sM_c f (by decide) (by decide)
  have e9 : m1 a_names = m a_names := sM_c f (by decide) (by decide)
  have e10 : m1 a_diagramOf = m a_diagramOf := sM_c f (by decide) (by decide)
  have e11 : m1 a_places = m a_places := sM_c f (by decide) (by decide)
  have e12 : m1 a_worths = m a_worths := sM_c f (by decide) (by decide)
  have e13 : m1 a_words = m a_words := sM_c f (by decide) (by decide)
  simp only [mI, mOK, mL, mN, mPl, mWd, mPairs, mName, ptM] at h ⊢
  rw [e0, e1, e2, e3, e4, e5, e6, e7, e8, e9, e10, e11, e12, e13]
  exact h
theorem mT_loc {m m1 : zM} (f : sameM m m1) : mT m1 = mT m := mT_of (sM_c f (by decide) (by decide)) (sM_c f (by decide) (by decide)) (sM_c f (by decide) (by decide)) (f _ _ (by decide) (by decide))
theorem zfr_cls {F : List (Int × Option Int)} {m m' : zM} (f : zfr F m m') (h : F.all (fun q => decide (95 ≤ q.1 ∧ q.1 < 121)) = true) {x k : Int} (hx : x < 95 ∨ 121 ≤ x) : m' x k = m x k := f x k (fun hm => by
  have := of_decide_eq_true (List.all_eq_true.mp h _ hm)
  dsimp only at this
  omega) (fun hm => by
  have := of_decide_eq_true (List.all_eq_true.mp h _ hm)
  dsimp only at this
  omega)
theorem cJ_cls {m m' : zM} {E : zE} {T : zT} {X : Int → Int} {t s a cap a2 cap2 ka kcap b bcap : Int} (h : cJ m E T X t s a cap a2 cap2 ka kcap b bcap) (f : ∀ x k : Int, (x < 95 ∨ 121 ≤ x) → m' x k = m x k) : cJ m' E T X t s a cap a2 cap2 ka kcap b bcap := cJ_loc h (fun x k q => f x k (by omega))
theorem cJ_X {m : zM} {E : zE} {T : zT} {X X' : Int → Int} {t s a cap a2 cap2 ka kcap b bcap : Int} (h : cJ m E T X t s a cap a2 cap2 ka kcap b bcap) (e : ∀ i : Int, 0 ≤ i → i < 800 → X i = X' i) : cJ m E T X' t s a cap a2 cap2 ka kcap b bcap := by
  obtain ⟨hA, hT, hW, hQ, hU, hD, hG, hE, hP, hR⟩ := h
  exact ⟨hA, ⟨hT.1, hT.2.1, fun i i0 i1 => (hT.2.2 i i0 i1).trans (e i i0 i1)⟩, hW, hQ, hU, hD, hG, hE, ⟨hP.1, hP.2.1, fun k k0 k1 => by rw [← e k k0 k1]; exact hP.2.2 k k0 k1⟩, hR⟩
/-- class and model: the tape, the fault, the printed text -/
def tpR (m : zM) : Prop := m 1 1 = m aM f_taped ∧ ∀ x : Int, 0 ≤ x → x < m 1 1 → kn (m 2 x) = kn (m a_tape x)
def fkR (m : zM) : Prop := m 1 8 = m aM f_faultKind ∧ m 1 9 = m aM f_faultAt
def txR (m : zM) : Prop := ∃ L, cTx m L ∧ mTxt m L
def cX (m : zM) (E : zE) (T : zT) (X : Int → Int) : Prop := ∃ t s a cap a2 cap2 ka kcap b bcap, cJ m E T X t s a cap a2 cap2 ka kcap b bcap
def lwI (m : zM) (E : zE) : Prop := (∃ X, cX m E (mT m) X ∧ (m a_c 2 = 0 ∨ X = m a_worths)) ∧ mI m ∧ tpR m ∧ fkR m ∧ txR m ∧ m 0 11 = m aM f_status
theorem tp_keep {m m2 : zM} (h : tpR m) (e1 : m2 1 1 = m 1 1) (e2 : ∀ x, m2 2 x = m 2 x) (e3 : m2 aM f_taped = m aM f_taped) (e4 : m2 a_tape = m a_tape) : tpR m2 := by
  unfold tpR
  rw [e1, e3, e4]
  exact ⟨h.1, fun x x0 x1 => by rw [e2]; exact h.2 x x0 x1⟩
theorem tx_keep {m m2 : zM} (h : txR m) (e1 : m2 37 1 = m 37 1) (e2 : ∀ x, m2 38 x = m 38 x) (e3 : m2 aM f_outMany = m aM f_outMany) (e4 : m2 a_out = m a_out) : txR m2 := by
  obtain ⟨L, l1, l2⟩ := h
  refine ⟨L, ?_, ?_⟩
  · unfold cTx
    rw [e1]
    exact ⟨l1.1, l1.2.1, fun t x e => by rw [e2]; exact l1.2.2 t x e⟩
  · unfold mTxt
    rw [e3, e4]
    exact l2
theorem cX_cls {m m' : zM} {E : zE} {T : zT} {X : Int → Int} (h : cX m E T X) (f : ∀ x k : Int, (x < 95 ∨ 121 ≤ x) → m' x k = m x k) : cX m' E T X := by
  obtain ⟨t, s, a, cap, a2, cap2, ka, kcap, b, bcap, hJ⟩ := h
  exact ⟨t, s, a, cap, a2, cap2, ka, kcap, b, bcap, cJ_cls hJ f⟩
theorem cX_sh {m : zM} {E : zE} {T : zT} {X : Int → Int} (h : cX m E T X) : shM E := by
  obtain ⟨t, s, a, cap, a2, cap2, ka, kcap, b, bcap, hJ⟩ := h
  exact hJ.2.2.2.2.2.2.2.1.1.2
theorem cX_EB {m : zM} {E : zE} {T : zT} {X : Int → Int} (h : cX m E T X) : EB E := by
  obtain ⟨t, s, a, cap, a2, cap2, ka, kcap, b, bcap, hJ⟩ := h
  exact EB_e hJ
/-- one turn of the law: the class's call, then the model's -/
def zTn (f : Int → zV) (yc ym : zY) (args : List zV) (m : zM) (E : zE) : Prop := ∃ E1 : zE, (E.2.1 ≤ E1.2.1 ∧ E.2.2 ≤ E1.2.2) ∧ EB E1 ∧ zR yc 20 (zP 0 :: args) m E E1 (fun r m1 => ∃ v : Int, r = some (f v) ∧ shM E1 ∧ zR ym 20 (zP aM :: args) m1 E1 E1 (fun r' m2 => r' = some (f v) ∧ lwI m2 E1))
theorem lw_q {m m1 m2 : zM} {E E1 : zE} {X : Int → Int} {st : Int} (h : lwI m E) (hX : m a_c 2 = 0 ∨ X = m a_worths) (c : cQ m m1 E1 (mT m) X st) (q : mQ m1 m2 st) : lwI m2 E1 := by
  obtain ⟨-, hI, ht, hf, hx, hs⟩ := h
  obtain ⟨j1, f1, s1⟩ := c
  have g : ∀ x k : Int, (x < 95 ∨ 121 ≤ x) → m2 x k = m1 x k := fun x k hx => zfr_cls q.2.1 (by decide) hx
  have sm : sameM m m1 := fun x k x0 x1 => f1 x k (by omega)
  have e1 := mT_loc sm
  have e2 := mQ_T q
  have f2 := q.2.1
  have mc : ∀ {a : Int}, 95 ≤ a → a < 121 → fQ.all (fun q => q.1 != a) = true → m2 a = m a := fun {a} a0 a1 hh => (zfr_cell f2 hh).trans (sM_c sm a0 a1)
  have ma : ∀ {j : Int}, fQ.all (fun q => q.1 != aM || (q.2 != none && q.2 != some j)) = true → m2 aM j = m aM j := fun {j} hh => (zfr_at f2 hh).trans (sm _ _ (by decide) (by decide))
  have cc : ∀ x k : Int, ((1 ≤ x ∧ x ≤ 5) ∨ (37 ≤ x ∧ x ≤ 38)) → m2 x k = m x k := fun x k z => (g x k (by omega)).trans (f1 x k (by omega))
  refine ⟨⟨X, ?_, ?_⟩, q.1, tp_keep ht (cc 1 1 (by omega)) (fun x => cc 2 x (by omega)) (ma (by decide)) (mc (by decide) (by decide) (by decide)), ⟨(cc 1 8 (by omega)).trans (hf.1.trans (ma (by decide)).symm), (cc 1 9 (by omega)).trans (hf.2.trans (ma (by decide)).symm)⟩, tx_keep hx (cc 37 1 (by omega)) (fun x => cc 38 x (by omega)) (ma (by decide)) (mc (by decide) (by decide) (by decide)), ?_⟩
  · rw [e2, e1]
    exact cX_cls j1 g
  · rw [show m2 a_c = m a_c from mc (by decide) (by decide) (by decide), show m2 a_worths = m a_worths from mc (by decide) (by decide) (by decide)]
    exact hX
  · rw [g 0 11 (by omega), s1, q.2.2]
theorem zTn_q {yc ym : zY} {args : List zV} {f : Int → zV} {v : Int × Int} {m : zM} {E : zE} (h : lwI m E) (hc : ∀ (X : Int → Int) (t s a cap a2 cap2 ka kcap b bcap : Int), cJ m E (mT m) X t s a cap a2 cap2 ka kcap b bcap → (m a_c 2 = 0 ∨ X = m a_worths) → ∃ E1 : zE, (E.2.1 ≤ E1.2.1 ∧ E.2.2 ≤ E1.2.2) ∧ EB E1 ∧ zR yc 20 (zP 0 :: args) m E E1 (fun r m' => r = some (f v.2) ∧ cQ m m' E1 (mT m) X v.1)) (hm : ∀ (m1 : zM) (E1 : zE), shM E1 → mI m1 → sameM m m1 → zR ym 20 (zP aM :: args) m1 E1 E1 (fun r m' => r = some (f v.2) ∧ mQ m1 m' v.1)) : zTn f yc ym args m E := by
  obtain ⟨X, ⟨t, s, a, cap, a2, cap2, ka, kcap, b, bcap, hJ⟩, hX⟩ := h.1
  obtain ⟨E1, le, eb, hr⟩ := hc X t s a cap a2 cap2 ka kcap b bcap hJ hX
  refine ⟨E1, le, eb, zR_imp hr ?_⟩
  rintro r m1 ⟨rfl, c⟩
  have sm : sameM m m1 := fun x k x0 x1 => c.2.1 x k (by omega)
  have hs : shM E1 := cX_sh (show cX m1 E1 (mT m) X from c.1)
  refine ⟨_, rfl, hs, zR_imp (hm m1 E1 hs (mI_loc h.2.1 sm) sm) ?_⟩
  rintro r' m2 ⟨rfl, q⟩
  exact ⟨rfl, lw_q h hX c q⟩
