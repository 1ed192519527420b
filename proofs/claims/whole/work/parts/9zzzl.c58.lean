theorem sum_X {T : zT} {X X' : Int → Int} (h : T.2.2.2 = 0 ∨ X = X') : tWo T X = tWo T X' := by
  rcases h with h | h
  · funext r
    unfold tWo
    rw [show T.2.2.2.toNat = 0 by omega]
    rfl
  · rw [h]
theorem n_0 {T : zT} {X : Int → Int} (h : tA T X) (h2 : T.1 2 = 0) : T.2.2.2 = 0 := by
  rw [h.2.1.1, h2]
  rfl
theorem wo_X {T : zT} {X X' : Int → Int} {co w : Int} (h : T.1 2 = 0 ∨ X = X') : aWorth T X co w = aWorth T X' co w ∧ (T.1 2 = 0 → (aWorth T X co w).1 ≠ 0) := by
  have hk : T.1 2 = 0 → ¬ cCodeOk T.1 co = true := fun h2 e => by
    have := cCodeOk_iff.mp e
    omega
  constructor
  · rcases h with h | h
    · unfold aWorth
      split
      · rfl
      · rw [if_pos (hk h), if_pos (hk h)]
    · rw [h]
  · intro h2
    unfold aWorth
    split
    · decide
    · rw [if_pos (hk h2)]
      decide
theorem k_letter {m : zM} {E : zE} (h : lwI m E) (i w : Int) : zTn zI zX11_letter zX12_letter [zI i, zI w] m E := zTn_q (f := zI) (v := aLetter (mT m) i w ) h (fun X t s a cap a2 cap2 ka kcap b bcap hJ hX => ⟨E, ⟨Nat.le_refl _, Nat.le_refl _⟩, EB_e hJ, p_letter 4 (mT m) X t s a cap a2 cap2 ka kcap b bcap hJ i w⟩) (fun m1 E1 hE hI sm => by
  have q := q_letter 16 hE hI i w
  rw [mT_loc sm] at q
  exact q)
theorem k_field {m : zM} {E : zE} (h : lwI m E) (k w : Int) : zTn zI zX11_field zX12_field [zI k, zI w] m E := zTn_q (f := zI) (v := aField (mT m) k w ) h (fun X t s a cap a2 cap2 ka kcap b bcap hJ hX => ⟨E, ⟨Nat.le_refl _, Nat.le_refl _⟩, EB_e hJ, p_field 4 (mT m) X t s a cap a2 cap2 ka kcap b bcap hJ k w⟩) (fun m1 E1 hE hI sm => by
  have q := q_field 18 hE hI k w
  rw [mT_loc sm] at q
  exact q)
theorem k_point {m : zM} {E : zE} (h : lwI m E) (p w : Int) : zTn zI zX11_point zX12_point [zI p, zI w] m E := zTn_q (f := zI) (v := aPoint (mT m) p w ) h (fun X t s a cap a2 cap2 ka kcap b bcap hJ hX => ⟨E, ⟨Nat.le_refl _, Nat.le_refl _⟩, EB_e hJ, p_point 4 (mT m) X t s a cap a2 cap2 ka kcap b bcap hJ p w⟩) (fun m1 E1 hE hI sm => by
  have q := q_point 16 hE hI p w
  rw [mT_loc sm] at q
  exact q)
theorem k_code {m : zM} {E : zE} (h : lwI m E) (i j : Int) : zTn zI zX11_code zX12_code [zI i, zI j] m E := zTn_q (f := zI) (v := aCode (mT m) i j ) h (fun X t s a cap a2 cap2 ka kcap b bcap hJ hX => ⟨E, ⟨Nat.le_refl _, Nat.le_refl _⟩, EB_e hJ, p_code 4 (mT m) X t s a cap a2 cap2 ka kcap b bcap hJ i j⟩) (fun m1 E1 hE hI sm => by
  have q := q_code 17 hE hI i j
  rw [mT_loc sm] at q
  exact q)
theorem k_partial {m : zM} {E : zE} (h : lwI m E) (k : Int) : zTn zI zX11_partial zX12_partial [zI k] m E := zTn_q (f := zI) (v := aPartial (mT m) k ) h (fun X t s a cap a2 cap2 ka kcap b bcap hJ hX => ⟨E, ⟨Nat.le_refl _, Nat.le_refl _⟩, EB_e hJ, p_partial 4 (mT m) X t s a cap a2 cap2 ka kcap b bcap hJ k⟩) (fun m1 E1 hE hI sm => by
  have q := q_partial 10 hE hI k
  rw [mT_loc sm] at q
  exact q)
theorem k_mate {m : zM} {E : zE} (h : lwI m E) (k i : Int) : zTn zI zX11_mate zX12_mate [zI k, zI i] m E := zTn_q (f := zI) (v := aMate (mT m) k i ) h (fun X t s a cap a2 cap2 ka kcap b bcap hJ hX => p_mate 4 (mT m) X t s a cap a2 cap2 ka kcap b bcap hJ k i) (fun m1 E1 hE hI sm => by
  have q := q_mate 8 hE hI k i
  rw [mT_loc sm] at q
  exact q)
theorem k_ways {m : zM} {E : zE} (h : lwI m E) (i j w : Int) : zTn zI zX11_ways zX12_ways [zI i, zI j, zI w] m E := zTn_q (f := zI) (v := aWays (mT m) i j w ) h (fun X t s a cap a2 cap2 ka kcap b bcap hJ hX => p_ways 4 (mT m) X t s a cap a2 cap2 ka kcap b bcap hJ i j w) (fun m1 E1 hE hI sm => by
  have q := q_ways 9 hE hI i j w
  rw [mT_loc sm] at q
  exact q)
theorem k_by {m : zM} {E : zE} (h : lwI m E) (wh nu : Int) : zTn zI zX11_by zX12_by [zI wh, zI nu] m E := zTn_q (f := zI) (v := aBy (mT m) wh nu 0) h (fun X t s a cap a2 cap2 ka kcap b bcap hJ hX => p_by 4 (mT m) X t s a cap a2 cap2 ka kcap b bcap hJ wh nu) (fun m1 E1 hE hI sm => by
  have q := q_by 8 hE hI wh nu
  rw [mT_loc sm] at q
  exact q)
theorem k_signedBy {m : zM} {E : zE} (h : lwI m E) (wh nu : Int) : zTn zI zX11_signedBy zX12_signedBy [zI wh, zI nu] m E := zTn_q (f := zI) (v := aBy (mT m) wh nu 1) h (fun X t s a cap a2 cap2 ka kcap b bcap hJ hX => p_signedBy 4 (mT m) X t s a cap a2 cap2 ka kcap b bcap hJ wh nu) (fun m1 E1 hE hI sm => by
  have q := q_signedBy 8 hE hI wh nu
  rw [mT_loc sm] at q
  exact q)
theorem k_overlay {m : zM} {E : zE} (h : lwI m E) (k o w : Int) : zTn zI zX11_overlay zX12_overlay [zI k, zI o, zI w] m E := zTn_q (f := zI) (v := aOverlay (mT m) k o w ) h (fun X t s a cap a2 cap2 ka kcap b bcap hJ hX => p_overlay 4 (mT m) X t s a cap a2 cap2 ka kcap b bcap hJ k o w) (fun m1 E1 hE hI sm => by
  have q := q_overlay 8 hE hI k o w
  rw [mT_loc sm] at q
  exact q)
theorem k_pairing {m : zM} {E : zE} (h : lwI m E) (k w : Int) : zTn zI zX11_pairing zX12_pairing [zI k, zI w] m E := zTn_q (f := zI) (v := aPairing (mT m) k w ) h (fun X t s a cap a2 cap2 ka kcap b bcap hJ hX => p_pairing 4 (mT m) X t s a cap a2 cap2 ka kcap b bcap hJ k w) (fun m1 E1 hE hI sm => by
  have q := q_pairing 5 hE hI k w
  rw [mT_loc sm] at q
  exact q)
theorem k_many {m : zM} {E : zE} (h : lwI m E) (w : Int) : zTn zI zX11_many zX12_many [zI w] m E := zTn_q (f := zI) (v := aMany (mT m) w ) h (fun X t s a cap a2 cap2 ka kcap b bcap hJ hX => p_many 4 (mT m) X t s a cap a2 cap2 ka kcap b bcap hJ w) (fun m1 E1 hE hI sm => by
  have q := q_many 5 hE hI w
  rw [mT_loc sm] at q
  exact q)
theorem k_diagram {m : zM} {E : zE} (h : lwI m E) (dd w : Int) : zTn zI zX11_diagram zX12_diagram [zI dd, zI w] m E := zTn_q (f := zI) (v := aDiagram (mT m) dd w ) h (fun X t s a cap a2 cap2 ka kcap b bcap hJ hX => p_diagram 4 (mT m) X t s a cap a2 cap2 ka kcap b bcap hJ dd w) (fun m1 E1 hE hI sm => by
  have q := q_diagram 5 hE hI dd w
  rw [mT_loc sm] at q
  exact q)
theorem k_name {m : zM} {E : zE} (h : lwI m E) (dd k : Int) : zTn zI zX11_name zX12_name [zI dd, zI k] m E := zTn_q (f := zI) (v := aName (mT m) dd k ) h (fun X t s a cap a2 cap2 ka kcap b bcap hJ hX => p_name 4 (mT m) X t s a cap a2 cap2 ka kcap b bcap hJ dd k) (fun m1 E1 hE hI sm => by
  have q := q_name 5 hE hI dd k
  rw [mT_loc sm] at q
  exact q)
theorem k_diagrams {m : zM} {E : zE} (h : lwI m E) (wh nu : Int) : zTn zI zX11_diagrams zX12_diagrams [zI wh, zI nu] m E := zTn_q (f := zI) (v := aDgs (mT m) wh nu ) h (fun X t s a cap a2 cap2 ka kcap b bcap hJ hX => p_diagrams 4 (mT m) X t s a cap a2 cap2 ka kcap b bcap hJ wh nu) (fun m1 E1 hE hI sm => by
  have q := q_diagrams 5 hE hI wh nu
  rw [mT_loc sm] at q
  exact q)
theorem k_part {m : zM} {E : zE} (h : lwI m E) (dd p : Int) : zTn zI zX11_part zX12_part [zI dd, zI p] m E := zTn_q (f := zI) (v := aPart (mT m) dd p ) h (fun X t s a cap a2 cap2 ka kcap b bcap hJ hX => p_part 4 (mT m) X t s a cap a2 cap2 ka kcap b bcap hJ dd p) (fun m1 E1 hE hI sm => by
  have q := q_part 5 hE hI dd p
  rw [mT_loc sm] at q
  exact q)
theorem k_far {m : zM} {E : zE} (h : lwI m E) (dd p q : Int) : zTn zI zX11_far zX12_far [zI dd, zI p, zI q] m E := zTn_q (f := zI) (v := aFar (mT m) dd p q ) h (fun X t s a cap a2 cap2 ka kcap b bcap hJ hX => p_far 4 (mT m) X t s a cap a2 cap2 ka kcap b bcap hJ dd p q) (fun m1 E1 hE hI sm => by
  have q := q_far 5 hE hI dd p q
  rw [mT_loc sm] at q
  exact q)
theorem k_holds {m : zM} {E : zE} (h : lwI m E) (dd : Int) : zTn zI zX11_holds zX12_holds [zI dd] m E := zTn_q (f := zI) (v := aHolds (mT m) dd ) h (fun X t s a cap a2 cap2 ka kcap b bcap hJ hX => p_holds 4 (mT m) X t s a cap a2 cap2 ka kcap b bcap hJ dd) (fun m1 E1 hE hI sm => by
  have q := q_holds 5 hE hI dd
  rw [mT_loc sm] at q
  exact q)
theorem k_ofDiagram {m : zM} {E : zE} (h : lwI m E) (dd wh nu : Int) : zTn zI zX11_ofDiagram zX12_ofDiagram [zI dd, zI wh, zI nu] m E := zTn_q (f := zI) (v := aOfD (mT m) dd wh nu ) h (fun X t s a cap a2 cap2 ka kcap b bcap hJ hX => p_ofDiagram 4 (mT m) X t s a cap a2 cap2 ka kcap b bcap hJ dd wh nu) (fun m1 E1 hE hI sm => by
  have q := q_ofDiagram 5 hE hI dd wh nu
  rw [mT_loc sm] at q
  exact q)
theorem k_core {m : zM} {E : zE} (h : lwI m E) (dd w : Int) : zTn zI zX11_core zX12_core [zI dd, zI w] m E := zTn_q (f := zI) (v := aCore (mT m) dd w ) h (fun X t s a cap a2 cap2 ka kcap b bcap hJ hX => p_core 4 (mT m) X t s a cap a2 cap2 ka kcap b bcap hJ dd w) (fun m1 E1 hE hI sm => by
  have q := q_core 5 hE hI dd w
  rw [mT_loc sm] at q
  exact q)
theorem k_sub {m : zM} {E : zE} (h : lwI m E) (s0 w : Int) : zTn zI zX11_sub zX12_sub [zI s0, zI w] m E := zTn_q (f := zI) (v := aSub (mT m) s0 w ) h (fun X t s a cap a2 cap2 ka kcap b bcap hJ hX => p_sub 4 (mT m) X t s a cap a2 cap2 ka kcap b bcap hJ s0 w) (fun m1 E1 hE hI sm => by
  have q := q_sub 7 hE hI s0 w
  rw [mT_loc sm] at q
  exact q)
theorem k_out {m : zM} {E : zE} (h : lwI m E) (i : Int) : zTn zI zX11_out zX12_out [zI i] m E := by
  obtain ⟨L, l1, l2⟩ := h.2.2.2.2.1
  exact zTn_q (f := zI) (v := aOut L i) h (fun X t s a cap a2 cap2 ka kcap b bcap hJ hX => ⟨E, ⟨Nat.le_refl _, Nat.le_refl _⟩, EB_e hJ, p_out 4 (mT m) X t s a cap a2 cap2 ka kcap b bcap hJ i L l1⟩) (fun m1 E1 hE hI sm => q_out 19 hE hI i (by
    unfold mTxt
    rw [sm aM f_outMany (by decide) (by decide), sM_c sm (a := a_out) (by decide) (by decide)]
    exact l2))
theorem k_sum {m : zM} {E : zE} (h : lwI m E) : zTn zJ zX11_sum zX12_sum [] m E := zTn_q (f := zJ) (v := aSum (mT m) (m a_worths)) h (fun X t s a cap a2 cap2 ka kcap b bcap hJ hX => by
  obtain ⟨E1, le, eb, hr⟩ := p_sum 4 (mT m) X t s a cap a2 cap2 ka kcap b bcap hJ
  have e : aSum (mT m) X = aSum (mT m) (m a_worths) := by
    unfold aSum
    rw [sum_X (T := mT m) (X := X) (X' := m a_worths) (hX.imp (fun z => n_0 hJ.2.2.2.2.2.2.2.2.1 z) id)]
  rw [e] at hr
  exact ⟨E1, le, eb, hr⟩) (fun m1 E1 hE hI sm => by
  have q := q_sum 9 hE hI
  rw [mT_loc sm, sM_c sm (a := a_worths) (by decide) (by decide)] at q
  exact q)
theorem k_sumOf {m : zM} {E : zE} (h : lwI m E) (dd : Int) : zTn zJ zX11_sumOf zX12_sumOf [zI dd] m E := zTn_q (f := zJ) (v := aSumOf (mT m) (m a_worths) dd) h (fun X t s a cap a2 cap2 ka kcap b bcap hJ hX => by
  obtain ⟨E1, le, eb, hr⟩ := p_sumOf 4 (mT m) X t s a cap a2 cap2 ka kcap b bcap hJ dd
  have e : aSumOf (mT m) X dd = aSumOf (mT m) (m a_worths) dd := by
    unfold aSumOf
    rw [sum_X (T := mT m) (X := X) (X' := m a_worths) (hX.imp (fun z => n_0 hJ.2.2.2.2.2.2.2.2.1 z) id)]
  rw [e] at hr
  exact ⟨E1, le, eb, hr⟩) (fun m1 E1 hE hI sm => by
  have q := q_sumOf 5 hE hI dd
  rw [mT_loc sm, sM_c sm (a := a_worths) (by decide) (by decide)] at q
  exact q)
/-- what both sides keep, for frames of the model's that leave tape, fault and text -/
def keepF (F : List (Int × Option Int)) : Bool := F.all (fun q => decide (95 ≤ q.1 ∧ q.1 < 121)) && F.all (fun q => q.1 != aM || (q.2 != none && q.2 != some f_taped)) && F.all (fun q => q.1 != a_tape) && F.all (fun q => q.1 != aM || (q.2 != none && q.2 != some f_faultKind)) && F.all (fun q => q.1 != aM || (q.2 != none && q.2 != some f_faultAt))
def keepT (F : List (Int × Option Int)) : Bool := F.all (fun q => q.1 != aM || (q.2 != none && q.2 != some f_outMany)) && F.all (fun q => q.1 != a_out)
theorem kp_tf {m m1 m2 : zM} {F : List (Int × Option Int)} (ht : tpR m) (hf : fkR m) (e1 : ∀ x k : Int, ((1 ≤ x ∧ x ≤ 5) ∨ (95 ≤ x ∧ x < 121)) → m1 x k = m x k) (f2 : zfr F m1 m2) (hk : keepF F = true) : tpR m2 ∧ fkR m2 := by
  unfold keepF at hk
  rw [Bool.and_eq_true, Bool.and_eq_true, Bool.and_eq_true, Bool.and_eq_true] at hk
  obtain ⟨⟨⟨⟨k1, k2⟩, k3⟩, k4⟩, k5⟩ := hk
  have cc : ∀ x k : Int, (1 ≤ x ∧ x ≤ 5) → m2 x k = m x k := fun x k z => (zfr_cls f2 k1 (by omega)).trans (e1 x k (by omega))
  exact ⟨tp_keep ht (cc 1 1 (by omega)) (fun x => cc 2 x (by omega)) ((zfr_at f2 k2).trans (e1 _ _ (Or.inr (by decide)))) ((zfr_cell f2 k3).trans (funext (fun k => e1 _ k (Or.inr (by decide))))), (cc 1 8 (by omega)).trans (hf.1.trans ((zfr_at f2 k4).trans (e1 _ _ (Or.inr (by decide)))).symm), (cc 1 9 (by omega)).trans (hf.2.trans ((zfr_at f2 k5).trans (e1 _ _ (Or.inr (by decide)))).symm)⟩
theorem kp_tx {m m1 m2 : zM} {F : List (Int × Option Int)} (hx : txR m) (e1 : ∀ x k : Int, ((37 ≤ x ∧ x ≤ 38) ∨ (95 ≤ x ∧ x < 121)) → m1 x k = m x k) (f2 : zfr F m1 m2) (hc : F.all (fun q => decide (95 ≤ q.1 ∧ q.1 < 121)) = true) (hk : keepT F = true) : txR m2 := by
  unfold keepT at hk
  rw [Bool.and_eq_true] at hk
  have cc : ∀ x k : Int, (37 ≤ x ∧ x ≤ 38) → m2 x k = m x k := fun x k z => (zfr_cls f2 hc (by omega)).trans (e1 x k (by omega))
  exact tx_keep hx (cc 37 1 (by omega)) (fun x => cc 38 x (by omega)) ((zfr_at f2 hk.1).trans (e1 _ _ (Or.inr (by decide)))) ((zfr_cell f2 hk.2).trans (funext (fun k => e1 _ k (Or.inr (by decide)))))
theorem k_worth {m : zM} {E : zE} (h : lwI m E) (co w : Int) : zTn zI zX11_worth zX12_worth [zI co, zI w] m E := by
  obtain ⟨X, ⟨t, s, a, cap, a2, cap2, ka, kcap, b, bcap, hJ⟩, hX⟩ := h.1
  have hw := wo_X (T := mT m) (X := X) (X' := m a_worths) (co := co) (w := w) hX
  refine ⟨E, ⟨Nat.le_refl _, Nat.le_refl _⟩, EB_e hJ, zR_imp (p_worth 4 (mT m) X t s a cap a2 cap2 ka kcap b bcap hJ co w) ?_⟩
  rintro r m1 ⟨rfl, c⟩
  rw [hw.1] at c ⊢
  have hw2 := hw.2
  rw [hw.1] at hw2
  have ef : eFr m m1 := c.2.1
  have sm : sameM m m1 := fun x k x0 x1 => ef x k (by omega)
  have hs : shM E := cX_sh (show cX m1 E (mT m) _ from c.1)
  have q := q_worth 17 hs (mI_loc h.2.1 sm) co w
  rw [mT_loc sm, sM_c sm (a := a_worths) (by decide) (by decide)] at q
  refine ⟨_, rfl, hs, zR_imp q ?_⟩
  rintro r' m2 ⟨rfl, i2, f2, s2, o2⟩
  have tf := kp_tf h.2.2.1 h.2.2.2.1 (fun x k z => ef x k (by omega)) f2 (by decide)
  have g : ∀ x k : Int, (x < 95 ∨ 121 ≤ x) → m2 x k = m1 x k := fun x k hx => zfr_cls f2 (by decide) hx
  have ec : m2 a_c = m a_c := (zfr_cell f2 (by decide)).trans (sM_c sm (by decide) (by decide))
  refine ⟨rfl, ⟨(if (aWorth (mT m) (m a_worths) co w).1 = 0 then (fun x => if x = co then w else X x) else X), ?_, ?_⟩, i2, tf.1, tf.2, kp_tx h.2.2.2.2.1 (fun x k z => ef x k (by omega)) f2 (by decide) (by decide), ?_⟩
  · rw [show mT m2 = mT m from (mT_fr f2 (by decide)).trans (mT_loc sm)]
    exact cX_cls c.1 g
  · rw [ec, o2]
    rcases hX with z | z
    · exact Or.inl z
    · right
      rw [z]
  · rw [g 0 11 (by omega), c.2.2, s2]
theorem zTn_e {yc ym : zY} {args : List zV} {s0 : Int} {c1 : Int → Int} {vc : zT → Int} {vm : zM → zM → Int} {m : zM} {E : zE} (h : lwI m E) (hw : tI (m a_c) → (m a_c, m a_what, m a_pointOf, m aM f_letters) = mT m → wfL (m a_c) (m a_what) (m a_pointOf) (m aM f_letters) → isFlat (m a_c) (m a_what) (m a_pointOf) (m aM f_letters) → s0 = 0 → wfD c1)
    (hc : ∀ (X : Int → Int) (t s a cap a2 cap2 ka kcap b bcap : Int), cJ m E (mT m) X t s a cap a2 cap2 ka kcap b bcap → ∀ T1 : zT, (s0 = 0 → isFlat T1.1 T1.2.1 T1.2.2.1 T1.2.2.2 ∧ T1.1 = c1) → ∃ E1 : zE, (E.2.1 ≤ E1.2.1 ∧ E.2.2 ≤ E1.2.2) ∧ EB E1 ∧ zR yc 20 (zP 0 :: args) m E E1 (fun r m' => r = some (zI (if s0 = 0 then vc T1 else -1)) ∧ (s0 = 0 → cEd m m' E1 T1 (fun _ => 1) 0 ∧ m' 14 19 = 0) ∧ (s0 ≠ 0 → cEd m m' E1 (mT m) X s0)))
    (hm : ∀ (m1 : zM) (E1 : zE), shM E1 → mI m1 → sameM m m1 → zR ym 20 (zP aM :: args) m1 E1 E1 (fun r m' => r = some (zI (if s0 = 0 then vm m1 m' else -1)) ∧ mI m' ∧ zfr fEd m1 m' ∧ m' aM f_status = s0 ∧ (s0 = 0 → m' a_c = c1 ∧ ∀ i, 0 ≤ i → i < 800 → m' a_worths i = 1) ∧ (s0 ≠ 0 → mT m' = mT m1 ∧ m' a_worths = m1 a_worths)))
    (hv : s0 = 0 → ∀ (T1 : zT) (m1 m2 : zM), sameM m m1 → T1.1 = c1 → m2 a_c = c1 → lT T1 = lT (mT m2) → tS T1 (tSign T1) = tS (mT m2) (tSign (mT m2)) → vc T1 = vm m1 m2) : zTn zI yc ym args m E := by
  obtain ⟨X, ⟨t, s, a, cap, a2, cap2, ka, kcap, b, bcap, hJ⟩, hX⟩ := h.1
  have hP := hJ.2.2.2.2.2.2.2.2.1
  obtain ⟨T1, hT1⟩ : ∃ T1 : zT, s0 = 0 → isFlat T1.1 T1.2.1 T1.2.2.1 T1.2.2.2 ∧ T1.1 = c1 := by
    by_cases hs : s0 = 0
    · obtain ⟨w1, q1, hfl⟩ := flat_ex (hw hP.1 rfl (tA_l hP) hP.2.1 hs)
      exact ⟨(c1, w1, q1, cPre c1 (c1 2).toNat), fun _ => ⟨hfl, rfl⟩⟩
    · exact ⟨mT m, fun z => absurd z hs⟩
  obtain ⟨E1, le, eb, hr⟩ := hc X t s a cap a2 cap2 ka kcap b bcap hJ T1 hT1
  refine ⟨E1, le, eb, zR_imp hr ?_⟩
  rintro r m1 ⟨rfl, d0, d1⟩
  have ef : eFr m m1 := by
    by_cases hs : s0 = 0
    · exact (d0 hs).1.2.1
    · exact (d1 hs).2.1
  have sm : sameM m m1 := fun x k x0 x1 => ef x k (by omega)
  have hsh : shM E1 := by
    by_cases hs : s0 = 0
    · exact cX_sh (show cX m1 E1 T1 _ from (d0 hs).1.1)
    · exact cX_sh (show cX m1 E1 (mT m) X from (d1 hs).1)
  refine ⟨_, rfl, hsh, zR_imp (hm m1 E1 hsh (mI_loc h.2.1 sm) sm) ?_⟩
  rintro r' m2 ⟨rfl, i2, f2, s2, o1, o2⟩
  have tf := kp_tf h.2.2.1 h.2.2.2.1 (fun x k z => ef x k (by omega)) f2 (by decide)
  have tx := kp_tx h.2.2.2.2.1 (fun x k z => ef x k (by omega)) f2 (by decide) (by decide)
  have g : ∀ x k : Int, (x < 95 ∨ 121 ≤ x) → m2 x k = m1 x k := fun x k hx => zfr_cls f2 (by decide) hx
  by_cases hs : s0 = 0
  · obtain ⟨⟨⟨t', s', a', cap', a2', cap2', ka', kcap', b', bcap', j1⟩, -, st1⟩, n9⟩ := d0 hs
    obtain ⟨ec, ew⟩ := o1 hs
    obtain ⟨j3, el, es⟩ := cJ_tr (cJ_cls j1 g) (T' := mT m2) (X' := m2 a_worths) (ec.trans (hT1 hs).2.symm) i2.1.2.2.1 (fun i i0 i1 => (ew i i0 i1).symm) ((g 14 19 (by omega)).trans n9)
    refine ⟨by rw [if_pos hs, if_pos hs, hv hs T1 m1 m2 sm (hT1 hs).2 ec el es], ⟨m2 a_worths, ⟨t', s', a', cap', a2', cap2', ka', kcap', b', bcap', j3⟩, Or.inr rfl⟩, i2, tf.1, tf.2, tx, ?_⟩
    rw [g 0 11 (by omega), st1, s2, hs]
  · obtain ⟨j1, -, st1⟩ := d1 hs
    obtain ⟨eT, ew⟩ := o2 hs
    refine ⟨by rw [if_neg hs, if_neg hs], ⟨X, ?_, ?_⟩, i2, tf.1, tf.2, tx, ?_⟩
    · rw [eT, mT_loc sm]
      exact cX_cls j1 g
    · rw [ew, sM_c sm (a := a_worths) (by decide) (by decide), show m2 a_c = m a_c from (congrArg (fun z => z.1) eT).trans (sM_c sm (by decide) (by decide))]
      exact hX
    · rw [g 0 11 (by omega), st1, s2]
theorem z_E {m : zM} {E : zE} {T : zT} {X : Int → Int} {t s a cap a2 cap2 ka kcap b bcap : Int} (hJ : cJ m E T X t s a cap a2 cap2 ka kcap b bcap) {yc : zY} {av : List zV} {P : zE → Option zV → zM → Prop} (h : zR yc 20 av m E E (P E)) : ∃ E1 : zE, (E.2.1 ≤ E1.2.1 ∧ E.2.2 ≤ E1.2.2) ∧ EB E1 ∧ zR yc 20 av m E E1 (P E1) := ⟨E, ⟨Nat.le_refl _, Nat.le_refl _⟩, EB_e hJ, h⟩
theorem k_drop {m : zM} {E : zE} (h : lwI m E) (p : Int) : zTn zI zX11_drop zX12_drop [zI p] m E := zTn_e (s0 := sDrop (mT m) p) (c1 := eN (eBlk (m a_c) (gD p (m a_c 2 - 1))) (m a_c 2 - 1)) (vc := fun _ => m a_c 2 - 1) (vm := fun m1 _ => m1 a_c 2 - 1) h (fun hI _ _ _ hs => by
  have hp : 0 ≤ p ∧ p ≤ m a_c 2 - 1 := Classical.byContradiction (fun z => absurd ((show sDrop (mT m) p = 2 from if_pos z).symm.trans hs) (by decide))
  exact wfD_of (tI_drop hI (by omega) (by omega)).1.1) (fun X t s a cap a2 cap2 ka kcap b bcap hJ T1 hT1 => ⟨E, ⟨Nat.le_refl _, Nat.le_refl _⟩, EB_e hJ, p_drop 4 (mT m) X t s a cap a2 cap2 ka kcap b bcap hJ p T1 hT1⟩) (fun m1 E1 hE hI sm => by
  have q := q_drop 15 hE hI p
  rw [mT_loc sm, show m1 a_c = m a_c from sM_c sm (by decide) (by decide)] at q
  rw [show m1 a_c = m a_c from sM_c sm (by decide) (by decide), mT_loc sm]
  exact q) (fun _ T1 m1 m2 sm _ _ _ _ => by rw [show m1 a_c = m a_c from sM_c sm (by decide) (by decide)])
theorem k_move {m : zM} {E : zE} (h : lwI m E) (p pl : Int) : zTn zI zX11_move zX12_move [zI p, zI pl] m E := zTn_e (s0 := sMove (mT m) p pl) (c1 := eN (eBlk (m a_c) (gM p pl)) (m a_c 2)) (vc := fun T1 => cPre T1.1 pl.toNat) (vm := fun _ m2 => zsum (fun q => m2 a_c (32 + 9 * q)) pl.toNat 0) h (fun hI _ _ _ hs => by
  unfold sMove at hs
  split at hs
  · omega
  · split at hs
    · omega
    · rename_i z1 z2
      have y1 : 0 ≤ pl ∧ pl ≤ m a_c 2 - 1 := Classical.not_not.mp z1
      have y2 : 0 ≤ p ∧ p ≤ m a_c 2 - 1 := Classical.not_not.mp z2
      exact wfD_of (tI_move hI (by omega) (by omega) (by omega) (by omega)).1.1) (fun X t s a cap a2 cap2 ka kcap b bcap hJ T1 hT1 => ⟨E, ⟨Nat.le_refl _, Nat.le_refl _⟩, EB_e hJ, p_move 4 (mT m) X t s a cap a2 cap2 ka kcap b bcap hJ p pl T1 hT1⟩) (fun m1 E1 hE hI sm => by
  have q := q_move 15 hE hI p pl
  rw [mT_loc sm, show m1 a_c = m a_c from sM_c sm (by decide) (by decide)] at q
  rw [mT_loc sm]
  exact q) (fun _ T1 m1 m2 _ e1 e2 _ _ => by
  show cPre T1.1 pl.toNat = cPre (m2 a_c) pl.toNat
  rw [e1, e2])
theorem k_copy {m : zM} {E : zE} (h : lwI m E) (p : Int) : zTn zI zX11_copy zX12_copy [zI p] m E := zTn_e (s0 := sCopy (mT m) p) (c1 := eN (eBlk (m a_c) (fun b => if b = m a_c 2 then p else b)) (m a_c 2 + 1)) (vc := fun _ => m a_c 2) (vm := fun m1 _ => m1 a_c 2) h (fun hI _ _ hfl hs => by
  unfold sCopy at hs
  split at hs
  · omega
  · rename_i z1
    split at hs
    · omega
    · rename_i z2
      have y1 : 0 ≤ p ∧ p ≤ m a_c 2 - 1 := Classical.not_not.mp z1
      have y2 : ¬ (m a_c 2 = 8 ∨ (m a_c (32 + 9 * p + 1) = 1 ∧ cVx (m a_c) = 5) ∨ 12 < m aM f_letters + m a_c (32 + 9 * p)) := z2
      have y3 := hI.1.1.2.2.1
      have y4 := hfl.1
      exact wfD_of (tI_copy hI (by omega) (by omega) (by omega) (by omega) (fun z => y2 (Or.inr (Or.inl z)))).1.1) (fun X t s a cap a2 cap2 ka kcap b bcap hJ T1 hT1 => ⟨E, ⟨Nat.le_refl _, Nat.le_refl _⟩, EB_e hJ, p_copy 4 (mT m) X t s a cap a2 cap2 ka kcap b bcap hJ p T1 hT1⟩) (fun m1 E1 hE hI sm => by
  have q := q_copy 15 hE hI p
  rw [mT_loc sm, show m1 a_c = m a_c from sM_c sm (by decide) (by decide)] at q
  rw [show m1 a_c = m a_c from sM_c sm (by decide) (by decide), mT_loc sm]
  exact q) (fun _ T1 m1 m2 sm _ _ _ _ => by rw [show m1 a_c = m a_c from sM_c sm (by decide) (by decide)])
theorem k_normal {m : zM} {E : zE} (h : lwI m E) (p v : Int) (hv : v = 0 ∨ v = 1) : zTn zI zX11_normal zX12_normal [zI p, zI v] m E := zTn_e (s0 := sNormal (mT m) p v) (c1 := eU (m a_c) (32 + 9 * p + 2) v) (vc := fun T1 => lT T1) (vm := fun _ m2 => ((tPairs (mT m2)).length : Int)) h (fun hI _ _ _ hs => by
  unfold sNormal at hs
  split at hs
  · omega
  · rename_i z1
    have y1 : 0 ≤ p ∧ p ≤ m a_c 2 - 1 := Classical.not_not.mp z1
    exact wfD_of (tI_no hI (by omega) (by omega) hv).1.1) (fun X t s a cap a2 cap2 ka kcap b bcap hJ T1 hT1 => ⟨E, ⟨Nat.le_refl _, Nat.le_refl _⟩, EB_e hJ, p_normal 4 (mT m) X t s a cap a2 cap2 ka kcap b bcap hJ p v hv T1 hT1⟩) (fun m1 E1 hE hI sm => by
  have q := q_normal 9 hE hI p v hv
  rw [mT_loc sm, show m1 a_c = m a_c from sM_c sm (by decide) (by decide)] at q
  rw [mT_loc sm]
  exact q) (fun _ T1 m1 m2 _ _ _ el _ => el)
theorem k_swap {m : zM} {E : zE} (h : lwI m E) (i : Int) : zTn zI zX11_swap zX12_swap [zI i] m E := zTn_e (s0 := sSwap (mT m) i) (c1 := eSw (m a_c) (32 + 9 * m a_pointOf i + 3 + i - cPre (m a_c) (m a_pointOf i).toNat)) (vc := fun T1 => tS T1 (tSign T1)) (vm := fun _ m2 => tS (mT m2) (tSign (mT m2))) h (fun hI _ hl hfl hs => by
  have hsw := sw_0 hs
  have y1 : (0 ≤ i ∧ i ≤ m aM f_letters - 1) ∧ (0 ≤ i + 1 ∧ i + 1 ≤ m aM f_letters - 1) := hsw.1
  have y2 : m a_pointOf i = m a_pointOf (i + 1) := hsw.2.1
  have hft := flat_two hI.1.1 hfl (show 0 ≤ i by omega) (show i + 1 < m aM f_letters by omega) y2
  rw [show 32 + 9 * m a_pointOf i + 3 + i - cPre (m a_c) (m a_pointOf i).toNat = 32 + 9 * m a_pointOf i + 3 + (i - cPre (m a_c) (m a_pointOf i).toNat) by omega]
  exact wfD_of (tI_sw hI hft.1 hft.2.1 hft.2.2.1 hft.2.2.2).1.1) (fun X t s a cap a2 cap2 ka kcap b bcap hJ T1 hT1 => p_swap 4 (mT m) X t s a cap a2 cap2 ka kcap b bcap hJ i T1 hT1) (fun m1 E1 hE hI sm => by
  have q := q_swap 9 hE hI i
  rw [mT_loc sm, show m1 a_c = m a_c from sM_c sm (by decide) (by decide), show m1 a_pointOf = m a_pointOf from sM_c sm (by decide) (by decide)] at q
  rw [mT_loc sm]
  exact q) (fun _ T1 m1 m2 _ _ _ _ es => es)
