def fStands : List (Int × Option Int) := [(a_what, none), (a_pointOf, none), (aM, some f_letters)]
def fChanges : List (Int × Option Int) := [(a_what, none), (a_pointOf, none), (aM, some f_letters), (aM, some f_isLaid), (aM, some f_isNamed)]
def fPoints : List (Int × Option Int) := (a_worths, none) :: fChanges
def fLays : List (Int × Option Int) := (aM, some f_isLaid) :: (aM, some f_among) :: fLaid
/-- the theory and its letters are in order -/
def mOK (m : zM) : Prop := ptM m ∧ wfC (m a_c) ∧ isFlat (m a_c) (m a_what) (m a_pointOf) (m aM f_letters) ∧ m aM f_letters ≤ 12 ∧ ∀ x, (x < 0 ∨ 12 ≤ x) → m a_mate x = 0
def mPairs (m : zM) : List (Int → Int) := sPair (m a_c) (m a_what) (m a_pointOf) (m aM f_letters)
/-- all pairings are laid -/
def mL (m : zM) : Prop := m aM f_laid = (mPairs m).length ∧ ∀ (t : Nat) (mt : Int → Int), (mPairs m)[t]? = some mt → (∀ k, 0 ≤ k → k < m aM f_letters → m a_table (12 * (t : Int) + k) = mt k) ∧ m a_sign t = sSign (m aM f_letters).toNat (cOd (m a_c) (m a_what)) (cBr (m a_c) (m a_what)) mt ∧ m a_crossings t = sCross (m aM f_letters).toNat mt ∧ m a_rounds t = sRounds (m aM f_letters).toNat mt
theorem ptM_b {m m1 : zM} (h : ptM m) (b : zfr [(a_mate, none), (aM, some f_among)] m m1) : ptM m1 := fun q hq => by
  have hq2 : ∀ q ∈ mPt, ([(a_mate, none), (aM, some f_among)] : List (Int × Option Int)).all (fun r => r.1 != aM || (r.2 != none && r.2 != some q.1)) = true := by decide
  rw [zfr_at b (hq2 q hq)]
  exact h q hq
theorem mt0_ok {n : Int} : ∀ x, 0 ≤ x → x < n → (mt0 x = -1 ∨ 0 ≤ mt0 x) ∧ mt0 x < n := fun x q1 q2 => by
  unfold mt0; split <;> omega
theorem begun {m m1 : zM} {v : Int} (hk : mOK m) (b1 : zfr [(a_mate, none), (aM, some f_among)] (zu (zu m aM f_isLaid v) aM f_laid 0) m1) (b3 : ∀ i, 0 ≤ i → i < 12 → m1 a_mate i = -1) (b4 : ∀ x, (x < 0 ∨ 12 ≤ x) → m1 a_mate x = zu (zu m aM f_isLaid v) aM f_laid 0 a_mate x) : m1 a_c = m a_c ∧ m1 a_what = m a_what ∧ m1 a_pointOf = m a_pointOf ∧ m1 aM f_letters = m aM f_letters ∧ m1 a_mate = mt0 ∧ m1 aM f_laid = 0 := by
  refine ⟨?_, ?_, ?_, ?_, ?_, ?_⟩
  · rw [zfr_cell b1 (by decide), zu_fn (by decide), zu_fn (by decide)]
  · rw [zfr_cell b1 (by decide), zu_fn (by decide), zu_fn (by decide)]
  · rw [zfr_cell b1 (by decide), zu_fn (by decide), zu_fn (by decide)]
  · rw [zfr_at b1 (by decide), zu_j (by decide), zu_j (by decide)]
  · funext x
    unfold mt0
    split
    · rename_i h; exact b3 x h.1 h.2
    · rw [b4 x (by omega), zu_a (by decide), zu_a (by decide)]; exact hk.2.2.2.2 x (by omega)
  · rw [zfr_at b1 (by decide), zu_s]
theorem lays_fin {m m1 m2 : zM} (hk : mOK m) (b1 : zfr [(a_mate, none), (aM, some f_among)] (zu (zu m aM f_isLaid 1) aM f_laid 0) m1) (b4 : ∀ x, (x < 0 ∨ 12 ≤ x) → m1 a_mate x = zu (zu m aM f_isLaid 1) aM f_laid 0 a_mate x) (c1 : mLaid (m aM f_letters) (cOd (m a_c) (m a_what)) (cBr (m a_c) (m a_what)) m1 m2 (sLay (m aM f_letters).toNat (cMay (m a_c) (m a_what) (m a_pointOf)) 6 mt0)) : zfr fLays m m2 ∧ m2 aM f_isLaid = 1 ∧ mL m2 ∧ mOK m2 := by
  have hf : zfr fLays m m2 := zfr_tr (zfr_tr (zfr_uj (zfr_uj zfr_rf (by decide)) (by decide)) (zfr_sub b1 (by decide))) (zfr_sub c1.2.2.2.2.2 (by decide))
  have g1 : m2 a_c = m a_c := zfr_cell hf (by decide)
  have g2 : m2 a_what = m a_what := zfr_cell hf (by decide)
  have g3 : m2 a_pointOf = m a_pointOf := zfr_cell hf (by decide)
  have g4 : m2 aM f_letters = m aM f_letters := zfr_at hf (by decide)
  have g5 : m1 aM f_laid = 0 := by rw [zfr_at b1 (by decide), zu_s]
  have g6 : m2 aM f_isLaid = 1 := by rw [zfr_at c1.2.2.2.2.2 (by decide), zfr_at b1 (by decide), zu_j (by decide), zu_s]
  have g7 : ptM m2 := fun q hq => by
    have hq2 : ∀ q ∈ mPt, fLays.all (fun r => r.1 != aM || (r.2 != none && r.2 != some q.1)) = true := by decide
    rw [zfr_at hf (hq2 q hq)]
    exact hk.1 q hq
  refine ⟨hf, g6, ⟨?_, fun t mt ht => ?_⟩, g7, by rw [g1]; exact hk.2.1, by rw [g1, g2, g3, g4]; exact hk.2.2.1, by rw [g4]; exact hk.2.2.2.1, fun x hx => ?_⟩
  · rw [c1.1, g5, mPairs, g1, g2, g3, g4, Int.zero_add]; rfl
  · rw [mPairs, g1, g2, g3, g4] at ht
    have h := c1.2.1 t mt ht
    rw [g5, Int.zero_add] at h
    rw [g1, g2, g4]
    exact h
  · rw [c1.2.2.2.2.1, b4 x hx, zu_a (by decide), zu_a (by decide)]; exact hk.2.2.2.2 x hx
theorem l_unworths (d : Nat) {E : zE} {m : zM} {P : Option zV → zM → Prop} (hE : shM E) (hm : ptM m)   : ∀ (j : Nat) (k : Int) (m1 : zM), (ptM m1) → (0 ≤ k) → (k + j = 800) → (zfr [(a_worths, none)] m m1) → (∀ i, 0 ≤ i → i < k → m1 a_worths i = 1) → (∀ m2, zfr [(a_worths, none)] m m2 → (∀ i, 0 ≤ i → i < 800 → m2 a_worths i = 1) → P none m2) → zA zX12_unworths (d) E E P 2 [zP aM, zI k] [] m1 E := by
  intro j
  induction j with
  | zero =>
    intro k m1 hm1 h0 hk hf hq hP
    refine z_iload_n dX12_unworths_2 rfl ?_
    refine z_sipush dX12_unworths_3 rfl (by decide) ?_
    refine z_icmp_ge (tgt := 22) dX12_unworths_6 rfl (fun h6 => ?_) (fun h => absurd (by omega) h)
    refine z_vret dX12_unworths_22 rfl rfl ?_
    exact hP m1 hf (fun i q1 q2 => hq i q1 (by omega))
  | succ j ih =>
    intro k m1 hm1 h0 hk hf hq hP
    refine z_iload_n dX12_unworths_2 rfl ?_
    refine z_sipush dX12_unworths_3 rfl (by decide) ?_
    refine z_icmp_ge (tgt := 22) dX12_unworths_6 rfl (fun h => absurd h (by omega)) (fun h6 => ?_)
    refine z_aload_n dX12_unworths_9 rfl ?_
    refine z_gP 2 rfl (r := a_worths) flX12_16 dX12_unworths_10 (sh_M hE) rfl (pt_worths hm1) (by decide) ?_
    refine z_iload_n dX12_unworths_13 rfl ?_
    refine z_iconst dX12_unworths_14 (by decide) ?_
    refine z_iast dX12_unworths_15 (sh_worths hE) (by omega) (by omega) ?_
    refine z_inc dX12_unworths_16 rfl (by omega) ?_
    refine z_goto (tgt := 2) dX12_unworths_19 rfl ?_
    try dsimp only [zs0, zsI, zsP, zsN, zsJ, zsS, zst2, Nat.reduceAdd]
    exact ih (k + 1) _ (ptM_a hm1 (by decide)) (by omega) (by omega) (zfr_ua hf (by simp)) (fun i q1 q2 => by by_cases e : i = k; (rw [e, zu_s]); (rw [zu_j e]; exact hq i q1 (by omega))) hP

theorem r_unworths (d : Nat) {E : zE} {m : zM} (hE : shM E) (hm : ptM m)   : zR zX12_unworths (d) [zP aM] m E E (fun r m' => r = none ∧ zfr [(a_worths, none)] m m' ∧ ∀ i, 0 ≤ i → i < 800 → m' a_worths i = 1) := by
  refine zR_go [zP aM, zN] (by decide +kernel) (Nat.le_of_ble_eq_true rfl) rfl rfl ?_
  refine z_iconst dX12_unworths_0 (by decide) ?_
  refine z_ist 1 dX12_unworths_1 rfl (Nat.le_of_ble_eq_true rfl) ?_
  try dsimp only [zs0, zsI, zsP, zsN, zsJ, zsS, zst2, Nat.reduceAdd]
  refine l_unworths d hE hm 800 0 m hm (by omega) (by omega) zfr_rf (fun i q1 q2 => by omega) (fun m2 q1 q2 => ⟨rfl, q1, q2⟩)

theorem l_stands_in (d : Nat) {E : zE} {m : zM} {P : Option zV → zM → Prop} (hE : shM E) (hm : ptM m) (p : Nat) (hp : (p : Int) < m a_c 2) (hw : wfC (m a_c)) (hT : cPre (m a_c) (m a_c 2).toNat ≤ 12) : ∀ (j : Nat) (k : Nat) (m1 : zM), (ptM m1) → ((k : Int) + j = m a_c (32 + 9 * p)) → (zfr fStands m m1) → (m1 aM f_letters = cPre (m a_c) p + k) → (∀ x z : Nat, (x : Int) < m a_c 2 → (z : Int) < m a_c (32 + 9 * x) → cPre (m a_c) x + z < (cPre (m a_c) p + k) → m1 a_what (cPre (m a_c) x + z) = m a_c (32 + 9 * x + 3 + z) ∧ m1 a_pointOf (cPre (m a_c) x + z) = x) → (∀ m2, ptM m2 → zfr fStands m m2 → m2 aM f_letters = cPre (m a_c) (p + 1) → (∀ x z : Nat, (x : Int) < m a_c 2 → (z : Int) < m a_c (32 + 9 * x) → cPre (m a_c) x + z < (cPre (m a_c) (p + 1)) → m2 a_what (cPre (m a_c) x + z) = m a_c (32 + 9 * x + 3 + z) ∧ m2 a_pointOf (cPre (m a_c) x + z) = x) → zA zX12_stands (d + 2) E E P 77 [zP aM, zI (p : Nat), zN] [] m2 E) → zA zX12_stands (d + 2) E E P 19 [zP aM, zI (p : Nat), zI (k : Nat)] [] m1 E := by
  intro j
  induction j with
  | zero =>
    intro k m1 hm1 hk hf ht hq hP
    refine z_iload_n dX12_stands_19 rfl ?_
    refine z_aload_n dX12_stands_20 rfl ?_
    refine z_iload_n dX12_stands_21 rfl ?_
    refine z_callV mlX12_127 dX12_stands_22 (sh_M hE) (av := [_]) rfl rfl (Nat.le_of_ble_eq_true rfl) (r_sizeOf _ hE hm1 _ (by omega) (by have := hw.2.2.1; omega)) (Nat.le_refl _) (Nat.le_refl _) (Nat.le_refl _) (Nat.le_refl _) ?_
    rw [congrFun (zfr_cell (a := a_c) hf (by decide)) _]
    rintro _ _ ⟨rfl, rfl⟩
    refine z_icmp_ge (tgt := 77) dX12_stands_25 rfl (fun h25 => ?_) (fun h => absurd (by omega) h)
    refine zA_wk [_, _, zN] (by exact ⟨Or.inr rfl, Or.inr rfl, Or.inl rfl, trivial⟩) ?_
    have e : cPre (m a_c) (p + 1) = cPre (m a_c) p + k := by rw [cPre_s]; omega
    exact hP m1 hm1 hf (by rw [e]; exact ht) (by rw [e]; exact hq)
  | succ j ih =>
    intro k m1 hm1 hk hf ht hq hP
    refine z_iload_n dX12_stands_19 rfl ?_
    refine z_aload_n dX12_stands_20 rfl ?_
    refine z_iload_n dX12_stands_21 rfl ?_
    refine z_callV mlX12_127 dX12_stands_22 (sh_M hE) (av := [_]) rfl rfl (Nat.le_of_ble_eq_true rfl) (r_sizeOf _ hE hm1 _ (by omega) (by have := hw.2.2.1; omega)) (Nat.le_refl _) (Nat.le_refl _) (Nat.le_refl _) (Nat.le_refl _) ?_
    rw [congrFun (zfr_cell (a := a_c) hf (by decide)) _]
    rintro _ _ ⟨rfl, rfl⟩
    refine z_icmp_ge (tgt := 77) dX12_stands_25 rfl (fun h => absurd h (by omega)) (fun h25 => ?_)
    refine z_aload_n dX12_stands_28 rfl ?_
    refine z_gP 5 rfl (r := a_what) flX12_19 dX12_stands_29 (sh_M hE) rfl (pt_what hm1) (by decide) ?_
    refine z_aload_n dX12_stands_32 rfl ?_
    refine z_gIv f_letters rfl flX12_124 dX12_stands_33 (sh_M hE) rfl ht ?_
    refine z_aload_n dX12_stands_36 rfl ?_
    refine z_gP 0 rfl (r := a_c) flX12_7 dX12_stands_37 (sh_M hE) rfl (pt_c hm1) (by decide) ?_
    refine z_aload_n dX12_stands_40 rfl ?_
    refine z_iload_n dX12_stands_41 rfl ?_
    refine z_callV mlX12_120 dX12_stands_42 (sh_M hE) (av := [_]) rfl rfl (Nat.le_of_ble_eq_true rfl) (r_at _ hE hm1 _ (by omega) (by have := hw.2.2.1; omega)) (Nat.le_refl _) (Nat.le_refl _) (Nat.le_refl _) (Nat.le_refl _) ?_
    rintro _ _ ⟨rfl, rfl⟩
    refine z_iconst dX12_stands_45 (by decide) ?_
    refine z_add dX12_stands_46 (by have := hw.2.2.1; omega) ?_
    refine z_iload_n dX12_stands_47 rfl ?_
    refine z_add dX12_stands_48 (by have := (hw.2.2.2.2.2 p (by omega) hp).1; have := hw.2.2.1; omega) ?_
    refine z_ialv dX12_stands_49 (sh_c hE) (by have := (hw.2.2.2.2.2 p (by omega) hp).1; have := hw.2.2.1; omega) (by have := (hw.2.2.2.2.2 p (by omega) hp).1; have := hw.2.2.1; omega) (congrFun (zfr_cell hf (by decide)) _) ?_
    refine z_iast dX12_stands_50 (sh_what hE) (by have h1 := cPre_mono hw (a := p + 1) (b := (m a_c 2).toNat) (by omega) (by have := hw.2.2.1; omega); rw [cPre_s] at h1; have h2 := cPre_mono hw (a := 0) (b := p) (by omega) (by omega); rw [show cPre (m a_c) 0 = 0 from rfl] at h2; omega) (by have h1 := cPre_mono hw (a := p + 1) (b := (m a_c 2).toNat) (by omega) (by have := hw.2.2.1; omega); rw [cPre_s] at h1; have h2 := cPre_mono hw (a := 0) (b := p) (by omega) (by omega); rw [show cPre (m a_c) 0 = 0 from rfl] at h2; omega) ?_
    refine z_aload_n dX12_stands_51 rfl ?_
    refine z_gP 6 rfl (r := a_pointOf) flX12_22 dX12_stands_52 (sh_M hE) rfl (pt_pointOf (ptM_a hm1 (by decide))) (by decide) ?_
    refine z_aload_n dX12_stands_55 rfl ?_
    refine z_gIv f_letters rfl flX12_124 dX12_stands_56 (sh_M hE) rfl (Eq.trans (zu_a (by decide)) ht) ?_
    refine z_iload_n dX12_stands_59 rfl ?_
    refine z_iast dX12_stands_60 (sh_pointOf hE) (by have h1 := cPre_mono hw (a := p + 1) (b := (m a_c 2).toNat) (by omega) (by have := hw.2.2.1; omega); rw [cPre_s] at h1; have h2 := cPre_mono hw (a := 0) (b := p) (by omega) (by omega); rw [show cPre (m a_c) 0 = 0 from rfl] at h2; omega) (by have h1 := cPre_mono hw (a := p + 1) (b := (m a_c 2).toNat) (by omega) (by have := hw.2.2.1; omega); rw [cPre_s] at h1; have h2 := cPre_mono hw (a := 0) (b := p) (by omega) (by omega); rw [show cPre (m a_c) 0 = 0 from rfl] at h2; omega) ?_
    refine z_aload_n dX12_stands_61 rfl ?_
    refine z_dup dX12_stands_62 rfl ?_
    refine z_gIv f_letters rfl flX12_124 dX12_stands_63 (sh_M hE) rfl (Eq.trans (zu_a (by decide)) (Eq.trans (zu_a (by decide)) ht)) ?_
    refine z_iconst dX12_stands_66 (by decide) ?_
    refine z_add dX12_stands_67 (by have h1 := cPre_mono hw (a := p + 1) (b := (m a_c 2).toNat) (by omega) (by have := hw.2.2.1; omega); rw [cPre_s] at h1; have h2 := cPre_mono hw (a := 0) (b := p) (by omega) (by omega); rw [show cPre (m a_c) 0 = 0 from rfl] at h2; omega) ?_
    refine z_pI f_letters rfl (fpX12_124 _) dX12_stands_68 (sh_M hE) rfl ?_
    refine z_inc dX12_stands_71 rfl (by have := (hw.2.2.2.2.2 p (by omega) hp).1; omega) ?_
    refine z_goto (tgt := 19) dX12_stands_74 rfl ?_
    try dsimp only [zs0, zsI, zsP, zsN, zsJ, zsS, zst2, Nat.reduceAdd]
    rw [show (k : Int) + 1 = ((k + 1 : Nat) : Int) by omega]
    refine ih (k + 1) _ (ptM_j (ptM_a (ptM_a hm1 (by decide)) (by decide)) (by decide)) (by omega) (zfr_uj (zfr_ua (zfr_ua hf (by decide)) (by decide)) (by decide)) (by rw [zu_s]; omega) (fun p2 k2 q1 q2 q3 => ?_) hP
    rw [zu_a (by decide), zu_a (by decide), zu_a (b := a_pointOf) (a := aM) (by decide)]
    by_cases e : cPre (m a_c) p2 + k2 = cPre (m a_c) p + k
    · obtain ⟨rfl, rfl⟩ := cPre_inj hw q1 hp q2 (by omega) e
      rw [zu_s, zu_s]
      exact ⟨rfl, rfl⟩
    · rw [zu_j e, zu_j e, zu_a (by decide)]
      exact hq p2 k2 q1 q2 (by omega)

theorem l_stands (d : Nat) {E : zE} {m : zM} {P : Option zV → zM → Prop} (hE : shM E) (hm : ptM m)  (hw : wfC (m a_c)) (hT : cPre (m a_c) (m a_c 2).toNat ≤ 12) : ∀ (j : Nat) (k : Nat) (m1 : zM), (ptM m1) → ((k : Int) + j = m a_c 2) → (zfr fStands m m1) → (m1 aM f_letters = cPre (m a_c) k) → (∀ x z : Nat, (x : Int) < m a_c 2 → (z : Int) < m a_c (32 + 9 * x) → cPre (m a_c) x + z < (cPre (m a_c) k) → m1 a_what (cPre (m a_c) x + z) = m a_c (32 + 9 * x + 3 + z) ∧ m1 a_pointOf (cPre (m a_c) x + z) = x) → (∀ m2, zfr fStands m m2 → isFlat (m a_c) (m2 a_what) (m2 a_pointOf) (m2 aM f_letters) → P none m2) → zA zX12_stands (d + 2) E E P 7 [zP aM, zI (k : Nat), zN] [] m1 E := by
  intro j
  induction j with
  | zero =>
    intro k m1 hm1 hk hf ht hq hP
    refine z_iload_n dX12_stands_7 rfl ?_
    refine z_aload_n dX12_stands_8 rfl ?_
    refine z_gP 0 rfl (r := a_c) flX12_7 dX12_stands_9 (sh_M hE) rfl (pt_c hm1) (by decide) ?_
    refine z_iconst dX12_stands_12 (by decide) ?_
    refine z_ialv dX12_stands_13 (sh_c hE) (by omega) (by omega) (congrFun (zfr_cell hf (by decide)) _) ?_
    refine z_icmp_ge (tgt := 83) dX12_stands_14 rfl (fun h14 => ?_) (fun h => absurd (by omega) h)
    refine z_vret dX12_stands_83 rfl rfl ?_
    have e : (m a_c 2).toNat = k := by omega
    refine hP m1 hf ⟨by rw [e]; exact ht, fun p2 k2 q1 q2 => hq p2 k2 q1 q2 ?_⟩
    have h1 := cPre_mono hw (a := p2 + 1) (b := k) (by omega) (by omega)
    rw [cPre_s] at h1
    omega
  | succ j ih =>
    intro k m1 hm1 hk hf ht hq hP
    refine z_iload_n dX12_stands_7 rfl ?_
    refine z_aload_n dX12_stands_8 rfl ?_
    refine z_gP 0 rfl (r := a_c) flX12_7 dX12_stands_9 (sh_M hE) rfl (pt_c hm1) (by decide) ?_
    refine z_iconst dX12_stands_12 (by decide) ?_
    refine z_ialv dX12_stands_13 (sh_c hE) (by omega) (by omega) (congrFun (zfr_cell hf (by decide)) _) ?_
    refine z_icmp_ge (tgt := 83) dX12_stands_14 rfl (fun h => absurd h (by omega)) (fun h14 => ?_)
    refine z_iconst dX12_stands_17 (by decide) ?_
    refine z_ist 2 dX12_stands_18 rfl (Nat.le_of_ble_eq_true rfl) ?_
    try dsimp only [zs0, zsI, zsP, zsN, zsJ, zsS, zst2, Nat.reduceAdd]
    refine l_stands_in d hE hm k (by omega) hw hT (m a_c (32 + 9 * k)).toNat 0 m1 hm1 (by have := (hw.2.2.2.2.2 k (by omega) (by omega)).1; omega) hf (by simpa using ht) (by simpa using hq) (fun m2 p1 p2 p3 p4 => ?_)
    refine z_inc dX12_stands_77 rfl (by have := hw.2.2.1; omega) ?_
    refine z_goto (tgt := 7) dX12_stands_80 rfl ?_
    try dsimp only [zs0, zsI, zsP, zsN, zsJ, zsS, zst2, Nat.reduceAdd]
    rw [show (k : Int) + 1 = ((k + 1 : Nat) : Int) by omega]
    exact ih (k + 1) m2 p1 (by omega) p2 p3 p4 hP

theorem r_stands (d : Nat) {E : zE} {m : zM} (hE : shM E) (hm : ptM m)  (hw : wfC (m a_c)) (hT : cPre (m a_c) (m a_c 2).toNat ≤ 12) : zR zX12_stands (d + 2) [zP aM] m E E (fun r m' => r = none ∧ zfr fStands m m' ∧ isFlat (m a_c) (m' a_what) (m' a_pointOf) (m' aM f_letters)) := by
  refine zR_go [zP aM, zN, zN] (by decide +kernel) (Nat.le_of_ble_eq_true rfl) rfl rfl ?_
  refine z_aload_n dX12_stands_0 rfl ?_
  refine z_iconst dX12_stands_1 (by decide) ?_
  refine z_pI f_letters rfl (fpX12_124 _) dX12_stands_2 (sh_M hE) rfl ?_
  refine z_iconst dX12_stands_5 (by decide) ?_
  refine z_ist 1 dX12_stands_6 rfl (Nat.le_of_ble_eq_true rfl) ?_
  try dsimp only [zs0, zsI, zsP, zsN, zsJ, zsS, zst2, Nat.reduceAdd]
  refine l_stands d hE hm hw hT (m a_c 2).toNat 0 _ (ptM_j hm (by decide)) (by have := hw.2.2.1; omega) (zfr_uj zfr_rf (by decide)) zu_s (fun p2 k2 q1 q2 q3 => ?_) (fun m2 p1 p2 => ⟨rfl, p1, p2⟩)
  have h1 := cPre_mono hw (a := 0) (b := p2) (by omega) (by omega)
  omega

theorem r_changes (d : Nat) {E : zE} {m : zM} (hE : shM E) (hm : ptM m)  (hw : wfC (m a_c)) (hT : cPre (m a_c) (m a_c 2).toNat ≤ 12) : zR zX12_changes (d + 3) [zP aM] m E E (fun r m' => r = none ∧ zfr fChanges m m' ∧ isFlat (m a_c) (m' a_what) (m' a_pointOf) (m' aM f_letters) ∧ m' aM f_isLaid = 0 ∧ m' aM f_isNamed = 0) := by
  refine zR_go [zP aM] (by decide +kernel) (Nat.le_of_ble_eq_true rfl) rfl rfl ?_
  refine z_aload_n dX12_changes_0 rfl ?_
  refine z_iconst dX12_changes_1 (by decide) ?_
  refine z_pZ f_isLaid rfl (fpX12_130 _) dX12_changes_2 (sh_M hE) rfl (by first | omega | exact zb01 _) ?_
  refine z_aload_n dX12_changes_5 rfl ?_
  refine z_iconst dX12_changes_6 (by decide) ?_
  refine z_pZ f_isNamed rfl (fpX12_134 _) dX12_changes_7 (sh_M hE) rfl (by first | omega | exact zb01 _) ?_
  refine z_aload_n dX12_changes_10 rfl ?_
  refine z_callV mlX12_137 dX12_changes_11 (sh_M hE) (av := _) rfl rfl (Nat.le_of_ble_eq_true rfl) (r_stands _ hE (ptM_j (ptM_j hm (by decide)) (by decide)) (by rw [zu_fn (by decide), zu_fn (by decide)]; exact hw) (by rw [zu_fn (by decide), zu_fn (by decide)]; exact hT)) (Nat.le_refl _) (Nat.le_refl _) (Nat.le_refl _) (Nat.le_refl _) ?_
  rintro _ m2 ⟨rfl, p1, p2⟩
  rw [zu_fn (a := aM) (b := a_c) (by decide), zu_fn (a := aM) (b := a_c) (by decide)] at p2
  refine z_vret dX12_changes_14 rfl rfl ?_
  refine ⟨rfl, zfr_tr (zfr_uj (zfr_uj zfr_rf (by decide)) (by decide)) (zfr_sub p1 (by decide)), p2, ?_, ?_⟩
  · rw [zfr_at p1 (by decide), zu_j (by decide), zu_s]
  · rw [zfr_at p1 (by decide), zu_s]

theorem r_pointsChange (d : Nat) {E : zE} {m : zM} (hE : shM E) (hm : ptM m)  (hw : wfC (m a_c)) (hT : cPre (m a_c) (m a_c 2).toNat ≤ 12) : zR zX12_pointsChange (d + 4) [zP aM] m E E (fun r m' => r = none ∧ zfr fPoints m m' ∧ isFlat (m a_c) (m' a_what) (m' a_pointOf) (m' aM f_letters) ∧ m' aM f_isLaid = 0 ∧ m' aM f_isNamed = 0 ∧ ∀ i, 0 ≤ i → i < 800 → m' a_worths i = 1) := by
  refine zR_go [zP aM] (by decide +kernel) (Nat.le_of_ble_eq_true rfl) rfl rfl ?_
  refine z_aload_n dX12_pointsChange_0 rfl ?_
  refine z_callV mlX12_111 dX12_pointsChange_1 (sh_M hE) (av := _) rfl rfl (Nat.le_of_ble_eq_true rfl) (r_unworths _ hE hm) (Nat.le_refl _) (Nat.le_refl _) (Nat.le_refl _) (Nat.le_refl _) ?_
  rintro _ m1 ⟨rfl, w1, w2⟩
  have ec : m1 a_c = m a_c := zfr_cell w1 (by decide)
  have hm1 : ptM m1 := ptM_of hm (fun j => congrFun (zfr_cell w1 (by decide)) j)
  refine z_aload_n dX12_pointsChange_4 rfl ?_
  refine z_callV mlX12_341 dX12_pointsChange_5 (sh_M hE) (av := _) rfl rfl (Nat.le_of_ble_eq_true rfl) (r_changes _ hE hm1 (by rw [ec]; exact hw) (by rw [ec]; exact hT)) (Nat.le_refl _) (Nat.le_refl _) (Nat.le_refl _) (Nat.le_refl _) ?_
  rw [ec]
  rintro _ m2 ⟨rfl, p1, p2, p3, p4⟩
  refine z_vret dX12_pointsChange_8 rfl rfl ?_
  exact ⟨rfl, zfr_tr (zfr_sub w1 (by decide)) (zfr_sub p1 (by decide)), p2, p3, p4, fun i q1 q2 => by rw [congrFun (zfr_cell (a := a_worths) p1 (by decide)) i]; exact w2 i q1 q2⟩

theorem r_lays (d : Nat) {E : zE} {m : zM} (hE : shM E) (hm : ptM m) (hk : mOK m) (hi : m aM f_isLaid = 0 ∨ m aM f_isLaid = 1) (hL : m aM f_isLaid = 1 → mL m) : zR zX12_lays (d + 10) [zP aM] m E E (fun r m' => r = none ∧ zfr fLays m m' ∧ m' aM f_isLaid = 1 ∧ mL m' ∧ mOK m') := by
  rw [show d + 10 = 6 + (d + 3) + 1 by omega]
  have hwl := flat_wfL hk.2.1 hk.2.2.1 hk.2.2.2.1
  have hb := hwl.1
  refine zR_go [zP aM] (by decide +kernel) (Nat.le_of_ble_eq_true rfl) rfl rfl ?_
  refine z_aload_n dX12_lays_0 rfl ?_
  refine z_gI f_isLaid rfl flX12_130 dX12_lays_1 (sh_M hE) rfl ?_
  refine z_if_eq (tgt := 8) dX12_lays_4 rfl (fun h4 => ?_) (fun h4 => ?_)
  · refine z_aload_n dX12_lays_8 rfl ?_
    refine z_iconst dX12_lays_9 (by decide) ?_
    refine z_pZ f_isLaid rfl (fpX12_130 _) dX12_lays_10 (sh_M hE) rfl (by first | omega | exact zb01 _) ?_
    refine z_aload_n dX12_lays_13 rfl ?_
    refine z_iconst dX12_lays_14 (by decide) ?_
    refine z_pI f_laid rfl (fpX12_172 _) dX12_lays_15 (sh_M hE) rfl ?_
    refine z_aload_n dX12_lays_18 rfl ?_
    refine z_iconst dX12_lays_19 (by decide) ?_
    refine z_aload_n dX12_lays_20 rfl ?_
    refine z_gIv f_letters rfl flX12_124 dX12_lays_21 (sh_M hE) rfl (Eq.trans (zu_j (by decide)) (zu_j (by decide))) ?_
    refine z_ishl dX12_lays_24 ?_
    refine z_iconst dX12_lays_25 (by decide) ?_
    have hz : zshl 1 (m aM f_letters) - 1 = ((2 ^ (m aM f_letters).toNat - 1 : Nat) : Int) := by
      have h := zall (k := (m aM f_letters).toNat) (by omega)
      rw [show (((m aM f_letters).toNat : Nat) : Int) = m aM f_letters by omega] at h
      exact h
    refine z_sub dX12_lays_26 (by rw [hz]; have := Nat.pow_le_pow_right (n := 2) (by omega) (show (m aM f_letters).toNat ≤ 12 by omega); omega) ?_
    rw [hz]
    refine z_callV mlX12_190 dX12_lays_27 (sh_M hE) (av := [_]) rfl rfl (Nat.le_of_ble_eq_true rfl) (r_begins _ hE (ptM_j (ptM_j hm (by decide)) (by decide)) _) (Nat.le_refl _) (Nat.le_refl _) (Nat.le_refl _) (Nat.le_refl _) ?_
    rintro _ m1 ⟨rfl, b1, b2, b3, b4⟩
    have hm1 : ptM m1 := ptM_b (ptM_j (ptM_j hm (by decide)) (by decide)) b1
    obtain ⟨e1, e2, e3, e4, e5, e6⟩ := begun hk b1 b3 b4
    refine z_aload_n dX12_lays_30 rfl ?_
    refine z_callV mlX12_187 dX12_lays_31 (sh_M hE) (av := _) rfl rfl (Nat.le_of_ble_eq_true rfl) (r_laysAll d hE 6 m1 hm1 (by rw [e1]; exact hk.2.1) (by rw [e1, e2, e3, e4]; exact hwl) (by rw [e4, e5]; exact mt0_ok) (by rw [e4, e5, sFr_mt0 (by omega)]; omega) (by rw [e4]; exact b2) (by rw [e6]; omega) (by rw [e1, e2, e3, e4, e5, e6]; have := sLay_le (n := (m aM f_letters).toNat) (by omega) (cMay (m a_c) (m a_what) (m a_pointOf)) 6 mt0; omega)) (Nat.le_refl _) (Nat.le_refl _) (Nat.le_refl _) (Nat.le_refl _) ?_
    rw [e1, e2, e3, e4, e5]
    rintro _ m2 ⟨rfl, c1⟩
    refine z_vret dX12_lays_34 rfl rfl ?_
    exact ⟨rfl, lays_fin hk b1 b4 c1⟩
  · refine z_vret dX12_lays_7 rfl rfl ?_
    exact ⟨rfl, zfr_rf, by omega, hL (by omega), hk⟩
