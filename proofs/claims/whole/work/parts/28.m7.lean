theorem zfst_congr {p q : Int → Bool} : ∀ {j : Nat} {k : Int}, (∀ i, k ≤ i → i < k + j → p i = q i) → zfst p j k = zfst q j k
  | 0, _, _ => rfl
  | j + 1, k, h => by
    have h1 := h k (by omega) (by omega)
    have h2 := zfst_congr (p := p) (q := q) (j := j) (k := k + 1) (fun i q1 q2 => h i (by omega) (by omega))
    simp only [zfst, h1, h2]
theorem sFst_eq {mt : Int → Int} {n : Nat} (hn : n ≤ 12) : zfst (fun i => (2 ^ n - 1).testBit i.toNat && decide (mt i < 0)) n 0 = sFst mt n := by
  refine zfst_congr (fun i q1 q2 => ?_)
  rw [Nat.testBit_two_pow_sub_one, decide_eq_true (by omega), Bool.true_and]
theorem sLay_one {n : Nat} {may : Int → Int → Bool} {u : Nat} {mt : Int → Int} (h : sFst mt n < 0) : sLay n may u mt = [mt] := by
  cases u <;> simp [sLay, h]
theorem sCat_nil {α : Type} {g : Int → List α} : ∀ {s : Nat} {k : Int}, (∀ j, k ≤ j → j < k + s → g j = []) → sCat g s k = []
  | 0, _, _ => rfl
  | s + 1, k, h => by rw [sCat_s, h k (by omega) (by omega), sCat_nil (fun j q1 q2 => h j (by omega) (by omega))]; rfl
theorem zsum_pos {f : Int → Int} : ∀ {j : Nat} {k x : Int}, (∀ i, k ≤ i → i < k + j → 0 ≤ f i) → k ≤ x → x < k + j → f x ≤ zsum f j k
  | 0, k, x, _, h1, h2 => by omega
  | j + 1, k, x, h, h1, h2 => by
    rw [zsum_s]
    have h0 := h k (by omega) (by omega)
    by_cases e : x = k
    · subst e
      have : 0 ≤ zsum f j (x + 1) := by
        clear h1 h2
        have key : ∀ (j : Nat) (k : Int), (∀ i, k ≤ i → i < k + j → 0 ≤ f i) → 0 ≤ zsum f j k := by
          intro j
          induction j with
          | zero => intro k _; exact Int.le_refl _
          | succ j ih => intro k hk; rw [zsum_s]; have := hk k (by omega) (by omega); have := ih (k + 1) (fun i q1 q2 => hk i (by omega) (by omega)); omega
        exact key j (x + 1) (fun i q1 q2 => h i (by omega) (by omega))
      omega
    · have := zsum_pos (f := f) (j := j) (k := k + 1) (x := x) (fun i q1 q2 => h i (by omega) (by omega)) (by omega) (by omega)
      omega
theorem sLay_eq {n : Nat} {may : Int → Int → Bool} {u : Nat} {mt : Int → Int} (h : ¬ sFst mt n < 0) (hu : sFr mt n ≤ 2 * u + 1) : sLay n may u mt = sCat (fun x => if mt x < 0 ∧ may (sFst mt n) x = true then sLay n may (u - 1) (sUp mt (sFst mt n) x) else []) (n - 1 - (sFst mt n).toNat) (sFst mt n + 1) := by
  cases u with
  | succ u => simp only [sLay, if_neg h, Nat.add_sub_cancel]
  | zero =>
    rw [sCat_nil (fun j q1 q2 => ?_)]
    · simp only [sLay, if_neg h]
    · obtain ⟨h1, h2, -, -⟩ := sFst_lt h
      refine if_neg (fun q => ?_)
      have hs := sFr_split h
      have hp := zsum_pos (f := fun i => zb (mt i < 0)) (j := n - 1 - (sFst mt n).toNat) (k := sFst mt n + 1) (x := j) (fun i _ _ => by have := zb01 (mt i < 0); omega) q1 (by omega)
      rw [zb_t q.1] at hp
      omega
theorem mLaid_one {n : Int} {od br : Int → Bool} {m m2 : zM} (hn : n ≤ 12) (hf : zfr [(a_table, none)] m m2) (hr : ∀ x, 0 ≤ x → x < n → m2 a_table (12 * m aM f_laid + x) = m a_mate x) (ho : ∀ y, y < 12 * m aM f_laid → m2 a_table y = m a_table y) : mLaid n od br m (zu (zu (zu (zu m2 a_sign (m aM f_laid) (sSign n.toNat od br (m a_mate))) a_crossings (m aM f_laid) (sCross n.toNat (m a_mate))) a_rounds (m aM f_laid) (sRounds n.toNat (m a_mate))) aM f_laid (m aM f_laid + 1)) [m a_mate] := by
  have k1 : ∀ {x : zM} {v j : Int}, zu x aM f_laid v a_table j = x a_table j := zu_a (by decide)
  refine ⟨by rw [zu_s]; simp, fun t mt ht => ?_, fun y hy => ?_, fun y hy => ?_, ?_, ?_⟩
  · have h0 : t = 0 := by have := (List.getElem?_eq_some_iff.mp ht).1; simp at this; exact this
    subst h0
    simp only [List.getElem?_cons_zero, Option.some.injEq] at ht
    subst ht
    simp only [Int.natCast_zero, Int.add_zero]
    refine ⟨fun k q1 q2 => ?_, ?_, ?_, ?_⟩
    · rw [zu_a (by decide), zu_a (by decide), zu_a (by decide), zu_a (by decide)]; exact hr k q1 q2
    · rw [zu_a (by decide), zu_a (by decide), zu_a (by decide), zu_s]
    · rw [zu_a (by decide), zu_a (by decide), zu_s]
    · rw [zu_a (by decide), zu_s]
  · rw [zu_a (by decide), zu_a (by decide), zu_a (by decide), zu_a (by decide)]; exact ho y hy
  · refine ⟨?_, ?_, ?_⟩
    · rw [zu_a (by decide), zu_a (by decide), zu_a (by decide), zu_j (by omega)]; exact congrFun (zfr_cell hf (by decide)) y
    · rw [zu_a (by decide), zu_a (by decide), zu_j (by omega), zu_a (by decide)]; exact congrFun (zfr_cell hf (by decide)) y
    · rw [zu_a (by decide), zu_j (by omega), zu_a (by decide), zu_a (by decide)]; exact congrFun (zfr_cell hf (by decide)) y
  · rw [zu_fn (by decide), zu_fn (by decide), zu_fn (by decide), zu_fn (by decide)]; exact zfr_cell hf (by decide)
  · exact zfr_uj (zfr_ua (zfr_ua (zfr_ua (zfr_sub hf (by simp [fLaid])) (by simp [fLaid])) (by simp [fLaid])) (by simp [fLaid])) (by simp [fLaid])
theorem r_laysAll_step (d : Nat) {E : zE} {m : zM} (hE : shM E) (hm : ptM m) (hw : wfC (m a_c)) (hl : wfL (m a_c) (m a_what) (m a_pointOf) (m aM f_letters)) (u : Nat) (hmt : ∀ x, 0 ≤ x → x < m aM f_letters → (m a_mate x = -1 ∨ 0 ≤ m a_mate x) ∧ m a_mate x < m aM f_letters) (hu : sFr (m a_mate) (m aM f_letters).toNat ≤ 2 * u + 1) (ha : m aM f_among = ((2 ^ (m aM f_letters).toNat - 1 : Nat) : Int)) (hld : 0 ≤ m aM f_laid) (hcap : m aM f_laid + ((sLay (m aM f_letters).toNat (cMay (m a_c) (m a_what) (m a_pointOf)) u (m a_mate)).length : Int) ≤ 10395) (rec : 0 < u → ∀ m2, ptM m2 → zfr fLaid m m2 → (∀ x, 0 ≤ x → x < m aM f_letters → (m2 a_mate x = -1 ∨ 0 ≤ m2 a_mate x) ∧ m2 a_mate x < m aM f_letters) → sFr (m2 a_mate) (m aM f_letters).toNat + 2 = sFr (m a_mate) (m aM f_letters).toNat → 0 ≤ m2 aM f_laid → m2 aM f_laid + (sLay (m aM f_letters).toNat (cMay (m a_c) (m a_what) (m a_pointOf)) (u - 1) (m2 a_mate)).length ≤ 10395 → zR zX12_laysAll (u + (d + 2)) [zP aM] m2 E E (fun r m3 => r = none ∧ mLaid (m aM f_letters) (cOd (m a_c) (m a_what)) (cBr (m a_c) (m a_what)) m2 m3 (sLay (m aM f_letters).toNat (cMay (m a_c) (m a_what) (m a_pointOf)) (u - 1) (m2 a_mate)))) : zR zX12_laysAll (u + (d + 3)) [zP aM] m E E (fun r m' => r = none ∧ mLaid (m aM f_letters) (cOd (m a_c) (m a_what)) (cBr (m a_c) (m a_what)) m m' (sLay (m aM f_letters).toNat (cMay (m a_c) (m a_what) (m a_pointOf)) u (m a_mate))) := by
  refine zR_go [zP aM, zN, zN] (by decide +kernel) (Nat.le_of_ble_eq_true rfl) rfl rfl ?_
  have hb1 := hl.1
  refine z_aload_n dX12_laysAll_0 rfl ?_
  refine z_callV mlX12_168 dX12_laysAll_1 (sh_M hE) (av := _) rfl rfl (Nat.le_of_ble_eq_true rfl) (r_firstFree _ hE hm _ ha (by have := Nat.pow_le_pow_right (n := 2) (by omega) (show (m aM f_letters).toNat ≤ 12 by omega); have := Nat.two_pow_pos (m aM f_letters).toNat; omega) hl.1) (Nat.le_refl _) (Nat.le_refl _) (Nat.le_refl _) (Nat.le_refl _) ?_
  rw [sFst_eq (by omega)]
  rintro _ _ ⟨rfl, rfl⟩
  refine z_ist 1 dX12_laysAll_4 rfl (Nat.le_of_ble_eq_true rfl) ?_
  refine z_iload_n dX12_laysAll_5 rfl ?_
  try dsimp only [zs0, zsI, zsP, zsN, zsJ, zsS, zst2, Nat.reduceAdd]
  refine z_if_ge (tgt := 95) dX12_laysAll_6 rfl (fun h6 => ?_) (fun h6 => ?_)
  · refine z_iload_n dX12_laysAll_95 rfl ?_
    refine z_iconst dX12_laysAll_96 (by decide) ?_
    refine z_add dX12_laysAll_97 (by have := sFst_lt (mt := m a_mate) (n := (m aM f_letters).toNat) (by omega); omega) ?_
    refine z_ist 2 dX12_laysAll_98 rfl (Nat.le_of_ble_eq_true rfl) ?_
    try dsimp only [zs0, zsI, zsP, zsN, zsJ, zsS, zst2, Nat.reduceAdd]
    have hf := sFst_lt (mt := m a_mate) (n := (m aM f_letters).toNat) (by omega)
    refine l_laysAll_j d hE hw hl u hmt hu (sFst (m a_mate) (m aM f_letters).toNat) hf.1 (by omega) hf.2.2.1 hld rec ((m aM f_letters).toNat - 1 - (sFst (m a_mate) (m aM f_letters).toNat).toNat) _ m [] mLaid_nil hm (by omega) (by omega) ?_ (fun m2 h2 => ⟨rfl, ?_⟩)
    · rw [← sLay_eq (by omega) hu]
      simpa using hcap
    · rw [← sLay_eq (by omega) hu] at h2
      simpa using h2
  · refine z_iconst dX12_laysAll_9 (by decide) ?_
    refine z_ist 2 dX12_laysAll_10 rfl (Nat.le_of_ble_eq_true rfl) ?_
    try dsimp only [zs0, zsI, zsP, zsN, zsJ, zsS, zst2, Nat.reduceAdd]
    have hlay : sLay (m aM f_letters).toNat (cMay (m a_c) (m a_what) (m a_pointOf)) u (m a_mate) = [m a_mate] := sLay_one (by omega)
    rw [hlay] at hcap ⊢
    have hall : ∀ x : Int, 0 ≤ x → x < m aM f_letters → 0 ≤ m a_mate x ∧ m a_mate x < m aM f_letters := fun x q1 q2 => by
      have := sFst_no (mt := m a_mate) (n := (m aM f_letters).toNat) (by omega) x q1 (by omega)
      have := hmt x q1 q2
      omega
    have hcap2 : m aM f_laid < 10395 := by simp at hcap; omega
    refine l_laysAll_row _ hE hm (sFst (m a_mate) (m aM f_letters).toNat) hl.1 ⟨hld, hcap2⟩ (m aM f_letters).toNat 0 m hm (by omega) (by omega) zfr_rf (fun x q1 q2 => by omega) (fun _ _ => rfl) (fun m2 hm2 hf2 hr2 ho2 => ?_)
    have ec : m2 a_c = m a_c := zfr_cell hf2 (by decide)
    have ew : m2 a_what = m a_what := zfr_cell hf2 (by decide)
    have eq' : m2 a_pointOf = m a_pointOf := zfr_cell hf2 (by decide)
    have em : m2 a_mate = m a_mate := zfr_cell hf2 (by decide)
    have en : m2 aM f_letters = m aM f_letters := zfr_at hf2 (by decide)
    have el : m2 aM f_laid = m aM f_laid := zfr_at hf2 (by decide)
    refine z_aload_n dX12_laysAll_45 rfl ?_
    refine z_gP 8 rfl (r := a_sign) flX12_29 dX12_laysAll_46 (sh_M hE) rfl (pt_sign hm2) (by decide) ?_
    refine z_aload_n dX12_laysAll_49 rfl ?_
    refine z_gIv f_laid rfl flX12_172 dX12_laysAll_50 (sh_M hE) rfl el ?_
    refine z_aload_n dX12_laysAll_53 rfl ?_
    refine z_callV mlX12_175 dX12_laysAll_54 (sh_M hE) (av := _) rfl rfl (Nat.le_of_ble_eq_true rfl) (r_signNow _ hE hm2 (by rw [ec]; exact hw) (by rw [ec, ew, eq', en]; exact hl)) (Nat.le_refl _) (Nat.le_refl _) (Nat.le_refl _) (Nat.le_refl _) ?_
    rw [en, ec, ew, em]
    rintro _ _ ⟨rfl, rfl⟩
    refine z_iast dX12_laysAll_57 (sh_sign hE) (by omega) (by omega) ?_
    refine z_aload_n dX12_laysAll_58 rfl ?_
    refine z_gP 9 rfl (r := a_crossings) flX12_32 dX12_laysAll_59 (sh_M hE) rfl (pt_crossings (ptM_a hm2 (by decide))) (by decide) ?_
    refine z_aload_n dX12_laysAll_62 rfl ?_
    refine z_gIv f_laid rfl flX12_172 dX12_laysAll_63 (sh_M hE) rfl (Eq.trans (zu_a (by decide)) el) ?_
    refine z_aload_n dX12_laysAll_66 rfl ?_
    refine z_callV mlX12_178 dX12_laysAll_67 (sh_M hE) (av := _) rfl rfl (Nat.le_of_ble_eq_true rfl) (r_crossingsNow _ hE (ptM_a hm2 (by decide)) (by rw [zu_a (by decide), en]; exact hl.1)) (Nat.le_refl _) (Nat.le_refl _) (Nat.le_refl _) (Nat.le_refl _) ?_
    rw [zu_a (a := a_sign) (b := aM) (by decide), zu_fn (a := a_sign) (b := a_mate) (by decide), en, em]
    rintro _ _ ⟨rfl, rfl⟩
    refine z_iast dX12_laysAll_70 (sh_crossings hE) (by omega) (by omega) ?_
    refine z_aload_n dX12_laysAll_71 rfl ?_
    refine z_gP 10 rfl (r := a_rounds) flX12_35 dX12_laysAll_72 (sh_M hE) rfl (pt_rounds (ptM_a (ptM_a hm2 (by decide)) (by decide))) (by decide) ?_
    refine z_aload_n dX12_laysAll_75 rfl ?_
    refine z_gIv f_laid rfl flX12_172 dX12_laysAll_76 (sh_M hE) rfl (Eq.trans (zu_a (by decide)) (Eq.trans (zu_a (by decide)) el)) ?_
    refine z_aload_n dX12_laysAll_79 rfl ?_
    refine z_callV mlX12_181 dX12_laysAll_80 (sh_M hE) (av := _) rfl rfl (Nat.le_of_ble_eq_true rfl) (r_roundsNow _ hE (ptM_a (ptM_a hm2 (by decide)) (by decide)) (by rw [zu_a (by decide), zu_a (by decide), en]; exact hl.1) (by rw [zu_a (a := a_crossings) (b := aM) (by decide), zu_a (a := a_sign) (b := aM) (by decide), zu_fn (a := a_crossings) (b := a_mate) (by decide), zu_fn (a := a_sign) (b := a_mate) (by decide), en, em]; exact hall)) (Nat.le_refl _) (Nat.le_refl _) (Nat.le_refl _) (Nat.le_refl _) ?_
    rw [zu_a (a := a_crossings) (b := aM) (by decide), zu_a (a := a_sign) (b := aM) (by decide), zu_fn (a := a_crossings) (b := a_mate) (by decide), zu_fn (a := a_sign) (b := a_mate) (by decide), en, em]
    rintro _ _ ⟨rfl, rfl⟩
    refine z_iast dX12_laysAll_83 (sh_rounds hE) (by omega) (by omega) ?_
    refine z_aload_n dX12_laysAll_84 rfl ?_
    refine z_dup dX12_laysAll_85 rfl ?_
    refine z_gIv f_laid rfl flX12_172 dX12_laysAll_86 (sh_M hE) rfl (Eq.trans (zu_a (by decide)) (Eq.trans (zu_a (by decide)) (Eq.trans (zu_a (by decide)) el))) ?_
    refine z_iconst dX12_laysAll_89 (by decide) ?_
    refine z_add dX12_laysAll_90 (by omega) ?_
    refine z_pI f_laid rfl (fpX12_172 _) dX12_laysAll_91 (sh_M hE) rfl ?_
    refine z_vret dX12_laysAll_94 rfl rfl ?_
    exact ⟨rfl, mLaid_one hl.1.2 hf2 hr2 ho2⟩

theorem r_laysAll (d : Nat) {E : zE} (hE : shM E) : ∀ (u : Nat) (m : zM), ptM m → wfC (m a_c) → wfL (m a_c) (m a_what) (m a_pointOf) (m aM f_letters) → (∀ x, 0 ≤ x → x < m aM f_letters → (m a_mate x = -1 ∨ 0 ≤ m a_mate x) ∧ m a_mate x < m aM f_letters) → sFr (m a_mate) (m aM f_letters).toNat ≤ 2 * u + 1 → m aM f_among = ((2 ^ (m aM f_letters).toNat - 1 : Nat) : Int) → 0 ≤ m aM f_laid → m aM f_laid + ((sLay (m aM f_letters).toNat (cMay (m a_c) (m a_what) (m a_pointOf)) u (m a_mate)).length : Int) ≤ 10395 →
    zR zX12_laysAll (u + (d + 3)) [zP aM] m E E (fun r m' => r = none ∧ mLaid (m aM f_letters) (cOd (m a_c) (m a_what)) (cBr (m a_c) (m a_what)) m m' (sLay (m aM f_letters).toNat (cMay (m a_c) (m a_what) (m a_pointOf)) u (m a_mate))) := by
  intro u
  induction u with
  | zero =>
    intro m hm hw hl hmt hu ha hld hcap
    exact r_laysAll_step d hE hm hw hl 0 hmt hu ha hld hcap (fun h => absurd h (by omega))
  | succ u ih =>
    intro m hm hw hl hmt hu ha hld hcap
    refine r_laysAll_step d hE hm hw hl (u + 1) hmt hu ha hld hcap (fun _ m2 hm2 hf hmt2 hfr hld2 hcap2 => ?_)
    obtain ⟨e1, e2, e3, e4, e5, -⟩ := fLaid_k hf
    have h := ih m2 hm2 (by rw [e1]; exact hw) (by rw [e1, e2, e3, e4]; exact hl) (by rw [e4]; exact hmt2) (by rw [e4]; omega) (by rw [e4, e5]; exact ha) hld2 (by rw [e1, e2, e3, e4]; exact hcap2)
    rw [e1, e2, e3, e4] at h
    rw [show u + 1 + (d + 2) = u + (d + 3) by omega]
    exact h
