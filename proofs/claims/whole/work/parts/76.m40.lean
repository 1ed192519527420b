def fOut : List (Int × Option Int) := [(a_out, none), (aM, some f_outMany)]
/-- a text was added -/
def mOut (m m' : zM) (L : List Int) : Prop := m' aM f_outMany = m aM f_outMany + L.length ∧ (∀ (t : Nat) (x : Int), L[t]? = some x → m' a_out (m aM f_outMany + t) = x) ∧ (∀ y, y < m aM f_outMany → m' a_out y = m a_out y) ∧ zfr fOut m m'
theorem mOut_nil {m : zM} : mOut m m [] := ⟨by simp, fun t x h => by simp at h, fun _ _ => rfl, zfr_rf⟩
theorem mOut_one {m : zM} {v : Int} : mOut m (zu (zu m a_out (m aM f_outMany) v) aM f_outMany (m aM f_outMany + 1)) [v] := by
  refine ⟨by rw [zu_s]; rfl, fun t x h => ?_, fun y hy => ?_, zfr_uj (zfr_ua zfr_rf (by decide)) (by decide)⟩
  · have h0 : t = 0 := by have := (List.getElem?_eq_some_iff.mp h).1; simp at this; exact this
    subst h0
    simp only [List.getElem?_cons_zero, Option.some.injEq] at h
    rw [zu_a (by decide), Int.natCast_zero, Int.add_zero, zu_s]
    exact h
  · rw [zu_a (by decide), zu_j (by omega)]
theorem mOut_tr {m m1 m2 : zM} {L1 L2 : List Int} (h1 : mOut m m1 L1) (h2 : mOut m1 m2 L2) : mOut m m2 (L1 ++ L2) := by
  obtain ⟨a1, a2, a3, a4⟩ := h1
  obtain ⟨b1, b2, b3, b4⟩ := h2
  refine ⟨by rw [b1, a1, List.length_append]; omega, fun t x h => ?_, fun y hy => ?_, zfr_tr a4 b4⟩
  · rcases Nat.lt_or_ge t L1.length with q | q
    · rw [List.getElem?_append_left q] at h
      rw [b3 _ (by omega)]
      exact a2 t x h
    · rw [List.getElem?_append_right q] at h
      have := b2 _ x h
      rw [a1] at this
      rw [show m aM f_outMany + (t : Int) = m aM f_outMany + (L1.length : Int) + ((t - L1.length : Nat) : Int) by omega]
      exact this
  · rw [b3 y (by omega)]
    exact a3 y hy
theorem mOut_pt {m m1 : zM} {L : List Int} (h : ptM m) (b : mOut m m1 L) : ptM m1 := fun q hq => by
  have hq2 : ∀ q ∈ mPt, fOut.all (fun r => r.1 != aM || (r.2 != none && r.2 != some q.1)) = true := by decide
  rw [zfr_at b.2.2.2 (hq2 q hq)]
  exact h q hq
/-- the text that was told last -/
def mTxt (m : zM) (L : List Int) : Prop := m aM f_outMany = (L.length : Int) ∧ ∀ (t : Nat) (x : Int), L[t]? = some x → m a_out t = x
theorem mTxt_fr {m m' : zM} {L : List Int} (h : mTxt m L) (f : zfr fQ m m') : mTxt m' L := by
  unfold mTxt
  rw [zfr_at (j := f_outMany) f (by decide), zfr_cell (a := a_out) f (by decide)]
  exact h
theorem mTxt_new {m m' : zM} {L : List Int} (h0 : m aM f_outMany = 0) (h : mOut m m' L) : mTxt m' L := by
  obtain ⟨a1, a2, -, -⟩ := h
  refine ⟨by rw [a1, h0, Int.zero_add], fun t x ht => ?_⟩
  have := a2 t x ht
  rw [h0, Int.zero_add] at this
  exact this
def pN (v : Int) : List Int := if 9 < v then [48 + v / 10] ++ [48 + v % 10] else [48 + v % 10]
theorem pN_len (v : Int) : 1 ≤ (pN v).length ∧ (pN v).length ≤ 2 := by unfold pN; split <;> simp
/-- a line's text -/
def pLn (c : Int → Int) (co : Int) : List Int := pN (co / 100) ++ ((if co % 10 < 6 ∧ c (4 + 3 * (co % 10) + 1) = 1 then 62 else 45) :: (pN (co / 10 % 10) ++ ((if 6 ≤ co % 10 then [c (4 + 3 * c (24 + 2 * (co % 10 - 6))) + 97 - 1, c (4 + 3 * c (24 + 2 * (co % 10 - 6) + 1)) + 97 - 1] else [c (4 + 3 * (co % 10)) + 97 - 1]) ++ [59])))
theorem pLn_len (c : Int → Int) (co : Int) : (pLn c co).length ≤ 8 := by
  have h1 := pN_len (co / 100)
  have h2 := pN_len (co / 10 % 10)
  unfold pLn
  by_cases e : 6 ≤ co % 10
  · rw [if_pos e]; simp; omega
  · rw [if_neg e]; simp; omega
def pPr (mt : Int → Int) (i : Int) : List Int := if mt i < i then [] else pN i ++ (45 :: (pN (mt i) ++ [59]))
theorem pPr_len (mt : Int → Int) (i : Int) : (pPr mt i).length ≤ 6 := by
  have h1 := pN_len i
  have h2 := pN_len (mt i)
  unfold pPr
  split
  · simp
  · simp; omega
theorem sCat_le {α : Type} {g : Int → List α} {b : Nat} (h : ∀ k, (g k).length ≤ b) : ∀ {s : Nat} {k : Int}, (sCat g s k).length ≤ s * b
  | 0, _ => by simp [sCat]
  | s + 1, k => by
    have := sCat_le h (s := s) (k := k + 1)
    have := h k
    rw [sCat_s, List.length_append, Nat.add_mul]
    omega
theorem lf_get {L : List Int} {i : Int} (h : i.toNat < L.length) : L[i.toNat]? = some (lf L i) := by
  unfold lf
  rw [List.getD_eq_getElem?_getD, List.getElem?_eq_getElem h]
  rfl
def fQP : List (Int × Option Int) := (a_out, none) :: (aM, some f_outMany) :: fQ
theorem mI_out {m m' : zM} (h : mI m) (f : zfr fOut m m') (hb : 0 ≤ m' aM f_outMany ∧ m' aM f_outMany ≤ 100) : mI m' := by
  obtain ⟨h1, ⟨h2, h3⟩, ⟨h4, h5⟩, h6, h7, h8, h9, h10⟩ := h
  have e : mT m' = mT m := mT_fr f (by decide)
  refine ⟨mOK_of h1 e ?_ ?_, ⟨?_, fun hl => ?_⟩, ⟨?_, fun hl => ?_⟩, ?_, ?_, ?_, hb, ?_⟩
  · exact fun q hq => by
      have hq2 : ∀ q ∈ mPt, fOut.all (fun r => r.1 != aM || (r.2 != none && r.2 != some q.1)) = true := by decide
      rw [zfr_at f (hq2 q hq)]
      exact h1.1 q hq
  · rw [zfr_cell (a := a_mate) f (by decide)]; exact h1.2.2.2.2
  · rw [zfr_at (j := f_isLaid) f (by decide)]; exact h2
  · rw [zfr_at (j := f_isLaid) f (by decide)] at hl
    exact mL_of (h3 hl) e (zfr_at f (by decide)) (zfr_cell f (by decide)) (zfr_cell f (by decide)) (zfr_cell f (by decide)) (zfr_cell f (by decide))
  · rw [zfr_at (j := f_isNamed) f (by decide)]; exact h4
  · rw [zfr_at (j := f_isNamed) f (by decide)] at hl
    exact mN_of (h5 hl) e (zfr_at f (by decide)) (zfr_cell f (by decide)) (zfr_cell f (by decide))
  · unfold mPl; rw [zfr_cell (a := a_places) f (by decide)]; exact h6
  · rw [zfr_cell (a := a_worths) f (by decide)]; exact h7
  · rw [zfr_at (j := f_taped) f (by decide)]; exact h8
  · unfold mWd; rw [zfr_cell (a := a_words) f (by decide)]; exact h10
noncomputable def tTxt (T : zT) (dd : Int) : List Int := sCat (fun k => pLn T.1 (tCo T dd k)) (tH T) 0
noncomputable def aPrint (T : zT) (dd : Int) : Int × Int := if ¬ (0 ≤ dd ∧ dd < ((tD T).length : Int)) then (2, -1) else (0, ((tTxt T dd).length : Int))
def tTxtP (T : zT) (k : Int) : List Int := sCat (pPr (tMt T k)) T.2.2.2.toNat 0
def aPrintP (T : zT) (k : Int) : Int × Int := if ¬ (0 ≤ k ∧ k < ((tPairs T).length : Int)) then (2, -1) else (0, ((tTxtP T k).length : Int))
def aOut (L : List Int) (i : Int) : Int × Int := if i < 0 then (1, -1) else if (L.length : Int) ≤ i then (5, -1) else (0, lf L i)
theorem r_says (d : Nat) {E : zE} {m : zM} (hE : shM E) (hm : ptM m) (v : Int) (h0 : 0 ≤ m aM f_outMany) (h1 : m aM f_outMany < 100) : zR zX12_says (d) [zP aM, zI v] m E E (fun r m' => r = none ∧ mOut m m' [v]) := by
  refine zR_go [zP aM, zI v] (by decide +kernel) (Nat.le_of_ble_eq_true rfl) rfl rfl ?_
  refine z_aload_n dX12_says_0 rfl ?_
  refine z_gP 34 rfl (r := a_out) flX12_72 dX12_says_1 (sh_M hE) rfl (pt_out hm) (by decide) ?_
  refine z_aload_n dX12_says_4 rfl ?_
  refine z_gI f_outMany rfl flX12_435 dX12_says_5 (sh_M hE) rfl ?_
  refine z_iload_n dX12_says_8 rfl ?_
  refine z_iast dX12_says_9 (sh_out hE) (by omega) (by omega) ?_
  refine z_aload_n dX12_says_10 rfl ?_
  refine z_dup dX12_says_11 rfl ?_
  refine z_gIv f_outMany rfl flX12_435 dX12_says_12 (sh_M hE) rfl (zu_a (by decide)) ?_
  refine z_iconst dX12_says_15 (by decide) ?_
  refine z_add dX12_says_16 (by omega) ?_
  refine z_pI f_outMany rfl (fpX12_435 _) dX12_says_17 (sh_M hE) rfl ?_
  refine z_vret dX12_says_20 rfl rfl ?_
  exact ⟨rfl, mOut_one⟩

theorem r_saysNumber (d : Nat) {E : zE} {m : zM} (hE : shM E) (hm : ptM m) (v : Int) (hv : 0 ≤ v ∧ v ≤ 99) (h0 : 0 ≤ m aM f_outMany) (h1 : m aM f_outMany < 99) : zR zX12_saysNumber (d + 1) [zP aM, zI v] m E E (fun r m' => r = none ∧ mOut m m' (pN v)) := by
  refine zR_go [zP aM, zI v] (by decide +kernel) (Nat.le_of_ble_eq_true rfl) rfl rfl ?_
  refine z_iload_n dX12_saysNumber_0 rfl ?_
  refine z_bipush dX12_saysNumber_1 rfl (by decide) ?_
  refine z_icmp_le (tgt := 17) dX12_saysNumber_3 rfl (fun h3 => ?_) (fun h3 => ?_)
  · refine z_aload_n dX12_saysNumber_17 rfl ?_
    refine z_bipush dX12_saysNumber_18 rfl (by decide) ?_
    refine z_iload_n dX12_saysNumber_20 rfl ?_
    refine z_bipush dX12_saysNumber_21 rfl (by decide) ?_
    refine z_rem dX12_saysNumber_23 (by omega) (by omega) ?_
    refine z_add dX12_saysNumber_24 (by omega) ?_
    refine z_callV mlX12_438 dX12_saysNumber_25 (sh_M hE) (av := [_]) rfl rfl (Nat.le_of_ble_eq_true rfl) (r_says _ hE hm _ (by omega) (by omega)) (Nat.le_refl _) (Nat.le_refl _) (Nat.le_refl _) (Nat.le_refl _) ?_
    rintro _ m2 ⟨rfl, o2⟩
    refine z_vret dX12_saysNumber_28 rfl rfl ?_
    refine ⟨rfl, ?_⟩
    unfold pN
    rw [if_neg (by omega)]
    exact o2
  · refine z_aload_n dX12_saysNumber_6 rfl ?_
    refine z_bipush dX12_saysNumber_7 rfl (by decide) ?_
    refine z_iload_n dX12_saysNumber_9 rfl ?_
    refine z_bipush dX12_saysNumber_10 rfl (by decide) ?_
    refine z_div dX12_saysNumber_12 (by omega) (by omega) ?_
    refine z_add dX12_saysNumber_13 (by omega) ?_
    refine z_callV mlX12_438 dX12_saysNumber_14 (sh_M hE) (av := [_]) rfl rfl (Nat.le_of_ble_eq_true rfl) (r_says _ hE hm _ h0 (by omega)) (Nat.le_refl _) (Nat.le_refl _) (Nat.le_refl _) (Nat.le_refl _) ?_
    rintro _ m1 ⟨rfl, o1⟩
    have hm1 := mOut_pt hm o1
    have n1 : m1 aM f_outMany = m aM f_outMany + 1 := o1.1
    refine z_aload_n dX12_saysNumber_17 rfl ?_
    refine z_bipush dX12_saysNumber_18 rfl (by decide) ?_
    refine z_iload_n dX12_saysNumber_20 rfl ?_
    refine z_bipush dX12_saysNumber_21 rfl (by decide) ?_
    refine z_rem dX12_saysNumber_23 (by omega) (by omega) ?_
    refine z_add dX12_saysNumber_24 (by omega) ?_
    refine z_callV mlX12_438 dX12_saysNumber_25 (sh_M hE) (av := [_]) rfl rfl (Nat.le_of_ble_eq_true rfl) (r_says _ hE hm1 _ (by omega) (by omega)) (Nat.le_refl _) (Nat.le_refl _) (Nat.le_refl _) (Nat.le_refl _) ?_
    rintro _ m2 ⟨rfl, o2⟩
    refine z_vret dX12_saysNumber_28 rfl rfl ?_
    refine ⟨rfl, ?_⟩
    unfold pN
    rw [if_pos (by omega)]
    exact mOut_tr o1 o2

theorem r_saysField (d : Nat) {E : zE} {m : zM} (hE : shM E) (hm : ptM m) (f : Int) (hf : 0 ≤ f ∧ f < 6) (hv : 0 ≤ m a_c (4 + 3 * f) ∧ m a_c (4 + 3 * f) ≤ 1000) (h0 : 0 ≤ m aM f_outMany) (h1 : m aM f_outMany < 100) : zR zX12_saysField (d + 1) [zP aM, zI f] m E E (fun r m' => r = none ∧ mOut m m' [m a_c (4 + 3 * f) + 97 - 1]) := by
  refine zR_go [zP aM, zI f] (by decide +kernel) (Nat.le_of_ble_eq_true rfl) rfl rfl ?_
  refine z_aload_n dX12_saysField_0 rfl ?_
  refine z_aload_n dX12_saysField_1 rfl ?_
  refine z_gP 0 rfl (r := a_c) flX12_7 dX12_saysField_2 (sh_M hE) rfl (pt_c hm) (by decide) ?_
  refine z_iconst dX12_saysField_5 (by decide) ?_
  refine z_iconst dX12_saysField_6 (by decide) ?_
  refine z_iload_n dX12_saysField_7 rfl ?_
  refine z_mul dX12_saysField_8 (by omega) ?_
  refine z_add dX12_saysField_9 (by omega) ?_
  refine z_iald dX12_saysField_10 (sh_c hE) (by omega) (by omega) ?_
  refine z_bipush dX12_saysField_11 rfl (by decide) ?_
  refine z_add dX12_saysField_13 (by omega) ?_
  refine z_iconst dX12_saysField_14 (by decide) ?_
  refine z_sub dX12_saysField_15 (by omega) ?_
  refine z_callV mlX12_438 dX12_saysField_16 (sh_M hE) (av := [_]) rfl rfl (Nat.le_of_ble_eq_true rfl) (r_says _ hE hm _ h0 h1) (Nat.le_refl _) (Nat.le_refl _) (Nat.le_refl _) (Nat.le_refl _) ?_
  rintro _ m2 ⟨rfl, o2⟩
  refine z_vret dX12_saysField_19 rfl rfl ?_
  exact ⟨rfl, o2⟩

theorem l_print (d : Nat) {E : zE} {m : zM} {P : Option zV → zM → Prop} (hE : shM E) (hm : ptM m) (co : Int → Int) (h : Nat) (ho : mOp m co h) (hw : wfC (m a_c)) (dd : Int)  : ∀ (j : Nat) (k : Int) (m1 : zM), (ptM m1) → (zfr fOut m m1) → (0 ≤ k) → (k + j = (h : Int)) → (0 ≤ m1 aM f_outMany ∧ m1 aM f_outMany ≤ 8 * k) → (∀ m2, mOut m1 m2 (sCat (fun k => pLn (m a_c) (co k)) j k) → P (some (zI (m2 aM f_outMany))) m2) → zA zX12_print (d + 2) E E P 34 [zP aM, zI dd, zI k, zN, zN] [] m1 E := by
  intro j
  induction j with
  | zero =>
    intro k m1 hm1 z1 h0 hk hn hP
    have o1' := ho.1
    have o2' := ho.2.1
    have a1 : mOut m1 m1 [] := mOut_nil
    have ln1 : m1 aM f_lines = (h : Int) := (zfr_at z1 (by decide)).trans ho.1
    refine z_iload_n dX12_print_34 rfl ?_
    refine z_aload_n dX12_print_35 rfl ?_
    refine z_gIv f_lines rfl flX12_197 dX12_print_36 (sh_M hE) rfl ln1 ?_
    refine z_icmp_ge (tgt := 171) dX12_print_39 rfl (fun h39 => ?_) (fun h => absurd (by omega) h)
    refine z_aload_n dX12_print_171 rfl ?_
    refine z_gI f_outMany rfl flX12_435 dX12_print_172 (sh_M hE) rfl ?_
    refine z_iret dX12_print_175 rfl rfl ?_
    exact hP m1 mOut_nil
  | succ j ih =>
    intro k m1 hm1 z1 h0 hk hn hP
    have o1' := ho.1
    have o2' := ho.2.1
    have a1 : mOut m1 m1 [] := mOut_nil
    have ln1 : m1 aM f_lines = (h : Int) := (zfr_at z1 (by decide)).trans ho.1
    have hco := ho.2.2.1 k h0 (by omega)
    have hcr := cCodeOk_rg hw (ho.2.2.2 k h0 (by omega))
    have hci := cCodeOk_iff.mp (ho.2.2.2 k h0 (by omega))
    have hb3 := hw.2.2.1
    have hb1 := hw.1
    have hb2 := hw.2.1
    have hcm : ∀ x : zM, zfr fOut m x → x a_codes k = co k := fun x hx => (congrFun (zfr_cell hx (by decide)) k).trans hco
    have hcc : ∀ x : zM, zfr fOut m x → x a_c = m a_c := fun x hx => zfr_cell hx (by decide)
    refine z_iload_n dX12_print_34 rfl ?_
    refine z_aload_n dX12_print_35 rfl ?_
    refine z_gIv f_lines rfl flX12_197 dX12_print_36 (sh_M hE) rfl ln1 ?_
    refine z_icmp_ge (tgt := 171) dX12_print_39 rfl (fun h => absurd h (by omega)) (fun h39 => ?_)
    refine z_aload_n dX12_print_42 rfl ?_
    refine z_gP 18 rfl (r := a_codes) flX12_44 dX12_print_43 (sh_M hE) rfl (pt_codes hm1) (by decide) ?_
    refine z_iload_n dX12_print_46 rfl ?_
    refine z_ialv dX12_print_47 (sh_codes hE) (by omega) (by omega) (hcm m1 z1) ?_
    refine z_bipush dX12_print_48 rfl (by decide) ?_
    refine z_rem dX12_print_50 (by omega) (by omega) ?_
    refine z_ist 3 dX12_print_51 rfl (Nat.le_of_ble_eq_true rfl) ?_
    refine z_iload_n dX12_print_52 rfl ?_
    refine z_bipush dX12_print_53 rfl (by decide) ?_
    try dsimp only [zs0, zsI, zsP, zsN, zsJ, zsS, zst2, Nat.reduceAdd]
    refine z_icmp_lt (tgt := 62) dX12_print_55 rfl (fun h55 => ?_) (fun h55 => ?_)
    · have hfv := (hw.2.2.2.1 (co k % 10) (by omega) (by rw [if_neg (by omega)] at hci; omega)).1
      rw [if_neg (by omega)] at hci
      refine z_iconst dX12_print_62 (by decide) ?_
      refine z_istore dX12_print_63 (Nat.le_of_ble_eq_true rfl) ?_
      refine z_aload_n dX12_print_65 rfl ?_
      refine z_aload_n dX12_print_66 rfl ?_
      refine z_iload_n dX12_print_67 rfl ?_
      try dsimp only [zs0, zsI, zsP, zsN, zsJ, zsS, zst2, Nat.reduceAdd]
      refine z_callV mlX12_276 dX12_print_68 (sh_M hE) (av := [_]) rfl rfl (Nat.le_of_ble_eq_true rfl) (r_fromOf _ hE hm1 k h0 (by omega) (by rw [hcm m1 z1]; omega)) (Nat.le_refl _) (Nat.le_refl _) (Nat.le_refl _) (Nat.le_refl _) ?_
      rw [hcm m1 z1]
      rintro _ _ ⟨rfl, rfl⟩
      refine z_callV mlX12_441 dX12_print_71 (sh_M hE) (av := [_]) rfl rfl (Nat.le_of_ble_eq_true rfl) (r_saysNumber _ hE hm1 (co k / 100) (by omega) (by omega) (by omega)) (Nat.le_refl _) (Nat.le_refl _) (Nat.le_refl _) (Nat.le_refl _) ?_
      rintro _ m2 ⟨rfl, o2⟩
      have hm2 := mOut_pt hm1 o2
      have z2 : zfr fOut m m2 := zfr_tr z1 o2.2.2.2
      have n2 := o2.1
      have l2 := pN_len (co k / 100)
      have a2 := mOut_tr a1 o2
      refine z_aload_n dX12_print_74 rfl ?_
      refine z_iload dX12_print_75 rfl ?_
      refine z_if_ne (tgt := 93) dX12_print_77 rfl (fun h => absurd h (by decide)) (fun h77 => ?_)
      refine z_aload_n dX12_print_80 rfl ?_
      refine z_iload_n dX12_print_81 rfl ?_
      refine z_callV mlX12_148 dX12_print_82 (sh_M hE) (av := [_]) rfl rfl (Nat.le_of_ble_eq_true rfl) (r_isPair _ hE hm2 (co k % 10) (by omega) (by omega)) (Nat.le_refl _) (Nat.le_refl _) (Nat.le_refl _) (Nat.le_refl _) ?_
      rw [hcc m2 z2]
      rintro _ _ ⟨rfl, rfl⟩
      refine z_ifz_eq (tgt := 93) dX12_print_85 rfl (fun h85 => ?_) (fun h85 => ?_)
      · refine z_bipush dX12_print_93 rfl (by decide) ?_
        refine z_callV mlX12_438 dX12_print_95 (sh_M hE) (av := [_]) rfl rfl (Nat.le_of_ble_eq_true rfl) (r_says _ hE hm2 _ (by omega) (by omega)) (Nat.le_refl _) (Nat.le_refl _) (Nat.le_refl _) (Nat.le_refl _) ?_
        rintro _ m3 ⟨rfl, o3⟩
        have hm3 := mOut_pt hm2 o3
        have z3 : zfr fOut m m3 := zfr_tr z2 o3.2.2.2
        have n3 := o3.1
        simp only [List.length_cons, List.length_nil] at n3
        have a3 := mOut_tr a2 o3
        refine z_aload_n dX12_print_98 rfl ?_
        refine z_aload_n dX12_print_99 rfl ?_
        refine z_iload_n dX12_print_100 rfl ?_
        refine z_callV mlX12_279 dX12_print_101 (sh_M hE) (av := [_]) rfl rfl (Nat.le_of_ble_eq_true rfl) (r_toOf _ hE hm3 k h0 (by omega) (by rw [hcm m3 z3]; omega)) (Nat.le_refl _) (Nat.le_refl _) (Nat.le_refl _) (Nat.le_refl _) ?_
        rw [hcm m3 z3]
        rintro _ _ ⟨rfl, rfl⟩
        refine z_callV mlX12_441 dX12_print_104 (sh_M hE) (av := [_]) rfl rfl (Nat.le_of_ble_eq_true rfl) (r_saysNumber _ hE hm3 (co k / 10 % 10) (by omega) (by omega) (by omega)) (Nat.le_refl _) (Nat.le_refl _) (Nat.le_refl _) (Nat.le_refl _) ?_
        rintro _ m4 ⟨rfl, o4⟩
        have hm4 := mOut_pt hm3 o4
        have z4 : zfr fOut m m4 := zfr_tr z3 o4.2.2.2
        have n4 := o4.1
        have l4 := pN_len (co k / 10 % 10)
        have a4 := mOut_tr a3 o4
        refine z_aload_n dX12_print_107 rfl ?_
        refine z_iload dX12_print_108 rfl ?_
        refine z_if_eq (tgt := 130) dX12_print_110 rfl (fun h110 => ?_) (fun h => absurd (by decide) h)
        refine z_iload_n dX12_print_130 rfl ?_
        refine z_callV mlX12_444 dX12_print_131 (sh_M hE) (av := [_]) rfl rfl (Nat.le_of_ble_eq_true rfl) (by have h := r_saysField d hE hm4 (co k % 10) (by omega) (by rw [hcc m4 z4]; exact ⟨by omega, by omega⟩) (by omega) (by omega); rw [hcc m4 z4] at h; exact h) (Nat.le_refl _) (Nat.le_refl _) (Nat.le_refl _) (Nat.le_refl _) ?_
        rintro _ m5 ⟨rfl, o5⟩
        have hm5 := mOut_pt hm4 o5
        have z5 : zfr fOut m m5 := zfr_tr z4 o5.2.2.2
        have n5 := o5.1
        simp only [List.length_cons, List.length_nil] at n5
        have a5 := mOut_tr a4 o5
        refine z_iload dX12_print_134 rfl ?_
        refine z_if_eq (tgt := 159) dX12_print_136 rfl (fun h136 => ?_) (fun h => absurd (by decide) h)
        refine z_aload_n dX12_print_159 rfl ?_
        refine z_bipush dX12_print_160 rfl (by decide) ?_
        refine z_callV mlX12_438 dX12_print_162 (sh_M hE) (av := [_]) rfl rfl (Nat.le_of_ble_eq_true rfl) (r_says _ hE hm5 _ (by omega) (by omega)) (Nat.le_refl _) (Nat.le_refl _) (Nat.le_refl _) (Nat.le_refl _) ?_
        rintro _ m6 ⟨rfl, o6⟩
        have hm6 := mOut_pt hm5 o6
        have z6 : zfr fOut m m6 := zfr_tr z5 o6.2.2.2
        have n6 := o6.1
        simp only [List.length_cons, List.length_nil] at n6
        have a6 := mOut_tr a5 o6
        refine z_inc dX12_print_165 rfl (by omega) ?_
        refine z_goto (tgt := 34) dX12_print_168 rfl ?_
        try dsimp only [zs0, zsI, zsP, zsN, zsJ, zsS, zst2, Nat.reduceAdd]
        have eL : mOut m1 m6 (pLn (m a_c) (co k)) := by
          have e := a6
          unfold pLn
          rw [if_neg (fun h => absurd h.2 (by assumption)), if_neg (by omega)]
          simpa using e
        have hlen := pLn_len (m a_c) (co k)
        have eo := eL.1
        refine zA_wk [_, _, _, zN, zN] (by exact ⟨Or.inr rfl, Or.inr rfl, Or.inr rfl, Or.inl rfl, Or.inl rfl, trivial⟩) ?_
        exact ih (k + 1) m6 hm6 z6 (by omega) (by omega) (by omega) (fun m9 h9 => hP m9 (by rw [sCat_s]; exact mOut_tr eL h9))
      · refine z_bipush dX12_print_88 rfl (by decide) ?_
        refine z_goto (tgt := 95) dX12_print_90 rfl ?_
        refine z_callV mlX12_438 dX12_print_95 (sh_M hE) (av := [_]) rfl rfl (Nat.le_of_ble_eq_true rfl) (r_says _ hE hm2 _ (by omega) (by omega)) (Nat.le_refl _) (Nat.le_refl _) (Nat.le_refl _) (Nat.le_refl _) ?_
        rintro _ m3 ⟨rfl, o3⟩
        have hm3 := mOut_pt hm2 o3
        have z3 : zfr fOut m m3 := zfr_tr z2 o3.2.2.2
        have n3 := o3.1
        simp only [List.length_cons, List.length_nil] at n3
        have a3 := mOut_tr a2 o3
        refine z_aload_n dX12_print_98 rfl ?_
        refine z_aload_n dX12_print_99 rfl ?_
        refine z_iload_n dX12_print_100 rfl ?_
        refine z_callV mlX12_279 dX12_print_101 (sh_M hE) (av := [_]) rfl rfl (Nat.le_of_ble_eq_true rfl) (r_toOf _ hE hm3 k h0 (by omega) (by rw [hcm m3 z3]; omega)) (Nat.le_refl _) (Nat.le_refl _) (Nat.le_refl _) (Nat.le_refl _) ?_
        rw [hcm m3 z3]
        rintro _ _ ⟨rfl, rfl⟩
        refine z_callV mlX12_441 dX12_print_104 (sh_M hE) (av := [_]) rfl rfl (Nat.le_of_ble_eq_true rfl) (r_saysNumber _ hE hm3 (co k / 10 % 10) (by omega) (by omega) (by omega)) (Nat.le_refl _) (Nat.le_refl _) (Nat.le_refl _) (Nat.le_refl _) ?_
        rintro _ m4 ⟨rfl, o4⟩
        have hm4 := mOut_pt hm3 o4
        have z4 : zfr fOut m m4 := zfr_tr z3 o4.2.2.2
        have n4 := o4.1
        have l4 := pN_len (co k / 10 % 10)
        have a4 := mOut_tr a3 o4
        refine z_aload_n dX12_print_107 rfl ?_
        refine z_iload dX12_print_108 rfl ?_
        refine z_if_eq (tgt := 130) dX12_print_110 rfl (fun h110 => ?_) (fun h => absurd (by decide) h)
        refine z_iload_n dX12_print_130 rfl ?_
        refine z_callV mlX12_444 dX12_print_131 (sh_M hE) (av := [_]) rfl rfl (Nat.le_of_ble_eq_true rfl) (by have h := r_saysField d hE hm4 (co k % 10) (by omega) (by rw [hcc m4 z4]; exact ⟨by omega, by omega⟩) (by omega) (by omega); rw [hcc m4 z4] at h; exact h) (Nat.le_refl _) (Nat.le_refl _) (Nat.le_refl _) (Nat.le_refl _) ?_
        rintro _ m5 ⟨rfl, o5⟩
        have hm5 := mOut_pt hm4 o5
        have z5 : zfr fOut m m5 := zfr_tr z4 o5.2.2.2
        have n5 := o5.1
        simp only [List.length_cons, List.length_nil] at n5
        have a5 := mOut_tr a4 o5
        refine z_iload dX12_print_134 rfl ?_
        refine z_if_eq (tgt := 159) dX12_print_136 rfl (fun h136 => ?_) (fun h => absurd (by decide) h)
        refine z_aload_n dX12_print_159 rfl ?_
        refine z_bipush dX12_print_160 rfl (by decide) ?_
        refine z_callV mlX12_438 dX12_print_162 (sh_M hE) (av := [_]) rfl rfl (Nat.le_of_ble_eq_true rfl) (r_says _ hE hm5 _ (by omega) (by omega)) (Nat.le_refl _) (Nat.le_refl _) (Nat.le_refl _) (Nat.le_refl _) ?_
        rintro _ m6 ⟨rfl, o6⟩
        have hm6 := mOut_pt hm5 o6
        have z6 : zfr fOut m m6 := zfr_tr z5 o6.2.2.2
        have n6 := o6.1
        simp only [List.length_cons, List.length_nil] at n6
        have a6 := mOut_tr a5 o6
        refine z_inc dX12_print_165 rfl (by omega) ?_
        refine z_goto (tgt := 34) dX12_print_168 rfl ?_
        try dsimp only [zs0, zsI, zsP, zsN, zsJ, zsS, zst2, Nat.reduceAdd]
        have eL : mOut m1 m6 (pLn (m a_c) (co k)) := by
          have e := a6
          unfold pLn
          rw [if_pos ⟨by omega, by assumption⟩, if_neg (by omega)]
          simpa using e
        have hlen := pLn_len (m a_c) (co k)
        have eo := eL.1
        refine zA_wk [_, _, _, zN, zN] (by exact ⟨Or.inr rfl, Or.inr rfl, Or.inr rfl, Or.inl rfl, Or.inl rfl, trivial⟩) ?_
        exact ih (k + 1) m6 hm6 z6 (by omega) (by omega) (by omega) (fun m9 h9 => hP m9 (by rw [sCat_s]; exact mOut_tr eL h9))
    · rw [if_pos (by omega)] at hci
      have hx := hw.2.2.2.2.1 (co k % 10 - 6) (by omega) (by omega)
      have hx1 := (hw.2.2.2.1 _ hx.1.1 hx.1.2).1
      have hx2 := (hw.2.2.2.1 _ hx.2.1 hx.2.2).1
      refine z_iconst dX12_print_58 (by decide) ?_
      refine z_goto (tgt := 63) dX12_print_59 rfl ?_
      refine z_istore dX12_print_63 (Nat.le_of_ble_eq_true rfl) ?_
      refine z_aload_n dX12_print_65 rfl ?_
      refine z_aload_n dX12_print_66 rfl ?_
      refine z_iload_n dX12_print_67 rfl ?_
      try dsimp only [zs0, zsI, zsP, zsN, zsJ, zsS, zst2, Nat.reduceAdd]
      refine z_callV mlX12_276 dX12_print_68 (sh_M hE) (av := [_]) rfl rfl (Nat.le_of_ble_eq_true rfl) (r_fromOf _ hE hm1 k h0 (by omega) (by rw [hcm m1 z1]; omega)) (Nat.le_refl _) (Nat.le_refl _) (Nat.le_refl _) (Nat.le_refl _) ?_
      rw [hcm m1 z1]
      rintro _ _ ⟨rfl, rfl⟩
      refine z_callV mlX12_441 dX12_print_71 (sh_M hE) (av := [_]) rfl rfl (Nat.le_of_ble_eq_true rfl) (r_saysNumber _ hE hm1 (co k / 100) (by omega) (by omega) (by omega)) (Nat.le_refl _) (Nat.le_refl _) (Nat.le_refl _) (Nat.le_refl _) ?_
      rintro _ m2 ⟨rfl, o2⟩
      have hm2 := mOut_pt hm1 o2
      have z2 : zfr fOut m m2 := zfr_tr z1 o2.2.2.2
      have n2 := o2.1
      have l2 := pN_len (co k / 100)
      have a2 := mOut_tr a1 o2
      refine z_aload_n dX12_print_74 rfl ?_
      refine z_iload dX12_print_75 rfl ?_
      refine z_if_ne (tgt := 93) dX12_print_77 rfl (fun h77 => ?_) (fun h => absurd (by decide) h)
      refine z_bipush dX12_print_93 rfl (by decide) ?_
      refine z_callV mlX12_438 dX12_print_95 (sh_M hE) (av := [_]) rfl rfl (Nat.le_of_ble_eq_true rfl) (r_says _ hE hm2 _ (by omega) (by omega)) (Nat.le_refl _) (Nat.le_refl _) (Nat.le_refl _) (Nat.le_refl _) ?_
      rintro _ m3 ⟨rfl, o3⟩
      have hm3 := mOut_pt hm2 o3
      have z3 : zfr fOut m m3 := zfr_tr z2 o3.2.2.2
      have n3 := o3.1
      simp only [List.length_cons, List.length_nil] at n3
      have a3 := mOut_tr a2 o3
      refine z_aload_n dX12_print_98 rfl ?_
      refine z_aload_n dX12_print_99 rfl ?_
      refine z_iload_n dX12_print_100 rfl ?_
      refine z_callV mlX12_279 dX12_print_101 (sh_M hE) (av := [_]) rfl rfl (Nat.le_of_ble_eq_true rfl) (r_toOf _ hE hm3 k h0 (by omega) (by rw [hcm m3 z3]; omega)) (Nat.le_refl _) (Nat.le_refl _) (Nat.le_refl _) (Nat.le_refl _) ?_
      rw [hcm m3 z3]
      rintro _ _ ⟨rfl, rfl⟩
      refine z_callV mlX12_441 dX12_print_104 (sh_M hE) (av := [_]) rfl rfl (Nat.le_of_ble_eq_true rfl) (r_saysNumber _ hE hm3 (co k / 10 % 10) (by omega) (by omega) (by omega)) (Nat.le_refl _) (Nat.le_refl _) (Nat.le_refl _) (Nat.le_refl _) ?_
      rintro _ m4 ⟨rfl, o4⟩
      have hm4 := mOut_pt hm3 o4
      have z4 : zfr fOut m m4 := zfr_tr z3 o4.2.2.2
      have n4 := o4.1
      have l4 := pN_len (co k / 10 % 10)
      have a4 := mOut_tr a3 o4
      refine z_aload_n dX12_print_107 rfl ?_
      refine z_iload dX12_print_108 rfl ?_
      refine z_if_eq (tgt := 130) dX12_print_110 rfl (fun h => absurd h (by decide)) (fun h110 => ?_)
      refine z_aload_n dX12_print_113 rfl ?_
      refine z_gP 0 rfl (r := a_c) flX12_7 dX12_print_114 (sh_M hE) rfl (pt_c hm4) (by decide) ?_
      refine z_bipush dX12_print_117 rfl (by decide) ?_
      refine z_iconst dX12_print_119 (by decide) ?_
      refine z_iload_n dX12_print_120 rfl ?_
      refine z_bipush dX12_print_121 rfl (by decide) ?_
      refine z_sub dX12_print_123 (by omega) ?_
      refine z_mul dX12_print_124 (by omega) ?_
      refine z_add dX12_print_125 (by omega) ?_
      refine z_ialv dX12_print_126 (sh_c hE) (by omega) (by omega) (congrFun (hcc m4 z4) _) ?_
      refine z_goto (tgt := 131) dX12_print_127 rfl ?_
      refine z_callV mlX12_444 dX12_print_131 (sh_M hE) (av := [_]) rfl rfl (Nat.le_of_ble_eq_true rfl) (by have h := r_saysField d hE hm4 (m a_c (24 + 2 * (co k % 10 - 6))) ⟨hx.1.1, by omega⟩ (by rw [hcc m4 z4]; exact ⟨by omega, by omega⟩) (by omega) (by omega); rw [hcc m4 z4] at h; exact h) (Nat.le_refl _) (Nat.le_refl _) (Nat.le_refl _) (Nat.le_refl _) ?_
      rintro _ m5 ⟨rfl, o5⟩
      have hm5 := mOut_pt hm4 o5
      have z5 : zfr fOut m m5 := zfr_tr z4 o5.2.2.2
      have n5 := o5.1
      simp only [List.length_cons, List.length_nil] at n5
      have a5 := mOut_tr a4 o5
      refine z_iload dX12_print_134 rfl ?_
      refine z_if_eq (tgt := 159) dX12_print_136 rfl (fun h => absurd h (by decide)) (fun h136 => ?_)
      refine z_aload_n dX12_print_139 rfl ?_
      refine z_aload_n dX12_print_140 rfl ?_
      refine z_gP 0 rfl (r := a_c) flX12_7 dX12_print_141 (sh_M hE) rfl (pt_c hm5) (by decide) ?_
      refine z_bipush dX12_print_144 rfl (by decide) ?_
      refine z_iconst dX12_print_146 (by decide) ?_
      refine z_iload_n dX12_print_147 rfl ?_
      refine z_bipush dX12_print_148 rfl (by decide) ?_
      refine z_sub dX12_print_150 (by omega) ?_
      refine z_mul dX12_print_151 (by omega) ?_
      refine z_add dX12_print_152 (by omega) ?_
      refine z_iconst dX12_print_153 (by decide) ?_
      refine z_add dX12_print_154 (by omega) ?_
      refine z_ialv dX12_print_155 (sh_c hE) (by omega) (by omega) (congrFun (hcc m5 z5) _) ?_
      refine z_callV mlX12_444 dX12_print_156 (sh_M hE) (av := [_]) rfl rfl (Nat.le_of_ble_eq_true rfl) (by have h := r_saysField d hE hm5 (m a_c (24 + 2 * (co k % 10 - 6) + 1)) ⟨hx.2.1, by omega⟩ (by rw [hcc m5 z5]; exact ⟨by omega, by omega⟩) (by omega) (by omega); rw [hcc m5 z5] at h; exact h) (Nat.le_refl _) (Nat.le_refl _) (Nat.le_refl _) (Nat.le_refl _) ?_
      rintro _ m6 ⟨rfl, o6⟩
      have hm6 := mOut_pt hm5 o6
      have z6 : zfr fOut m m6 := zfr_tr z5 o6.2.2.2
      have n6 := o6.1
      simp only [List.length_cons, List.length_nil] at n6
      have a6 := mOut_tr a5 o6
      refine z_aload_n dX12_print_159 rfl ?_
      refine z_bipush dX12_print_160 rfl (by decide) ?_
      refine z_callV mlX12_438 dX12_print_162 (sh_M hE) (av := [_]) rfl rfl (Nat.le_of_ble_eq_true rfl) (r_says _ hE hm6 _ (by omega) (by omega)) (Nat.le_refl _) (Nat.le_refl _) (Nat.le_refl _) (Nat.le_refl _) ?_
      rintro _ m7 ⟨rfl, o7⟩
      have hm7 := mOut_pt hm6 o7
      have z7 : zfr fOut m m7 := zfr_tr z6 o7.2.2.2
      have n7 := o7.1
      simp only [List.length_cons, List.length_nil] at n7
      have a7 := mOut_tr a6 o7
      refine z_inc dX12_print_165 rfl (by omega) ?_
      refine z_goto (tgt := 34) dX12_print_168 rfl ?_
      try dsimp only [zs0, zsI, zsP, zsN, zsJ, zsS, zst2, Nat.reduceAdd]
      have eL : mOut m1 m7 (pLn (m a_c) (co k)) := by
        have e := a7
        unfold pLn
        rw [if_neg (fun h => absurd h.1 (by omega)), if_pos (by omega)]
        simpa using e
      have hlen := pLn_len (m a_c) (co k)
      have eo := eL.1
      refine zA_wk [_, _, _, zN, zN] (by exact ⟨Or.inr rfl, Or.inr rfl, Or.inr rfl, Or.inl rfl, Or.inl rfl, trivial⟩) ?_
      exact ih (k + 1) m7 hm7 z7 (by omega) (by omega) (by omega) (fun m9 h9 => hP m9 (by rw [sCat_s]; exact mOut_tr eL h9))

theorem q_print (d : Nat) {E : zE} {m : zM} (hE : shM E) (hI : mI m) (dd : Int) {L : List Int} (hT : mTxt m L) : zR zX12_print (d + 15) [zP aM, zI dd] m E E (fun r m' => r = some (zI (aPrint (mT m) dd).2) ∧ mI m' ∧ zfr fQP m m' ∧ m' aM f_status = (aPrint (mT m) dd).1 ∧ mTxt m' (if (aPrint (mT m) dd).1 = 0 then tTxt (mT m) dd else L)) := by
  have hm := hI.1.1
  obtain ⟨hw, hl, hn⟩ := mI_wl hI
  have hq0 := mQ_rf hI
  have eT0 : mT m = mT m := rfl
  have t4 : (mT m).2.2.2 = m aM f_letters := rfl
  have t0 : (mT m).1 0 = m a_c 0 := rfl
  have t1 : (mT m).1 1 = m a_c 1 := rfl
  have t2 : (mT m).1 2 = m a_c 2 := rfl
  have b1 := hw.1
  have b2 := hw.2.1
  have b3 := hw.2.2.1
  refine zR_go [zP aM, zI dd, zN, zN, zN] (by decide +kernel) (Nat.le_of_ble_eq_true rfl) rfl rfl ?_
  refine z_aload_n dX12_print_0 rfl ?_
  refine z_aload_n dX12_print_1 rfl ?_
  refine z_iload_n dX12_print_2 rfl ?_
  refine z_callV mlX12_420 dX12_print_3 (sh_M hE) (av := [_]) rfl rfl (Nat.le_of_ble_eq_true rfl) (q_isDiagram _ hE hI dd) (Nat.le_refl _) (Nat.le_refl _) (Nat.le_refl _) (Nat.le_refl _) ?_
  rintro _ m1 ⟨rfl, g1, f1, hL1, hN1⟩
  have hq1 := mQ_names hq0 g1 f1
  have hI1 := hq1.1
  have hm1 := hI1.1.1
  have eT1 := mQ_T hq1
  have ec1 : m1 a_c = m a_c := congrArg (fun q => q.1) eT1
  have ec21 : m1 a_c 2 = m a_c 2 := congrFun ec1 2
  have ew1 : m1 a_what = m a_what := congrArg (fun q => q.2.1) eT1
  have ep1 : m1 a_pointOf = m a_pointOf := congrArg (fun q => q.2.2.1) eT1
  have en1 : m1 aM f_letters = m aM f_letters := congrArg (fun q => q.2.2.2) eT1
  obtain ⟨hw1, hl1, hn1⟩ := mI_wl hI1
  have hlen1 := mL_len hI1.1 hL1
  have hsg1 := mL_sg hI1.1 hL1
  have nD1 := mN_D hN1
  refine z_ifz_eq (tgt := 13) dX12_print_6 rfl (fun h6 => ?_) (fun h6 => ?_)
  · refine z_iconst dX12_print_13 (by decide) ?_
    refine z_callV mlX12_310 dX12_print_14 (sh_M hE) (av := [_]) rfl rfl (Nat.le_of_ble_eq_true rfl) (r_is _ hE hm1 _) (Nat.le_refl _) (Nat.le_refl _) (Nat.le_refl _) (Nat.le_refl _) ?_
    rintro _ m2 ⟨rfl, e2⟩
    have hq2 : mQ m m2 2 := e2 ▸ mQ_is hq1
    have hI2 := hq2.1
    have hm2 := hI2.1.1
    have eT2 := mQ_T hq2
    have ec2 : m2 a_c = m a_c := congrArg (fun q => q.1) eT2
    have ec22 : m2 a_c 2 = m a_c 2 := congrFun ec2 2
    have ew2 : m2 a_what = m a_what := congrArg (fun q => q.2.1) eT2
    have ep2 : m2 a_pointOf = m a_pointOf := congrArg (fun q => q.2.2.1) eT2
    have en2 : m2 aM f_letters = m aM f_letters := congrArg (fun q => q.2.2.2) eT2
    obtain ⟨hw2, hl2, hn2⟩ := mI_wl hI2
    have hL2 : mL m2 := e2 ▸ mL_S hL1
    have hN2 : mN m2 := e2 ▸ mN_S hN1
    refine z_ifz_ne (tgt := 22) dX12_print_17 rfl (fun h => absurd h (by decide)) (fun h17 => ?_)
    refine z_iconst dX12_print_20 (by decide) ?_
    refine z_iret dX12_print_21 rfl rfl ?_
    have eA : aPrint (mT m) dd = (2, -1) := by unfold aPrint; rw [if_pos (by omega)]
    rw [eA]
    exact ⟨rfl, hI2, zfr_sub hq2.2.1 (by decide), hq2.2.2, by rw [if_neg (by decide)]; exact mTxt_fr hT hq2.2.1⟩
  · refine z_iconst dX12_print_9 (by decide) ?_
    refine z_goto (tgt := 14) dX12_print_10 rfl ?_
    refine z_callV mlX12_310 dX12_print_14 (sh_M hE) (av := [_]) rfl rfl (Nat.le_of_ble_eq_true rfl) (r_is _ hE hm1 _) (Nat.le_refl _) (Nat.le_refl _) (Nat.le_refl _) (Nat.le_refl _) ?_
    rintro _ m2 ⟨rfl, e2⟩
    have hq2 : mQ m m2 0 := e2 ▸ mQ_is hq1
    have hI2 := hq2.1
    have hm2 := hI2.1.1
    have eT2 := mQ_T hq2
    have ec2 : m2 a_c = m a_c := congrArg (fun q => q.1) eT2
    have ec22 : m2 a_c 2 = m a_c 2 := congrFun ec2 2
    have ew2 : m2 a_what = m a_what := congrArg (fun q => q.2.1) eT2
    have ep2 : m2 a_pointOf = m a_pointOf := congrArg (fun q => q.2.2.1) eT2
    have en2 : m2 aM f_letters = m aM f_letters := congrArg (fun q => q.2.2.2) eT2
    obtain ⟨hw2, hl2, hn2⟩ := mI_wl hI2
    have hL2 : mL m2 := e2 ▸ mL_S hL1
    have hN2 : mN m2 := e2 ▸ mN_S hN1
    refine z_ifz_ne (tgt := 22) dX12_print_17 rfl (fun h17 => ?_) (fun h => absurd (by decide) h)
    refine z_aload_n dX12_print_22 rfl ?_
    refine z_iload_n dX12_print_23 rfl ?_
    refine z_callV mlX12_289 dX12_print_24 (sh_M hE) (av := [_]) rfl rfl (Nat.le_of_ble_eq_true rfl) (q_opens _ hE hI2 dd hN2 (by omega) (by rw [eT2]; omega)) (Nat.le_refl _) (Nat.le_refl _) (Nat.le_refl _) (Nat.le_refl _) ?_
    rintro _ m3 ⟨rfl, f3, o3⟩
    have hq3 := mQ_fr hq2 f3
    have hI3 := hq3.1
    have hm3 := hI3.1.1
    have eT3 := mQ_T hq3
    have ec3 : m3 a_c = m a_c := congrArg (fun q => q.1) eT3
    have ec23 : m3 a_c 2 = m a_c 2 := congrFun ec3 2
    have ew3 : m3 a_what = m a_what := congrArg (fun q => q.2.1) eT3
    have ep3 : m3 a_pointOf = m a_pointOf := congrArg (fun q => q.2.2.1) eT3
    have en3 : m3 aM f_letters = m aM f_letters := congrArg (fun q => q.2.2.2) eT3
    obtain ⟨hw3, hl3, hn3⟩ := mI_wl hI3
    rw [eT2] at o3
    have hL3 := mL_kept f3 hL2
    have hN3 := mN_keptW f3 hN2
    have hA3 := tAll_lt hw3
    have nD3 := mN_D hN3
    have hlen3 := mL_len hI3.1 hL3
    refine z_aload_n dX12_print_27 rfl ?_
    refine z_iconst dX12_print_28 (by decide) ?_
    refine z_pI f_outMany rfl (fpX12_435 _) dX12_print_29 (sh_M hE) rfl ?_
    refine z_iconst dX12_print_32 (by decide) ?_
    refine z_ist 2 dX12_print_33 rfl (Nat.le_of_ble_eq_true rfl) ?_
    try dsimp only [zs0, zsI, zsP, zsN, zsJ, zsS, zst2, Nat.reduceAdd]
    refine l_print (d + 13) (m := m3) hE hm3 _ _ o3 hw3 dd (tH (mT m)) 0 _ (ptM_j hm3 (by decide)) (zfr_uj zfr_rf (by decide)) (by omega) (by omega) (by rw [zu_s]; omega) (fun m9 o9 => ?_)
    rw [ec3] at o9
    have ot := o3.2.1
    have q9 : zfr fOut m3 m9 := zfr_tr (zfr_uj zfr_rf (by decide)) o9.2.2.2
    have e9 := o9.1
    rw [zu_s] at e9
    have hle := sCat_le (g := fun k => pLn (m a_c) (tCo (mT m) dd k)) (s := tH (mT m)) (k := 0) (b := 8) (fun k => pLn_len _ _)
    have eA : aPrint (mT m) dd = (0, ((sCat (fun k => pLn (m a_c) (tCo (mT m) dd k)) (tH (mT m)) 0).length : Int)) := by unfold aPrint; rw [if_neg (by omega)]; rfl
    rw [eA]
    refine ⟨by rw [e9, Int.zero_add], mI_out hI3 q9 (by omega), zfr_tr (zfr_sub hq3.2.1 (by decide)) (zfr_sub q9 (by decide)), (zfr_at q9 (by decide)).trans hq3.2.2, ?_⟩
    rw [if_pos rfl]
    exact mTxt_new zu_s o9

theorem l_printPairs (d : Nat) {E : zE} {m : zM} {P : Option zV → zM → Prop} (hE : shM E) (hm : ptM m) (kk : Int) (mt : Int → Int) (hk0 : 0 ≤ kk) (hk1 : kk < 10395) (hn0 : 0 ≤ m aM f_letters ∧ m aM f_letters ≤ 12) (hrow : ∀ k, 0 ≤ k → k < m aM f_letters → m a_table (12 * kk + k) = mt k) (hmt : ∀ k, 0 ≤ k → k < m aM f_letters → 0 ≤ mt k ∧ mt k ≤ 12)  : ∀ (j : Nat) (k : Int) (m1 : zM), (ptM m1) → (zfr fOut m m1) → (0 ≤ k) → (k + j = m aM f_letters) → (0 ≤ m1 aM f_outMany ∧ m1 aM f_outMany ≤ 6 * k) → (∀ m2, mOut m1 m2 (sCat (pPr mt) j k) → P (some (zI (m2 aM f_outMany))) m2) → zA zX12_printPairs (d + 2) E E P 29 [zP aM, zI kk, zI k] [] m1 E := by
  intro j
  induction j with
  | zero =>
    intro k m1 hm1 z1 h0 hk hn hP
    have a1 : mOut m1 m1 [] := mOut_nil
    have ln1 : m1 aM f_letters = m aM f_letters := zfr_at z1 (by decide)
    refine z_iload_n dX12_printPairs_29 rfl ?_
    refine z_aload_n dX12_printPairs_30 rfl ?_
    refine z_gIv f_letters rfl flX12_124 dX12_printPairs_31 (sh_M hE) rfl ln1 ?_
    refine z_icmp_ge (tgt := 83) dX12_printPairs_34 rfl (fun h34 => ?_) (fun h => absurd (by omega) h)
    refine z_aload_n dX12_printPairs_83 rfl ?_
    refine z_gI f_outMany rfl flX12_435 dX12_printPairs_84 (sh_M hE) rfl ?_
    refine z_iret dX12_printPairs_87 rfl rfl ?_
    exact hP m1 mOut_nil
  | succ j ih =>
    intro k m1 hm1 z1 h0 hk hn hP
    have a1 : mOut m1 m1 [] := mOut_nil
    have ln1 : m1 aM f_letters = m aM f_letters := zfr_at z1 (by decide)
    have hcm : ∀ x : zM, zfr fOut m x → x a_table (12 * kk + k) = mt k := fun x hx => (congrFun (zfr_cell hx (by decide)) _).trans (hrow k h0 (by omega))
    have hmk := hmt k h0 (by omega)
    refine z_iload_n dX12_printPairs_29 rfl ?_
    refine z_aload_n dX12_printPairs_30 rfl ?_
    refine z_gIv f_letters rfl flX12_124 dX12_printPairs_31 (sh_M hE) rfl ln1 ?_
    refine z_icmp_ge (tgt := 83) dX12_printPairs_34 rfl (fun h => absurd h (by omega)) (fun h34 => ?_)
    refine z_aload_n dX12_printPairs_37 rfl ?_
    refine z_iload_n dX12_printPairs_38 rfl ?_
    refine z_iload_n dX12_printPairs_39 rfl ?_
    refine z_callV mlX12_200 dX12_printPairs_40 (sh_M hE) (av := [_, _]) rfl rfl (Nat.le_of_ble_eq_true rfl) (r_mateOf _ hE hm1 kk k (by omega) (by omega) (by omega) (by omega)) (Nat.le_refl _) (Nat.le_refl _) (Nat.le_refl _) (Nat.le_refl _) ?_
    rw [hcm m1 z1]
    rintro _ _ ⟨rfl, rfl⟩
    refine z_iload_n dX12_printPairs_43 rfl ?_
    refine z_icmp_ge (tgt := 50) dX12_printPairs_44 rfl (fun h44 => ?_) (fun h44 => ?_)
    · refine z_aload_n dX12_printPairs_50 rfl ?_
      refine z_iload_n dX12_printPairs_51 rfl ?_
      refine z_callV mlX12_441 dX12_printPairs_52 (sh_M hE) (av := [_]) rfl rfl (Nat.le_of_ble_eq_true rfl) (r_saysNumber _ hE hm1 k (by omega) (by omega) (by omega)) (Nat.le_refl _) (Nat.le_refl _) (Nat.le_refl _) (Nat.le_refl _) ?_
      rintro _ m2 ⟨rfl, o2⟩
      have hm2 := mOut_pt hm1 o2
      have z2 : zfr fOut m m2 := zfr_tr z1 o2.2.2.2
      have n2 := o2.1
      have l2 := pN_len k
      have a2 := mOut_tr a1 o2
      refine z_aload_n dX12_printPairs_55 rfl ?_
      refine z_bipush dX12_printPairs_56 rfl (by decide) ?_
      refine z_callV mlX12_438 dX12_printPairs_58 (sh_M hE) (av := [_]) rfl rfl (Nat.le_of_ble_eq_true rfl) (r_says _ hE hm2 _ (by omega) (by omega)) (Nat.le_refl _) (Nat.le_refl _) (Nat.le_refl _) (Nat.le_refl _) ?_
      rintro _ m3 ⟨rfl, o3⟩
      have hm3 := mOut_pt hm2 o3
      have z3 : zfr fOut m m3 := zfr_tr z2 o3.2.2.2
      have n3 := o3.1
      simp only [List.length_cons, List.length_nil] at n3
      have a3 := mOut_tr a2 o3
      refine z_aload_n dX12_printPairs_61 rfl ?_
      refine z_aload_n dX12_printPairs_62 rfl ?_
      refine z_iload_n dX12_printPairs_63 rfl ?_
      refine z_iload_n dX12_printPairs_64 rfl ?_
      refine z_callV mlX12_200 dX12_printPairs_65 (sh_M hE) (av := [_, _]) rfl rfl (Nat.le_of_ble_eq_true rfl) (r_mateOf _ hE hm3 kk k (by omega) (by omega) (by omega) (by omega)) (Nat.le_refl _) (Nat.le_refl _) (Nat.le_refl _) (Nat.le_refl _) ?_
      rw [hcm m3 z3]
      rintro _ _ ⟨rfl, rfl⟩
      refine z_callV mlX12_441 dX12_printPairs_68 (sh_M hE) (av := [_]) rfl rfl (Nat.le_of_ble_eq_true rfl) (r_saysNumber _ hE hm3 (mt k) (by omega) (by omega) (by omega)) (Nat.le_refl _) (Nat.le_refl _) (Nat.le_refl _) (Nat.le_refl _) ?_
      rintro _ m4 ⟨rfl, o4⟩
      have hm4 := mOut_pt hm3 o4
      have z4 : zfr fOut m m4 := zfr_tr z3 o4.2.2.2
      have n4 := o4.1
      have l4 := pN_len (mt k)
      have a4 := mOut_tr a3 o4
      refine z_aload_n dX12_printPairs_71 rfl ?_
      refine z_bipush dX12_printPairs_72 rfl (by decide) ?_
      refine z_callV mlX12_438 dX12_printPairs_74 (sh_M hE) (av := [_]) rfl rfl (Nat.le_of_ble_eq_true rfl) (r_says _ hE hm4 _ (by omega) (by omega)) (Nat.le_refl _) (Nat.le_refl _) (Nat.le_refl _) (Nat.le_refl _) ?_
      rintro _ m5 ⟨rfl, o5⟩
      have hm5 := mOut_pt hm4 o5
      have z5 : zfr fOut m m5 := zfr_tr z4 o5.2.2.2
      have n5 := o5.1
      simp only [List.length_cons, List.length_nil] at n5
      have a5 := mOut_tr a4 o5
      refine z_inc dX12_printPairs_77 rfl (by omega) ?_
      refine z_goto (tgt := 29) dX12_printPairs_80 rfl ?_
      try dsimp only [zs0, zsI, zsP, zsN, zsJ, zsS, zst2, Nat.reduceAdd]
      have eL : mOut m1 m5 (pPr mt k) := by
        have e := a5
        unfold pPr
        rw [if_neg (by omega)]
        simpa using e
      exact ih (k + 1) m5 hm5 z5 (by omega) (by omega) (by omega) (fun m9 h9 => hP m9 (by rw [sCat_s]; exact mOut_tr eL h9))
    · refine z_goto (tgt := 77) dX12_printPairs_47 rfl ?_
      refine z_inc dX12_printPairs_77 rfl (by omega) ?_
      refine z_goto (tgt := 29) dX12_printPairs_80 rfl ?_
      try dsimp only [zs0, zsI, zsP, zsN, zsJ, zsS, zst2, Nat.reduceAdd]
      have eL : pPr mt k = [] := by unfold pPr; rw [if_pos (by omega)]
      exact ih (k + 1) m1 hm1 z1 (by omega) (by omega) (by omega) (fun m9 h9 => hP m9 (by rw [sCat_s, eL]; exact h9))

theorem q_printPairs (d : Nat) {E : zE} {m : zM} (hE : shM E) (hI : mI m) (k : Int) {L : List Int} (hT : mTxt m L) : zR zX12_printPairs (d + 12) [zP aM, zI k] m E E (fun r m' => r = some (zI (aPrintP (mT m) k).2) ∧ mI m' ∧ zfr fQP m m' ∧ m' aM f_status = (aPrintP (mT m) k).1 ∧ mTxt m' (if (aPrintP (mT m) k).1 = 0 then tTxtP (mT m) k else L)) := by
  have hm := hI.1.1
  obtain ⟨hw, hl, hn⟩ := mI_wl hI
  have hq0 := mQ_rf hI
  have eT0 : mT m = mT m := rfl
  have t4 : (mT m).2.2.2 = m aM f_letters := rfl
  have t0 : (mT m).1 0 = m a_c 0 := rfl
  have t1 : (mT m).1 1 = m a_c 1 := rfl
  have t2 : (mT m).1 2 = m a_c 2 := rfl
  have b1 := hw.1
  have b2 := hw.2.1
  have b3 := hw.2.2.1
  refine zR_go [zP aM, zI k, zN] (by decide +kernel) (Nat.le_of_ble_eq_true rfl) rfl rfl ?_
  refine z_aload_n dX12_printPairs_0 rfl ?_
  refine z_aload_n dX12_printPairs_1 rfl ?_
  refine z_iload_n dX12_printPairs_2 rfl ?_
  refine z_callV mlX12_359 dX12_printPairs_3 (sh_M hE) (av := [_]) rfl rfl (Nat.le_of_ble_eq_true rfl) (q_isPairing _ hE hI k) (Nat.le_refl _) (Nat.le_refl _) (Nat.le_refl _) (Nat.le_refl _) ?_
  rintro _ m1 ⟨rfl, g1, f1, hL1⟩
  have hq1 := mQ_lays hq0 g1 f1
  have hI1 := hq1.1
  have hm1 := hI1.1.1
  have eT1 := mQ_T hq1
  have ec1 : m1 a_c = m a_c := congrArg (fun q => q.1) eT1
  have ec21 : m1 a_c 2 = m a_c 2 := congrFun ec1 2
  have ew1 : m1 a_what = m a_what := congrArg (fun q => q.2.1) eT1
  have ep1 : m1 a_pointOf = m a_pointOf := congrArg (fun q => q.2.2.1) eT1
  have en1 : m1 aM f_letters = m aM f_letters := congrArg (fun q => q.2.2.2) eT1
  obtain ⟨hw1, hl1, hn1⟩ := mI_wl hI1
  have hlen1 := mL_len hI1.1 hL1
  have hsg1 := mL_sg hI1.1 hL1
  refine z_ifz_eq (tgt := 13) dX12_printPairs_6 rfl (fun h6 => ?_) (fun h6 => ?_)
  · refine z_iconst dX12_printPairs_13 (by decide) ?_
    refine z_callV mlX12_310 dX12_printPairs_14 (sh_M hE) (av := [_]) rfl rfl (Nat.le_of_ble_eq_true rfl) (r_is _ hE hm1 _) (Nat.le_refl _) (Nat.le_refl _) (Nat.le_refl _) (Nat.le_refl _) ?_
    rintro _ m2 ⟨rfl, e2⟩
    have hq2 : mQ m m2 2 := e2 ▸ mQ_is hq1
    have hI2 := hq2.1
    have hm2 := hI2.1.1
    have eT2 := mQ_T hq2
    have ec2 : m2 a_c = m a_c := congrArg (fun q => q.1) eT2
    have ec22 : m2 a_c 2 = m a_c 2 := congrFun ec2 2
    have ew2 : m2 a_what = m a_what := congrArg (fun q => q.2.1) eT2
    have ep2 : m2 a_pointOf = m a_pointOf := congrArg (fun q => q.2.2.1) eT2
    have en2 : m2 aM f_letters = m aM f_letters := congrArg (fun q => q.2.2.2) eT2
    obtain ⟨hw2, hl2, hn2⟩ := mI_wl hI2
    have hL2 : mL m2 := e2 ▸ mL_S hL1
    refine z_ifz_ne (tgt := 22) dX12_printPairs_17 rfl (fun h => absurd h (by decide)) (fun h17 => ?_)
    refine z_iconst dX12_printPairs_20 (by decide) ?_
    refine z_iret dX12_printPairs_21 rfl rfl ?_
    have eA : aPrintP (mT m) k = (2, -1) := by unfold aPrintP; rw [if_pos (by omega)]
    rw [eA]
    exact ⟨rfl, hI2, zfr_sub hq2.2.1 (by decide), hq2.2.2, by rw [if_neg (by decide)]; exact mTxt_fr hT hq2.2.1⟩
  · refine z_iconst dX12_printPairs_9 (by decide) ?_
    refine z_goto (tgt := 14) dX12_printPairs_10 rfl ?_
    refine z_callV mlX12_310 dX12_printPairs_14 (sh_M hE) (av := [_]) rfl rfl (Nat.le_of_ble_eq_true rfl) (r_is _ hE hm1 _) (Nat.le_refl _) (Nat.le_refl _) (Nat.le_refl _) (Nat.le_refl _) ?_
    rintro _ m2 ⟨rfl, e2⟩
    have hq2 : mQ m m2 0 := e2 ▸ mQ_is hq1
    have hI2 := hq2.1
    have hm2 := hI2.1.1
    have eT2 := mQ_T hq2
    have ec2 : m2 a_c = m a_c := congrArg (fun q => q.1) eT2
    have ec22 : m2 a_c 2 = m a_c 2 := congrFun ec2 2
    have ew2 : m2 a_what = m a_what := congrArg (fun q => q.2.1) eT2
    have ep2 : m2 a_pointOf = m a_pointOf := congrArg (fun q => q.2.2.1) eT2
    have en2 : m2 aM f_letters = m aM f_letters := congrArg (fun q => q.2.2.2) eT2
    obtain ⟨hw2, hl2, hn2⟩ := mI_wl hI2
    have hL2 : mL m2 := e2 ▸ mL_S hL1
    refine z_ifz_ne (tgt := 22) dX12_printPairs_17 rfl (fun h17 => ?_) (fun h => absurd (by decide) h)
    refine z_aload_n dX12_printPairs_22 rfl ?_
    refine z_iconst dX12_printPairs_23 (by decide) ?_
    refine z_pI f_outMany rfl (fpX12_435 _) dX12_printPairs_24 (sh_M hE) rfl ?_
    refine z_iconst dX12_printPairs_27 (by decide) ?_
    refine z_ist 2 dX12_printPairs_28 rfl (Nat.le_of_ble_eq_true rfl) ?_
    try dsimp only [zs0, zsI, zsP, zsN, zsJ, zsS, zst2, Nat.reduceAdd]
    have hle2 := mL_len hI2.1 hL2
    rw [eT2] at hle2
    have hat := mL_at hI2.1 hL2 (k := k) (by omega) (by rw [eT2]; omega)
    rw [eT2] at hat
    refine l_printPairs (d + 10) (m := m2) hE hm2 k (tMt (mT m) k) (by omega) (by omega) hn2 hat.1 (fun x q0 q1 => ?_) (m2 aM f_letters).toNat 0 _ (ptM_j hm2 (by decide)) (zfr_uj zfr_rf (by decide)) (by omega) (by omega) (by rw [zu_s]; omega) (fun m9 o9 => ?_)
    · have g := hat.2.2.2.2.1 x q0 (by omega)
      omega
    rw [en2] at o9
    have q9 : zfr fOut m2 m9 := zfr_tr (zfr_uj zfr_rf (by decide)) o9.2.2.2
    have e9 := o9.1
    rw [zu_s] at e9
    have hle := sCat_le (g := pPr (tMt (mT m) k)) (s := (m aM f_letters).toNat) (k := 0) (b := 6) (fun x => pPr_len _ _)
    have eA : aPrintP (mT m) k = (0, ((sCat (pPr (tMt (mT m) k)) (m aM f_letters).toNat 0).length : Int)) := by unfold aPrintP; rw [if_neg (by omega)]; rfl
    rw [eA]
    refine ⟨by rw [e9, Int.zero_add], mI_out hI2 q9 (by omega), zfr_tr (zfr_sub hq2.2.1 (by decide)) (zfr_sub q9 (by decide)), (zfr_at q9 (by decide)).trans hq2.2.2, ?_⟩
    rw [if_pos rfl]
    exact mTxt_new zu_s o9

theorem q_out (d : Nat) {E : zE} {m : zM} (hE : shM E) (hI : mI m) (i : Int) {L : List Int} (hT : mTxt m L)  : zR zX12_out (d + 1) [zP aM, zI i] m E E (fun r m' => r = some (zI (aOut L i).2) ∧ mQ m m' (aOut L i).1) := by
  have hm := hI.1.1
  obtain ⟨hw, hl, hn⟩ := mI_wl hI
  have hq0 := mQ_rf hI
  have eT0 : mT m = mT m := rfl
  have t4 : (mT m).2.2.2 = m aM f_letters := rfl
  have t0 : (mT m).1 0 = m a_c 0 := rfl
  have t1 : (mT m).1 1 = m a_c 1 := rfl
  have t2 : (mT m).1 2 = m a_c 2 := rfl
  have b1 := hw.1
  have b2 := hw.2.1
  have b3 := hw.2.2.1
  have hT1 := hT.1
  have hob := hI.2.2.2.2.2.2.1
  refine zR_go [zP aM, zI i] (by decide +kernel) (Nat.le_of_ble_eq_true rfl) rfl rfl ?_
  refine z_aload_n dX12_out_0 rfl ?_
  refine z_iload_n dX12_out_1 rfl ?_
  refine z_if_ge (tgt := 9) dX12_out_2 rfl (fun h2 => ?_) (fun h2 => ?_)
  · refine z_iload_n dX12_out_9 rfl ?_
    refine z_aload_n dX12_out_10 rfl ?_
    refine z_gI f_outMany rfl flX12_435 dX12_out_11 (sh_M hE) rfl ?_
    refine z_icmp_lt (tgt := 21) dX12_out_14 rfl (fun h14 => ?_) (fun h14 => ?_)
    · refine z_iconst dX12_out_21 (by decide) ?_
      refine z_callV mlX12_310 dX12_out_22 (sh_M hE) (av := [_]) rfl rfl (Nat.le_of_ble_eq_true rfl) (r_is _ hE hm _) (Nat.le_refl _) (Nat.le_refl _) (Nat.le_refl _) (Nat.le_refl _) ?_
      rintro _ m1 ⟨rfl, e1⟩
      have hq1 : mQ m m1 0 := e1 ▸ mQ_is hq0
      have hI1 := hq1.1
      have hm1 := hI1.1.1
      have eT1 := mQ_T hq1
      have ec1 : m1 a_c = m a_c := congrArg (fun q => q.1) eT1
      have ec21 : m1 a_c 2 = m a_c 2 := congrFun ec1 2
      have ew1 : m1 a_what = m a_what := congrArg (fun q => q.2.1) eT1
      have ep1 : m1 a_pointOf = m a_pointOf := congrArg (fun q => q.2.2.1) eT1
      have en1 : m1 aM f_letters = m aM f_letters := congrArg (fun q => q.2.2.2) eT1
      obtain ⟨hw1, hl1, hn1⟩ := mI_wl hI1
      refine z_ifz_eq (tgt := 37) dX12_out_25 rfl (fun h => absurd (by decide) h) (fun h25 => ?_)
      refine z_aload_n dX12_out_28 rfl ?_
      refine z_gP 34 rfl (r := a_out) flX12_72 dX12_out_29 (sh_M hE) rfl (pt_out hm1) (by decide) ?_
      refine z_iload_n dX12_out_32 rfl ?_
      refine z_iald dX12_out_33 (sh_out hE) (by omega) (by omega) ?_
      refine z_goto (tgt := 38) dX12_out_34 rfl ?_
      refine z_iret dX12_out_38 rfl rfl ?_
      have h9 := hT.2 i.toNat (lf L i) (lf_get (by omega))
      rw [show ((i.toNat : Nat) : Int) = i by omega] at h9
      rw [show m1 a_out i = lf L i from (congrFun (zfr_cell hq1.2.1 (by decide)) i).trans h9]
      have eA : aOut L i = (0, lf L i) := by unfold aOut; rw [if_neg (by omega), if_neg (by omega)]
      rw [eA]
      exact ⟨rfl, hq1⟩
    · refine z_iconst dX12_out_17 (by decide) ?_
      refine z_goto (tgt := 22) dX12_out_18 rfl ?_
      refine z_callV mlX12_310 dX12_out_22 (sh_M hE) (av := [_]) rfl rfl (Nat.le_of_ble_eq_true rfl) (r_is _ hE hm _) (Nat.le_refl _) (Nat.le_refl _) (Nat.le_refl _) (Nat.le_refl _) ?_
      rintro _ m1 ⟨rfl, e1⟩
      have hq1 : mQ m m1 5 := e1 ▸ mQ_is hq0
      have hI1 := hq1.1
      have hm1 := hI1.1.1
      have eT1 := mQ_T hq1
      have ec1 : m1 a_c = m a_c := congrArg (fun q => q.1) eT1
      have ec21 : m1 a_c 2 = m a_c 2 := congrFun ec1 2
      have ew1 : m1 a_what = m a_what := congrArg (fun q => q.2.1) eT1
      have ep1 : m1 a_pointOf = m a_pointOf := congrArg (fun q => q.2.2.1) eT1
      have en1 : m1 aM f_letters = m aM f_letters := congrArg (fun q => q.2.2.2) eT1
      obtain ⟨hw1, hl1, hn1⟩ := mI_wl hI1
      refine z_ifz_eq (tgt := 37) dX12_out_25 rfl (fun h25 => ?_) (fun h => absurd h (by decide))
      refine z_iconst dX12_out_37 (by decide) ?_
      refine z_iret dX12_out_38 rfl rfl ?_
      have eA : aOut L i = (5, -1) := by unfold aOut; rw [if_neg (by omega), if_pos (by omega)]
      rw [eA]
      exact ⟨rfl, hq1⟩
  · refine z_iconst dX12_out_5 (by decide) ?_
    refine z_goto (tgt := 22) dX12_out_6 rfl ?_
    refine z_callV mlX12_310 dX12_out_22 (sh_M hE) (av := [_]) rfl rfl (Nat.le_of_ble_eq_true rfl) (r_is _ hE hm _) (Nat.le_refl _) (Nat.le_refl _) (Nat.le_refl _) (Nat.le_refl _) ?_
    rintro _ m1 ⟨rfl, e1⟩
    have hq1 : mQ m m1 1 := e1 ▸ mQ_is hq0
    have hI1 := hq1.1
    have hm1 := hI1.1.1
    have eT1 := mQ_T hq1
    have ec1 : m1 a_c = m a_c := congrArg (fun q => q.1) eT1
    have ec21 : m1 a_c 2 = m a_c 2 := congrFun ec1 2
    have ew1 : m1 a_what = m a_what := congrArg (fun q => q.2.1) eT1
    have ep1 : m1 a_pointOf = m a_pointOf := congrArg (fun q => q.2.2.1) eT1
    have en1 : m1 aM f_letters = m aM f_letters := congrArg (fun q => q.2.2.2) eT1
    obtain ⟨hw1, hl1, hn1⟩ := mI_wl hI1
    refine z_ifz_eq (tgt := 37) dX12_out_25 rfl (fun h25 => ?_) (fun h => absurd h (by decide))
    refine z_iconst dX12_out_37 (by decide) ?_
    refine z_iret dX12_out_38 rfl rfl ?_
    have eA : aOut L i = (1, -1) := by unfold aOut; rw [if_pos (by omega)]
    rw [eA]
    exact ⟨rfl, hq1⟩
