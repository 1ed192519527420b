theorem sCat_snoc {α : Type} (g : Int → List α) : ∀ (s : Nat) (k : Int), sCat g (s + 1) k = sCat g s k ++ g (k + s)
  | 0, k => by simp [sCat]
  | s + 1, k => by
    rw [sCat_s, sCat_snoc g s (k + 1), sCat_s, List.append_assoc]
    rw [show k + 1 + (s : Int) = k + ((s + 1 : Nat) : Int) by omega]
theorem sCL_len {n k : Nat} {may : Int → Int → Bool} {code : Int → Int → Int} {mt : Int → Int} (h : sFull n may mt) (hk : k ≤ n) : ((sCL n code mt k 0).length : Int) = zsum (fun i => zb (i < mt i)) k 0 := by
  induction k with
  | zero => rfl
  | succ k ih =>
    have hf := h.1 k (by omega) (by omega)
    rw [sCL, sCat_snoc, List.length_append, zsum_app, zsum_s, zsum_0, Int.zero_add, Int.add_zero]
    have := ih (by omega)
    unfold sCL at this
    by_cases e : mt k < k
    · rw [if_pos e, zb_f (by omega)]; simp; omega
    · rw [if_neg e, zb_t (by omega)]; simp; omega
theorem sCL_lt {n k : Nat} {may : Int → Int → Bool} {code : Int → Int → Int} {mt : Int → Int} (h : sFull n may mt) (hk : k < n) : ¬ mt k < k → 2 * ((sCL n code mt k 0).length : Int) < n := by
  intro e
  have hf := h.1 k (by omega) (by omega)
  rw [sCL_len h (by omega)]
  have h2 := h.2
  unfold sOp at h2
  rw [show n = k + (1 + (n - 1 - k)) by omega, zsum_app, zsum_app, zsum_s, zsum_0, Int.zero_add, zb_t (by omega)] at h2
  have h3 := zsum_bd (f := fun i => zb (i < mt i)) (b := 1) (j := n - 1 - k) (k := (k : Int) + ((1 : Nat) : Int)) (fun i _ _ => by have := zb01 (i < mt i); omega)
  omega
theorem lf_snoc (l : List Int) (v : Int) : lf (l ++ [v]) (l.length : Int) = v := by simp [lf]
theorem lf_left {l r : List Int} {x : Int} (h0 : 0 ≤ x) (h : x < l.length) : lf (l ++ r) x = lf l x := by
  unfold lf
  rw [List.getD_eq_getElem?_getD, List.getD_eq_getElem?_getD, List.getElem?_append_left (by omega)]
theorem l_codesOf (d : Nat) {E : zE} {m : zM} {P : Option zV → zM → Prop} (hE : shM E) (hm : ptM m) (t : Int) (ht0 : 0 ≤ t) (ht : t < 10395) (mt : Int → Int) (hw : wfC (m a_c)) (hl : wfL (m a_c) (m a_what) (m a_pointOf) (m aM f_letters)) (hrow : ∀ k, 0 ≤ k → k < m aM f_letters → m a_table (12 * t + k) = mt k) (hfull : sFull (m aM f_letters).toNat (cMay (m a_c) (m a_what) (m a_pointOf)) mt) : ∀ (j : Nat) (k : Nat) (m1 : zM), (ptM m1) → ((k : Int) + j = m aM f_letters) → (zfr [(a_codes, none), (aM, some f_lines)] m m1) → (m1 aM f_lines = (((sCL (m aM f_letters).toNat (cCode (m a_c) (m a_what) (m a_pointOf)) mt) k 0).length : Int)) → (∀ x : Int, 0 ≤ x → x < (((sCL (m aM f_letters).toNat (cCode (m a_c) (m a_what) (m a_pointOf)) mt) k 0).length : Int) → m1 a_codes x = lf ((sCL (m aM f_letters).toNat (cCode (m a_c) (m a_what) (m a_pointOf)) mt) k 0) x) → (∀ m2, zfr [(a_codes, none), (aM, some f_lines)] m m2 → m2 aM f_lines = (((sCL (m aM f_letters).toNat (cCode (m a_c) (m a_what) (m a_pointOf)) mt) (m aM f_letters).toNat 0).length : Int) → (∀ x : Int, 0 ≤ x → x < (((sCL (m aM f_letters).toNat (cCode (m a_c) (m a_what) (m a_pointOf)) mt) (m aM f_letters).toNat 0).length : Int) → m2 a_codes x = lf ((sCL (m aM f_letters).toNat (cCode (m a_c) (m a_what) (m a_pointOf)) mt) (m aM f_letters).toNat 0) x) → P none m2) → zA zX12_codesOf (d + 2) E E P 7 [zP aM, zI t, zI (k : Nat)] [] m1 E := by
  intro j
  induction j with
  | zero =>
    intro k m1 hm1 hk hf hlin hcod hP
    have ec : m1 a_c = m a_c := zfr_cell hf (by decide)
    have ew : m1 a_what = m a_what := zfr_cell hf (by decide)
    have eq' : m1 a_pointOf = m a_pointOf := zfr_cell hf (by decide)
    have en : m1 aM f_letters = m aM f_letters := zfr_at hf (by decide)
    have hb1 := hl.1
    refine z_iload_n dX12_codesOf_7 rfl ?_
    refine z_aload_n dX12_codesOf_8 rfl ?_
    refine z_gIv f_letters rfl flX12_124 dX12_codesOf_9 (sh_M hE) rfl en ?_
    refine z_icmp_ge (tgt := 64) dX12_codesOf_12 rfl (fun h12 => ?_) (fun h => absurd (by omega) h)
    refine z_vret dX12_codesOf_64 rfl rfl ?_
    rw [show (m aM f_letters).toNat = k by omega] at hP
    exact hP m1 hf hlin hcod
  | succ j ih =>
    intro k m1 hm1 hk hf hlin hcod hP
    have ec : m1 a_c = m a_c := zfr_cell hf (by decide)
    have ew : m1 a_what = m a_what := zfr_cell hf (by decide)
    have eq' : m1 a_pointOf = m a_pointOf := zfr_cell hf (by decide)
    have en : m1 aM f_letters = m aM f_letters := zfr_at hf (by decide)
    have hb1 := hl.1
    have hfk := hfull.1 k (by omega) (by omega)
    have hlen := sCL_len (code := cCode (m a_c) (m a_what) (m a_pointOf)) hfull (k := k) (by omega)
    have hlen2 := sCL_lt (code := cCode (m a_c) (m a_what) (m a_pointOf)) hfull (k := k) (by omega)
    refine z_iload_n dX12_codesOf_7 rfl ?_
    refine z_aload_n dX12_codesOf_8 rfl ?_
    refine z_gIv f_letters rfl flX12_124 dX12_codesOf_9 (sh_M hE) rfl en ?_
    refine z_icmp_ge (tgt := 64) dX12_codesOf_12 rfl (fun h => absurd h (by omega)) (fun h12 => ?_)
    refine z_aload_n dX12_codesOf_15 rfl ?_
    refine z_iload_n dX12_codesOf_16 rfl ?_
    refine z_iload_n dX12_codesOf_17 rfl ?_
    refine z_callV mlX12_200 dX12_codesOf_18 (sh_M hE) (av := [_, _]) rfl rfl (Nat.le_of_ble_eq_true rfl) (r_mateOf _ hE hm1 t (k : Int) ht0 ht (by omega) (by omega)) (Nat.le_refl _) (Nat.le_refl _) (Nat.le_refl _) (Nat.le_refl _) ?_
    rw [congrFun (zfr_cell (a := a_table) hf (by decide)) _, hrow k (by omega) (by omega)]
    rintro _ _ ⟨rfl, rfl⟩
    refine z_iload_n dX12_codesOf_21 rfl ?_
    refine z_icmp_ge (tgt := 28) dX12_codesOf_22 rfl (fun h22 => ?_) (fun h22 => ?_)
    · refine z_aload_n dX12_codesOf_28 rfl ?_
      refine z_gP 18 rfl (r := a_codes) flX12_44 dX12_codesOf_29 (sh_M hE) rfl (pt_codes hm1) (by decide) ?_
      refine z_aload_n dX12_codesOf_32 rfl ?_
      refine z_gI f_lines rfl flX12_197 dX12_codesOf_33 (sh_M hE) rfl ?_
      refine z_aload_n dX12_codesOf_36 rfl ?_
      refine z_iload_n dX12_codesOf_37 rfl ?_
      refine z_aload_n dX12_codesOf_38 rfl ?_
      refine z_iload_n dX12_codesOf_39 rfl ?_
      refine z_iload_n dX12_codesOf_40 rfl ?_
      refine z_callV mlX12_200 dX12_codesOf_41 (sh_M hE) (av := [_, _]) rfl rfl (Nat.le_of_ble_eq_true rfl) (r_mateOf _ hE hm1 t (k : Int) ht0 ht (by omega) (by omega)) (Nat.le_refl _) (Nat.le_refl _) (Nat.le_refl _) (Nat.le_refl _) ?_
      rw [congrFun (zfr_cell (a := a_table) hf (by decide)) _, hrow k (by omega) (by omega)]
      rintro _ _ ⟨rfl, rfl⟩
      refine z_callV mlX12_203 dX12_codesOf_44 (sh_M hE) (av := [_, _]) rfl rfl (Nat.le_of_ble_eq_true rfl) (r_codeOf _ hE hm1 (k : Int) (mt k) (by omega) (by omega) (by omega) (by omega) (by rw [ec]; exact hw) (by rw [ec, ew, eq', en]; exact hl) (by rw [ec, ew, eq']; exact hfk.2.2.2.2 (by omega))) (Nat.le_refl _) (Nat.le_refl _) (Nat.le_refl _) (Nat.le_refl _) ?_
      rw [ec, ew, eq']
      rintro _ _ ⟨rfl, rfl⟩
      refine z_iast dX12_codesOf_47 (sh_codes hE) (by omega) (by omega) ?_
      refine z_aload_n dX12_codesOf_48 rfl ?_
      refine z_dup dX12_codesOf_49 rfl ?_
      refine z_gIv f_lines rfl flX12_197 dX12_codesOf_50 (sh_M hE) rfl (zu_a (by decide)) ?_
      refine z_iconst dX12_codesOf_53 (by decide) ?_
      refine z_add dX12_codesOf_54 (by omega) ?_
      refine z_pI f_lines rfl (fpX12_197 _) dX12_codesOf_55 (sh_M hE) rfl ?_
      refine z_inc dX12_codesOf_58 rfl (by omega) ?_
      refine z_goto (tgt := 7) dX12_codesOf_61 rfl ?_
      try dsimp only [zs0, zsI, zsP, zsN, zsJ, zsS, zst2, Nat.reduceAdd]
      rw [show (k : Int) + 1 = ((k + 1 : Nat) : Int) by omega]
      have hsn : (sCL (m aM f_letters).toNat (cCode (m a_c) (m a_what) (m a_pointOf)) mt) (k + 1) 0 = (sCL (m aM f_letters).toNat (cCode (m a_c) (m a_what) (m a_pointOf)) mt) k 0 ++ [cCode (m a_c) (m a_what) (m a_pointOf) k (mt k)] := by rw [sCL, sCat_snoc, Int.zero_add, if_neg (by omega)]; rfl
      refine ih (k + 1) _ (ptM_j (ptM_a hm1 (by decide)) (by decide)) (by omega) (zfr_uj (zfr_ua hf (by decide)) (by decide)) ?_ (fun x q1 q2 => ?_) hP
      · rw [zu_s, hsn, List.length_append]
        rw [hlin]
        simp
      · rw [zu_a (by decide)]
        rw [hsn, List.length_append] at q2
        simp at q2
        by_cases e : x = (((sCL (m aM f_letters).toNat (cCode (m a_c) (m a_what) (m a_pointOf)) mt) k 0).length : Int)
        · rw [hlin, e, zu_s, hsn, lf_snoc]
        · rw [hlin, zu_j e, hsn, lf_left (by omega) (by omega)]
          exact hcod x q1 (by omega)
    · refine z_goto (tgt := 58) dX12_codesOf_25 rfl ?_
      refine z_inc dX12_codesOf_58 rfl (by omega) ?_
      refine z_goto (tgt := 7) dX12_codesOf_61 rfl ?_
      try dsimp only [zs0, zsI, zsP, zsN, zsJ, zsS, zst2, Nat.reduceAdd]
      rw [show (k : Int) + 1 = ((k + 1 : Nat) : Int) by omega]
      have hsn : (sCL (m aM f_letters).toNat (cCode (m a_c) (m a_what) (m a_pointOf)) mt) (k + 1) 0 = (sCL (m aM f_letters).toNat (cCode (m a_c) (m a_what) (m a_pointOf)) mt) k 0 := by rw [sCL, sCat_snoc, Int.zero_add, if_pos (by omega), List.append_nil]; rfl
      exact ih (k + 1) m1 hm1 (by omega) hf (by rw [hsn]; exact hlin) (by rw [hsn]; exact hcod) hP

theorem r_codesOf (d : Nat) {E : zE} {m : zM} (hE : shM E) (hm : ptM m) (t : Int) (ht0 : 0 ≤ t) (ht : t < 10395) (mt : Int → Int) (hw : wfC (m a_c)) (hl : wfL (m a_c) (m a_what) (m a_pointOf) (m aM f_letters)) (hrow : ∀ k, 0 ≤ k → k < m aM f_letters → m a_table (12 * t + k) = mt k) (hfull : sFull (m aM f_letters).toNat (cMay (m a_c) (m a_what) (m a_pointOf)) mt) : zR zX12_codesOf (d + 2) [zP aM, zI t] m E E (fun r m' => r = none ∧ zfr [(a_codes, none), (aM, some f_lines)] m m' ∧ m' aM f_lines = (((sCL (m aM f_letters).toNat (cCode (m a_c) (m a_what) (m a_pointOf)) mt) (m aM f_letters).toNat 0).length : Int) ∧ ∀ x : Int, 0 ≤ x → x < (((sCL (m aM f_letters).toNat (cCode (m a_c) (m a_what) (m a_pointOf)) mt) (m aM f_letters).toNat 0).length : Int) → m' a_codes x = lf ((sCL (m aM f_letters).toNat (cCode (m a_c) (m a_what) (m a_pointOf)) mt) (m aM f_letters).toNat 0) x) := by
  refine zR_go [zP aM, zI t, zN] (by decide +kernel) (Nat.le_of_ble_eq_true rfl) rfl rfl ?_
  refine z_aload_n dX12_codesOf_0 rfl ?_
  refine z_iconst dX12_codesOf_1 (by decide) ?_
  refine z_pI f_lines rfl (fpX12_197 _) dX12_codesOf_2 (sh_M hE) rfl ?_
  refine z_iconst dX12_codesOf_5 (by decide) ?_
  refine z_ist 2 dX12_codesOf_6 rfl (Nat.le_of_ble_eq_true rfl) ?_
  try dsimp only [zs0, zsI, zsP, zsN, zsJ, zsS, zst2, Nat.reduceAdd]
  refine l_codesOf d hE hm t ht0 ht mt hw hl hrow hfull (m aM f_letters).toNat 0 _ (ptM_j hm (by decide)) (by have := hl.1; omega) (zfr_uj zfr_rf (by decide)) (by rw [zu_s]; rfl) (fun x q1 q2 => by have : (((sCL (m aM f_letters).toNat (cCode (m a_c) (m a_what) (m a_pointOf)) mt) 0 0).length : Int) = 0 := rfl; omega) (fun m2 q1 q2 q3 => ⟨rfl, q1, q2, q3⟩)
