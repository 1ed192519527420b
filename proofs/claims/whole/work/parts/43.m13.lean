theorem p1024 : ∀ k, k < 6 → (1024 : Int) ^ k ≤ 1125899906842624 := by decide +kernel
theorem p1024' : ∀ k, k < 7 → (1024 : Int) ^ k ≤ 1152921504606846976 := by decide +kernel
theorem unp {f : Int → Int} {n k : Nat} (hn6 : n ≤ 6) (hr : ∀ i : Int, 0 ≤ i → i < n → 0 ≤ f i ∧ f i < 1024) (hk : k < n) : zl2i (zland (zlshr (sPk f n) (10 * ((n : Int) - 1 - k))) 1023) = f k := by
  have hb := sPk_bd hr
  have hb2 : (1024 : Int) ^ n ≤ 1152921504606846976 := p1024' n (by omega)
  have hat := sPk_at hr k hk
  obtain ⟨a, ha⟩ : ∃ a : Nat, sPk f n = (a : Int) := ⟨(sPk f n).toNat, by omega⟩
  rw [ha] at hat ⊢
  rw [show 10 * ((n : Int) - 1 - k) = ((10 * (n - 1 - k) : Nat) : Int) by omega, zlshr_N (by omega) (by omega)]
  have h2 : a / 2 ^ (10 * (n - 1 - k)) ≤ a := Nat.div_le_self _ _
  have e := zland_N (a := a / 2 ^ (10 * (n - 1 - k))) (b := 1023) (by omega)
  rw [show ((1023 : Nat) : Int) = (1023 : Int) from rfl] at e
  rw [e, show (1023 : Nat) = 2 ^ 10 - 1 from rfl, Nat.and_two_pow_sub_one_eq_mod, zl2i_N (by have := Nat.mod_lt (a / 2 ^ (10 * (n - 1 - k))) (show 0 < 2 ^ 10 by decide); omega)]
  rw [← hat, Nat.pow_mul, show (2 : Nat) ^ 10 = 1024 from rfl, Int.natCast_emod, Int.natCast_ediv, Int.natCast_pow]
  rfl
def cImg (c pl : Int → Int) (co : Int) : Int := if pl (co / 10 % 10) < pl (co / 100) ∧ (co % 10 < 6 ∧ c (4 + 3 * (co % 10) + 1) ≠ 1) then 100 * pl (co / 10 % 10) + 10 * pl (co / 100) + co % 10 else 100 * pl (co / 100) + 10 * pl (co / 10 % 10) + co % 10
theorem cImg_rg {c pl : Int → Int} {co : Int} (h : 0 ≤ co ∧ co < 800 ∧ co / 10 % 10 < 8) (hpl : ∀ x : Int, 0 ≤ x → x < 8 → 0 ≤ pl x ∧ pl x < 8) : 0 ≤ cImg c pl co ∧ cImg c pl co < 800 ∧ cImg c pl co / 10 % 10 < 8 := by
  have h1 := hpl (co / 100) (by omega) (by omega)
  have h2 := hpl (co / 10 % 10) (by omega) (by omega)
  unfold cImg
  split <;> omega
theorem pm_all {f g : Int → Int} {n : Nat} (h : pm f g n) {P : Int → Prop} (hf : ∀ i : Int, 0 ≤ i → i < n → P (f i)) : ∀ i : Int, 0 ≤ i → i < n → P (g i) := by
  intro i h0 hn
  apply Classical.byContradiction
  intro hx
  have hc := h (fun v => @decide (¬ P v) (Classical.propDecidable _))
  have e1 : pCnt (fun v => @decide (¬ P v) (Classical.propDecidable _)) f n = 0 := zsum_z (fun k q1 q2 => zb_f (by have := hf k q1 (by omega); simp [this]))
  have e2 := zsum_pos (f := fun k => zb (@decide (¬ P (g k)) (Classical.propDecidable _) = true)) (j := n) (k := 0) (x := i) (fun k _ _ => by have := zb01 (@decide (¬ P (g k)) (Classical.propDecidable _) = true); omega) h0 (by omega)
  rw [zb_t (by simp [hx])] at e2
  rw [e1] at hc
  change (0 : Int) = zsum (fun k => zb (@decide (¬ P (g k)) (Classical.propDecidable _) = true)) n 0 at hc
  omega
theorem l_packed (d : Nat) {E : zE} {m : zM} (A len : Int) (sA : E.1 A = (1, len)) (n : Nat) (hnl : (n : Int) ≤ len) (hn6 : n ≤ 6) (hr : ∀ i : Int, 0 ≤ i → i < n → 0 ≤ m A i ∧ m A i < 1024) {P : Option zV → zM → Prop} (hP : P (some (zJ (sPk (m A) n))) m) : ∀ (j k : Nat), k + j = n → zA zX12_packed d E E P 5 [zP A, zI (n : Nat), zJ (sPk (m A) k), zN, zI (k : Nat)] [] m E := by
  intro j
  induction j with
  | zero =>
    intro k hk
    refine z_iload dX12_packed_5 rfl ?_
    refine z_iload_n dX12_packed_7 rfl ?_
    refine z_icmp_ge (tgt := 28) dX12_packed_8 rfl (fun h8 => ?_) (fun h => absurd (by omega) h)
    refine z_lload_n dX12_packed_28 rfl ?_
    refine z_lret dX12_packed_29 rfl rfl ?_
    rw [show n = k by omega] at hP
    exact hP
  | succ j ih =>
    intro k hk
    have hb := sPk_bd (f := m A) (n := k) (fun i q1 q2 => hr i q1 (by omega))
    have hb2 : (1024 : Int) ^ k ≤ 1125899906842624 := p1024 k (by omega)
    have hc := hr k (by omega) (by omega)
    refine z_iload dX12_packed_5 rfl ?_
    refine z_iload_n dX12_packed_7 rfl ?_
    refine z_icmp_ge (tgt := 28) dX12_packed_8 rfl (fun h => absurd h (by omega)) (fun h8 => ?_)
    refine z_lload_n dX12_packed_11 rfl ?_
    refine z_bipush dX12_packed_12 rfl (by decide) ?_
    refine z_lshl dX12_packed_14 ?_
    refine z_aload_n dX12_packed_15 rfl ?_
    refine z_iload dX12_packed_16 rfl ?_
    refine z_iald dX12_packed_18 sA (by omega) (by omega) ?_
    refine z_i2l dX12_packed_19 ?_
    refine z_lor dX12_packed_20 ?_
    rw [zl_put hb.1 (by omega) hc.1 hc.2]
    refine z_lst 2 dX12_packed_21 rfl (Nat.le_of_ble_eq_true rfl) ?_
    refine z_inc dX12_packed_22 rfl (by omega) ?_
    refine z_goto (tgt := 5) dX12_packed_25 rfl ?_
    try dsimp only [zs0, zsI, zsP, zsN, zsJ, zsS, zst2, Nat.reduceAdd]
    rw [show (k : Int) + 1 = ((k + 1 : Nat) : Int) by omega]
    exact ih (k + 1) (by omega)

theorem r_packed (d : Nat) {E : zE} {m : zM} (A len : Int) (sA : E.1 A = (1, len)) (n : Nat) (hnl : (n : Int) ≤ len) (hn6 : n ≤ 6) (hr : ∀ i : Int, 0 ≤ i → i < n → 0 ≤ m A i ∧ m A i < 1024) : zR zX12_packed d [zP A, zI (n : Nat)] m E E (fun r m2 => r = some (zJ (sPk (m A) n)) ∧ m = m2) := by
  refine zR_go [zP A, zI (n : Nat), zN, zN, zN] (by decide +kernel) (Nat.le_of_ble_eq_true rfl) rfl rfl ?_
  refine z_lconst0 dX12_packed_0 ?_
  refine z_lst 2 dX12_packed_1 rfl (Nat.le_of_ble_eq_true rfl) ?_
  refine z_iconst dX12_packed_2 (by decide) ?_
  refine z_istore dX12_packed_3 (Nat.le_of_ble_eq_true rfl) ?_
  try dsimp only [zs0, zsI, zsP, zsN, zsJ, zsS, zst2, Nat.reduceAdd]
  refine l_packed d A len sA n hnl hn6 hr ⟨rfl, rfl⟩ n 0 (by omega)

theorem l_unpacks (d : Nat) {E : zE} {m : zM} {P : Option zV → zM → Prop} (hE : shM E) (hm : ptM m) (f : Int → Int) (n : Nat) (hn6 : n ≤ 6) (hr : ∀ i : Int, 0 ≤ i → i < n → 0 ≤ f i ∧ f i < 1024)  : ∀ (j : Nat) (k : Nat) (m1 : zM), (ptM m1) → (k + j = n) → (zfr [(a_codes, none), (aM, some f_lines)] m m1) → (m1 aM f_lines = (n : Int)) → (∀ i : Int, 0 ≤ i → i < k → m1 a_codes i = f i) → (∀ m2, zfr [(a_codes, none), (aM, some f_lines)] m m2 → m2 aM f_lines = (n : Int) → (∀ i : Int, 0 ≤ i → i < n → m2 a_codes i = f i) → P none m2) → zA zX12_unpacks (d) E E P 8 [zP aM, zJ (sPk f n), zN, zI (n : Nat), zI (k : Nat)] [] m1 E := by
  intro j
  induction j with
  | zero =>
    intro k m1 hm1 hk hf hl hq hP
    refine z_iload dX12_unpacks_8 rfl ?_
    refine z_iload_n dX12_unpacks_10 rfl ?_
    refine z_icmp_ge (tgt := 43) dX12_unpacks_11 rfl (fun h11 => ?_) (fun h => absurd (by omega) h)
    refine z_vret dX12_unpacks_43 rfl rfl ?_
    exact hP m1 hf hl (fun i q1 q2 => hq i q1 (by omega))
  | succ j ih =>
    intro k m1 hm1 hk hf hl hq hP
    refine z_iload dX12_unpacks_8 rfl ?_
    refine z_iload_n dX12_unpacks_10 rfl ?_
    refine z_icmp_ge (tgt := 43) dX12_unpacks_11 rfl (fun h => absurd h (by omega)) (fun h11 => ?_)
    refine z_aload_n dX12_unpacks_14 rfl ?_
    refine z_gP 18 rfl (r := a_codes) flX12_44 dX12_unpacks_15 (sh_M hE) rfl (pt_codes hm1) (by decide) ?_
    refine z_iload dX12_unpacks_18 rfl ?_
    refine z_lload_n dX12_unpacks_20 rfl ?_
    refine z_bipush dX12_unpacks_21 rfl (by decide) ?_
    refine z_iload_n dX12_unpacks_23 rfl ?_
    refine z_iconst dX12_unpacks_24 (by decide) ?_
    refine z_sub dX12_unpacks_25 (by omega) ?_
    refine z_iload dX12_unpacks_26 rfl ?_
    refine z_sub dX12_unpacks_28 (by omega) ?_
    refine z_mul dX12_unpacks_29 (by omega) ?_
    refine z_lshr dX12_unpacks_30 ?_
    refine z_ldc2 dX12_unpacks_31 kcX12_243 (by decide) ?_
    refine z_land dX12_unpacks_34 ?_
    refine z_l2i dX12_unpacks_35 ?_
    rw [unp hn6 hr (by omega)]
    refine z_iast dX12_unpacks_36 (sh_codes hE) (by omega) (by omega) ?_
    refine z_inc dX12_unpacks_37 rfl (by omega) ?_
    refine z_goto (tgt := 8) dX12_unpacks_40 rfl ?_
    try dsimp only [zs0, zsI, zsP, zsN, zsJ, zsS, zst2, Nat.reduceAdd]
    rw [show (k : Int) + 1 = ((k + 1 : Nat) : Int) by omega]
    exact ih (k + 1) _ (ptM_a hm1 (by decide)) (by omega) (zfr_ua hf (by decide)) (by rw [zu_a (by decide)]; exact hl) (fun i q1 q2 => by by_cases e : i = k; (rw [e, zu_s]); (rw [zu_j e]; exact hq i q1 (by omega))) hP

theorem r_unpacks (d : Nat) {E : zE} {m : zM} (hE : shM E) (hm : ptM m) (f : Int → Int) (n : Nat) (hn6 : n ≤ 6) (hr : ∀ i : Int, 0 ≤ i → i < n → 0 ≤ f i ∧ f i < 1024)  : zR zX12_unpacks (d) [zP aM, zJ (sPk f n), zI (n : Nat)] m E E (fun r m' => r = none ∧ zfr [(a_codes, none), (aM, some f_lines)] m m' ∧ m' aM f_lines = (n : Int) ∧ ∀ i : Int, 0 ≤ i → i < n → m' a_codes i = f i) := by
  refine zR_go [zP aM, zJ (sPk f n), zN, zI (n : Nat), zN] (by decide +kernel) (Nat.le_of_ble_eq_true rfl) rfl rfl ?_
  refine z_aload_n dX12_unpacks_0 rfl ?_
  refine z_iload_n dX12_unpacks_1 rfl ?_
  refine z_pI f_lines rfl (fpX12_197 _) dX12_unpacks_2 (sh_M hE) rfl ?_
  refine z_iconst dX12_unpacks_5 (by decide) ?_
  refine z_istore dX12_unpacks_6 (Nat.le_of_ble_eq_true rfl) ?_
  try dsimp only [zs0, zsI, zsP, zsN, zsJ, zsS, zst2, Nat.reduceAdd]
  refine l_unpacks d hE hm f n hn6 hr n 0 _ (ptM_j hm (by decide)) (by omega) (zfr_uj zfr_rf (by decide)) zu_s (fun i q1 q2 => by omega) (fun m2 q1 q2 q3 => ⟨rfl, q1, q2, q3⟩)

theorem l_named (d : Nat) {E : zE} {m : zM} {P : Option zV → zM → Prop} (hE : shM E) (hm : ptM m)  (hln : 0 ≤ m aM f_lines ∧ m aM f_lines ≤ 6) (hcd : ∀ k : Int, 0 ≤ k → k < m aM f_lines → 0 ≤ m a_codes k ∧ m a_codes k < 800 ∧ m a_codes k / 10 % 10 < 8) (hpl : ∀ x : Int, 0 ≤ x → x < 8 → 0 ≤ m a_places x ∧ m a_places x < 8) : ∀ (j : Nat) (k : Int) (m1 : zM), (ptM m1) → (0 ≤ k) → (k + j = m aM f_lines) → (zfr [(a_moved, none)] m m1) → (m1 aM f_lines = m aM f_lines) → (∀ x, 0 ≤ x → x < k → m1 a_moved x = (fun k => cImg (m a_c) (m a_places) (m a_codes k)) x) → (∀ m2, ptM m2 → zfr [(a_moved, none)] m m2 → (∀ x, 0 ≤ x → x < m aM f_lines → m2 a_moved x = (fun k => cImg (m a_c) (m a_places) (m a_codes k)) x) → zA zX12_named (d + 2) E E P 107 [zP aM, zN, zN, zN, zN] [] m2 E) → zA zX12_named (d + 2) E E P 2 [zP aM, zI k, zN, zN, zN] [] m1 E := by
  intro j
  induction j with
  | zero =>
    intro k m1 hm1 h0 hk hf hl hq hP
    refine z_iload_n dX12_named_2 rfl ?_
    refine z_aload_n dX12_named_3 rfl ?_
    refine z_gIv f_lines rfl flX12_197 dX12_named_4 (sh_M hE) rfl hl ?_
    refine z_icmp_ge (tgt := 107) dX12_named_7 rfl (fun h7 => ?_) (fun h => absurd (by omega) h)
    refine zA_wk [_, zN, zN, zN, zN] (by exact ⟨Or.inr rfl, Or.inl rfl, Or.inl rfl, Or.inl rfl, Or.inl rfl, trivial⟩) ?_
    exact hP m1 hm1 hf (fun x q1 q2 => hq x q1 (by omega))
  | succ j ih =>
    intro k m1 hm1 h0 hk hf hl hq hP
    refine z_iload_n dX12_named_2 rfl ?_
    refine z_aload_n dX12_named_3 rfl ?_
    refine z_gIv f_lines rfl flX12_197 dX12_named_4 (sh_M hE) rfl hl ?_
    refine z_icmp_ge (tgt := 107) dX12_named_7 rfl (fun h => absurd h (by omega)) (fun h7 => ?_)
    refine z_aload_n dX12_named_10 rfl ?_
    refine z_gP 20 rfl (r := a_places) flX12_50 dX12_named_11 (sh_M hE) rfl (pt_places hm1) (by decide) ?_
    refine z_aload_n dX12_named_14 rfl ?_
    refine z_gP 18 rfl (r := a_codes) flX12_44 dX12_named_15 (sh_M hE) rfl (pt_codes hm1) (by decide) ?_
    refine z_iload_n dX12_named_18 rfl ?_
    refine z_ialv dX12_named_19 (sh_codes hE) (by have := hcd k h0 (by omega); omega) (by have := hcd k h0 (by omega); omega) (congrFun (zfr_cell hf (by decide)) _) ?_
    refine z_bipush dX12_named_20 rfl (by decide) ?_
    refine z_div dX12_named_22 (by have := hcd k h0 (by omega); omega) (by omega) ?_
    refine z_ialv dX12_named_23 (sh_places hE) (by have := hcd k h0 (by omega); omega) (by have := hcd k h0 (by omega); omega) (congrFun (zfr_cell hf (by decide)) _) ?_
    refine z_ist 2 dX12_named_24 rfl (Nat.le_of_ble_eq_true rfl) ?_
    refine z_aload_n dX12_named_25 rfl ?_
    refine z_gP 20 rfl (r := a_places) flX12_50 dX12_named_26 (sh_M hE) rfl (pt_places hm1) (by decide) ?_
    refine z_aload_n dX12_named_29 rfl ?_
    refine z_gP 18 rfl (r := a_codes) flX12_44 dX12_named_30 (sh_M hE) rfl (pt_codes hm1) (by decide) ?_
    refine z_iload_n dX12_named_33 rfl ?_
    refine z_ialv dX12_named_34 (sh_codes hE) (by have := hcd k h0 (by omega); omega) (by have := hcd k h0 (by omega); omega) (congrFun (zfr_cell hf (by decide)) _) ?_
    refine z_bipush dX12_named_35 rfl (by decide) ?_
    refine z_div dX12_named_37 (by have := hcd k h0 (by omega); omega) (by omega) ?_
    refine z_bipush dX12_named_38 rfl (by decide) ?_
    refine z_rem dX12_named_40 (by have := hcd k h0 (by omega); omega) (by omega) ?_
    refine z_ialv dX12_named_41 (sh_places hE) (by have := hcd k h0 (by omega); omega) (by have := hcd k h0 (by omega); omega) (congrFun (zfr_cell hf (by decide)) _) ?_
    refine z_ist 3 dX12_named_42 rfl (Nat.le_of_ble_eq_true rfl) ?_
    refine z_aload_n dX12_named_43 rfl ?_
    refine z_gP 18 rfl (r := a_codes) flX12_44 dX12_named_44 (sh_M hE) rfl (pt_codes hm1) (by decide) ?_
    refine z_iload_n dX12_named_47 rfl ?_
    refine z_ialv dX12_named_48 (sh_codes hE) (by have := hcd k h0 (by omega); omega) (by have := hcd k h0 (by omega); omega) (congrFun (zfr_cell hf (by decide)) _) ?_
    refine z_bipush dX12_named_49 rfl (by decide) ?_
    refine z_rem dX12_named_51 (by have := hcd k h0 (by omega); omega) (by omega) ?_
    refine z_istore dX12_named_52 (Nat.le_of_ble_eq_true rfl) ?_
    refine z_aload_n dX12_named_54 rfl ?_
    refine z_gP 19 rfl (r := a_moved) flX12_47 dX12_named_55 (sh_M hE) rfl (pt_moved hm1) (by decide) ?_
    refine z_iload_n dX12_named_58 rfl ?_
    refine z_iload_n dX12_named_59 rfl ?_
    refine z_iload_n dX12_named_60 rfl ?_
    try dsimp only [zs0, zsI, zsP, zsN, zsJ, zsS, zst2, Nat.reduceAdd]
    refine z_icmp_le (tgt := 88) dX12_named_61 rfl (fun h61 => ?_) (fun h61 => ?_)
    · refine z_bipush dX12_named_88 rfl (by decide) ?_
      refine z_iload_n dX12_named_90 rfl ?_
      refine z_mul dX12_named_91 (by have h1 := hcd k h0 (by omega); have h2 := hpl (m a_codes k / 100) (by omega) (by omega); have h3 := hpl (m a_codes k / 10 % 10) (by omega) (by omega); omega) ?_
      refine z_bipush dX12_named_92 rfl (by decide) ?_
      refine z_iload_n dX12_named_94 rfl ?_
      refine z_mul dX12_named_95 (by have h1 := hcd k h0 (by omega); have h2 := hpl (m a_codes k / 100) (by omega) (by omega); have h3 := hpl (m a_codes k / 10 % 10) (by omega) (by omega); omega) ?_
      refine z_add dX12_named_96 (by have h1 := hcd k h0 (by omega); have h2 := hpl (m a_codes k / 100) (by omega) (by omega); have h3 := hpl (m a_codes k / 10 % 10) (by omega) (by omega); omega) ?_
      refine z_iload dX12_named_97 rfl ?_
      refine z_add dX12_named_99 (by have h1 := hcd k h0 (by omega); have h2 := hpl (m a_codes k / 100) (by omega) (by omega); have h3 := hpl (m a_codes k / 10 % 10) (by omega) (by omega); omega) ?_
      refine z_iast dX12_named_100 (sh_moved hE) (by have h1 := hcd k h0 (by omega); have h2 := hpl (m a_codes k / 100) (by omega) (by omega); have h3 := hpl (m a_codes k / 10 % 10) (by omega) (by omega); omega) (by have h1 := hcd k h0 (by omega); have h2 := hpl (m a_codes k / 100) (by omega) (by omega); have h3 := hpl (m a_codes k / 10 % 10) (by omega) (by omega); omega) ?_
      refine z_inc dX12_named_101 rfl (by have h1 := hcd k h0 (by omega); have h2 := hpl (m a_codes k / 100) (by omega) (by omega); have h3 := hpl (m a_codes k / 10 % 10) (by omega) (by omega); omega) ?_
      refine z_goto (tgt := 2) dX12_named_104 rfl ?_
      try dsimp only [zs0, zsI, zsP, zsN, zsJ, zsS, zst2, Nat.reduceAdd]
      refine zA_wk [_, _, zN, zN, zN] (by exact ⟨Or.inr rfl, Or.inr rfl, Or.inl rfl, Or.inl rfl, Or.inl rfl, trivial⟩) ?_
      refine ih (k + 1) _ (ptM_a hm1 (by decide)) (by omega) (by omega) (zfr_ua hf (by decide)) (by rw [zu_a (by decide)]; exact hl) (fun x q1 q2 => ?_) hP
      by_cases e : x = k
      · rw [e, zu_s]
        simp only [cImg]
        rw [if_neg (by omega)]
      · rw [zu_j e]; exact hq x q1 (by omega)
    · refine z_aload_n dX12_named_64 rfl ?_
      refine z_iload dX12_named_65 rfl ?_
      refine z_callV mlX12_206 dX12_named_67 (sh_M hE) (av := [_]) rfl rfl (Nat.le_of_ble_eq_true rfl) (r_isRealSort _ hE hm1 _ (by have := hcd k h0 (by omega); omega) (by have := hcd k h0 (by omega); omega)) (Nat.le_refl _) (Nat.le_refl _) (Nat.le_refl _) (Nat.le_refl _) ?_
      rw [congrFun (zfr_cell (a := a_c) hf (by decide)) _]
      rintro _ _ ⟨rfl, rfl⟩
      refine z_ifz_eq (tgt := 88) dX12_named_70 rfl (fun h70 => ?_) (fun h70 => ?_)
      · refine z_bipush dX12_named_88 rfl (by decide) ?_
        refine z_iload_n dX12_named_90 rfl ?_
        refine z_mul dX12_named_91 (by have h1 := hcd k h0 (by omega); have h2 := hpl (m a_codes k / 100) (by omega) (by omega); have h3 := hpl (m a_codes k / 10 % 10) (by omega) (by omega); omega) ?_
        refine z_bipush dX12_named_92 rfl (by decide) ?_
        refine z_iload_n dX12_named_94 rfl ?_
        refine z_mul dX12_named_95 (by have h1 := hcd k h0 (by omega); have h2 := hpl (m a_codes k / 100) (by omega) (by omega); have h3 := hpl (m a_codes k / 10 % 10) (by omega) (by omega); omega) ?_
        refine z_add dX12_named_96 (by have h1 := hcd k h0 (by omega); have h2 := hpl (m a_codes k / 100) (by omega) (by omega); have h3 := hpl (m a_codes k / 10 % 10) (by omega) (by omega); omega) ?_
        refine z_iload dX12_named_97 rfl ?_
        refine z_add dX12_named_99 (by have h1 := hcd k h0 (by omega); have h2 := hpl (m a_codes k / 100) (by omega) (by omega); have h3 := hpl (m a_codes k / 10 % 10) (by omega) (by omega); omega) ?_
        refine z_iast dX12_named_100 (sh_moved hE) (by have h1 := hcd k h0 (by omega); have h2 := hpl (m a_codes k / 100) (by omega) (by omega); have h3 := hpl (m a_codes k / 10 % 10) (by omega) (by omega); omega) (by have h1 := hcd k h0 (by omega); have h2 := hpl (m a_codes k / 100) (by omega) (by omega); have h3 := hpl (m a_codes k / 10 % 10) (by omega) (by omega); omega) ?_
        refine z_inc dX12_named_101 rfl (by have h1 := hcd k h0 (by omega); have h2 := hpl (m a_codes k / 100) (by omega) (by omega); have h3 := hpl (m a_codes k / 10 % 10) (by omega) (by omega); omega) ?_
        refine z_goto (tgt := 2) dX12_named_104 rfl ?_
        try dsimp only [zs0, zsI, zsP, zsN, zsJ, zsS, zst2, Nat.reduceAdd]
        refine zA_wk [_, _, zN, zN, zN] (by exact ⟨Or.inr rfl, Or.inr rfl, Or.inl rfl, Or.inl rfl, Or.inl rfl, trivial⟩) ?_
        refine ih (k + 1) _ (ptM_a hm1 (by decide)) (by omega) (by omega) (zfr_ua hf (by decide)) (by rw [zu_a (by decide)]; exact hl) (fun x q1 q2 => ?_) hP
        by_cases e : x = k
        · rw [e, zu_s]
          simp only [cImg]
          rw [if_neg (by omega)]
        · rw [zu_j e]; exact hq x q1 (by omega)
      · refine z_bipush dX12_named_73 rfl (by decide) ?_
        refine z_iload_n dX12_named_75 rfl ?_
        refine z_mul dX12_named_76 (by have h1 := hcd k h0 (by omega); have h2 := hpl (m a_codes k / 100) (by omega) (by omega); have h3 := hpl (m a_codes k / 10 % 10) (by omega) (by omega); omega) ?_
        refine z_bipush dX12_named_77 rfl (by decide) ?_
        refine z_iload_n dX12_named_79 rfl ?_
        refine z_mul dX12_named_80 (by have h1 := hcd k h0 (by omega); have h2 := hpl (m a_codes k / 100) (by omega) (by omega); have h3 := hpl (m a_codes k / 10 % 10) (by omega) (by omega); omega) ?_
        refine z_add dX12_named_81 (by have h1 := hcd k h0 (by omega); have h2 := hpl (m a_codes k / 100) (by omega) (by omega); have h3 := hpl (m a_codes k / 10 % 10) (by omega) (by omega); omega) ?_
        refine z_iload dX12_named_82 rfl ?_
        refine z_add dX12_named_84 (by have h1 := hcd k h0 (by omega); have h2 := hpl (m a_codes k / 100) (by omega) (by omega); have h3 := hpl (m a_codes k / 10 % 10) (by omega) (by omega); omega) ?_
        refine z_goto (tgt := 100) dX12_named_85 rfl ?_
        refine z_iast dX12_named_100 (sh_moved hE) (by have h1 := hcd k h0 (by omega); have h2 := hpl (m a_codes k / 100) (by omega) (by omega); have h3 := hpl (m a_codes k / 10 % 10) (by omega) (by omega); omega) (by have h1 := hcd k h0 (by omega); have h2 := hpl (m a_codes k / 100) (by omega) (by omega); have h3 := hpl (m a_codes k / 10 % 10) (by omega) (by omega); omega) ?_
        refine z_inc dX12_named_101 rfl (by have h1 := hcd k h0 (by omega); have h2 := hpl (m a_codes k / 100) (by omega) (by omega); have h3 := hpl (m a_codes k / 10 % 10) (by omega) (by omega); omega) ?_
        refine z_goto (tgt := 2) dX12_named_104 rfl ?_
        try dsimp only [zs0, zsI, zsP, zsN, zsJ, zsS, zst2, Nat.reduceAdd]
        refine zA_wk [_, _, zN, zN, zN] (by exact ⟨Or.inr rfl, Or.inr rfl, Or.inl rfl, Or.inl rfl, Or.inl rfl, trivial⟩) ?_
        refine ih (k + 1) _ (ptM_a hm1 (by decide)) (by omega) (by omega) (zfr_ua hf (by decide)) (by rw [zu_a (by decide)]; exact hl) (fun x q1 q2 => ?_) hP
        by_cases e : x = k
        · rw [e, zu_s]
          simp only [cImg]
          rw [if_pos (by omega)]
        · rw [zu_j e]; exact hq x q1 (by omega)

theorem r_named (d : Nat) {E : zE} {m : zM} (hE : shM E) (hm : ptM m)  (hln : 0 ≤ m aM f_lines ∧ m aM f_lines ≤ 6) (hcd : ∀ k : Int, 0 ≤ k → k < m aM f_lines → 0 ≤ m a_codes k ∧ m a_codes k < 800 ∧ m a_codes k / 10 % 10 < 8) (hpl : ∀ x : Int, 0 ≤ x → x < 8 → 0 ≤ m a_places x ∧ m a_places x < 8) : zR zX12_named (d + 2) [zP aM] m E E (fun r m' => r = some (zJ (sKey (fun k => cImg (m a_c) (m a_places) (m a_codes k)) (m aM f_lines).toNat)) ∧ zfr [(a_moved, none)] m m') := by
  refine zR_go [zP aM, zN, zN, zN, zN] (by decide +kernel) (Nat.le_of_ble_eq_true rfl) rfl rfl ?_
  refine z_iconst dX12_named_0 (by decide) ?_
  refine z_ist 1 dX12_named_1 rfl (Nat.le_of_ble_eq_true rfl) ?_
  try dsimp only [zs0, zsI, zsP, zsN, zsJ, zsS, zst2, Nat.reduceAdd]
  have hL : m aM f_lines = (((m aM f_lines).toNat : Nat) : Int) := by omega
  refine l_named d hE hm hln hcd hpl (m aM f_lines).toNat 0 m hm (by omega) (by omega) zfr_rf rfl (fun x q1 q2 => by omega) (fun m2 hm2 hf2 hr2 => ?_)
  refine z_aload_n dX12_named_107 rfl ?_
  refine z_gP 19 rfl (r := a_moved) flX12_47 dX12_named_108 (sh_M hE) rfl (pt_moved hm2) (by decide) ?_
  refine z_aload_n dX12_named_111 rfl ?_
  refine z_gIv f_lines rfl flX12_197 dX12_named_112 (sh_M hE) rfl ((zfr_at hf2 (by decide)).trans hL) ?_
  refine z_callS mlX12_209 dX12_named_115 (av := [_, _]) rfl rfl (Nat.le_of_ble_eq_true rfl) (r_sorts _ a_moved 6 (sh_moved hE) (m aM f_lines).toNat (by omega) (by omega)) (Nat.le_refl _) (Nat.le_refl _) (Nat.le_refl _) (Nat.le_refl _) ?_
  rintro _ m3 ⟨rfl, p1, p2, p3, p4⟩
  have hm3 : ptM m3 := ptM_of hm2 (fun j => congrFun (zfr_cell p1 (by decide)) j)
  have hrg : ∀ i : Int, 0 ≤ i → i < (m aM f_lines).toNat → 0 ≤ m3 a_moved i ∧ m3 a_moved i < 1024 := pm_all (P := fun v => 0 ≤ v ∧ v < 1024) (pm_sy p3) (fun i q1 q2 => by rw [hr2 i q1 (by omega)]; have := cImg_rg (c := m a_c) (pl := m a_places) (co := m a_codes i) (hcd i q1 (by omega)) hpl; dsimp only; omega)
  refine z_aload_n dX12_named_118 rfl ?_
  refine z_gP 19 rfl (r := a_moved) flX12_47 dX12_named_119 (sh_M hE) rfl (pt_moved hm3) (by decide) ?_
  refine z_aload_n dX12_named_122 rfl ?_
  refine z_gIv f_lines rfl flX12_197 dX12_named_123 (sh_M hE) rfl ((zfr_at p1 (by decide)).trans ((zfr_at hf2 (by decide)).trans hL)) ?_
  refine z_callS mlX12_213 dX12_named_126 (av := [_, _]) rfl rfl (Nat.le_of_ble_eq_true rfl) (r_packed _ a_moved 6 (sh_moved hE) (m aM f_lines).toNat (by omega) (by omega) hrg) (Nat.le_refl _) (Nat.le_refl _) (Nat.le_refl _) (Nat.le_refl _) ?_
  rintro _ _ ⟨rfl, rfl⟩
  refine z_lret dX12_named_129 rfl rfl ?_
  refine ⟨?_, zfr_tr hf2 p1⟩
  rw [sKey_eq p4 (pm_tr p3 (pm_eq (fun i q1 q2 => hr2 i q1 (by omega))))]
