def sHoles (n r : Int) : Int := if n = 0 then 0 else zdiv (n / 2 + 1 - r) 2
def cCodeOk (c : Int → Int) (co : Int) : Bool := decide (0 ≤ co ∧ co / 100 ≤ c 2 - 1 ∧ co / 10 % 10 ≤ c 2 - 1 ∧ (if 6 ≤ co % 10 then co % 10 - 6 < c 1 else co % 10 < c 0 ∧ (c (4 + 3 * (co % 10) + 1) = 1 ∨ co / 100 ≤ co / 10 % 10)))
def sFac : Nat → Nat
  | 0 => 1
  | n + 1 => (n + 1) * sFac n
theorem sFac_le {n : Nat} (h : n ≤ 12) : sFac n ≤ 479001600 := by
  have : ∀ n, n < 13 → sFac n ≤ 479001600 := by decide +kernel
  exact this n (by omega)
theorem sFac_pos : ∀ n, 0 < sFac n
  | 0 => by simp [sFac]
  | n + 1 => Nat.mul_pos (by omega) (sFac_pos n)
theorem r_holesOf (d : Nat) {E : zE} {m : zM} (hE : shM E) (hm : ptM m) (k : Int) (hn0 : 0 ≤ m aM f_letters ∧ m aM f_letters ≤ 12) (h0 : 0 ≤ k) (h1 : k < 10395) (hr : 0 ≤ m a_rounds k ∧ m a_rounds k ≤ 12) : zR zX12_holesOf (d) [zP aM, zI k] m E E (fun r m' => r = some (zI (sHoles (m aM f_letters) (m a_rounds k))) ∧ m = m') := by
  refine zR_go [zP aM, zI k] (by decide +kernel) (Nat.le_of_ble_eq_true rfl) rfl rfl ?_
  refine z_aload_n dX12_holesOf_0 rfl ?_
  refine z_gI f_letters rfl flX12_124 dX12_holesOf_1 (sh_M hE) rfl ?_
  refine z_if_ne (tgt := 11) dX12_holesOf_4 rfl (fun h4 => ?_) (fun h4 => ?_)
  · refine z_aload_n dX12_holesOf_11 rfl ?_
    refine z_gI f_letters rfl flX12_124 dX12_holesOf_12 (sh_M hE) rfl ?_
    refine z_iconst dX12_holesOf_15 (by decide) ?_
    refine z_div dX12_holesOf_16 (by omega) (by omega) ?_
    refine z_iconst dX12_holesOf_17 (by decide) ?_
    refine z_add dX12_holesOf_18 (by omega) ?_
    refine z_aload_n dX12_holesOf_19 rfl ?_
    refine z_gP 10 rfl (r := a_rounds) flX12_35 dX12_holesOf_20 (sh_M hE) rfl (pt_rounds hm) (by decide) ?_
    refine z_iload_n dX12_holesOf_23 rfl ?_
    refine z_iald dX12_holesOf_24 (sh_rounds hE) (by omega) (by omega) ?_
    refine z_sub dX12_holesOf_25 (by omega) ?_
    refine z_iconst dX12_holesOf_26 (by decide) ?_
    refine z_idiv dX12_holesOf_27 (by omega) ?_
    refine z_iret dX12_holesOf_28 rfl rfl ?_
    exact ⟨by rw [sHoles, if_neg (by omega)], rfl⟩
  · refine z_iconst dX12_holesOf_7 (by decide) ?_
    refine z_goto (tgt := 28) dX12_holesOf_8 rfl ?_
    refine z_iret dX12_holesOf_28 rfl rfl ?_
    exact ⟨by rw [sHoles, if_pos (by omega)], rfl⟩

theorem r_isSuch (d : Nat) {E : zE} {m : zM} (hE : shM E) (hm : ptM m) (k wh nu : Int) (hn0 : 0 ≤ m aM f_letters ∧ m aM f_letters ≤ 12) (h0 : 0 ≤ k) (hk1 : k < 10395) (hr : 0 ≤ m a_rounds k ∧ m a_rounds k ≤ 12) : zR zX12_isSuch (d + 1) [zP aM, zI k, zI wh, zI nu] m E E (fun r m' => r = some (zI (zb ((if wh = 0 then m a_crossings k else sHoles (m aM f_letters) (m a_rounds k)) = nu))) ∧ m = m') := by
  refine zR_go [zP aM, zI k, zI wh, zI nu] (by decide +kernel) (Nat.le_of_ble_eq_true rfl) rfl rfl ?_
  refine z_iload_n dX12_isSuch_0 rfl ?_
  refine z_if_ne (tgt := 13) dX12_isSuch_1 rfl (fun h1 => ?_) (fun h1 => ?_)
  · refine z_aload_n dX12_isSuch_13 rfl ?_
    refine z_iload_n dX12_isSuch_14 rfl ?_
    refine z_callV mlX12_362 dX12_isSuch_15 (sh_M hE) (av := [_]) rfl rfl (Nat.le_of_ble_eq_true rfl) (r_holesOf _ hE hm k hn0 h0 hk1 hr) (Nat.le_refl _) (Nat.le_refl _) (Nat.le_refl _) (Nat.le_refl _) ?_
    rintro _ _ ⟨rfl, rfl⟩
    refine z_iload_n dX12_isSuch_18 rfl ?_
    refine z_icmp_ne (tgt := 26) dX12_isSuch_19 rfl (fun h19 => ?_) (fun h19 => ?_)
    · refine z_iconst dX12_isSuch_26 (by decide) ?_
      refine z_zret dX12_isSuch_27 rfl (by first | omega | exact zb01 _) rfl ?_
      exact ⟨by rw [if_neg (by omega), zb_f (by omega)], rfl⟩
    · refine z_iconst dX12_isSuch_22 (by decide) ?_
      refine z_goto (tgt := 27) dX12_isSuch_23 rfl ?_
      refine z_zret dX12_isSuch_27 rfl (by first | omega | exact zb01 _) rfl ?_
      exact ⟨by rw [if_neg (by omega), zb_t (by omega)], rfl⟩
  · refine z_aload_n dX12_isSuch_4 rfl ?_
    refine z_gP 9 rfl (r := a_crossings) flX12_32 dX12_isSuch_5 (sh_M hE) rfl (pt_crossings hm) (by decide) ?_
    refine z_iload_n dX12_isSuch_8 rfl ?_
    refine z_iald dX12_isSuch_9 (sh_crossings hE) (by omega) (by omega) ?_
    refine z_goto (tgt := 18) dX12_isSuch_10 rfl ?_
    refine z_iload_n dX12_isSuch_18 rfl ?_
    refine z_icmp_ne (tgt := 26) dX12_isSuch_19 rfl (fun h19 => ?_) (fun h19 => ?_)
    · refine z_iconst dX12_isSuch_26 (by decide) ?_
      refine z_zret dX12_isSuch_27 rfl (by first | omega | exact zb01 _) rfl ?_
      exact ⟨by rw [if_pos (by omega), zb_f (by omega)], rfl⟩
    · refine z_iconst dX12_isSuch_22 (by decide) ?_
      refine z_goto (tgt := 27) dX12_isSuch_23 rfl ?_
      refine z_zret dX12_isSuch_27 rfl (by first | omega | exact zb01 _) rfl ?_
      exact ⟨by rw [if_pos (by omega), zb_t (by omega)], rfl⟩

theorem r_isCode (d : Nat) {E : zE} {m : zM} (hE : shM E) (hm : ptM m) (co : Int) (hw : wfC (m a_c)) : zR zX12_isCode (d + 2) [zP aM, zI co] m E E (fun r m' => r = some (zI (zb (cCodeOk (m a_c) co = true))) ∧ m = m') := by
  refine zR_go [zP aM, zI co, zN] (by decide +kernel) (Nat.le_of_ble_eq_true rfl) rfl rfl ?_
  have b1 := hw.1
  have b2 := hw.2.1
  have b3 := hw.2.2.1
  refine z_iload_n dX12_isCode_0 rfl ?_
  refine z_if_lt (tgt := 29) dX12_isCode_1 rfl (fun h1 => ?_) (fun h1 => ?_)
  · refine z_iconst dX12_isCode_29 (by decide) ?_
    refine z_zret dX12_isCode_30 rfl (by first | omega | exact zb01 _) rfl ?_
    exact ⟨by rw [zb_f (by simp only [cCodeOk, decide_eq_true_eq]; (try split) <;> omega)], rfl⟩
  · refine z_aload_n dX12_isCode_4 rfl ?_
    refine z_iload_n dX12_isCode_5 rfl ?_
    refine z_bipush dX12_isCode_6 rfl (by decide) ?_
    refine z_div dX12_isCode_8 (by omega) (by omega) ?_
    refine z_callV mlX12_332 dX12_isCode_9 (sh_M hE) (av := [_]) rfl rfl (Nat.le_of_ble_eq_true rfl) (r_isPoint _ hE hm _ hw) (Nat.le_refl _) (Nat.le_refl _) (Nat.le_refl _) (Nat.le_refl _) ?_
    rintro _ _ ⟨rfl, rfl⟩
    refine z_ifz_eq (tgt := 29) dX12_isCode_12 rfl (fun h12 => ?_) (fun h12 => ?_)
    · refine z_iconst dX12_isCode_29 (by decide) ?_
      refine z_zret dX12_isCode_30 rfl (by first | omega | exact zb01 _) rfl ?_
      exact ⟨by rw [zb_f (by simp only [cCodeOk, decide_eq_true_eq]; (try split) <;> omega)], rfl⟩
    · refine z_aload_n dX12_isCode_15 rfl ?_
      refine z_iload_n dX12_isCode_16 rfl ?_
      refine z_bipush dX12_isCode_17 rfl (by decide) ?_
      refine z_div dX12_isCode_19 (by omega) (by omega) ?_
      refine z_bipush dX12_isCode_20 rfl (by decide) ?_
      refine z_rem dX12_isCode_22 (by omega) (by omega) ?_
      refine z_callV mlX12_332 dX12_isCode_23 (sh_M hE) (av := [_]) rfl rfl (Nat.le_of_ble_eq_true rfl) (r_isPoint _ hE hm _ hw) (Nat.le_refl _) (Nat.le_refl _) (Nat.le_refl _) (Nat.le_refl _) ?_
      rintro _ _ ⟨rfl, rfl⟩
      refine z_ifz_ne (tgt := 31) dX12_isCode_26 rfl (fun h26 => ?_) (fun h26 => ?_)
      · refine z_iload_n dX12_isCode_31 rfl ?_
        refine z_bipush dX12_isCode_32 rfl (by decide) ?_
        refine z_rem dX12_isCode_34 (by omega) (by omega) ?_
        refine z_ist 2 dX12_isCode_35 rfl (Nat.le_of_ble_eq_true rfl) ?_
        refine z_iload_n dX12_isCode_36 rfl ?_
        refine z_bipush dX12_isCode_37 rfl (by decide) ?_
        try dsimp only [zs0, zsI, zsP, zsN, zsJ, zsS, zst2, Nat.reduceAdd]
        refine z_icmp_lt (tgt := 61) dX12_isCode_39 rfl (fun h39 => ?_) (fun h39 => ?_)
        · refine z_iload_n dX12_isCode_61 rfl ?_
          refine z_aload_n dX12_isCode_62 rfl ?_
          refine z_gP 0 rfl (r := a_c) flX12_7 dX12_isCode_63 (sh_M hE) rfl (pt_c hm) (by decide) ?_
          refine z_iconst dX12_isCode_66 (by decide) ?_
          refine z_iald dX12_isCode_67 (sh_c hE) (by omega) (by omega) ?_
          refine z_icmp_ge (tgt := 97) dX12_isCode_68 rfl (fun h68 => ?_) (fun h68 => ?_)
          · refine z_iconst dX12_isCode_97 (by decide) ?_
            refine z_zret dX12_isCode_98 rfl (by first | omega | exact zb01 _) rfl ?_
            exact ⟨by rw [zb_f (by simp only [cCodeOk, decide_eq_true_eq]; (try split) <;> omega)], rfl⟩
          · refine z_aload_n dX12_isCode_71 rfl ?_
            refine z_iload_n dX12_isCode_72 rfl ?_
            refine z_callV mlX12_148 dX12_isCode_73 (sh_M hE) (av := [_]) rfl rfl (Nat.le_of_ble_eq_true rfl) (r_isPair _ hE hm _ (by omega) (by omega)) (Nat.le_refl _) (Nat.le_refl _) (Nat.le_refl _) (Nat.le_refl _) ?_
            rintro _ _ ⟨rfl, rfl⟩
            refine z_ifz_ne (tgt := 93) dX12_isCode_76 rfl (fun h76 => ?_) (fun h76 => ?_)
            · refine z_iconst dX12_isCode_93 (by decide) ?_
              refine z_goto (tgt := 98) dX12_isCode_94 rfl ?_
              refine z_zret dX12_isCode_98 rfl (by first | omega | exact zb01 _) rfl ?_
              exact ⟨by rw [zb_t (by simp only [cCodeOk, decide_eq_true_eq]; (try split) <;> omega)], rfl⟩
            · refine z_iload_n dX12_isCode_79 rfl ?_
              refine z_bipush dX12_isCode_80 rfl (by decide) ?_
              refine z_div dX12_isCode_82 (by omega) (by omega) ?_
              refine z_iload_n dX12_isCode_83 rfl ?_
              refine z_bipush dX12_isCode_84 rfl (by decide) ?_
              refine z_div dX12_isCode_86 (by omega) (by omega) ?_
              refine z_bipush dX12_isCode_87 rfl (by decide) ?_
              refine z_rem dX12_isCode_89 (by omega) (by omega) ?_
              refine z_icmp_gt (tgt := 97) dX12_isCode_90 rfl (fun h90 => ?_) (fun h90 => ?_)
              · refine z_iconst dX12_isCode_97 (by decide) ?_
                refine z_zret dX12_isCode_98 rfl (by first | omega | exact zb01 _) rfl ?_
                exact ⟨by rw [zb_f (by simp only [cCodeOk, decide_eq_true_eq]; (try split) <;> omega)], rfl⟩
              · refine z_iconst dX12_isCode_93 (by decide) ?_
                refine z_goto (tgt := 98) dX12_isCode_94 rfl ?_
                refine z_zret dX12_isCode_98 rfl (by first | omega | exact zb01 _) rfl ?_
                exact ⟨by rw [zb_t (by simp only [cCodeOk, decide_eq_true_eq]; (try split) <;> omega)], rfl⟩
        · refine z_iload_n dX12_isCode_42 rfl ?_
          refine z_bipush dX12_isCode_43 rfl (by decide) ?_
          refine z_sub dX12_isCode_45 (by omega) ?_
          refine z_aload_n dX12_isCode_46 rfl ?_
          refine z_gP 0 rfl (r := a_c) flX12_7 dX12_isCode_47 (sh_M hE) rfl (pt_c hm) (by decide) ?_
          refine z_iconst dX12_isCode_50 (by decide) ?_
          refine z_iald dX12_isCode_51 (sh_c hE) (by omega) (by omega) ?_
          refine z_icmp_ge (tgt := 59) dX12_isCode_52 rfl (fun h52 => ?_) (fun h52 => ?_)
          · refine z_iconst dX12_isCode_59 (by decide) ?_
            refine z_zret dX12_isCode_60 rfl (by first | omega | exact zb01 _) rfl ?_
            exact ⟨by rw [zb_f (by simp only [cCodeOk, decide_eq_true_eq]; (try split) <;> omega)], rfl⟩
          · refine z_iconst dX12_isCode_55 (by decide) ?_
            refine z_goto (tgt := 60) dX12_isCode_56 rfl ?_
            refine z_zret dX12_isCode_60 rfl (by first | omega | exact zb01 _) rfl ?_
            exact ⟨by rw [zb_t (by simp only [cCodeOk, decide_eq_true_eq]; (try split) <;> omega)], rfl⟩
      · refine z_iconst dX12_isCode_29 (by decide) ?_
        refine z_zret dX12_isCode_30 rfl (by first | omega | exact zb01 _) rfl ?_
        exact ⟨by rw [zb_f (by simp only [cCodeOk, decide_eq_true_eq]; (try split) <;> omega)], rfl⟩

theorem l_orders (d : Nat) {E : zE} {m : zM} {P : Option zV → zM → Prop} (n : Int) (hn : n ≤ 12) : ∀ (j k : Nat), 1 ≤ k → (k : Int) + j = (if n < 1 then 1 else n) → P (some (zJ (sFac (k + j) : Nat))) m → zA zX12_orders d E E P 4 [zI n, zJ (sFac k : Nat), zN, zI ((k : Int) + 1)] [] m E := by
  intro j
  induction j with
  | zero =>
    intro k h1 hk hP
    refine z_iload_n dX12_orders_4 rfl ?_
    refine z_iload_n dX12_orders_5 rfl ?_
    refine z_icmp_gt (tgt := 20) dX12_orders_6 rfl (fun h6 => ?_) (fun h => absurd (by split at hk <;> omega) h)
    refine z_lload_n dX12_orders_20 rfl ?_
    refine z_lret dX12_orders_21 rfl rfl ?_
    exact hP
  | succ j ih =>
    intro k h1 hk hP
    have hk2 : (k : Int) + 1 ≤ n := by split at hk <;> omega
    have hf := sFac_le (n := k) (by omega)
    have hf0 := sFac_pos k
    refine z_iload_n dX12_orders_4 rfl ?_
    refine z_iload_n dX12_orders_5 rfl ?_
    refine z_icmp_gt (tgt := 20) dX12_orders_6 rfl (fun h => absurd h (by omega)) (fun h6 => ?_)
    refine z_lload_n dX12_orders_9 rfl ?_
    refine z_iload_n dX12_orders_10 rfl ?_
    refine z_i2l dX12_orders_11 ?_
    refine z_lmul' dX12_orders_12 (by rw [show (sFac k : Int) * ((k : Int) + 1) = ((sFac (k + 1) : Nat) : Int) by simp [sFac, Int.mul_comm]]; have := sFac_le (n := k + 1) (by omega); omega) ?_
    rw [show (sFac k : Int) * ((k : Int) + 1) = ((sFac (k + 1) : Nat) : Int) by simp [sFac, Int.mul_comm]]
    refine z_lst 1 dX12_orders_13 rfl (Nat.le_of_ble_eq_true rfl) ?_
    refine z_inc dX12_orders_14 rfl (by omega) ?_
    refine z_goto (tgt := 4) dX12_orders_17 rfl ?_
    try dsimp only [zs0, zsI, zsP, zsN, zsJ, zsS, zst2, Nat.reduceAdd]
    rw [show (k : Int) + 1 + 1 = ((k + 1 : Nat) : Int) + 1 by omega]
    exact ih (k + 1) (by omega) (by omega) (by rw [show k + 1 + j = k + (j + 1) by omega]; exact hP)
theorem r_orders (d : Nat) {E : zE} {m : zM} (n : Int) (hn : n ≤ 12) : zR zX12_orders d [zI n] m E E (fun r m' => r = some (zJ (sFac (if n < 1 then 1 else n).toNat : Nat)) ∧ m = m') := by
  refine zR_go [zI n, zN, zN, zN] (by decide +kernel) (Nat.le_of_ble_eq_true rfl) rfl rfl ?_
  refine z_lconst1 dX12_orders_0 ?_
  refine z_lst 1 dX12_orders_1 rfl (Nat.le_of_ble_eq_true rfl) ?_
  refine z_iconst dX12_orders_2 (by decide) ?_
  refine z_ist 3 dX12_orders_3 rfl (Nat.le_of_ble_eq_true rfl) ?_
  try dsimp only [zs0, zsI, zsP, zsN, zsJ, zsS, zst2, Nat.reduceAdd]
  refine l_orders d n hn ((if n < 1 then 1 else n).toNat - 1) 1 (by omega) (by split <;> omega) ⟨by rw [show 1 + ((if n < 1 then 1 else n).toNat - 1) = (if n < 1 then 1 else n).toNat by split <;> omega], rfl⟩

theorem l_holds0 (d : Nat) {E : zE} {m : zM} {P : Option zV → zM → Prop} (hE : shM E) (hm : ptM m) (p : Int) (hp0 : 0 ≤ p) (hp : p < 8)  : ∀ (j : Nat) (k : Int) (m1 : zM), (ptM m1) → (0 ≤ k) → (k + j = 9) → (zfr [(a_held, none)] m m1) → (∀ i, 0 ≤ i → i < k → m1 a_held i = m a_c (32 + 9 * p + i)) → (∀ m2, zfr [(a_held, none)] m m2 → (∀ i, 0 ≤ i → i < 9 → m2 a_held i = m a_c (32 + 9 * p + i)) → P none m2) → zA zX12_holds0 (d + 1) E E P 2 [zP aM, zI p, zI k] [] m1 E := by
  intro j
  induction j with
  | zero =>
    intro k m1 hm1 h0 hk hf hq hP
    refine z_iload_n dX12_holds0_2 rfl ?_
    refine z_bipush dX12_holds0_3 rfl (by decide) ?_
    refine z_icmp_ge (tgt := 32) dX12_holds0_5 rfl (fun h5 => ?_) (fun h => absurd (by omega) h)
    refine z_vret dX12_holds0_32 rfl rfl ?_
    exact hP m1 hf (fun i q1 q2 => hq i q1 (by omega))
  | succ j ih =>
    intro k m1 hm1 h0 hk hf hq hP
    refine z_iload_n dX12_holds0_2 rfl ?_
    refine z_bipush dX12_holds0_3 rfl (by decide) ?_
    refine z_icmp_ge (tgt := 32) dX12_holds0_5 rfl (fun h => absurd h (by omega)) (fun h5 => ?_)
    refine z_aload_n dX12_holds0_8 rfl ?_
    refine z_gP 31 rfl (r := a_held) flX12_66 dX12_holds0_9 (sh_M hE) rfl (pt_held hm1) (by decide) ?_
    refine z_iload_n dX12_holds0_12 rfl ?_
    refine z_aload_n dX12_holds0_13 rfl ?_
    refine z_gP 0 rfl (r := a_c) flX12_7 dX12_holds0_14 (sh_M hE) rfl (pt_c hm1) (by decide) ?_
    refine z_aload_n dX12_holds0_17 rfl ?_
    refine z_iload_n dX12_holds0_18 rfl ?_
    refine z_callV mlX12_120 dX12_holds0_19 (sh_M hE) (av := [_]) rfl rfl (Nat.le_of_ble_eq_true rfl) (r_at _ hE hm1 p hp0 (by omega)) (Nat.le_refl _) (Nat.le_refl _) (Nat.le_refl _) (Nat.le_refl _) ?_
    rintro _ _ ⟨rfl, rfl⟩
    refine z_iload_n dX12_holds0_22 rfl ?_
    refine z_add dX12_holds0_23 (by omega) ?_
    refine z_ialv dX12_holds0_24 (sh_c hE) (by omega) (by omega) (congrFun (zfr_cell hf (by decide)) _) ?_
    refine z_iast dX12_holds0_25 (sh_held hE) (by omega) (by omega) ?_
    refine z_inc dX12_holds0_26 rfl (by omega) ?_
    refine z_goto (tgt := 2) dX12_holds0_29 rfl ?_
    try dsimp only [zs0, zsI, zsP, zsN, zsJ, zsS, zst2, Nat.reduceAdd]
    exact ih (k + 1) _ (ptM_a hm1 (by decide)) (by omega) (by omega) (zfr_ua hf (by decide)) (fun i q1 q2 => by by_cases e : i = k; (rw [e, zu_s]); (rw [zu_j e]; exact hq i q1 (by omega))) hP

theorem r_holds0 (d : Nat) {E : zE} {m : zM} (hE : shM E) (hm : ptM m) (p : Int) (hp0 : 0 ≤ p) (hp : p < 8)  : zR zX12_holds0 (d + 1) [zP aM, zI p] m E E (fun r m' => r = none ∧ zfr [(a_held, none)] m m' ∧ ∀ i, 0 ≤ i → i < 9 → m' a_held i = m a_c (32 + 9 * p + i)) := by
  refine zR_go [zP aM, zI p, zN] (by decide +kernel) (Nat.le_of_ble_eq_true rfl) rfl rfl ?_
  refine z_iconst dX12_holds0_0 (by decide) ?_
  refine z_ist 2 dX12_holds0_1 rfl (Nat.le_of_ble_eq_true rfl) ?_
  try dsimp only [zs0, zsI, zsP, zsN, zsJ, zsS, zst2, Nat.reduceAdd]
  refine l_holds0 d hE hm p hp0 hp 9 0 m hm (by omega) (by omega) zfr_rf (fun i q1 q2 => by omega) (fun m2 q1 q2 => ⟨rfl, q1, q2⟩)

theorem l_laysHeld (d : Nat) {E : zE} {m : zM} {P : Option zV → zM → Prop} (hE : shM E) (hm : ptM m) (t : Int) (hp0 : 0 ≤ t) (hp : t < 8)  : ∀ (j : Nat) (k : Int) (m1 : zM), (ptM m1) → (0 ≤ k) → (k + j = 9) → (zfr [(a_c, none)] m m1) → (∀ i, 0 ≤ i → i < k → m1 a_c (32 + 9 * t + i) = m a_held i) → (∀ x, (x < 32 + 9 * t ∨ 32 + 9 * t + k ≤ x) → m1 a_c x = m a_c x) → (∀ m2, zfr [(a_c, none)] m m2 → (∀ i, 0 ≤ i → i < 9 → m2 a_c (32 + 9 * t + i) = m a_held i) → (∀ x, (x < 32 + 9 * t ∨ 32 + 9 * t + 9 ≤ x) → m2 a_c x = m a_c x) → P none m2) → zA zX12_laysHeld (d + 1) E E P 2 [zP aM, zI t, zI k] [] m1 E := by
  intro j
  induction j with
  | zero =>
    intro k m1 hm1 h0 hk hf hq ho hP
    refine z_iload_n dX12_laysHeld_2 rfl ?_
    refine z_bipush dX12_laysHeld_3 rfl (by decide) ?_
    refine z_icmp_ge (tgt := 32) dX12_laysHeld_5 rfl (fun h5 => ?_) (fun h => absurd (by omega) h)
    refine z_vret dX12_laysHeld_32 rfl rfl ?_
    exact hP m1 hf (fun i q1 q2 => hq i q1 (by omega)) (fun x hx => ho x (by omega))
  | succ j ih =>
    intro k m1 hm1 h0 hk hf hq ho hP
    refine z_iload_n dX12_laysHeld_2 rfl ?_
    refine z_bipush dX12_laysHeld_3 rfl (by decide) ?_
    refine z_icmp_ge (tgt := 32) dX12_laysHeld_5 rfl (fun h => absurd h (by omega)) (fun h5 => ?_)
    refine z_aload_n dX12_laysHeld_8 rfl ?_
    refine z_gP 0 rfl (r := a_c) flX12_7 dX12_laysHeld_9 (sh_M hE) rfl (pt_c hm1) (by decide) ?_
    refine z_aload_n dX12_laysHeld_12 rfl ?_
    refine z_iload_n dX12_laysHeld_13 rfl ?_
    refine z_callV mlX12_120 dX12_laysHeld_14 (sh_M hE) (av := [_]) rfl rfl (Nat.le_of_ble_eq_true rfl) (r_at _ hE hm1 t hp0 (by omega)) (Nat.le_refl _) (Nat.le_refl _) (Nat.le_refl _) (Nat.le_refl _) ?_
    rintro _ _ ⟨rfl, rfl⟩
    refine z_iload_n dX12_laysHeld_17 rfl ?_
    refine z_add dX12_laysHeld_18 (by omega) ?_
    refine z_aload_n dX12_laysHeld_19 rfl ?_
    refine z_gP 31 rfl (r := a_held) flX12_66 dX12_laysHeld_20 (sh_M hE) rfl (pt_held hm1) (by decide) ?_
    refine z_iload_n dX12_laysHeld_23 rfl ?_
    refine z_ialv dX12_laysHeld_24 (sh_held hE) (by omega) (by omega) (congrFun (zfr_cell hf (by decide)) _) ?_
    refine z_iast dX12_laysHeld_25 (sh_c hE) (by omega) (by omega) ?_
    refine z_inc dX12_laysHeld_26 rfl (by omega) ?_
    refine z_goto (tgt := 2) dX12_laysHeld_29 rfl ?_
    try dsimp only [zs0, zsI, zsP, zsN, zsJ, zsS, zst2, Nat.reduceAdd]
    exact ih (k + 1) _ (ptM_a hm1 (by decide)) (by omega) (by omega) (zfr_ua hf (by decide)) (fun i q1 q2 => by by_cases e : i = k; (rw [e, zu_s]); (rw [zu_j (by omega)]; exact hq i q1 (by omega))) (fun x hx => by rw [zu_j (by omega)]; exact ho x (by omega)) hP

theorem r_laysHeld (d : Nat) {E : zE} {m : zM} (hE : shM E) (hm : ptM m) (t : Int) (hp0 : 0 ≤ t) (hp : t < 8)  : zR zX12_laysHeld (d + 1) [zP aM, zI t] m E E (fun r m' => r = none ∧ zfr [(a_c, none)] m m' ∧ (∀ i, 0 ≤ i → i < 9 → m' a_c (32 + 9 * t + i) = m a_held i) ∧ ∀ x, (x < 32 + 9 * t ∨ 32 + 9 * t + 9 ≤ x) → m' a_c x = m a_c x) := by
  refine zR_go [zP aM, zI t, zN] (by decide +kernel) (Nat.le_of_ble_eq_true rfl) rfl rfl ?_
  refine z_iconst dX12_laysHeld_0 (by decide) ?_
  refine z_ist 2 dX12_laysHeld_1 rfl (Nat.le_of_ble_eq_true rfl) ?_
  try dsimp only [zs0, zsI, zsP, zsN, zsJ, zsS, zst2, Nat.reduceAdd]
  refine l_laysHeld d hE hm t hp0 hp 9 0 m hm (by omega) (by omega) zfr_rf (fun i q1 q2 => by omega) (fun _ _ => rfl) (fun m2 q1 q2 q3 => ⟨rfl, q1, q2, q3⟩)

theorem l_shifts (d : Nat) {E : zE} {m : zM} {P : Option zV → zM → Prop} (hE : shM E) (hm : ptM m) (f t : Int) (hf0 : 0 ≤ f) (hf1 : f < 8) (hp0 : 0 ≤ t) (hp : t < 8) (hft : f ≠ t)  : ∀ (j : Nat) (k : Int) (m1 : zM), (ptM m1) → (0 ≤ k) → (k + j = 9) → (zfr [(a_c, none)] m m1) → (∀ i, 0 ≤ i → i < k → m1 a_c (32 + 9 * t + i) = m a_c (32 + 9 * f + i)) → (∀ x, (x < 32 + 9 * t ∨ 32 + 9 * t + k ≤ x) → m1 a_c x = m a_c x) → (∀ m2, zfr [(a_c, none)] m m2 → (∀ i, 0 ≤ i → i < 9 → m2 a_c (32 + 9 * t + i) = m a_c (32 + 9 * f + i)) → (∀ x, (x < 32 + 9 * t ∨ 32 + 9 * t + 9 ≤ x) → m2 a_c x = m a_c x) → P none m2) → zA zX12_shifts (d + 1) E E P 2 [zP aM, zI f, zI t, zI k] [] m1 E := by
  intro j
  induction j with
  | zero =>
    intro k m1 hm1 h0 hk hf hq ho hP
    refine z_iload_n dX12_shifts_2 rfl ?_
    refine z_bipush dX12_shifts_3 rfl (by decide) ?_
    refine z_icmp_ge (tgt := 38) dX12_shifts_5 rfl (fun h5 => ?_) (fun h => absurd (by omega) h)
    refine z_vret dX12_shifts_38 rfl rfl ?_
    exact hP m1 hf (fun i q1 q2 => hq i q1 (by omega)) (fun x hx => ho x (by omega))
  | succ j ih =>
    intro k m1 hm1 h0 hk hf hq ho hP
    refine z_iload_n dX12_shifts_2 rfl ?_
    refine z_bipush dX12_shifts_3 rfl (by decide) ?_
    refine z_icmp_ge (tgt := 38) dX12_shifts_5 rfl (fun h => absurd h (by omega)) (fun h5 => ?_)
    refine z_aload_n dX12_shifts_8 rfl ?_
    refine z_gP 0 rfl (r := a_c) flX12_7 dX12_shifts_9 (sh_M hE) rfl (pt_c hm1) (by decide) ?_
    refine z_aload_n dX12_shifts_12 rfl ?_
    refine z_iload_n dX12_shifts_13 rfl ?_
    refine z_callV mlX12_120 dX12_shifts_14 (sh_M hE) (av := [_]) rfl rfl (Nat.le_of_ble_eq_true rfl) (r_at _ hE hm1 t hp0 (by omega)) (Nat.le_refl _) (Nat.le_refl _) (Nat.le_refl _) (Nat.le_refl _) ?_
    rintro _ _ ⟨rfl, rfl⟩
    refine z_iload_n dX12_shifts_17 rfl ?_
    refine z_add dX12_shifts_18 (by omega) ?_
    refine z_aload_n dX12_shifts_19 rfl ?_
    refine z_gP 0 rfl (r := a_c) flX12_7 dX12_shifts_20 (sh_M hE) rfl (pt_c hm1) (by decide) ?_
    refine z_aload_n dX12_shifts_23 rfl ?_
    refine z_iload_n dX12_shifts_24 rfl ?_
    refine z_callV mlX12_120 dX12_shifts_25 (sh_M hE) (av := [_]) rfl rfl (Nat.le_of_ble_eq_true rfl) (r_at _ hE hm1 f hf0 (by omega)) (Nat.le_refl _) (Nat.le_refl _) (Nat.le_refl _) (Nat.le_refl _) ?_
    rintro _ _ ⟨rfl, rfl⟩
    refine z_iload_n dX12_shifts_28 rfl ?_
    refine z_add dX12_shifts_29 (by omega) ?_
    refine z_ialv dX12_shifts_30 (sh_c hE) (by omega) (by omega) (ho _ (by omega)) ?_
    refine z_iast dX12_shifts_31 (sh_c hE) (by omega) (by omega) ?_
    refine z_inc dX12_shifts_32 rfl (by omega) ?_
    refine z_goto (tgt := 2) dX12_shifts_35 rfl ?_
    try dsimp only [zs0, zsI, zsP, zsN, zsJ, zsS, zst2, Nat.reduceAdd]
    exact ih (k + 1) _ (ptM_a hm1 (by decide)) (by omega) (by omega) (zfr_ua hf (by decide)) (fun i q1 q2 => by by_cases e : i = k; (rw [e, zu_s]); (rw [zu_j (by omega)]; exact hq i q1 (by omega))) (fun x hx => by rw [zu_j (by omega)]; exact ho x (by omega)) hP

theorem r_shifts (d : Nat) {E : zE} {m : zM} (hE : shM E) (hm : ptM m) (f t : Int) (hf0 : 0 ≤ f) (hf1 : f < 8) (hp0 : 0 ≤ t) (hp : t < 8) (hft : f ≠ t)  : zR zX12_shifts (d + 1) [zP aM, zI f, zI t] m E E (fun r m' => r = none ∧ zfr [(a_c, none)] m m' ∧ (∀ i, 0 ≤ i → i < 9 → m' a_c (32 + 9 * t + i) = m a_c (32 + 9 * f + i)) ∧ ∀ x, (x < 32 + 9 * t ∨ 32 + 9 * t + 9 ≤ x) → m' a_c x = m a_c x) := by
  refine zR_go [zP aM, zI f, zI t, zN] (by decide +kernel) (Nat.le_of_ble_eq_true rfl) rfl rfl ?_
  refine z_iconst dX12_shifts_0 (by decide) ?_
  refine z_ist 3 dX12_shifts_1 rfl (Nat.le_of_ble_eq_true rfl) ?_
  try dsimp only [zs0, zsI, zsP, zsN, zsJ, zsS, zst2, Nat.reduceAdd]
  refine l_shifts d hE hm f t hf0 hf1 hp0 hp hft 9 0 m hm (by omega) (by omega) zfr_rf (fun i q1 q2 => by omega) (fun _ _ => rfl) (fun m2 q1 q2 q3 => ⟨rfl, q1, q2, q3⟩)
