def cOd (c w : Int → Int) (i : Int) : Bool := decide (c (4 + 3 * (w i / 2) + 2) = 1)
def cBr (c w : Int → Int) (i : Int) : Bool := decide (c (4 + 3 * (w i / 2) + 1) = 1 ∧ w i % 2 = 1)
theorem l_crossingsNow_in (d : Nat) {E : zE} {m : zM} {P : Option zV → zM → Prop} (hE : shM E) (hm : ptM m) (i : Int) (hi0 : 0 ≤ i) (hi : i < m aM f_letters) (hn0 : 0 ≤ m aM f_letters ∧ m aM f_letters ≤ 12) : ∀ (j : Nat) (k n : Int), i < k → k + j = m aM f_letters → 0 ≤ n ∧ n + j ≤ 1000 → zA zX12_crossingsNow (d + 1) E E P 62 [zP aM, zI (n + zsum (fun j => zb (i < m a_mate i ∧ j < m a_mate j ∧ sX (m a_mate) i j = true)) j k), zI i, zI (m aM f_letters)] [] m E → zA zX12_crossingsNow (d + 1) E E P 16 [zP aM, zI n, zI i, zI k] [] m E := by
  intro j
  induction j with
  | zero =>
    intro k n h0 hk hn hP
    refine z_iload_n dX12_crossingsNow_16 rfl ?_
    refine z_aload_n dX12_crossingsNow_17 rfl ?_
    refine z_gI f_letters rfl flX12_124 dX12_crossingsNow_18 (sh_M hE) rfl ?_
    refine z_icmp_ge (tgt := 62) dX12_crossingsNow_21 rfl (fun h21 => ?_) (fun h => absurd (by omega) h)
    rw [zsum_0, Int.add_zero, show m aM f_letters = k by omega] at hP
    exact hP
  | succ j ih =>
    intro k n h0 hk hn hP
    refine z_iload_n dX12_crossingsNow_16 rfl ?_
    refine z_aload_n dX12_crossingsNow_17 rfl ?_
    refine z_gI f_letters rfl flX12_124 dX12_crossingsNow_18 (sh_M hE) rfl ?_
    refine z_icmp_ge (tgt := 62) dX12_crossingsNow_21 rfl (fun h => absurd h (by omega)) (fun h21 => ?_)
    refine z_aload_n dX12_crossingsNow_24 rfl ?_
    refine z_gP 16 rfl (r := a_mate) flX12_41 dX12_crossingsNow_25 (sh_M hE) rfl (pt_mate hm) (by decide) ?_
    refine z_iload_n dX12_crossingsNow_28 rfl ?_
    refine z_iald dX12_crossingsNow_29 (sh_mate hE) (by omega) (by omega) ?_
    refine z_iload_n dX12_crossingsNow_30 rfl ?_
    refine z_icmp_le (tgt := 56) dX12_crossingsNow_31 rfl (fun h31 => ?_) (fun h31 => ?_)
    · refine z_inc dX12_crossingsNow_56 rfl (by omega) ?_
      refine z_goto (tgt := 16) dX12_crossingsNow_59 rfl ?_
      try dsimp only [zs0, zsI, zsP, zsN, zsJ, zsS, zst2, Nat.reduceAdd]
      rw [zsum_s, zb_f (by simp only [sX, decide_eq_true_eq]; omega), Int.zero_add] at hP
      exact ih (k + 1) _ (by omega) (by omega) (by omega) hP
    · refine z_aload_n dX12_crossingsNow_34 rfl ?_
      refine z_gP 16 rfl (r := a_mate) flX12_41 dX12_crossingsNow_35 (sh_M hE) rfl (pt_mate hm) (by decide) ?_
      refine z_iload_n dX12_crossingsNow_38 rfl ?_
      refine z_iald dX12_crossingsNow_39 (sh_mate hE) (by omega) (by omega) ?_
      refine z_iload_n dX12_crossingsNow_40 rfl ?_
      refine z_icmp_le (tgt := 56) dX12_crossingsNow_41 rfl (fun h41 => ?_) (fun h41 => ?_)
      · refine z_inc dX12_crossingsNow_56 rfl (by omega) ?_
        refine z_goto (tgt := 16) dX12_crossingsNow_59 rfl ?_
        try dsimp only [zs0, zsI, zsP, zsN, zsJ, zsS, zst2, Nat.reduceAdd]
        rw [zsum_s, zb_f (by simp only [sX, decide_eq_true_eq]; omega), Int.zero_add] at hP
        exact ih (k + 1) _ (by omega) (by omega) (by omega) hP
      · refine z_aload_n dX12_crossingsNow_44 rfl ?_
        refine z_iload_n dX12_crossingsNow_45 rfl ?_
        refine z_iload_n dX12_crossingsNow_46 rfl ?_
        refine z_callV mlX12_162 dX12_crossingsNow_47 (sh_M hE) (av := [_, _]) rfl rfl (Nat.le_of_ble_eq_true rfl) (r_doCross _ hE hm i k (by omega) (by omega) (by omega) (by omega)) (Nat.le_refl _) (Nat.le_refl _) (Nat.le_refl _) (Nat.le_refl _) ?_
        rintro _ _ ⟨rfl, rfl⟩
        refine z_ifz_eq (tgt := 56) dX12_crossingsNow_50 rfl (fun h50 => ?_) (fun h50 => ?_)
        · refine z_inc dX12_crossingsNow_56 rfl (by omega) ?_
          refine z_goto (tgt := 16) dX12_crossingsNow_59 rfl ?_
          try dsimp only [zs0, zsI, zsP, zsN, zsJ, zsS, zst2, Nat.reduceAdd]
          rw [zsum_s, zb_f (by simp only [sX, decide_eq_true_eq]; omega), Int.zero_add] at hP
          exact ih (k + 1) _ (by omega) (by omega) (by omega) hP
        · refine z_inc dX12_crossingsNow_53 rfl (by omega) ?_
          refine z_inc dX12_crossingsNow_56 rfl (by omega) ?_
          refine z_goto (tgt := 16) dX12_crossingsNow_59 rfl ?_
          try dsimp only [zs0, zsI, zsP, zsN, zsJ, zsS, zst2, Nat.reduceAdd]
          rw [zsum_s, zb_t (by simp only [sX, decide_eq_true_eq]; omega), ← Int.add_assoc] at hP
          exact ih (k + 1) _ (by omega) (by omega) (by omega) hP

theorem l_crossingsNow (d : Nat) {E : zE} {m : zM} {P : Option zV → zM → Prop} (hE : shM E) (hm : ptM m)  (hn0 : 0 ≤ m aM f_letters ∧ m aM f_letters ≤ 12) : ∀ (j : Nat) (k n : Int), 0 ≤ k → k + j = m aM f_letters → 0 ≤ n ∧ n + 12 * j ≤ 900 → P (some (zI (n + zsum (fun i => zsum (fun j => zb (i < m a_mate i ∧ j < m a_mate j ∧ sX (m a_mate) i j = true)) ((m aM f_letters).toNat - 1 - i.toNat) (i + 1)) j k))) m → zA zX12_crossingsNow (d + 1) E E P 4 [zP aM, zI n, zI k, zN] [] m E := by
  intro j
  induction j with
  | zero =>
    intro k n h0 hk hn hP
    refine z_iload_n dX12_crossingsNow_4 rfl ?_
    refine z_aload_n dX12_crossingsNow_5 rfl ?_
    refine z_gI f_letters rfl flX12_124 dX12_crossingsNow_6 (sh_M hE) rfl ?_
    refine z_icmp_ge (tgt := 68) dX12_crossingsNow_9 rfl (fun h9 => ?_) (fun h => absurd (by omega) h)
    refine z_iload_n dX12_crossingsNow_68 rfl ?_
    refine z_iret dX12_crossingsNow_69 rfl rfl ?_
    rw [zsum_0, Int.add_zero] at hP
    exact hP
  | succ j ih =>
    intro k n h0 hk hn hP
    refine z_iload_n dX12_crossingsNow_4 rfl ?_
    refine z_aload_n dX12_crossingsNow_5 rfl ?_
    refine z_gI f_letters rfl flX12_124 dX12_crossingsNow_6 (sh_M hE) rfl ?_
    refine z_icmp_ge (tgt := 68) dX12_crossingsNow_9 rfl (fun h => absurd h (by omega)) (fun h9 => ?_)
    refine z_iload_n dX12_crossingsNow_12 rfl ?_
    refine z_iconst dX12_crossingsNow_13 (by decide) ?_
    refine z_add dX12_crossingsNow_14 (by omega) ?_
    refine z_ist 3 dX12_crossingsNow_15 rfl (Nat.le_of_ble_eq_true rfl) ?_
    try dsimp only [zs0, zsI, zsP, zsN, zsJ, zsS, zst2, Nat.reduceAdd]
    refine l_crossingsNow_in d hE hm k h0 (by omega) hn0 ((m aM f_letters).toNat - 1 - k.toNat) (k + 1) n (by omega) (by omega) (by omega) ?_
    have hz := zsum_bd (f := fun j => zb (k < m a_mate k ∧ j < m a_mate j ∧ sX (m a_mate) k j = true)) (b := 1) (j := (m aM f_letters).toNat - 1 - k.toNat) (k := k + 1) (fun x _ _ => by have := zb01 (k < m a_mate k ∧ x < m a_mate x ∧ sX (m a_mate) k x = true); omega)
    refine z_inc dX12_crossingsNow_62 rfl (by omega) ?_
    refine z_goto (tgt := 4) dX12_crossingsNow_65 rfl ?_
    try dsimp only [zs0, zsI, zsP, zsN, zsJ, zsS, zst2, Nat.reduceAdd]
    refine zA_wk [_, _, _, zN] (by exact ⟨Or.inr rfl, Or.inr rfl, Or.inr rfl, Or.inl rfl, trivial⟩) ?_
    rw [zsum_s, ← Int.add_assoc] at hP
    exact ih (k + 1) _ (by omega) (by omega) (by omega) hP

theorem r_crossingsNow (d : Nat) {E : zE} {m : zM} (hE : shM E) (hm : ptM m)  (hn0 : 0 ≤ m aM f_letters ∧ m aM f_letters ≤ 12) : zR zX12_crossingsNow (d + 1) [zP aM] m E E (fun r m' => r = some (zI (sCross (m aM f_letters).toNat (m a_mate))) ∧ m = m') := by
  refine zR_go [zP aM, zN, zN, zN] (by decide +kernel) (Nat.le_of_ble_eq_true rfl) rfl rfl ?_
  refine z_iconst dX12_crossingsNow_0 (by decide) ?_
  refine z_ist 1 dX12_crossingsNow_1 rfl (Nat.le_of_ble_eq_true rfl) ?_
  refine z_iconst dX12_crossingsNow_2 (by decide) ?_
  refine z_ist 2 dX12_crossingsNow_3 rfl (Nat.le_of_ble_eq_true rfl) ?_
  try dsimp only [zs0, zsI, zsP, zsN, zsJ, zsS, zst2, Nat.reduceAdd]
  refine l_crossingsNow d hE hm hn0 (m aM f_letters).toNat 0 0 (by omega) (by omega) (by omega) ⟨by rw [Int.zero_add]; rfl, rfl⟩

theorem l_signNow_in (d : Nat) {E : zE} {m : zM} {P : Option zV → zM → Prop} (hE : shM E) (hm : ptM m) (i : Int) (hi0 : 0 ≤ i) (hi : i < m aM f_letters) (hw : wfC (m a_c)) (hl : wfL (m a_c) (m a_what) (m a_pointOf) (m aM f_letters)) : ∀ (j : Nat) (k n : Int), i < k → k + j = m aM f_letters → 0 ≤ n ∧ n + j ≤ 1000 → zA zX12_signNow (d + 1) E E P 125 [zP aM, zI (n + zsum (fun j => zb (j < m a_mate j ∧ (cOd (m a_c) (m a_what)) j = true ∧ sX (m a_mate) i j = true)) j k), zI i, zI (m aM f_letters)] [] m E → zA zX12_signNow (d + 1) E E P 74 [zP aM, zI n, zI i, zI k] [] m E := by
  intro j
  induction j with
  | zero =>
    intro k n h0 hk hn hP
    refine z_iload_n dX12_signNow_74 rfl ?_
    refine z_aload_n dX12_signNow_75 rfl ?_
    refine z_gI f_letters rfl flX12_124 dX12_signNow_76 (sh_M hE) rfl ?_
    refine z_icmp_ge (tgt := 125) dX12_signNow_79 rfl (fun h79 => ?_) (fun h => absurd (by omega) h)
    rw [zsum_0, Int.add_zero, show m aM f_letters = k by omega] at hP
    exact hP
  | succ j ih =>
    intro k n h0 hk hn hP
    refine z_iload_n dX12_signNow_74 rfl ?_
    refine z_aload_n dX12_signNow_75 rfl ?_
    refine z_gI f_letters rfl flX12_124 dX12_signNow_76 (sh_M hE) rfl ?_
    refine z_icmp_ge (tgt := 125) dX12_signNow_79 rfl (fun h => absurd h (by omega)) (fun h79 => ?_)
    refine z_aload_n dX12_signNow_82 rfl ?_
    refine z_gP 16 rfl (r := a_mate) flX12_41 dX12_signNow_83 (sh_M hE) rfl (pt_mate hm) (by decide) ?_
    refine z_iload_n dX12_signNow_86 rfl ?_
    refine z_iald dX12_signNow_87 (sh_mate hE) (by have := hl.1; omega) (by have := hl.1; omega) ?_
    refine z_iload_n dX12_signNow_88 rfl ?_
    refine z_icmp_le (tgt := 119) dX12_signNow_89 rfl (fun h89 => ?_) (fun h89 => ?_)
    · refine z_inc dX12_signNow_119 rfl (by have := hl.1; omega) ?_
      refine z_goto (tgt := 74) dX12_signNow_122 rfl ?_
      try dsimp only [zs0, zsI, zsP, zsN, zsJ, zsS, zst2, Nat.reduceAdd]
      rw [zsum_s, zb_f (by simp only [sX, decide_eq_true_eq, cOd]; omega), Int.zero_add] at hP
      exact ih (k + 1) _ (by omega) (by omega) (by omega) hP
    · refine z_aload_n dX12_signNow_92 rfl ?_
      refine z_aload_n dX12_signNow_93 rfl ?_
      refine z_gP 5 rfl (r := a_what) flX12_19 dX12_signNow_94 (sh_M hE) rfl (pt_what hm) (by decide) ?_
      refine z_iload_n dX12_signNow_97 rfl ?_
      refine z_iald dX12_signNow_98 (sh_what hE) (by have := hl.1; omega) (by have := hl.1; omega) ?_
      refine z_iconst dX12_signNow_99 (by decide) ?_
      refine z_div dX12_signNow_100 (by have := (hl.2 k (by omega) (by omega)).1; have := hw.1; have := hl.1; omega) (by omega) ?_
      refine z_callV mlX12_165 dX12_signNow_101 (sh_M hE) (av := [_]) rfl rfl (Nat.le_of_ble_eq_true rfl) (r_isOdd _ hE hm _ (by have := (hl.2 k (by omega) (by omega)).1; have := hw.1; have := hl.1; omega) (by have := (hl.2 k (by omega) (by omega)).1; have := hw.1; have := hl.1; omega)) (Nat.le_refl _) (Nat.le_refl _) (Nat.le_refl _) (Nat.le_refl _) ?_
      rintro _ _ ⟨rfl, rfl⟩
      refine z_ifz_eq (tgt := 119) dX12_signNow_104 rfl (fun h104 => ?_) (fun h104 => ?_)
      · refine z_inc dX12_signNow_119 rfl (by have := hl.1; omega) ?_
        refine z_goto (tgt := 74) dX12_signNow_122 rfl ?_
        try dsimp only [zs0, zsI, zsP, zsN, zsJ, zsS, zst2, Nat.reduceAdd]
        rw [zsum_s, zb_f (by simp only [sX, decide_eq_true_eq, cOd]; omega), Int.zero_add] at hP
        exact ih (k + 1) _ (by omega) (by omega) (by omega) hP
      · refine z_aload_n dX12_signNow_107 rfl ?_
        refine z_iload_n dX12_signNow_108 rfl ?_
        refine z_iload_n dX12_signNow_109 rfl ?_
        refine z_callV mlX12_162 dX12_signNow_110 (sh_M hE) (av := [_, _]) rfl rfl (Nat.le_of_ble_eq_true rfl) (r_doCross _ hE hm i k (by omega) (by have := (hl.2 i (by omega) (by omega)).1; have := hw.1; have := hl.1; omega) (by omega) (by have := (hl.2 k (by omega) (by omega)).1; have := hw.1; have := hl.1; omega)) (Nat.le_refl _) (Nat.le_refl _) (Nat.le_refl _) (Nat.le_refl _) ?_
        rintro _ _ ⟨rfl, rfl⟩
        refine z_ifz_eq (tgt := 119) dX12_signNow_113 rfl (fun h113 => ?_) (fun h113 => ?_)
        · refine z_inc dX12_signNow_119 rfl (by have := hl.1; omega) ?_
          refine z_goto (tgt := 74) dX12_signNow_122 rfl ?_
          try dsimp only [zs0, zsI, zsP, zsN, zsJ, zsS, zst2, Nat.reduceAdd]
          rw [zsum_s, zb_f (by simp only [sX, decide_eq_true_eq, cOd]; omega), Int.zero_add] at hP
          exact ih (k + 1) _ (by omega) (by omega) (by omega) hP
        · refine z_inc dX12_signNow_116 rfl (by have := hl.1; omega) ?_
          refine z_inc dX12_signNow_119 rfl (by have := hl.1; omega) ?_
          refine z_goto (tgt := 74) dX12_signNow_122 rfl ?_
          try dsimp only [zs0, zsI, zsP, zsN, zsJ, zsS, zst2, Nat.reduceAdd]
          rw [zsum_s, zb_t (by simp only [sX, decide_eq_true_eq, cOd]; omega), ← Int.add_assoc] at hP
          exact ih (k + 1) _ (by omega) (by omega) (by omega) hP

theorem l_signNow (d : Nat) {E : zE} {m : zM} {P : Option zV → zM → Prop} (hE : shM E) (hm : ptM m)  (hw : wfC (m a_c)) (hl : wfL (m a_c) (m a_what) (m a_pointOf) (m aM f_letters)) : ∀ (j : Nat) (k n : Int), 0 ≤ k → k + j = m aM f_letters → 0 ≤ n ∧ n + 13 * j ≤ 900 → P (some (zI (zpar (n + zsum (fun i => if i ≤ m a_mate i ∧ (cOd (m a_c) (m a_what)) i = true then zb ((cBr (m a_c) (m a_what)) i = true) + zsum (fun j => zb (j < m a_mate j ∧ (cOd (m a_c) (m a_what)) j = true ∧ sX (m a_mate) i j = true)) ((m aM f_letters).toNat - 1 - i.toNat) (i + 1) else 0) j k)))) m → zA zX12_signNow (d + 1) E E P 4 [zP aM, zI n, zI k, zN] [] m E := by
  intro j
  induction j with
  | zero =>
    intro k n h0 hk hn hP
    refine z_iload_n dX12_signNow_4 rfl ?_
    refine z_aload_n dX12_signNow_5 rfl ?_
    refine z_gI f_letters rfl flX12_124 dX12_signNow_6 (sh_M hE) rfl ?_
    refine z_icmp_ge (tgt := 131) dX12_signNow_9 rfl (fun h9 => ?_) (fun h => absurd (by omega) h)
    refine z_iload_n dX12_signNow_131 rfl ?_
    refine z_iconst dX12_signNow_132 (by decide) ?_
    refine z_rem dX12_signNow_133 (by have := hl.1; omega) (by have := hl.1; omega) ?_
    refine z_if_ne (tgt := 141) dX12_signNow_134 rfl (fun h134 => ?_) (fun h134 => ?_)
    · refine z_iconst dX12_signNow_141 (by decide) ?_
      refine z_iret dX12_signNow_142 rfl rfl ?_
      rw [zsum_0, Int.add_zero, zpar, if_neg (by omega)] at hP
      exact hP
    · refine z_iconst dX12_signNow_137 (by decide) ?_
      refine z_goto (tgt := 142) dX12_signNow_138 rfl ?_
      refine z_iret dX12_signNow_142 rfl rfl ?_
      rw [zsum_0, Int.add_zero, zpar, if_pos (by omega)] at hP
      exact hP
  | succ j ih =>
    intro k n h0 hk hn hP
    refine z_iload_n dX12_signNow_4 rfl ?_
    refine z_aload_n dX12_signNow_5 rfl ?_
    refine z_gI f_letters rfl flX12_124 dX12_signNow_6 (sh_M hE) rfl ?_
    refine z_icmp_ge (tgt := 131) dX12_signNow_9 rfl (fun h => absurd h (by omega)) (fun h9 => ?_)
    refine z_aload_n dX12_signNow_12 rfl ?_
    refine z_gP 16 rfl (r := a_mate) flX12_41 dX12_signNow_13 (sh_M hE) rfl (pt_mate hm) (by decide) ?_
    refine z_iload_n dX12_signNow_16 rfl ?_
    refine z_iald dX12_signNow_17 (sh_mate hE) (by have := hl.1; omega) (by have := hl.1; omega) ?_
    refine z_iload_n dX12_signNow_18 rfl ?_
    refine z_icmp_lt (tgt := 125) dX12_signNow_19 rfl (fun h19 => ?_) (fun h19 => ?_)
    · refine z_inc dX12_signNow_125 rfl (by have := hl.1; omega) ?_
      refine z_goto (tgt := 4) dX12_signNow_128 rfl ?_
      try dsimp only [zs0, zsI, zsP, zsN, zsJ, zsS, zst2, Nat.reduceAdd]
      refine zA_wk [_, _, _, zN] (by exact ⟨Or.inr rfl, Or.inr rfl, Or.inr rfl, Or.inl rfl, trivial⟩) ?_
      rw [zsum_s, if_neg (by simp only [cOd, decide_eq_true_eq]; omega), Int.zero_add] at hP
      exact ih (k + 1) _ (by omega) (by omega) (by omega) hP
    · refine z_aload_n dX12_signNow_22 rfl ?_
      refine z_aload_n dX12_signNow_23 rfl ?_
      refine z_gP 5 rfl (r := a_what) flX12_19 dX12_signNow_24 (sh_M hE) rfl (pt_what hm) (by decide) ?_
      refine z_iload_n dX12_signNow_27 rfl ?_
      refine z_iald dX12_signNow_28 (sh_what hE) (by have := hl.1; omega) (by have := hl.1; omega) ?_
      refine z_iconst dX12_signNow_29 (by decide) ?_
      refine z_div dX12_signNow_30 (by have := (hl.2 k (by omega) (by omega)).1; have := hw.1; have := hl.1; omega) (by omega) ?_
      refine z_callV mlX12_165 dX12_signNow_31 (sh_M hE) (av := [_]) rfl rfl (Nat.le_of_ble_eq_true rfl) (r_isOdd _ hE hm _ (by have := (hl.2 k (by omega) (by omega)).1; have := hw.1; have := hl.1; omega) (by have := (hl.2 k (by omega) (by omega)).1; have := hw.1; have := hl.1; omega)) (Nat.le_refl _) (Nat.le_refl _) (Nat.le_refl _) (Nat.le_refl _) ?_
      rintro _ _ ⟨rfl, rfl⟩
      refine z_ifz_ne (tgt := 40) dX12_signNow_34 rfl (fun h34 => ?_) (fun h34 => ?_)
      · refine z_aload_n dX12_signNow_40 rfl ?_
        refine z_aload_n dX12_signNow_41 rfl ?_
        refine z_gP 5 rfl (r := a_what) flX12_19 dX12_signNow_42 (sh_M hE) rfl (pt_what hm) (by decide) ?_
        refine z_iload_n dX12_signNow_45 rfl ?_
        refine z_iald dX12_signNow_46 (sh_what hE) (by have := hl.1; omega) (by have := hl.1; omega) ?_
        refine z_iconst dX12_signNow_47 (by decide) ?_
        refine z_div dX12_signNow_48 (by have := (hl.2 k (by omega) (by omega)).1; have := hw.1; have := hl.1; omega) (by omega) ?_
        refine z_callV mlX12_148 dX12_signNow_49 (sh_M hE) (av := [_]) rfl rfl (Nat.le_of_ble_eq_true rfl) (r_isPair _ hE hm _ (by have := (hl.2 k (by omega) (by omega)).1; have := hw.1; have := hl.1; omega) (by have := (hl.2 k (by omega) (by omega)).1; have := hw.1; have := hl.1; omega)) (Nat.le_refl _) (Nat.le_refl _) (Nat.le_refl _) (Nat.le_refl _) ?_
        rintro _ _ ⟨rfl, rfl⟩
        refine z_ifz_eq (tgt := 70) dX12_signNow_52 rfl (fun h52 => ?_) (fun h52 => ?_)
        · refine z_iload_n dX12_signNow_70 rfl ?_
          refine z_iconst dX12_signNow_71 (by decide) ?_
          refine z_add dX12_signNow_72 (by have := hl.1; omega) ?_
          refine z_ist 3 dX12_signNow_73 rfl (Nat.le_of_ble_eq_true rfl) ?_
          try dsimp only [zs0, zsI, zsP, zsN, zsJ, zsS, zst2, Nat.reduceAdd]
          have hb1 := hl.1
          refine l_signNow_in d hE hm k h0 (by omega) hw hl ((m aM f_letters).toNat - 1 - k.toNat) (k + 1) n (by omega) (by omega) (by omega) ?_
          have hz := zsum_bd (f := fun j => zb (j < m a_mate j ∧ (cOd (m a_c) (m a_what)) j = true ∧ sX (m a_mate) k j = true)) (b := 1) (j := (m aM f_letters).toNat - 1 - k.toNat) (k := k + 1) (fun x _ _ => by have := zb01 (x < m a_mate x ∧ (cOd (m a_c) (m a_what)) x = true ∧ sX (m a_mate) k x = true); omega)
          refine z_inc dX12_signNow_125 rfl (by omega) ?_
          refine z_goto (tgt := 4) dX12_signNow_128 rfl ?_
          try dsimp only [zs0, zsI, zsP, zsN, zsJ, zsS, zst2, Nat.reduceAdd]
          refine zA_wk [_, _, _, zN] (by exact ⟨Or.inr rfl, Or.inr rfl, Or.inr rfl, Or.inl rfl, trivial⟩) ?_
          rw [zsum_s, if_pos (by simp only [cOd, decide_eq_true_eq]; omega), zb_f (by simp only [cBr, decide_eq_true_eq]; omega), Int.zero_add, ← Int.add_assoc] at hP
          exact ih (k + 1) _ (by omega) (by omega) (by omega) hP
        · refine z_aload_n dX12_signNow_55 rfl ?_
          refine z_gP 5 rfl (r := a_what) flX12_19 dX12_signNow_56 (sh_M hE) rfl (pt_what hm) (by decide) ?_
          refine z_iload_n dX12_signNow_59 rfl ?_
          refine z_iald dX12_signNow_60 (sh_what hE) (by have := hl.1; omega) (by have := hl.1; omega) ?_
          refine z_iconst dX12_signNow_61 (by decide) ?_
          refine z_rem dX12_signNow_62 (by have := (hl.2 k (by omega) (by omega)).1; have := hw.1; have := hl.1; omega) (by omega) ?_
          refine z_iconst dX12_signNow_63 (by decide) ?_
          refine z_icmp_ne (tgt := 70) dX12_signNow_64 rfl (fun h64 => ?_) (fun h64 => ?_)
          · refine z_iload_n dX12_signNow_70 rfl ?_
            refine z_iconst dX12_signNow_71 (by decide) ?_
            refine z_add dX12_signNow_72 (by have := hl.1; omega) ?_
            refine z_ist 3 dX12_signNow_73 rfl (Nat.le_of_ble_eq_true rfl) ?_
            try dsimp only [zs0, zsI, zsP, zsN, zsJ, zsS, zst2, Nat.reduceAdd]
            have hb1 := hl.1
            refine l_signNow_in d hE hm k h0 (by omega) hw hl ((m aM f_letters).toNat - 1 - k.toNat) (k + 1) n (by omega) (by omega) (by omega) ?_
            have hz := zsum_bd (f := fun j => zb (j < m a_mate j ∧ (cOd (m a_c) (m a_what)) j = true ∧ sX (m a_mate) k j = true)) (b := 1) (j := (m aM f_letters).toNat - 1 - k.toNat) (k := k + 1) (fun x _ _ => by have := zb01 (x < m a_mate x ∧ (cOd (m a_c) (m a_what)) x = true ∧ sX (m a_mate) k x = true); omega)
            refine z_inc dX12_signNow_125 rfl (by omega) ?_
            refine z_goto (tgt := 4) dX12_signNow_128 rfl ?_
            try dsimp only [zs0, zsI, zsP, zsN, zsJ, zsS, zst2, Nat.reduceAdd]
            refine zA_wk [_, _, _, zN] (by exact ⟨Or.inr rfl, Or.inr rfl, Or.inr rfl, Or.inl rfl, trivial⟩) ?_
            rw [zsum_s, if_pos (by simp only [cOd, decide_eq_true_eq]; omega), zb_f (by simp only [cBr, decide_eq_true_eq]; omega), Int.zero_add, ← Int.add_assoc] at hP
            exact ih (k + 1) _ (by omega) (by omega) (by omega) hP
          · refine z_inc dX12_signNow_67 rfl (by have := hl.1; omega) ?_
            refine z_iload_n dX12_signNow_70 rfl ?_
            refine z_iconst dX12_signNow_71 (by decide) ?_
            refine z_add dX12_signNow_72 (by have := hl.1; omega) ?_
            refine z_ist 3 dX12_signNow_73 rfl (Nat.le_of_ble_eq_true rfl) ?_
            try dsimp only [zs0, zsI, zsP, zsN, zsJ, zsS, zst2, Nat.reduceAdd]
            have hb1 := hl.1
            refine l_signNow_in d hE hm k h0 (by omega) hw hl ((m aM f_letters).toNat - 1 - k.toNat) (k + 1) (n + 1) (by omega) (by omega) (by omega) ?_
            have hz := zsum_bd (f := fun j => zb (j < m a_mate j ∧ (cOd (m a_c) (m a_what)) j = true ∧ sX (m a_mate) k j = true)) (b := 1) (j := (m aM f_letters).toNat - 1 - k.toNat) (k := k + 1) (fun x _ _ => by have := zb01 (x < m a_mate x ∧ (cOd (m a_c) (m a_what)) x = true ∧ sX (m a_mate) k x = true); omega)
            refine z_inc dX12_signNow_125 rfl (by omega) ?_
            refine z_goto (tgt := 4) dX12_signNow_128 rfl ?_
            try dsimp only [zs0, zsI, zsP, zsN, zsJ, zsS, zst2, Nat.reduceAdd]
            refine zA_wk [_, _, _, zN] (by exact ⟨Or.inr rfl, Or.inr rfl, Or.inr rfl, Or.inl rfl, trivial⟩) ?_
            rw [zsum_s, if_pos (by simp only [cOd, decide_eq_true_eq]; omega), zb_t (by simp only [cBr, decide_eq_true_eq]; omega), ← Int.add_assoc, ← Int.add_assoc] at hP
            exact ih (k + 1) _ (by omega) (by omega) (by omega) hP
      · refine z_goto (tgt := 125) dX12_signNow_37 rfl ?_
        refine z_inc dX12_signNow_125 rfl (by have := hl.1; omega) ?_
        refine z_goto (tgt := 4) dX12_signNow_128 rfl ?_
        try dsimp only [zs0, zsI, zsP, zsN, zsJ, zsS, zst2, Nat.reduceAdd]
        refine zA_wk [_, _, _, zN] (by exact ⟨Or.inr rfl, Or.inr rfl, Or.inr rfl, Or.inl rfl, trivial⟩) ?_
        rw [zsum_s, if_neg (by simp only [cOd, decide_eq_true_eq]; omega), Int.zero_add] at hP
        exact ih (k + 1) _ (by omega) (by omega) (by omega) hP

theorem r_signNow (d : Nat) {E : zE} {m : zM} (hE : shM E) (hm : ptM m)  (hw : wfC (m a_c)) (hl : wfL (m a_c) (m a_what) (m a_pointOf) (m aM f_letters)) : zR zX12_signNow (d + 1) [zP aM] m E E (fun r m' => r = some (zI (sSign (m aM f_letters).toNat (cOd (m a_c) (m a_what)) (cBr (m a_c) (m a_what)) (m a_mate))) ∧ m = m') := by
  refine zR_go [zP aM, zN, zN, zN] (by decide +kernel) (Nat.le_of_ble_eq_true rfl) rfl rfl ?_
  refine z_iconst dX12_signNow_0 (by decide) ?_
  refine z_ist 1 dX12_signNow_1 rfl (Nat.le_of_ble_eq_true rfl) ?_
  refine z_iconst dX12_signNow_2 (by decide) ?_
  refine z_ist 2 dX12_signNow_3 rfl (Nat.le_of_ble_eq_true rfl) ?_
  try dsimp only [zs0, zsI, zsP, zsN, zsJ, zsS, zst2, Nat.reduceAdd]
  refine l_signNow d hE hm hw hl (m aM f_letters).toNat 0 0 (by omega) (by have := hl.1; omega) (by have := hl.1; omega) ⟨by rw [Int.zero_add]; rfl, rfl⟩
