theorem r_isIn (d : Nat) {E : zE} {m : zM} (hE : shM E) (hm : ptM m) (v lo hi : Int)  : zR zX12_isIn (d) [zI v, zI lo, zI hi] m E E (fun r m' => r = some (zI (zb (lo ≤ v ∧ v ≤ hi))) ∧ m = m') := by
  refine zR_go [zI v, zI lo, zI hi] (by decide +kernel) (Nat.le_of_ble_eq_true rfl) rfl rfl ?_
  refine z_iload_n dX12_isIn_0 rfl ?_
  refine z_iload_n dX12_isIn_1 rfl ?_
  refine z_icmp_lt (tgt := 14) dX12_isIn_2 rfl (fun h2 => ?_) (fun h2 => ?_)
  · refine z_iconst dX12_isIn_14 (by decide) ?_
    refine z_zret dX12_isIn_15 rfl (by first | omega | exact zb01 _) rfl ?_
    exact ⟨by rw [zb_f (by omega)], rfl⟩
  · refine z_iload_n dX12_isIn_5 rfl ?_
    refine z_iload_n dX12_isIn_6 rfl ?_
    refine z_icmp_gt (tgt := 14) dX12_isIn_7 rfl (fun h7 => ?_) (fun h7 => ?_)
    · refine z_iconst dX12_isIn_14 (by decide) ?_
      refine z_zret dX12_isIn_15 rfl (by first | omega | exact zb01 _) rfl ?_
      exact ⟨by rw [zb_f (by omega)], rfl⟩
    · refine z_iconst dX12_isIn_10 (by decide) ?_
      refine z_goto (tgt := 15) dX12_isIn_11 rfl ?_
      refine z_zret dX12_isIn_15 rfl (by first | omega | exact zb01 _) rfl ?_
      exact ⟨by rw [zb_t (by omega)], rfl⟩

theorem r_has (d : Nat) {E : zE} {m : zM} (hE : shM E) (hm : ptM m) (b k : Nat) (hb : b < 2147483648) (hk : k < 32) : zR zX12_has (d) [zI (b : Nat), zI (k : Nat)] m E E (fun r m' => r = some (zI (zb (b.testBit k = true))) ∧ m = m') := by
  refine zR_go [zI (b : Nat), zI (k : Nat)] (by decide +kernel) (Nat.le_of_ble_eq_true rfl) rfl rfl ?_
  refine z_iload_n dX12_has_0 rfl ?_
  refine z_iload_n dX12_has_1 rfl ?_
  refine z_ishr dX12_has_2 ?_
  refine z_iconst dX12_has_3 (by decide) ?_
  refine z_iand dX12_has_4 ?_
  refine z_iconst dX12_has_5 (by decide) ?_
  refine z_icmp_ne (tgt := 13) dX12_has_6 rfl (fun h6 => ?_) (fun h6 => ?_)
  · refine z_iconst dX12_has_13 (by decide) ?_
    refine z_zret dX12_has_14 rfl (by first | omega | exact zb01 _) rfl ?_
    refine ⟨?_, rfl⟩
    rw [zbit hb hk] at h6
    unfold zb at h6 ⊢
    split at h6 <;> simp_all
  · refine z_iconst dX12_has_9 (by decide) ?_
    refine z_goto (tgt := 14) dX12_has_10 rfl ?_
    refine z_zret dX12_has_14 rfl (by first | omega | exact zb01 _) rfl ?_
    refine ⟨?_, rfl⟩
    rw [zbit hb hk] at h6
    unfold zb at h6 ⊢
    split at h6 <;> simp_all

theorem r_at (d : Nat) {E : zE} {m : zM} (hE : shM E) (hm : ptM m) (p : Int) (h0 : 0 ≤ p) (h1 : p ≤ 100) : zR zX12_at (d) [zP aM, zI p] m E E (fun r m' => r = some (zI (32 + 9 * p)) ∧ m = m') := by
  refine zR_go [zP aM, zI p] (by decide +kernel) (Nat.le_of_ble_eq_true rfl) rfl rfl ?_
  refine z_bipush dX12_at_0 rfl (by decide) ?_
  refine z_bipush dX12_at_2 rfl (by decide) ?_
  refine z_iload_n dX12_at_4 rfl ?_
  refine z_mul dX12_at_5 (by omega) ?_
  refine z_add dX12_at_6 (by omega) ?_
  refine z_iret dX12_at_7 rfl rfl ?_
  exact ⟨rfl, rfl⟩

theorem r_sizeOf (d : Nat) {E : zE} {m : zM} (hE : shM E) (hm : ptM m) (p : Int) (h0 : 0 ≤ p) (h1 : p < 8) : zR zX12_sizeOf (d + 1) [zP aM, zI p] m E E (fun r m' => r = some (zI (m a_c (32 + 9 * p))) ∧ m = m') := by
  refine zR_go [zP aM, zI p] (by decide +kernel) (Nat.le_of_ble_eq_true rfl) rfl rfl ?_
  refine z_aload_n dX12_sizeOf_0 rfl ?_
  refine z_gP 0 rfl (r := a_c) flX12_7 dX12_sizeOf_1 (sh_M hE) rfl (pt_c hm) (by decide) ?_
  refine z_aload_n dX12_sizeOf_4 rfl ?_
  refine z_iload_n dX12_sizeOf_5 rfl ?_
  refine z_callV mlX12_120 dX12_sizeOf_6 (sh_M hE) (av := [_]) rfl rfl (Nat.le_of_ble_eq_true rfl) (r_at _ hE hm p h0 (by omega)) (Nat.le_refl _) (Nat.le_refl _) (Nat.le_refl _) (Nat.le_refl _) ?_
  rintro _ _ ⟨rfl, rfl⟩
  refine z_iald dX12_sizeOf_9 (sh_c hE) (by omega) (by omega) ?_
  refine z_iret dX12_sizeOf_10 rfl rfl ?_
  exact ⟨rfl, rfl⟩

theorem r_isVertex (d : Nat) {E : zE} {m : zM} (hE : shM E) (hm : ptM m) (p : Int) (h0 : 0 ≤ p) (h1 : p < 8) : zR zX12_isVertex (d + 1) [zP aM, zI p] m E E (fun r m' => r = some (zI (zb (m a_c (32 + 9 * p + 1) = 1))) ∧ m = m') := by
  refine zR_go [zP aM, zI p] (by decide +kernel) (Nat.le_of_ble_eq_true rfl) rfl rfl ?_
  refine z_aload_n dX12_isVertex_0 rfl ?_
  refine z_gP 0 rfl (r := a_c) flX12_7 dX12_isVertex_1 (sh_M hE) rfl (pt_c hm) (by decide) ?_
  refine z_aload_n dX12_isVertex_4 rfl ?_
  refine z_iload_n dX12_isVertex_5 rfl ?_
  refine z_callV mlX12_120 dX12_isVertex_6 (sh_M hE) (av := [_]) rfl rfl (Nat.le_of_ble_eq_true rfl) (r_at _ hE hm p h0 (by omega)) (Nat.le_refl _) (Nat.le_refl _) (Nat.le_refl _) (Nat.le_refl _) ?_
  rintro _ _ ⟨rfl, rfl⟩
  refine z_iconst dX12_isVertex_9 (by decide) ?_
  refine z_add dX12_isVertex_10 (by omega) ?_
  refine z_iald dX12_isVertex_11 (sh_c hE) (by omega) (by omega) ?_
  refine z_iconst dX12_isVertex_12 (by decide) ?_
  refine z_icmp_ne (tgt := 20) dX12_isVertex_13 rfl (fun h13 => ?_) (fun h13 => ?_)
  · refine z_iconst dX12_isVertex_20 (by decide) ?_
    refine z_zret dX12_isVertex_21 rfl (by first | omega | exact zb01 _) rfl ?_
    exact ⟨by rw [zb_f (by omega)], rfl⟩
  · refine z_iconst dX12_isVertex_16 (by decide) ?_
    refine z_goto (tgt := 21) dX12_isVertex_17 rfl ?_
    refine z_zret dX12_isVertex_21 rfl (by first | omega | exact zb01 _) rfl ?_
    exact ⟨by rw [zb_t (by omega)], rfl⟩

theorem r_isNormal (d : Nat) {E : zE} {m : zM} (hE : shM E) (hm : ptM m) (p : Int) (h0 : 0 ≤ p) (h1 : p < 8) : zR zX12_isNormal (d + 1) [zP aM, zI p] m E E (fun r m' => r = some (zI (zb (m a_c (32 + 9 * p + 2) = 1))) ∧ m = m') := by
  refine zR_go [zP aM, zI p] (by decide +kernel) (Nat.le_of_ble_eq_true rfl) rfl rfl ?_
  refine z_aload_n dX12_isNormal_0 rfl ?_
  refine z_gP 0 rfl (r := a_c) flX12_7 dX12_isNormal_1 (sh_M hE) rfl (pt_c hm) (by decide) ?_
  refine z_aload_n dX12_isNormal_4 rfl ?_
  refine z_iload_n dX12_isNormal_5 rfl ?_
  refine z_callV mlX12_120 dX12_isNormal_6 (sh_M hE) (av := [_]) rfl rfl (Nat.le_of_ble_eq_true rfl) (r_at _ hE hm p h0 (by omega)) (Nat.le_refl _) (Nat.le_refl _) (Nat.le_refl _) (Nat.le_refl _) ?_
  rintro _ _ ⟨rfl, rfl⟩
  refine z_iconst dX12_isNormal_9 (by decide) ?_
  refine z_add dX12_isNormal_10 (by omega) ?_
  refine z_iald dX12_isNormal_11 (sh_c hE) (by omega) (by omega) ?_
  refine z_iconst dX12_isNormal_12 (by decide) ?_
  refine z_icmp_ne (tgt := 20) dX12_isNormal_13 rfl (fun h13 => ?_) (fun h13 => ?_)
  · refine z_iconst dX12_isNormal_20 (by decide) ?_
    refine z_zret dX12_isNormal_21 rfl (by first | omega | exact zb01 _) rfl ?_
    exact ⟨by rw [zb_f (by omega)], rfl⟩
  · refine z_iconst dX12_isNormal_16 (by decide) ?_
    refine z_goto (tgt := 21) dX12_isNormal_17 rfl ?_
    refine z_zret dX12_isNormal_21 rfl (by first | omega | exact zb01 _) rfl ?_
    exact ⟨by rw [zb_t (by omega)], rfl⟩

theorem r_isPair (d : Nat) {E : zE} {m : zM} (hE : shM E) (hm : ptM m) (f : Int) (h0 : 0 ≤ f) (h1 : f < 20) : zR zX12_isPair (d) [zP aM, zI f] m E E (fun r m' => r = some (zI (zb (m a_c (4 + 3 * f + 1) = 1))) ∧ m = m') := by
  refine zR_go [zP aM, zI f] (by decide +kernel) (Nat.le_of_ble_eq_true rfl) rfl rfl ?_
  refine z_aload_n dX12_isPair_0 rfl ?_
  refine z_gP 0 rfl (r := a_c) flX12_7 dX12_isPair_1 (sh_M hE) rfl (pt_c hm) (by decide) ?_
  refine z_iconst dX12_isPair_4 (by decide) ?_
  refine z_iconst dX12_isPair_5 (by decide) ?_
  refine z_iload_n dX12_isPair_6 rfl ?_
  refine z_mul dX12_isPair_7 (by omega) ?_
  refine z_add dX12_isPair_8 (by omega) ?_
  refine z_iconst dX12_isPair_9 (by decide) ?_
  refine z_add dX12_isPair_10 (by omega) ?_
  refine z_iald dX12_isPair_11 (sh_c hE) (by omega) (by omega) ?_
  refine z_iconst dX12_isPair_12 (by decide) ?_
  refine z_icmp_ne (tgt := 20) dX12_isPair_13 rfl (fun h13 => ?_) (fun h13 => ?_)
  · refine z_iconst dX12_isPair_20 (by decide) ?_
    refine z_zret dX12_isPair_21 rfl (by first | omega | exact zb01 _) rfl ?_
    exact ⟨by rw [zb_f (by omega)], rfl⟩
  · refine z_iconst dX12_isPair_16 (by decide) ?_
    refine z_goto (tgt := 21) dX12_isPair_17 rfl ?_
    refine z_zret dX12_isPair_21 rfl (by first | omega | exact zb01 _) rfl ?_
    exact ⟨by rw [zb_t (by omega)], rfl⟩

theorem r_isOdd (d : Nat) {E : zE} {m : zM} (hE : shM E) (hm : ptM m) (f : Int) (h0 : 0 ≤ f) (h1 : f < 20) : zR zX12_isOdd (d) [zP aM, zI f] m E E (fun r m' => r = some (zI (zb (m a_c (4 + 3 * f + 2) = 1))) ∧ m = m') := by
  refine zR_go [zP aM, zI f] (by decide +kernel) (Nat.le_of_ble_eq_true rfl) rfl rfl ?_
  refine z_aload_n dX12_isOdd_0 rfl ?_
  refine z_gP 0 rfl (r := a_c) flX12_7 dX12_isOdd_1 (sh_M hE) rfl (pt_c hm) (by decide) ?_
  refine z_iconst dX12_isOdd_4 (by decide) ?_
  refine z_iconst dX12_isOdd_5 (by decide) ?_
  refine z_iload_n dX12_isOdd_6 rfl ?_
  refine z_mul dX12_isOdd_7 (by omega) ?_
  refine z_add dX12_isOdd_8 (by omega) ?_
  refine z_iconst dX12_isOdd_9 (by decide) ?_
  refine z_add dX12_isOdd_10 (by omega) ?_
  refine z_iald dX12_isOdd_11 (sh_c hE) (by omega) (by omega) ?_
  refine z_iconst dX12_isOdd_12 (by decide) ?_
  refine z_icmp_ne (tgt := 20) dX12_isOdd_13 rfl (fun h13 => ?_) (fun h13 => ?_)
  · refine z_iconst dX12_isOdd_20 (by decide) ?_
    refine z_zret dX12_isOdd_21 rfl (by first | omega | exact zb01 _) rfl ?_
    exact ⟨by rw [zb_f (by omega)], rfl⟩
  · refine z_iconst dX12_isOdd_16 (by decide) ?_
    refine z_goto (tgt := 21) dX12_isOdd_17 rfl ?_
    refine z_zret dX12_isOdd_21 rfl (by first | omega | exact zb01 _) rfl ?_
    exact ⟨by rw [zb_t (by omega)], rfl⟩

theorem l_vertices (d : Nat) {E : zE} {m : zM} {P : Option zV → zM → Prop} (hE : shM E) (hm : ptM m)  (hw : wfC (m a_c)) : ∀ (j : Nat) (k n : Int), 0 ≤ k → k + j = m a_c 2 → 0 ≤ n ∧ n ≤ k → P (some (zI (n + zsum (fun p => m a_c (32 + 9 * p + 1)) j k))) m → zA zX12_vertices (d + 1) E E P 4 [zP aM, zI n, zI k] [] m E := by
  intro j
  induction j with
  | zero =>
    intro k n h0 hk hn hP
    refine z_iload_n dX12_vertices_4 rfl ?_
    refine z_aload_n dX12_vertices_5 rfl ?_
    refine z_gP 0 rfl (r := a_c) flX12_7 dX12_vertices_6 (sh_M hE) rfl (pt_c hm) (by decide) ?_
    refine z_iconst dX12_vertices_9 (by decide) ?_
    refine z_iald dX12_vertices_10 (sh_c hE) (by have := hw.2.2.1; omega) (by have := hw.2.2.1; omega) ?_
    refine z_icmp_ge (tgt := 35) dX12_vertices_11 rfl (fun h11 => ?_) (fun h => absurd (by omega) h)
    refine z_iload_n dX12_vertices_35 rfl ?_
    refine z_iret dX12_vertices_36 rfl rfl ?_
    rw [zsum_0, Int.add_zero] at hP
    exact hP
  | succ j ih =>
    intro k n h0 hk hn hP
    refine z_iload_n dX12_vertices_4 rfl ?_
    refine z_aload_n dX12_vertices_5 rfl ?_
    refine z_gP 0 rfl (r := a_c) flX12_7 dX12_vertices_6 (sh_M hE) rfl (pt_c hm) (by decide) ?_
    refine z_iconst dX12_vertices_9 (by decide) ?_
    refine z_iald dX12_vertices_10 (sh_c hE) (by have := hw.2.2.1; omega) (by have := hw.2.2.1; omega) ?_
    refine z_icmp_ge (tgt := 35) dX12_vertices_11 rfl (fun h => absurd h (by omega)) (fun h11 => ?_)
    refine z_iload_n dX12_vertices_14 rfl ?_
    refine z_aload_n dX12_vertices_15 rfl ?_
    refine z_gP 0 rfl (r := a_c) flX12_7 dX12_vertices_16 (sh_M hE) rfl (pt_c hm) (by decide) ?_
    refine z_aload_n dX12_vertices_19 rfl ?_
    refine z_iload_n dX12_vertices_20 rfl ?_
    refine z_callV mlX12_120 dX12_vertices_21 (sh_M hE) (av := [_]) rfl rfl (Nat.le_of_ble_eq_true rfl) (r_at _ hE hm k h0 (by have := hw.2.2.1; omega)) (Nat.le_refl _) (Nat.le_refl _) (Nat.le_refl _) (Nat.le_refl _) ?_
    rintro _ _ ⟨rfl, rfl⟩
    refine z_iconst dX12_vertices_24 (by decide) ?_
    refine z_add dX12_vertices_25 (by have := hw.2.2.1; omega) ?_
    refine z_iald dX12_vertices_26 (sh_c hE) (by omega) (by have := hw.2.2.1; omega) ?_
    refine z_add dX12_vertices_27 (by have := (hw.2.2.2.2.2 k h0 (by omega)).2.1; have := hw.2.2.1; omega) ?_
    refine z_ist 1 dX12_vertices_28 rfl (Nat.le_of_ble_eq_true rfl) ?_
    refine z_inc dX12_vertices_29 rfl (by have := hw.2.2.1; omega) ?_
    refine z_goto (tgt := 4) dX12_vertices_32 rfl ?_
    try dsimp only [zs0, zsI, zsP, zsN, zsJ, zsS, zst2, Nat.reduceAdd]
    have hv := (hw.2.2.2.2.2 k h0 (by omega)).2.1
    exact ih (k + 1) _ (by omega) (by omega) (by omega) (by rw [zsum_s, ← Int.add_assoc] at hP; exact hP)

theorem r_vertices (d : Nat) {E : zE} {m : zM} (hE : shM E) (hm : ptM m)  (hw : wfC (m a_c)) : zR zX12_vertices (d + 1) [zP aM] m E E (fun r m' => r = some (zI (zsum (fun p => m a_c (32 + 9 * p + 1)) (m a_c 2).toNat 0)) ∧ m = m') := by
  refine zR_go [zP aM, zN, zN] (by decide +kernel) (Nat.le_of_ble_eq_true rfl) rfl rfl ?_
  refine z_iconst dX12_vertices_0 (by decide) ?_
  refine z_ist 1 dX12_vertices_1 rfl (Nat.le_of_ble_eq_true rfl) ?_
  refine z_iconst dX12_vertices_2 (by decide) ?_
  refine z_ist 2 dX12_vertices_3 rfl (Nat.le_of_ble_eq_true rfl) ?_
  try dsimp only [zs0, zsI, zsP, zsN, zsJ, zsS, zst2, Nat.reduceAdd]
  refine l_vertices d hE hm hw (m a_c 2).toNat 0 0 (by omega) (by have := hw.2.2.1; omega) (by omega) ⟨by rw [Int.zero_add], rfl⟩

theorem r_isPoint (d : Nat) {E : zE} {m : zM} (hE : shM E) (hm : ptM m) (p : Int) (hw : wfC (m a_c)) : zR zX12_isPoint (d + 1) [zP aM, zI p] m E E (fun r m' => r = some (zI (zb (0 ≤ p ∧ p ≤ m a_c 2 - 1))) ∧ m = m') := by
  refine zR_go [zP aM, zI p] (by decide +kernel) (Nat.le_of_ble_eq_true rfl) rfl rfl ?_
  refine z_iload_n dX12_isPoint_0 rfl ?_
  refine z_iconst dX12_isPoint_1 (by decide) ?_
  refine z_aload_n dX12_isPoint_2 rfl ?_
  refine z_gP 0 rfl (r := a_c) flX12_7 dX12_isPoint_3 (sh_M hE) rfl (pt_c hm) (by decide) ?_
  refine z_iconst dX12_isPoint_6 (by decide) ?_
  refine z_iald dX12_isPoint_7 (sh_c hE) (by have := hw.2.2.1; omega) (by have := hw.2.2.1; omega) ?_
  refine z_iconst dX12_isPoint_8 (by decide) ?_
  refine z_sub dX12_isPoint_9 (by have := hw.2.2.1; omega) ?_
  refine z_callS mlX12_140 dX12_isPoint_10 (av := [_, _, _]) rfl rfl (Nat.le_of_ble_eq_true rfl) (r_isIn _ hE hm p 0 _) (Nat.le_refl _) (Nat.le_refl _) (Nat.le_refl _) (Nat.le_refl _) ?_
  rintro _ _ ⟨rfl, rfl⟩
  refine z_zret dX12_isPoint_13 rfl (by first | omega | exact zb01 _) rfl ?_
  exact ⟨rfl, rfl⟩

theorem r_isLetter (d : Nat) {E : zE} {m : zM} (hE : shM E) (hm : ptM m) (i : Int) (hn : 0 ≤ m aM f_letters ∧ m aM f_letters ≤ 12) : zR zX12_isLetter (d + 1) [zP aM, zI i] m E E (fun r m' => r = some (zI (zb (0 ≤ i ∧ i ≤ m aM f_letters - 1))) ∧ m = m') := by
  refine zR_go [zP aM, zI i] (by decide +kernel) (Nat.le_of_ble_eq_true rfl) rfl rfl ?_
  refine z_iload_n dX12_isLetter_0 rfl ?_
  refine z_iconst dX12_isLetter_1 (by decide) ?_
  refine z_aload_n dX12_isLetter_2 rfl ?_
  refine z_gI f_letters rfl flX12_124 dX12_isLetter_3 (sh_M hE) rfl ?_
  refine z_iconst dX12_isLetter_6 (by decide) ?_
  refine z_sub dX12_isLetter_7 (by omega) ?_
  refine z_callS mlX12_140 dX12_isLetter_8 (av := [_, _, _]) rfl rfl (Nat.le_of_ble_eq_true rfl) (r_isIn _ hE hm i 0 _) (Nat.le_refl _) (Nat.le_refl _) (Nat.le_refl _) (Nat.le_refl _) ?_
  rintro _ _ ⟨rfl, rfl⟩
  refine z_zret dX12_isLetter_11 rfl (by first | omega | exact zb01 _) rfl ?_
  exact ⟨rfl, rfl⟩

theorem l_mixOf (d : Nat) {E : zE} {m : zM} {P : Option zV → zM → Prop} (hE : shM E) (hm : ptM m) (f g : Int) (hw : wfC (m a_c)) : ∀ (j : Nat) (k : Int), 0 ≤ k → k + j = m a_c 1 → P (some (zI (zfst (cMixP (m a_c) f g) j k))) m → zA zX12_mixOf (d) E E P 2 [zP aM, zI f, zI g, zI k, zN, zN] [] m E := by
  intro j
  induction j with
  | zero =>
    intro k h0 hk hP
    refine z_iload_n dX12_mixOf_2 rfl ?_
    refine z_aload_n dX12_mixOf_3 rfl ?_
    refine z_gP 0 rfl (r := a_c) flX12_7 dX12_mixOf_4 (sh_M hE) rfl (pt_c hm) (by decide) ?_
    refine z_iconst dX12_mixOf_7 (by decide) ?_
    refine z_iald dX12_mixOf_8 (sh_c hE) (by have := hw.2.1; omega) (by have := hw.2.1; omega) ?_
    refine z_icmp_ge (tgt := 72) dX12_mixOf_9 rfl (fun h9 => ?_) (fun h => absurd (by omega) h)
    refine z_iconst dX12_mixOf_72 (by decide) ?_
    refine z_iret dX12_mixOf_73 rfl rfl ?_
    exact hP
  | succ j ih =>
    intro k h0 hk hP
    refine z_iload_n dX12_mixOf_2 rfl ?_
    refine z_aload_n dX12_mixOf_3 rfl ?_
    refine z_gP 0 rfl (r := a_c) flX12_7 dX12_mixOf_4 (sh_M hE) rfl (pt_c hm) (by decide) ?_
    refine z_iconst dX12_mixOf_7 (by decide) ?_
    refine z_iald dX12_mixOf_8 (sh_c hE) (by have := hw.2.1; omega) (by have := hw.2.1; omega) ?_
    refine z_icmp_ge (tgt := 72) dX12_mixOf_9 rfl (fun h => absurd h (by omega)) (fun h9 => ?_)
    refine z_aload_n dX12_mixOf_12 rfl ?_
    refine z_gP 0 rfl (r := a_c) flX12_7 dX12_mixOf_13 (sh_M hE) rfl (pt_c hm) (by decide) ?_
    refine z_bipush dX12_mixOf_16 rfl (by decide) ?_
    refine z_iconst dX12_mixOf_18 (by decide) ?_
    refine z_iload_n dX12_mixOf_19 rfl ?_
    refine z_mul dX12_mixOf_20 (by have := hw.2.1; omega) ?_
    refine z_add dX12_mixOf_21 (by have := hw.2.1; omega) ?_
    refine z_iald dX12_mixOf_22 (sh_c hE) (by have := hw.2.1; omega) (by have := hw.2.1; omega) ?_
    refine z_istore dX12_mixOf_23 (Nat.le_of_ble_eq_true rfl) ?_
    refine z_aload_n dX12_mixOf_25 rfl ?_
    refine z_gP 0 rfl (r := a_c) flX12_7 dX12_mixOf_26 (sh_M hE) rfl (pt_c hm) (by decide) ?_
    refine z_bipush dX12_mixOf_29 rfl (by decide) ?_
    refine z_iconst dX12_mixOf_31 (by decide) ?_
    refine z_iload_n dX12_mixOf_32 rfl ?_
    refine z_mul dX12_mixOf_33 (by have := hw.2.1; omega) ?_
    refine z_add dX12_mixOf_34 (by have := hw.2.1; omega) ?_
    refine z_iconst dX12_mixOf_35 (by decide) ?_
    refine z_add dX12_mixOf_36 (by have := hw.2.1; omega) ?_
    refine z_iald dX12_mixOf_37 (sh_c hE) (by have := hw.2.1; omega) (by have := hw.2.1; omega) ?_
    refine z_istore dX12_mixOf_38 (Nat.le_of_ble_eq_true rfl) ?_
    refine z_iload dX12_mixOf_40 rfl ?_
    refine z_iload_n dX12_mixOf_42 rfl ?_
    try dsimp only [zs0, zsI, zsP, zsN, zsJ, zsS, zst2, Nat.reduceAdd]
    refine z_icmp_ne (tgt := 52) dX12_mixOf_43 rfl (fun h43 => ?_) (fun h43 => ?_)
    · refine z_iload dX12_mixOf_52 rfl ?_
      refine z_iload_n dX12_mixOf_54 rfl ?_
      refine z_icmp_ne (tgt := 66) dX12_mixOf_55 rfl (fun h55 => ?_) (fun h55 => ?_)
      · refine z_inc dX12_mixOf_66 rfl (by have := hw.2.1; omega) ?_
        refine z_goto (tgt := 2) dX12_mixOf_69 rfl ?_
        try dsimp only [zs0, zsI, zsP, zsN, zsJ, zsS, zst2, Nat.reduceAdd]
        refine zA_wk [_, _, _, _, zN, zN] (by exact ⟨Or.inr rfl, Or.inr rfl, Or.inr rfl, Or.inr rfl, Or.inl rfl, Or.inl rfl, trivial⟩) ?_
        rw [zfst_f (by simp only [cMixP, decide_eq_false_iff_not]; omega)] at hP
        exact ih (k + 1) (by omega) (by omega) hP
      · refine z_iload dX12_mixOf_58 rfl ?_
        refine z_iload_n dX12_mixOf_60 rfl ?_
        refine z_icmp_ne (tgt := 66) dX12_mixOf_61 rfl (fun h61 => ?_) (fun h61 => ?_)
        · refine z_inc dX12_mixOf_66 rfl (by have := hw.2.1; omega) ?_
          refine z_goto (tgt := 2) dX12_mixOf_69 rfl ?_
          try dsimp only [zs0, zsI, zsP, zsN, zsJ, zsS, zst2, Nat.reduceAdd]
          refine zA_wk [_, _, _, _, zN, zN] (by exact ⟨Or.inr rfl, Or.inr rfl, Or.inr rfl, Or.inr rfl, Or.inl rfl, Or.inl rfl, trivial⟩) ?_
          rw [zfst_f (by simp only [cMixP, decide_eq_false_iff_not]; omega)] at hP
          exact ih (k + 1) (by omega) (by omega) hP
        · refine z_iload_n dX12_mixOf_64 rfl ?_
          refine z_iret dX12_mixOf_65 rfl rfl ?_
          rw [zfst_t (by simp only [cMixP, decide_eq_true_eq]; omega)] at hP
          exact hP
    · refine z_iload dX12_mixOf_46 rfl ?_
      refine z_iload_n dX12_mixOf_48 rfl ?_
      refine z_icmp_eq (tgt := 64) dX12_mixOf_49 rfl (fun h49 => ?_) (fun h49 => ?_)
      · refine z_iload_n dX12_mixOf_64 rfl ?_
        refine z_iret dX12_mixOf_65 rfl rfl ?_
        rw [zfst_t (by simp only [cMixP, decide_eq_true_eq]; omega)] at hP
        exact hP
      · refine z_iload dX12_mixOf_52 rfl ?_
        refine z_iload_n dX12_mixOf_54 rfl ?_
        refine z_icmp_ne (tgt := 66) dX12_mixOf_55 rfl (fun h55 => ?_) (fun h55 => ?_)
        · refine z_inc dX12_mixOf_66 rfl (by have := hw.2.1; omega) ?_
          refine z_goto (tgt := 2) dX12_mixOf_69 rfl ?_
          try dsimp only [zs0, zsI, zsP, zsN, zsJ, zsS, zst2, Nat.reduceAdd]
          refine zA_wk [_, _, _, _, zN, zN] (by exact ⟨Or.inr rfl, Or.inr rfl, Or.inr rfl, Or.inr rfl, Or.inl rfl, Or.inl rfl, trivial⟩) ?_
          rw [zfst_f (by simp only [cMixP, decide_eq_false_iff_not]; omega)] at hP
          exact ih (k + 1) (by omega) (by omega) hP
        · refine z_iload dX12_mixOf_58 rfl ?_
          refine z_iload_n dX12_mixOf_60 rfl ?_
          refine z_icmp_ne (tgt := 66) dX12_mixOf_61 rfl (fun h61 => ?_) (fun h61 => ?_)
          · refine z_inc dX12_mixOf_66 rfl (by have := hw.2.1; omega) ?_
            refine z_goto (tgt := 2) dX12_mixOf_69 rfl ?_
            try dsimp only [zs0, zsI, zsP, zsN, zsJ, zsS, zst2, Nat.reduceAdd]
            refine zA_wk [_, _, _, _, zN, zN] (by exact ⟨Or.inr rfl, Or.inr rfl, Or.inr rfl, Or.inr rfl, Or.inl rfl, Or.inl rfl, trivial⟩) ?_
            rw [zfst_f (by simp only [cMixP, decide_eq_false_iff_not]; omega)] at hP
            exact ih (k + 1) (by omega) (by omega) hP
          · refine z_iload_n dX12_mixOf_64 rfl ?_
            refine z_iret dX12_mixOf_65 rfl rfl ?_
            rw [zfst_t (by simp only [cMixP, decide_eq_true_eq]; omega)] at hP
            exact hP

theorem r_mixOf (d : Nat) {E : zE} {m : zM} (hE : shM E) (hm : ptM m) (f g : Int) (hw : wfC (m a_c)) : zR zX12_mixOf (d) [zP aM, zI f, zI g] m E E (fun r m' => r = some (zI (cMix (m a_c) f g)) ∧ m = m') := by
  refine zR_go [zP aM, zI f, zI g, zN, zN, zN] (by decide +kernel) (Nat.le_of_ble_eq_true rfl) rfl rfl ?_
  refine z_iconst dX12_mixOf_0 (by decide) ?_
  refine z_ist 3 dX12_mixOf_1 rfl (Nat.le_of_ble_eq_true rfl) ?_
  try dsimp only [zs0, zsI, zsP, zsN, zsJ, zsS, zst2, Nat.reduceAdd]
  refine l_mixOf d hE hm f g hw (m a_c 1).toNat 0 (by omega) (by have := hw.2.1; omega) ⟨rfl, rfl⟩
