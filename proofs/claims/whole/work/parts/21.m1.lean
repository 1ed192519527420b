theorem r_isIn (d : Nat) {E : zE} {m : zM} (v lo hi : Int) : zR zX12_isIn (d) [zI v, zI lo, zI hi] m E E (fun r m' => r = some (zI (zb (lo ≤ v ∧ v ≤ hi))) ∧ m' = m) := by
  refine zR_go [zI v, zI lo, zI hi] (by decide +kernel) (Nat.le_of_ble_eq_true rfl) rfl rfl ?_
  refine z_iload_n dX12_isIn_0 rfl ?_
  refine z_iload_n dX12_isIn_1 rfl ?_
  refine z_icmp_lt dX12_isIn_2 rfl (fun h2 => ?_) (fun h2 => ?_)
  · refine z_iconst dX12_isIn_14 (by decide) ?_
    refine z_zret dX12_isIn_15 rfl (by omega) rfl ?_
    refine ⟨?_, rfl⟩
    unfold zb
    first | rw [if_pos ⟨by omega, by omega⟩] | rw [if_neg (by omega)]
  · refine z_iload_n dX12_isIn_5 rfl ?_
    refine z_iload_n dX12_isIn_6 rfl ?_
    refine z_icmp_gt dX12_isIn_7 rfl (fun h7 => ?_) (fun h7 => ?_)
    · refine z_iconst dX12_isIn_14 (by decide) ?_
      refine z_zret dX12_isIn_15 rfl (by omega) rfl ?_
      refine ⟨?_, rfl⟩
      unfold zb
      first | rw [if_pos ⟨by omega, by omega⟩] | rw [if_neg (by omega)]
    · refine z_iconst dX12_isIn_10 (by decide) ?_
      refine z_goto dX12_isIn_11 rfl ?_
      refine z_zret dX12_isIn_15 rfl (by omega) rfl ?_
      refine ⟨?_, rfl⟩
      unfold zb
      first | rw [if_pos ⟨by omega, by omega⟩] | rw [if_neg (by omega)]

theorem r_has (d : Nat) {E : zE} {m : zM} (b k : Nat) (hb : b < 2147483648) (hk : k < 32) : zR zX12_has (d) [zI (b : Nat), zI (k : Nat)] m E E (fun r m' => r = some (zI (zb (b.testBit k = true))) ∧ m' = m) := by
  refine zR_go [zI (b : Nat), zI (k : Nat)] (by decide +kernel) (Nat.le_of_ble_eq_true rfl) rfl rfl ?_
  refine z_iload_n dX12_has_0 rfl ?_
  refine z_iload_n dX12_has_1 rfl ?_
  refine z_ishr dX12_has_2 ?_
  refine z_iconst dX12_has_3 (by decide) ?_
  refine z_iand dX12_has_4 ?_
  refine z_iconst dX12_has_5 (by decide) ?_
  refine z_icmp_ne dX12_has_6 rfl (fun h6 => ?_) (fun h6 => ?_)
  · refine z_iconst dX12_has_13 (by decide) ?_
    refine z_zret dX12_has_14 rfl (by omega) rfl ?_
    refine ⟨?_, rfl⟩
    rw [zbit hb hk] at h6
    unfold zb at h6 ⊢
    split at h6 <;> simp_all
  · refine z_iconst dX12_has_9 (by decide) ?_
    refine z_goto dX12_has_10 rfl ?_
    refine z_zret dX12_has_14 rfl (by omega) rfl ?_
    refine ⟨?_, rfl⟩
    rw [zbit hb hk] at h6
    unfold zb at h6 ⊢
    split at h6 <;> simp_all

theorem r_at (d : Nat) {E : zE} {m : zM} (hE : shM E) (hm : ptM m) (p : Int) (h0 : 0 ≤ p) (h1 : p ≤ 100) : zR zX12_at (d) [zP aM, zI p] m E E (fun r m' => r = some (zI (32 + 9 * p)) ∧ m' = m) := by
  refine zR_go [zP aM, zI p] (by decide +kernel) (Nat.le_of_ble_eq_true rfl) rfl rfl ?_
  refine z_bipush dX12_at_0 rfl (by decide) ?_
  refine z_bipush dX12_at_2 rfl (by decide) ?_
  refine z_iload_n dX12_at_4 rfl ?_
  refine z_mul dX12_at_5 (by omega) ?_
  refine z_add dX12_at_6 (by omega) ?_
  refine z_iret dX12_at_7 rfl rfl ?_
  exact ⟨rfl, rfl⟩

theorem r_sizeOf (d : Nat) {E : zE} {m : zM} (hE : shM E) (hm : ptM m) (p : Int) (h0 : 0 ≤ p) (h1 : p < 8) : zR zX12_sizeOf (d + 1) [zP aM, zI p] m E E (fun r m' => r = some (zI (m a_c (32 + 9 * p))) ∧ m' = m) := by
  refine zR_go [zP aM, zI p] (by decide +kernel) (Nat.le_of_ble_eq_true rfl) rfl rfl ?_
  refine z_aload_n dX12_sizeOf_0 rfl ?_
  refine z_getP (r := a_c) flX12_7 dX12_sizeOf_1 (sh_M hE) rfl (pt_c hm) (by omega) ?_
  refine z_aload_n dX12_sizeOf_4 rfl ?_
  refine z_iload_n dX12_sizeOf_5 rfl ?_
  refine z_callV mlX12_120 dX12_sizeOf_6 (sh_M hE) (av := [_]) rfl rfl (Nat.le_of_ble_eq_true rfl) (r_at d hE hm p h0 (by omega)) (Nat.le_refl _) (Nat.le_refl _) (Nat.le_refl _) (Nat.le_refl _) ?_
  rintro _ _ ⟨rfl, rfl⟩
  refine z_iald dX12_sizeOf_9 (sh_c hE) (by omega) (by omega) ?_
  refine z_iret dX12_sizeOf_10 rfl rfl ?_
  exact ⟨rfl, rfl⟩

theorem r_isVertex (d : Nat) {E : zE} {m : zM} (hE : shM E) (hm : ptM m) (p : Int) (h0 : 0 ≤ p) (h1 : p < 8) : zR zX12_isVertex (d + 1) [zP aM, zI p] m E E (fun r m' => r = some (zI (zb (m a_c (33 + 9 * p) = 1))) ∧ m' = m) := by
  refine zR_go [zP aM, zI p] (by decide +kernel) (Nat.le_of_ble_eq_true rfl) rfl rfl ?_
  refine z_aload_n dX12_isVertex_0 rfl ?_
  refine z_getP (r := a_c) flX12_7 dX12_isVertex_1 (sh_M hE) rfl (pt_c hm) (by omega) ?_
  refine z_aload_n dX12_isVertex_4 rfl ?_
  refine z_iload_n dX12_isVertex_5 rfl ?_
  refine z_callV mlX12_120 dX12_isVertex_6 (sh_M hE) (av := [_]) rfl rfl (Nat.le_of_ble_eq_true rfl) (r_at d hE hm p h0 (by omega)) (Nat.le_refl _) (Nat.le_refl _) (Nat.le_refl _) (Nat.le_refl _) ?_
  rintro _ _ ⟨rfl, rfl⟩
  refine z_iconst dX12_isVertex_9 (by decide) ?_
  refine z_add dX12_isVertex_10 (by omega) ?_
  refine z_iald dX12_isVertex_11 (sh_c hE) (by omega) (by omega) ?_
  refine z_iconst dX12_isVertex_12 (by decide) ?_
  refine z_icmp_ne dX12_isVertex_13 rfl (fun h13 => ?_) (fun h13 => ?_)
  · refine z_iconst dX12_isVertex_20 (by decide) ?_
    refine z_zret dX12_isVertex_21 rfl (by omega) rfl ?_
    refine ⟨?_, rfl⟩
    rw [show 32 + 9 * p + 1 = 33 + 9 * p by omega] at h11
    unfold zb
    first | rw [if_pos (by omega)] | rw [if_neg (by omega)]
  · refine z_iconst dX12_isVertex_16 (by decide) ?_
    refine z_goto dX12_isVertex_17 rfl ?_
    refine z_zret dX12_isVertex_21 rfl (by omega) rfl ?_
    refine ⟨?_, rfl⟩
    rw [show 32 + 9 * p + 1 = 33 + 9 * p by omega] at h11
    unfold zb
    first | rw [if_pos (by omega)] | rw [if_neg (by omega)]
