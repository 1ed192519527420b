def by8 (v i : Int) : Int := zi2b (zi2b (zshr v (24 - 8 * i)))
def fd (a b c e f i : Int) : Int := if i < 4 then by8 a i else if i < 8 then by8 b (i - 4) else if i < 12 then by8 c (i - 8) else if i < 16 then by8 e (i - 12) else by8 f (i - 16)
theorem fd1 {a b c e f i : Int} (h : i < 4) : fd a b c e f i = by8 a i := if_pos h
theorem fd2 {a b c e f i : Int} (h : 4 ≤ i ∧ i < 8) : fd a b c e f i = by8 b (i - 4) := by unfold fd; rw [if_neg (by omega), if_pos (by omega)]
theorem fd3 {a b c e f i : Int} (h : 8 ≤ i ∧ i < 12) : fd a b c e f i = by8 c (i - 8) := by unfold fd; rw [if_neg (by omega), if_neg (by omega), if_pos (by omega)]
theorem fd4 {a b c e f i : Int} (h : 12 ≤ i ∧ i < 16) : fd a b c e f i = by8 e (i - 12) := by unfold fd; rw [if_neg (by omega), if_neg (by omega), if_neg (by omega), if_pos (by omega)]
theorem fd5 {a b c e f i : Int} (h : 16 ≤ i) : fd a b c e f i = by8 f (i - 16) := by unfold fd; rw [if_neg (by omega), if_neg (by omega), if_neg (by omega), if_neg (by omega)]
def fTp : List (Int × Option Int) := [(a_tape, none), (aM, some f_taped)]
def fFd : List (Int × Option Int) := [(a_tape, none), (aM, some f_taped), (aM, some f_thrown)]
theorem ptM_tp {m m1 : zM} (h : ptM m) (b : zfr fTp m m1) : ptM m1 := fun q hq => by
  have hq2 : ∀ q ∈ mPt, fTp.all (fun r => r.1 != aM || (r.2 != none && r.2 != some q.1)) = true := by decide
  rw [zfr_at b (hq2 q hq)]
  exact h q hq
def aFault (k at' w : Int) : Int := if w = 0 then k else if w = 1 then at' else -1
theorem l_puts (d : Nat) {E : zE} {m : zM} {P : Option zV → zM → Prop} (hE : shM E) (hm : ptM m) (v : Int) (h0 : 0 ≤ m aM f_taped) (h1 : m aM f_taped + 4 ≤ 400)  : ∀ (j : Nat) (i : Int) (m1 : zM), (0 ≤ i) → (i + j = 4) → (zfr fTp m m1) → (m1 aM f_taped = m aM f_taped + i) → (∀ x, m1 a_tape x = if m aM f_taped ≤ x ∧ x < m aM f_taped + i then by8 v (x - m aM f_taped) else m a_tape x) → (∀ m2, zfr fTp m m2 → m2 aM f_taped = m aM f_taped + 4 → (∀ x, m2 a_tape x = if m aM f_taped ≤ x ∧ x < m aM f_taped + 4 then by8 v (x - m aM f_taped) else m a_tape x) → P none m2) → zA zX12_puts (d) E E P 3 [zP aM, zI v, zI (24 - 8 * i)] [] m1 E := by
  intro j
  induction j with
  | zero =>
    intro i m1 i0 hi hf ht hv hP
    have hm1 : ptM m1 := ptM_tp hm hf
    refine z_iload_n dX12_puts_3 rfl ?_
    refine z_if_lt (tgt := 36) dX12_puts_4 rfl (fun h4 => ?_) (fun h => absurd (by omega) h)
    refine z_vret dX12_puts_36 rfl rfl ?_
    have ei : i = 4 := by omega
    subst ei
    exact hP m1 hf ht hv
  | succ j ih =>
    intro i m1 i0 hi hf ht hv hP
    have hm1 : ptM m1 := ptM_tp hm hf
    refine z_iload_n dX12_puts_3 rfl ?_
    refine z_if_lt (tgt := 36) dX12_puts_4 rfl (fun h => absurd h (by omega)) (fun h4 => ?_)
    refine z_aload_n dX12_puts_7 rfl ?_
    refine z_gP 36 rfl (r := a_tape) flX12_75 dX12_puts_8 (sh_M hE) rfl (pt_tape hm1) (by decide) ?_
    refine z_aload_n dX12_puts_11 rfl ?_
    refine z_gIv f_taped rfl flX12_447 dX12_puts_12 (sh_M hE) rfl ht ?_
    refine z_iload_n dX12_puts_15 rfl ?_
    refine z_iload_n dX12_puts_16 rfl ?_
    refine z_ishr dX12_puts_17 ?_
    refine z_i2b dX12_puts_18 ?_
    refine z_bast dX12_puts_19 (sh_tape hE) (by omega) (by omega) ?_
    refine z_aload_n dX12_puts_20 rfl ?_
    refine z_dup dX12_puts_21 rfl ?_
    refine z_gIv f_taped rfl flX12_447 dX12_puts_22 (sh_M hE) rfl (Eq.trans (zu_a (by decide)) ht) ?_
    refine z_iconst dX12_puts_25 (by decide) ?_
    refine z_add dX12_puts_26 (by omega) ?_
    refine z_pI f_taped rfl (fpX12_447 _) dX12_puts_27 (sh_M hE) rfl ?_
    refine z_inc dX12_puts_30 rfl (by omega) ?_
    refine z_goto (tgt := 3) dX12_puts_33 rfl ?_
    try dsimp only [zs0, zsI, zsP, zsN, zsJ, zsS, zst2, Nat.reduceAdd]
    rw [show 24 - 8 * i + -8 = 24 - 8 * (i + 1) by omega]
    refine ih (i + 1) _ (by omega) (by omega) (zfr_uj (zfr_ua hf (by decide)) (by decide)) (by rw [zu_s]; omega) (fun x => ?_) hP
    rw [zu_a (by decide)]
    by_cases e : x = m aM f_taped + i
    · rw [e, zu_s, if_pos (by omega), show m aM f_taped + i - m aM f_taped = i by omega]; rfl
    · rw [zu_j e, hv x]
      by_cases e2 : m aM f_taped ≤ x ∧ x < m aM f_taped + i
      · rw [if_pos e2, if_pos (by omega)]
      · rw [if_neg e2, if_neg (by omega)]

theorem r_puts (d : Nat) {E : zE} {m : zM} (hE : shM E) (hm : ptM m) (v : Int) (h0 : 0 ≤ m aM f_taped) (h1 : m aM f_taped + 4 ≤ 400) : zR zX12_puts d [zP aM, zI v] m E E (fun r m' => r = none ∧ zfr fTp m m' ∧ m' aM f_taped = m aM f_taped + 4 ∧ ∀ x, m' a_tape x = if m aM f_taped ≤ x ∧ x < m aM f_taped + 4 then by8 v (x - m aM f_taped) else m a_tape x) := by
  refine zR_go [zP aM, zI v, zN] (by decide +kernel) (Nat.le_of_ble_eq_true rfl) rfl rfl ?_
  refine z_bipush dX12_puts_0 rfl (by decide) ?_
  refine z_ist 2 dX12_puts_2 rfl (Nat.le_of_ble_eq_true rfl) ?_
  try dsimp only [zs0, zsI, zsP, zsN, zsJ, zsS, zst2, Nat.reduceAdd]
  refine l_puts d hE hm v h0 h1 4 0 m (by omega) (by omega) zfr_rf (by omega) (fun x => by rw [if_neg (by omega)]) (fun m2 a1 a2 a3 => ⟨rfl, a1, a2, a3⟩)

theorem r_feed (d : Nat) {E : zE} {m : zM} (hE : shM E) (hm : ptM m) (a b c e f : Int) (h0 : 0 ≤ m aM f_taped ∧ m aM f_taped ≤ 400) : zR zX12_feed (d + 1) [zP aM, zI a, zI b, zI c, zI e, zI f] m E E (fun r m' => r = some (zI (if m aM f_taped + 20 ≤ 400 then m aM f_taped + 20 else -1)) ∧ zfr fFd m m' ∧ m' aM f_taped = (if m aM f_taped + 20 ≤ 400 then m aM f_taped + 20 else m aM f_taped) ∧ ∀ x, m' a_tape x = if m aM f_taped + 20 ≤ 400 ∧ m aM f_taped ≤ x ∧ x < m aM f_taped + 20 then fd a b c e f (x - m aM f_taped) else m a_tape x) := by
  refine zR_go [zP aM, zI a, zI b, zI c, zI e, zI f] (by decide +kernel) (Nat.le_of_ble_eq_true rfl) rfl rfl ?_
  refine z_aload_n dX12_feed_0 rfl ?_
  refine z_iconst dX12_feed_1 (by decide) ?_
  refine z_pI f_thrown rfl (fpX12_114 _) dX12_feed_2 (sh_M hE) rfl ?_
  generalize em0 : zu m aM f_thrown 0 = m0
  have z0 : zfr fFd m m0 := by rw [← em0]; exact zfr_uj zfr_rf (by decide)
  have hm0 : ptM m0 := by rw [← em0]; exact ptM_j hm (by decide)
  have k0 : m0 aM f_taped = m aM f_taped := by rw [← em0]; exact zu_j (by decide)
  have c0 : m0 a_tape = m a_tape := by rw [← em0]; exact zu_fn (by decide)
  refine z_aload_n dX12_feed_5 rfl ?_
  refine z_gIv f_taped rfl flX12_447 dX12_feed_6 (sh_M hE) rfl k0 ?_
  refine z_bipush dX12_feed_9 rfl (by decide) ?_
  refine z_add dX12_feed_11 (by omega) ?_
  refine z_sipush dX12_feed_12 rfl (by decide) ?_
  refine z_icmp_le (tgt := 20) dX12_feed_15 rfl (fun h15 => ?_) (fun h15 => ?_)
  · refine z_aload_n dX12_feed_20 rfl ?_
    refine z_iload_n dX12_feed_21 rfl ?_
    refine z_callV mlX12_450 dX12_feed_22 (sh_M hE) (av := [_]) rfl rfl (Nat.le_of_ble_eq_true rfl) (r_puts _ hE hm0 a (by omega) (by omega)) (Nat.le_refl _) (Nat.le_refl _) (Nat.le_refl _) (Nat.le_refl _) ?_
    rintro _ m1 ⟨rfl, f1, t1, v1⟩
    have hm1 : ptM m1 := ptM_tp hm0 f1
    refine z_aload_n dX12_feed_25 rfl ?_
    refine z_iload_n dX12_feed_26 rfl ?_
    refine z_callV mlX12_450 dX12_feed_27 (sh_M hE) (av := [_]) rfl rfl (Nat.le_of_ble_eq_true rfl) (r_puts _ hE hm1 b (by omega) (by omega)) (Nat.le_refl _) (Nat.le_refl _) (Nat.le_refl _) (Nat.le_refl _) ?_
    rintro _ m2 ⟨rfl, f2, t2, v2⟩
    have hm2 : ptM m2 := ptM_tp hm1 f2
    refine z_aload_n dX12_feed_30 rfl ?_
    refine z_iload_n dX12_feed_31 rfl ?_
    refine z_callV mlX12_450 dX12_feed_32 (sh_M hE) (av := [_]) rfl rfl (Nat.le_of_ble_eq_true rfl) (r_puts _ hE hm2 c (by omega) (by omega)) (Nat.le_refl _) (Nat.le_refl _) (Nat.le_refl _) (Nat.le_refl _) ?_
    rintro _ m3 ⟨rfl, f3, t3, v3⟩
    have hm3 : ptM m3 := ptM_tp hm2 f3
    refine z_aload_n dX12_feed_35 rfl ?_
    refine z_iload dX12_feed_36 rfl ?_
    refine z_callV mlX12_450 dX12_feed_38 (sh_M hE) (av := [_]) rfl rfl (Nat.le_of_ble_eq_true rfl) (r_puts _ hE hm3 e (by omega) (by omega)) (Nat.le_refl _) (Nat.le_refl _) (Nat.le_refl _) (Nat.le_refl _) ?_
    rintro _ m4 ⟨rfl, f4, t4, v4⟩
    have hm4 : ptM m4 := ptM_tp hm3 f4
    refine z_aload_n dX12_feed_41 rfl ?_
    refine z_iload dX12_feed_42 rfl ?_
    refine z_callV mlX12_450 dX12_feed_44 (sh_M hE) (av := [_]) rfl rfl (Nat.le_of_ble_eq_true rfl) (r_puts _ hE hm4 f (by omega) (by omega)) (Nat.le_refl _) (Nat.le_refl _) (Nat.le_refl _) (Nat.le_refl _) ?_
    rintro _ m5 ⟨rfl, f5, t5, v5⟩
    have hm5 : ptM m5 := ptM_tp hm4 f5
    refine z_aload_n dX12_feed_47 rfl ?_
    refine z_gIv f_taped rfl flX12_447 dX12_feed_48 (sh_M hE) rfl (show m5 aM f_taped = m aM f_taped + 20 by omega) ?_
    refine z_iret dX12_feed_51 rfl rfl ?_
    rw [if_pos (by omega), if_pos (by omega)]
    refine ⟨rfl, zfr_tr z0 (zfr_tr (zfr_sub f1 (by decide)) (zfr_tr (zfr_sub f2 (by decide)) (zfr_tr (zfr_sub f3 (by decide)) (zfr_tr (zfr_sub f4 (by decide)) (zfr_sub f5 (by decide)))))), by omega, fun x => ?_⟩
    rw [v5 x, t4, t3, t2, t1, k0]
    by_cases q : m aM f_taped ≤ x ∧ x < m aM f_taped + 20
    · rw [if_pos (show m aM f_taped + 20 ≤ 400 ∧ m aM f_taped ≤ x ∧ x < m aM f_taped + 20 from ⟨by omega, q⟩)]
      by_cases q5 : m aM f_taped + 16 ≤ x
      · rw [if_pos (by omega), fd5 (by omega), show x - (m aM f_taped + 4 + 4 + 4 + 4) = x - m aM f_taped - 16 by omega]
      · rw [if_neg (by omega), v4 x, t3, t2, t1, k0]
        by_cases q4 : m aM f_taped + 12 ≤ x
        · rw [if_pos (by omega), fd4 (by omega), show x - (m aM f_taped + 4 + 4 + 4) = x - m aM f_taped - 12 by omega]
        · rw [if_neg (by omega), v3 x, t2, t1, k0]
          by_cases q3 : m aM f_taped + 8 ≤ x
          · rw [if_pos (by omega), fd3 (by omega), show x - (m aM f_taped + 4 + 4) = x - m aM f_taped - 8 by omega]
          · rw [if_neg (by omega), v2 x, t1, k0]
            by_cases q2 : m aM f_taped + 4 ≤ x
            · rw [if_pos (by omega), fd2 (by omega), show x - (m aM f_taped + 4) = x - m aM f_taped - 4 by omega]
            · rw [if_neg (by omega), v1 x, k0, if_pos (by omega), fd1 (by omega)]
    · rw [if_neg (show ¬ (m aM f_taped + 20 ≤ 400 ∧ m aM f_taped ≤ x ∧ x < m aM f_taped + 20) from fun h => q h.2), if_neg (by omega), v4 x, t3, t2, t1, k0, if_neg (by omega), v3 x, t2, t1, k0, if_neg (by omega), v2 x, t1, k0, if_neg (by omega), v1 x, k0, if_neg (by omega), c0]
  · refine z_iconst dX12_feed_18 (by decide) ?_
    refine z_iret dX12_feed_19 rfl rfl ?_
    rw [if_neg (by omega), if_neg (by omega)]
    exact ⟨rfl, z0, k0, fun x => by rw [if_neg (by omega), c0]⟩

theorem r_fault (d : Nat) {E : zE} {m : zM} (hE : shM E) (hm : ptM m) (w : Int) : zR zX12_fault d [zP aM, zI w] m E E (fun r m' => r = some (zI (aFault (m aM f_faultKind) (m aM f_faultAt) w)) ∧ zu m aM f_thrown 0 = m') := by
  refine zR_go [zP aM, zI w] (by decide +kernel) (Nat.le_of_ble_eq_true rfl) rfl rfl ?_
  refine z_aload_n dX12_fault_0 rfl ?_
  refine z_iconst dX12_fault_1 (by decide) ?_
  refine z_pI f_thrown rfl (fpX12_114 _) dX12_fault_2 (sh_M hE) rfl ?_
  refine z_iload_n dX12_fault_5 rfl ?_
  refine z_if_ne (tgt := 16) dX12_fault_6 rfl (fun h6 => ?_) (fun h6 => ?_)
  · refine z_iload_n dX12_fault_16 rfl ?_
    refine z_iconst dX12_fault_17 (by decide) ?_
    refine z_icmp_ne (tgt := 28) dX12_fault_18 rfl (fun h18 => ?_) (fun h18 => ?_)
    · refine z_iconst dX12_fault_28 (by decide) ?_
      refine z_iret dX12_fault_29 rfl rfl ?_
      unfold aFault
      rw [if_neg (by omega), if_neg (by omega)]
      exact ⟨rfl, rfl⟩
    · refine z_aload_n dX12_fault_21 rfl ?_
      refine z_gIv f_faultAt rfl flX12_83 dX12_fault_22 (sh_M hE) rfl (zu_j (by decide)) ?_
      refine z_goto (tgt := 29) dX12_fault_25 rfl ?_
      refine z_iret dX12_fault_29 rfl rfl ?_
      unfold aFault
      rw [if_neg (by omega), if_pos (by omega)]
      exact ⟨rfl, rfl⟩
  · refine z_aload_n dX12_fault_9 rfl ?_
    refine z_gIv f_faultKind rfl flX12_79 dX12_fault_10 (sh_M hE) rfl (zu_j (by decide)) ?_
    refine z_goto (tgt := 29) dX12_fault_13 rfl ?_
    refine z_iret dX12_fault_29 rfl rfl ?_
    unfold aFault
    rw [if_pos (by omega)]
    exact ⟨rfl, rfl⟩
