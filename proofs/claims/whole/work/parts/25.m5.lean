theorem sTrace_t {nx : Nat → Nat} {u seen a : Nat} (h : seen.testBit a = true) : sTrace nx (u + 1) seen a = seen := by simp [sTrace, h]
theorem sTrace_f {nx : Nat → Nat} {u seen a : Nat} (h : seen.testBit a = false) : sTrace nx (u + 1) seen a = sTrace nx u (seen ||| 2 ^ a) (nx a) := by simp [sTrace, h]
theorem sRings_t {nx : Nat → Nat} {n s k seen : Nat} (h : seen.testBit k = true) : sRings nx n (s + 1) k seen = sRings nx n s (k + 1) seen := by simp [sRings, h]
theorem sRings_f {nx : Nat → Nat} {n s k seen : Nat} (h : seen.testBit k = false) : sRings nx n (s + 1) k seen = 1 + sRings nx n s (k + 1) (sTrace nx n seen k) := by simp [sRings, h]
theorem sNx_eq {mt : Int → Int} {a : Nat} {n : Int} (hn : 0 < n) (h : 0 ≤ mt a) : (mt a + 1) % n = ((sNx n.toNat mt a : Nat) : Int) := by
  unfold sNx
  have h1 := Int.emod_nonneg (mt a + 1) (by omega : n ≠ 0)
  rw [show ((n.toNat : Nat) : Int) = n by omega]
  omega
theorem sNx_lt {mt : Int → Int} {a : Nat} {n : Int} (hn : 0 < n) (h : n = n) : sNx n.toNat mt a < n.toNat := by
  unfold sNx
  have h1 := Int.emod_nonneg (mt a + 1) (by omega : n ≠ 0)
  have h2 := Int.emod_lt_of_pos (mt a + 1) hn
  rw [show ((n.toNat : Nat) : Int) = n by omega]
  omega
theorem sTrace_lt {nx : Nat → Nat} {n : Nat} (hn : n ≤ 12) (hx : ∀ a, a < n → nx a < n) : ∀ u seen a, a < n → seen < 4096 → sTrace nx u seen a < 4096
  | 0, seen, a, _, h => h
  | u + 1, seen, a, ha, h => by
    unfold sTrace
    split
    · exact h
    · exact sTrace_lt hn hx u _ _ (hx a ha) (Nat.or_lt_two_pow (n := 12) h (Nat.pow_lt_pow_right (by omega) (by omega)))
theorem l_roundsNow_in (d : Nat) {E : zE} {m : zM} {P : Option zV → zM → Prop} (hE : shM E) (hm : ptM m) (i n : Int) (hn0 : 0 ≤ m aM f_letters ∧ m aM f_letters ≤ 12) (hmt : ∀ i, 0 ≤ i → i < m aM f_letters → 0 ≤ m a_mate i ∧ m a_mate i < m aM f_letters) : ∀ (j : Nat) (seen at' : Nat), (at' < (m aM f_letters).toNat) → (seen < 4096) → (sUn seen (m aM f_letters).toNat ≤ j) → (zA zX12_roundsNow (d + 1) E E P 66 [zP aM, zI (sTrace (sNx (m aM f_letters).toNat (m a_mate)) j seen at' : Nat), zI n, zI i, zN] [] m E) → zA zX12_roundsNow (d + 1) E E P 31 [zP aM, zI (seen : Nat), zI n, zI i, zI (at' : Nat)] [] m E := by
  intro j
  induction j with
  | zero =>
    intro seen at' ha hs hu hP
    refine z_iload_n dX12_roundsNow_31 rfl ?_
    refine z_iload dX12_roundsNow_32 rfl ?_
    refine z_callS mlX12_158 dX12_roundsNow_34 (av := [_, _]) rfl rfl (Nat.le_of_ble_eq_true rfl) (r_has _ hE hm seen at' (by omega) (by omega)) (Nat.le_refl _) (Nat.le_refl _) (Nat.le_refl _) (Nat.le_refl _) ?_
    rintro _ _ ⟨rfl, rfl⟩
    refine z_ifz_ne (tgt := 66) dX12_roundsNow_37 rfl (fun h37 => ?_) (fun h => absurd (sUn_0 ha (by omega)) h)
    refine zA_wk [_, _, _, _, zN] (by exact ⟨Or.inr rfl, Or.inr rfl, Or.inr rfl, Or.inr rfl, Or.inl rfl, trivial⟩) ?_
    exact hP
  | succ j ih =>
    intro seen at' ha hs hu hP
    refine z_iload_n dX12_roundsNow_31 rfl ?_
    refine z_iload dX12_roundsNow_32 rfl ?_
    refine z_callS mlX12_158 dX12_roundsNow_34 (av := [_, _]) rfl rfl (Nat.le_of_ble_eq_true rfl) (r_has _ hE hm seen at' (by omega) (by omega)) (Nat.le_refl _) (Nat.le_refl _) (Nat.le_refl _) (Nat.le_refl _) ?_
    rintro _ _ ⟨rfl, rfl⟩
    refine z_ifz_ne (tgt := 66) dX12_roundsNow_37 rfl (fun h37 => ?_) (fun h37 => ?_)
    · refine zA_wk [_, _, _, _, zN] (by exact ⟨Or.inr rfl, Or.inr rfl, Or.inr rfl, Or.inr rfl, Or.inl rfl, trivial⟩) ?_
      rw [sTrace_t h37] at hP
      exact hP
    · refine z_iload_n dX12_roundsNow_40 rfl ?_
      refine z_iconst dX12_roundsNow_41 (by decide) ?_
      refine z_iload dX12_roundsNow_42 rfl ?_
      refine z_ishl dX12_roundsNow_44 ?_
      refine z_ior dX12_roundsNow_45 ?_
      rw [zor_b (by omega) (by omega)]
      refine z_ist 1 dX12_roundsNow_46 rfl (Nat.le_of_ble_eq_true rfl) ?_
      refine z_aload_n dX12_roundsNow_47 rfl ?_
      refine z_gP 16 rfl (r := a_mate) flX12_41 dX12_roundsNow_48 (sh_M hE) rfl (pt_mate hm) (by decide) ?_
      refine z_iload dX12_roundsNow_51 rfl ?_
      refine z_iald dX12_roundsNow_53 (sh_mate hE) (by omega) (by omega) ?_
      refine z_iconst dX12_roundsNow_54 (by decide) ?_
      refine z_add dX12_roundsNow_55 (by have := hmt at' (by omega) (by omega); omega) ?_
      refine z_aload_n dX12_roundsNow_56 rfl ?_
      refine z_gI f_letters rfl flX12_124 dX12_roundsNow_57 (sh_M hE) rfl ?_
      refine z_rem dX12_roundsNow_60 (by have := hmt at' (by omega) (by omega); omega) (by omega) ?_
      refine z_istore dX12_roundsNow_61 (Nat.le_of_ble_eq_true rfl) ?_
      refine z_goto (tgt := 31) dX12_roundsNow_63 rfl ?_
      try dsimp only [zs0, zsI, zsP, zsN, zsJ, zsS, zst2, Nat.reduceAdd]
      rw [sTrace_f (by simpa using h37)] at hP
      have hm1 := hmt at' (by omega) (by omega)
      have hx : (m a_mate at' + 1) % m aM f_letters = ((sNx (m aM f_letters).toNat (m a_mate) at' : Nat) : Int) := sNx_eq (by omega) (by omega)
      rw [hx]
      exact ih _ _ (sNx_lt (by omega) (by omega)) (Nat.or_lt_two_pow (n := 12) hs (Nat.pow_lt_pow_right (by omega) (by omega))) (by have := sUn_or ha (by simpa using h37); omega) hP

theorem l_roundsNow (d : Nat) {E : zE} {m : zM} {P : Option zV → zM → Prop} (hE : shM E) (hm : ptM m)  (hn0 : 0 ≤ m aM f_letters ∧ m aM f_letters ≤ 12) (hmt : ∀ i, 0 ≤ i → i < m aM f_letters → 0 ≤ m a_mate i ∧ m a_mate i < m aM f_letters) : ∀ (j : Nat) (k n seen : Nat), ((k : Int) + j = m aM f_letters) → (seen < 4096) → (n ≤ k) → (P (some (zI (n + sRings (sNx (m aM f_letters).toNat (m a_mate)) (m aM f_letters).toNat j k seen : Nat))) m) → zA zX12_roundsNow (d + 1) E E P 6 [zP aM, zI (seen : Nat), zI (n : Nat), zI (k : Nat), zN] [] m E := by
  intro j
  induction j with
  | zero =>
    intro k n seen hk hs hn hP
    refine z_iload_n dX12_roundsNow_6 rfl ?_
    refine z_aload_n dX12_roundsNow_7 rfl ?_
    refine z_gI f_letters rfl flX12_124 dX12_roundsNow_8 (sh_M hE) rfl ?_
    refine z_icmp_ge (tgt := 72) dX12_roundsNow_11 rfl (fun h11 => ?_) (fun h => absurd (by omega) h)
    refine z_iload_n dX12_roundsNow_72 rfl ?_
    refine z_iret dX12_roundsNow_73 rfl rfl ?_
    exact hP
  | succ j ih =>
    intro k n seen hk hs hn hP
    refine z_iload_n dX12_roundsNow_6 rfl ?_
    refine z_aload_n dX12_roundsNow_7 rfl ?_
    refine z_gI f_letters rfl flX12_124 dX12_roundsNow_8 (sh_M hE) rfl ?_
    refine z_icmp_ge (tgt := 72) dX12_roundsNow_11 rfl (fun h => absurd h (by omega)) (fun h11 => ?_)
    refine z_iload_n dX12_roundsNow_14 rfl ?_
    refine z_iload_n dX12_roundsNow_15 rfl ?_
    refine z_callS mlX12_158 dX12_roundsNow_16 (av := [_, _]) rfl rfl (Nat.le_of_ble_eq_true rfl) (r_has _ hE hm seen k (by omega) (by omega)) (Nat.le_refl _) (Nat.le_refl _) (Nat.le_refl _) (Nat.le_refl _) ?_
    rintro _ _ ⟨rfl, rfl⟩
    refine z_ifz_eq (tgt := 25) dX12_roundsNow_19 rfl (fun h19 => ?_) (fun h19 => ?_)
    · refine z_inc dX12_roundsNow_25 rfl (by omega) ?_
      refine z_iload_n dX12_roundsNow_28 rfl ?_
      refine z_istore dX12_roundsNow_29 (Nat.le_of_ble_eq_true rfl) ?_
      try dsimp only [zs0, zsI, zsP, zsN, zsJ, zsS, zst2, Nat.reduceAdd]
      refine l_roundsNow_in d hE hm (k : Int) ((n : Int) + 1) hn0 hmt (m aM f_letters).toNat seen k (by omega) hs (sUn_le _ _) ?_
      refine z_inc dX12_roundsNow_66 rfl (by omega) ?_
      refine z_goto (tgt := 6) dX12_roundsNow_69 rfl ?_
      try dsimp only [zs0, zsI, zsP, zsN, zsJ, zsS, zst2, Nat.reduceAdd]
      rw [sRings_f (by simpa using h19)] at hP
      rw [show (k : Int) + 1 = ((k + 1 : Nat) : Int) by omega, show (n : Int) + 1 = ((n + 1 : Nat) : Int) by omega]
      exact ih (k + 1) (n + 1) _ (by omega) (sTrace_lt (by omega) (fun a h => sNx_lt (by omega) (by omega)) _ _ _ (by omega) hs) (by omega) (by rw [← Nat.add_assoc] at hP; exact hP)
    · refine z_goto (tgt := 66) dX12_roundsNow_22 rfl ?_
      refine z_inc dX12_roundsNow_66 rfl (by omega) ?_
      refine z_goto (tgt := 6) dX12_roundsNow_69 rfl ?_
      try dsimp only [zs0, zsI, zsP, zsN, zsJ, zsS, zst2, Nat.reduceAdd]
      refine zA_wk [_, _, _, _, zN] (by exact ⟨Or.inr rfl, Or.inr rfl, Or.inr rfl, Or.inr rfl, Or.inl rfl, trivial⟩) ?_
      rw [sRings_t h19] at hP
      rw [show (k : Int) + 1 = ((k + 1 : Nat) : Int) by omega]
      exact ih (k + 1) n seen (by omega) hs (by omega) hP

theorem r_roundsNow (d : Nat) {E : zE} {m : zM} (hE : shM E) (hm : ptM m)  (hn0 : 0 ≤ m aM f_letters ∧ m aM f_letters ≤ 12) (hmt : ∀ i, 0 ≤ i → i < m aM f_letters → 0 ≤ m a_mate i ∧ m a_mate i < m aM f_letters) : zR zX12_roundsNow (d + 1) [zP aM] m E E (fun r m' => r = some (zI (sRounds (m aM f_letters).toNat (m a_mate))) ∧ m = m') := by
  refine zR_go [zP aM, zN, zN, zN, zN] (by decide +kernel) (Nat.le_of_ble_eq_true rfl) rfl rfl ?_
  refine z_iconst dX12_roundsNow_0 (by decide) ?_
  refine z_ist 1 dX12_roundsNow_1 rfl (Nat.le_of_ble_eq_true rfl) ?_
  refine z_iconst dX12_roundsNow_2 (by decide) ?_
  refine z_ist 2 dX12_roundsNow_3 rfl (Nat.le_of_ble_eq_true rfl) ?_
  refine z_iconst dX12_roundsNow_4 (by decide) ?_
  refine z_ist 3 dX12_roundsNow_5 rfl (Nat.le_of_ble_eq_true rfl) ?_
  try dsimp only [zs0, zsI, zsP, zsN, zsJ, zsS, zst2, Nat.reduceAdd]
  refine l_roundsNow d hE hm hn0 hmt (m aM f_letters).toNat 0 0 0 (by omega) (by omega) (by omega) ⟨by rw [Nat.zero_add]; rfl, rfl⟩

theorem l_firstFree (d : Nat) {E : zE} {m : zM} {P : Option zV → zM → Prop} (hE : shM E) (hm : ptM m) (A : Nat) (hA : m aM f_among = (A : Int)) (hA2 : A < 4096) (hn0 : 0 ≤ m aM f_letters ∧ m aM f_letters ≤ 12) : ∀ (j : Nat) (k : Nat), ((k : Int) + j = m aM f_letters) → (P (some (zI (zfst (fun i => A.testBit i.toNat && decide (m a_mate i < 0)) j k))) m) → zA zX12_firstFree (d + 1) E E P 2 [zP aM, zI (k : Nat)] [] m E := by
  intro j
  induction j with
  | zero =>
    intro k hk hP
    refine z_iload_n dX12_firstFree_2 rfl ?_
    refine z_aload_n dX12_firstFree_3 rfl ?_
    refine z_gI f_letters rfl flX12_124 dX12_firstFree_4 (sh_M hE) rfl ?_
    refine z_icmp_ge (tgt := 38) dX12_firstFree_7 rfl (fun h7 => ?_) (fun h => absurd (by omega) h)
    refine z_iconst dX12_firstFree_38 (by decide) ?_
    refine z_iret dX12_firstFree_39 rfl rfl ?_
    exact hP
  | succ j ih =>
    intro k hk hP
    refine z_iload_n dX12_firstFree_2 rfl ?_
    refine z_aload_n dX12_firstFree_3 rfl ?_
    refine z_gI f_letters rfl flX12_124 dX12_firstFree_4 (sh_M hE) rfl ?_
    refine z_icmp_ge (tgt := 38) dX12_firstFree_7 rfl (fun h => absurd h (by omega)) (fun h7 => ?_)
    refine z_aload_n dX12_firstFree_10 rfl ?_
    refine z_gIv f_among rfl flX12_155 dX12_firstFree_11 (sh_M hE) rfl hA ?_
    refine z_iload_n dX12_firstFree_14 rfl ?_
    refine z_callS mlX12_158 dX12_firstFree_15 (av := [_, _]) rfl rfl (Nat.le_of_ble_eq_true rfl) (r_has _ hE hm A k (by omega) (by omega)) (Nat.le_refl _) (Nat.le_refl _) (Nat.le_refl _) (Nat.le_refl _) ?_
    rintro _ _ ⟨rfl, rfl⟩
    refine z_ifz_eq (tgt := 32) dX12_firstFree_18 rfl (fun h18 => ?_) (fun h18 => ?_)
    · refine z_inc dX12_firstFree_32 rfl (by omega) ?_
      refine z_goto (tgt := 2) dX12_firstFree_35 rfl ?_
      try dsimp only [zs0, zsI, zsP, zsN, zsJ, zsS, zst2, Nat.reduceAdd]
      rw [show (k : Int) + 1 = ((k + 1 : Nat) : Int) by omega]
      rw [zfst_f (by simp [h18])] at hP
      exact ih (k + 1) (by omega) hP
    · refine z_aload_n dX12_firstFree_21 rfl ?_
      refine z_gP 16 rfl (r := a_mate) flX12_41 dX12_firstFree_22 (sh_M hE) rfl (pt_mate hm) (by decide) ?_
      refine z_iload_n dX12_firstFree_25 rfl ?_
      refine z_iald dX12_firstFree_26 (sh_mate hE) (by omega) (by omega) ?_
      refine z_if_ge (tgt := 32) dX12_firstFree_27 rfl (fun h27 => ?_) (fun h27 => ?_)
      · refine z_inc dX12_firstFree_32 rfl (by omega) ?_
        refine z_goto (tgt := 2) dX12_firstFree_35 rfl ?_
        try dsimp only [zs0, zsI, zsP, zsN, zsJ, zsS, zst2, Nat.reduceAdd]
        rw [show (k : Int) + 1 = ((k + 1 : Nat) : Int) by omega]
        rw [zfst_f (by simp [h18]; omega)] at hP
        exact ih (k + 1) (by omega) hP
      · refine z_iload_n dX12_firstFree_30 rfl ?_
        refine z_iret dX12_firstFree_31 rfl rfl ?_
        rw [zfst_t (by simp [h18]; omega)] at hP
        exact hP

theorem r_firstFree (d : Nat) {E : zE} {m : zM} (hE : shM E) (hm : ptM m) (A : Nat) (hA : m aM f_among = (A : Int)) (hA2 : A < 4096) (hn0 : 0 ≤ m aM f_letters ∧ m aM f_letters ≤ 12) : zR zX12_firstFree (d + 1) [zP aM] m E E (fun r m' => r = some (zI (zfst (fun i => A.testBit i.toNat && decide (m a_mate i < 0)) (m aM f_letters).toNat 0)) ∧ m = m') := by
  refine zR_go [zP aM, zN] (by decide +kernel) (Nat.le_of_ble_eq_true rfl) rfl rfl ?_
  refine z_iconst dX12_firstFree_0 (by decide) ?_
  refine z_ist 1 dX12_firstFree_1 rfl (Nat.le_of_ble_eq_true rfl) ?_
  try dsimp only [zs0, zsI, zsP, zsN, zsJ, zsS, zst2, Nat.reduceAdd]
  refine l_firstFree d hE hm A hA hA2 hn0 (m aM f_letters).toNat 0 (by omega) ⟨rfl, rfl⟩

theorem l_begins (d : Nat) {E : zE} {m : zM} {P : Option zV → zM → Prop} (hE : shM E) (hm : ptM m) (sv : Int)  : ∀ (j : Nat) (k : Int) (m1 : zM), (ptM m1) → (0 ≤ k) → (k + j = 12) → (zfr [(a_mate, none), (aM, some f_among)] m m1) → (m1 aM f_among = sv) → (∀ i, 0 ≤ i → i < k → m1 a_mate i = -1) → (∀ x, (x < 0 ∨ 12 ≤ x) → m1 a_mate x = m a_mate x) → (∀ m2, zfr [(a_mate, none), (aM, some f_among)] m m2 → m2 aM f_among = sv → (∀ i, 0 ≤ i → i < 12 → m2 a_mate i = -1) → (∀ x, (x < 0 ∨ 12 ≤ x) → m2 a_mate x = m a_mate x) → P none m2) → zA zX12_begins (d) E E P 7 [zP aM, zI sv, zI k] [] m1 E := by
  intro j
  induction j with
  | zero =>
    intro k m1 hm1 h0 hk hf ha hq hz hP
    refine z_iload_n dX12_begins_7 rfl ?_
    refine z_bipush dX12_begins_8 rfl (by decide) ?_
    refine z_icmp_ge (tgt := 26) dX12_begins_10 rfl (fun h10 => ?_) (fun h => absurd (by omega) h)
    refine z_vret dX12_begins_26 rfl rfl ?_
    exact hP m1 hf ha (fun i q1 q2 => hq i q1 (by omega)) hz
  | succ j ih =>
    intro k m1 hm1 h0 hk hf ha hq hz hP
    refine z_iload_n dX12_begins_7 rfl ?_
    refine z_bipush dX12_begins_8 rfl (by decide) ?_
    refine z_icmp_ge (tgt := 26) dX12_begins_10 rfl (fun h => absurd h (by omega)) (fun h10 => ?_)
    refine z_aload_n dX12_begins_13 rfl ?_
    refine z_gP 16 rfl (r := a_mate) flX12_41 dX12_begins_14 (sh_M hE) rfl (pt_mate hm1) (by decide) ?_
    refine z_iload_n dX12_begins_17 rfl ?_
    refine z_iconst dX12_begins_18 (by decide) ?_
    refine z_iast dX12_begins_19 (sh_mate hE) (by omega) (by omega) ?_
    refine z_inc dX12_begins_20 rfl (by omega) ?_
    refine z_goto (tgt := 7) dX12_begins_23 rfl ?_
    try dsimp only [zs0, zsI, zsP, zsN, zsJ, zsS, zst2, Nat.reduceAdd]
    exact ih (k + 1) _ (ptM_a hm1 (by decide)) (by omega) (by omega) (zfr_ua hf (by simp)) (by rw [zu_a (by decide)]; exact ha) (fun i q1 q2 => by by_cases e : i = k; (rw [e, zu_s]); (rw [zu_j e]; exact hq i q1 (by omega))) (fun x hx => by rw [zu_j (by omega)]; exact hz x hx) hP

theorem r_begins (d : Nat) {E : zE} {m : zM} (hE : shM E) (hm : ptM m) (sv : Int)  : zR zX12_begins (d) [zP aM, zI sv] m E E (fun r m' => r = none ∧ zfr [(a_mate, none), (aM, some f_among)] m m' ∧ m' aM f_among = sv ∧ (∀ i, 0 ≤ i → i < 12 → m' a_mate i = -1) ∧ ∀ x, (x < 0 ∨ 12 ≤ x) → m' a_mate x = m a_mate x) := by
  refine zR_go [zP aM, zI sv, zN] (by decide +kernel) (Nat.le_of_ble_eq_true rfl) rfl rfl ?_
  refine z_aload_n dX12_begins_0 rfl ?_
  refine z_iload_n dX12_begins_1 rfl ?_
  refine z_pI f_among rfl (fpX12_155 _) dX12_begins_2 (sh_M hE) rfl ?_
  refine z_iconst dX12_begins_5 (by decide) ?_
  refine z_ist 2 dX12_begins_6 rfl (Nat.le_of_ble_eq_true rfl) ?_
  try dsimp only [zs0, zsI, zsP, zsN, zsJ, zsS, zst2, Nat.reduceAdd]
  refine l_begins d hE hm sv 12 0 _ (ptM_j hm (by decide)) (by omega) (by omega) (zfr_uj zfr_rf (by simp)) zu_s (fun i q1 q2 => by omega) (fun x _ => zu_a (by decide)) (fun m2 q1 q2 q3 q4 => ⟨rfl, q1, q2, q3, q4⟩)
