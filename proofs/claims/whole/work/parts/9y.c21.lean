/-- insertion, the k-th on its way down -/
def ksI (f f0 : Int → Int) (n i k : Nat) : Prop := pm f f0 n ∧ (∀ x y : Int, 0 ≤ x → x ≤ y → y ≤ i → x ≠ k → y ≠ k → f x ≤ f y) ∧ ∀ y : Int, (k : Int) ≤ y → y ≤ i → f k ≤ f y
theorem ksI_0 {f f0 : Int → Int} {n i : Nat} (hp : pm f f0 n) (hs : srt f i) : ksI f f0 n i i := ⟨hp, fun x y h0 h1 h2 h3 h4 => hs x y h0 h1 (by omega), fun y h0 h1 => by rw [show y = (i : Int) by omega]; exact Int.le_refl _⟩
theorem ksI_end {f f0 : Int → Int} {n i k : Nat} (h : ksI f f0 n i k) (he : k = 0 ∨ (1 ≤ k ∧ f ((k - 1 : Nat) : Int) ≤ f k)) : srt f (i + 1) := by
  obtain ⟨h1, h2, h3⟩ := h
  intro x y q0 q1 q2
  by_cases ex : x = k
  · rw [ex]; exact h3 y (by omega) (by omega)
  · by_cases ey : y = k
    · rcases he with e | ⟨e1, e2⟩
      · omega
      · rw [ey]
        have := h2 x ((k - 1 : Nat) : Int) q0 (by omega) (by omega) ex (by omega)
        omega
    · exact h2 x y q0 q1 (by omega) ex ey
theorem ksI_step {m1 : zM} {A : Int} {f0 : Int → Int} {n i k : Nat} (h : ksI (m1 A) f0 n i (k + 1)) (hk : k + 1 ≤ i) (hi : i < n) (hlt : m1 A ((k + 1 : Nat) : Int) < m1 A (k : Int)) : ksI (zu (zu m1 A ((k + 1 : Nat) : Int) (m1 A (k : Int))) A (k : Int) (m1 A ((k + 1 : Nat) : Int)) A) f0 n i k := by
  obtain ⟨h1, h2, h3⟩ := h
  have e : zu (zu m1 A ((k + 1 : Nat) : Int) (m1 A (k : Int))) A (k : Int) (m1 A ((k + 1 : Nat) : Int)) A = fun x => if x = (k : Int) then m1 A ((k + 1 : Nat) : Int) else if x = ((k + 1 : Nat) : Int) then m1 A (k : Int) else m1 A x := by
    funext x
    by_cases e1 : x = (k : Int)
    · rw [e1, zu_s, if_pos rfl]
    · rw [zu_j e1, if_neg e1]
      by_cases e2 : x = ((k + 1 : Nat) : Int)
      · rw [e2, zu_s, if_pos rfl]
      · rw [zu_j e2, if_neg e2]
  rw [e]
  refine ⟨pm_tr (pm_swap (f := m1 A) (i := ((k + 1 : Nat) : Int)) (j := (k : Int)) (by omega) (by omega) (by omega) (by omega)) h1, fun x y q0 q1 q2 q3 q4 => ?_, fun y q0 q1 => ?_⟩
  · show (if x = (k : Int) then _ else if x = ((k + 1 : Nat) : Int) then m1 A (k : Int) else m1 A x) ≤ (if y = (k : Int) then _ else if y = ((k + 1 : Nat) : Int) then m1 A (k : Int) else m1 A y)
    rw [if_neg q3, if_neg q4]
    by_cases ex : x = ((k + 1 : Nat) : Int)
    · rw [if_pos ex]
      by_cases ey : y = ((k + 1 : Nat) : Int)
      · rw [if_pos ey]; exact Int.le_refl _
      · rw [if_neg ey]; exact h2 k y (by omega) (by omega) q2 (by omega) ey
    · rw [if_neg ex]
      by_cases ey : y = ((k + 1 : Nat) : Int)
      · rw [if_pos ey]; exact h2 x k q0 (by omega) (by omega) ex (by omega)
      · rw [if_neg ey]; exact h2 x y q0 q1 q2 ex ey
  · show (if (k : Int) = (k : Int) then m1 A ((k + 1 : Nat) : Int) else _) ≤ (if y = (k : Int) then m1 A ((k + 1 : Nat) : Int) else if y = ((k + 1 : Nat) : Int) then m1 A (k : Int) else m1 A y)
    rw [if_pos rfl]
    by_cases ex : y = (k : Int)
    · rw [if_pos ex]; exact Int.le_refl _
    · rw [if_neg ex]
      by_cases ey : y = ((k + 1 : Nat) : Int)
      · rw [if_pos ey]; omega
      · rw [if_neg ey]; exact h3 y (by omega) q1
theorem zfst_rg {p : Int → Bool} (j : Nat) : zfst p j 0 = -1 ∨ (0 ≤ zfst p j 0 ∧ zfst p j 0 < j) := by
  rcases zfst_ge (p := p) (j := j) (k := 0) (by omega) with ⟨h, -⟩ | ⟨h1, h2, -⟩
  · exact Or.inl h
  · exact Or.inr ⟨h1, by omega⟩
theorem kW_2 {K : zK} {p : Int} (hk : kOk K) (h1 : kSo K p = 1) (hz : kSz K p = 2) : kW K p = 27 * (K.1 p - 96) + (K.1 (p + 1) - 96) := by
  have h := kSz_w hk h1
  unfold kW
  rw [show (kWe K p - p).toNat = 2 by omega, kWn_wn K p (by decide)]
  show 27 * (27 * 0 + (K.1 (p + (0 : Nat)) - 96)) + (K.1 (p + (1 : Nat)) - 96) = _
  rw [show p + ((0 : Nat) : Int) = p by omega, show p + ((1 : Nat) : Int) = p + 1 by omega]
  omega
theorem kMx_is {m : zM} {K : zK} {t : Int} {c w q : Int → Int} {n p : Int} (hw : wfD c) (hS : lR m K t c w q n p) (h1 : kSo K p = 1) (hz : kSz K p = 2) : cMx c (kW K p) = zfst (fun k => decide (c (4 + 3 * c (24 + 2 * k)) = K.1 (p + (0 : Nat)) - 96 ∧ c (4 + 3 * c (24 + 2 * k + 1)) = K.1 (p + (1 : Nat)) - 96)) (c 1).toNat 0 := by
  have b2 := hw.2.1
  have l0 := kL_iff.mp (wd_L hS.1.1 h1 0 (by omega))
  have l1 := kL_iff.mp (wd_L hS.1.1 h1 1 (by omega))
  unfold cMx
  refine zfst_congr (fun k q0 q1 => ?_)
  have hx := hw.2.2.2.2.1 k q0 (by omega)
  have s1 := (hw.2.2.2.1 _ hx.1.1 hx.1.2).1
  have s2 := (hw.2.2.2.1 _ hx.2.1 hx.2.2).1
  rw [kW_2 hS.1.1 h1 hz]
  rw [show p + ((0 : Nat) : Int) = p by omega] at l0 ⊢
  rw [show p + ((1 : Nat) : Int) = p + 1 by omega] at l1 ⊢
  exact decide_eq_decide.mpr (by omega)
theorem l_keyIn (d : Nat) {E : zE} {m : zM} {P : Option zV → zM → Prop} (A len : Int) (A0 : 0 ≤ A) (sA : E.1 A = (1, len)) (n : Nat) (hnl : (n : Int) ≤ len) (hn6 : n ≤ 6) (i : Nat) (hi : i < n) (hP : ∀ m2, zfr [(A, none)] m m2 → pm (m2 A) (m A) n → srt (m2 A) (i + 1) → zA zX0_keyOf d E E P 63 [zP A, zI (n : Nat), zJ 0, zN, zI (i : Nat), zN, zN] [] m2 E) : ∀ (j : Nat) (m1 : zM), (zfr [(A, none)] m m1) → (ksI (m1 A) (m A) n i j) → (j ≤ i) → zA zX0_keyOf (d) E E P 15 [zP A, zI (n : Nat), zJ 0, zN, zI (i : Nat), zI (j : Nat), zN] [] m1 E := by
  intro j
  induction j with
  | zero =>
    intro m1 hf hI hj
    refine z_iload dX0_keyOf_15 rfl ?_
    refine z_if_le (tgt := 63) dX0_keyOf_17 rfl (fun h17 => ?_) (fun h => absurd (by omega) h)
    refine zA_wk [_, _, _, _, _, zN, zN] (by exact ⟨Or.inr rfl, Or.inr rfl, Or.inr rfl, Or.inr rfl, Or.inr rfl, Or.inl rfl, Or.inl rfl, trivial⟩) ?_
    exact hP m1 hf hI.1 (ksI_end hI (Or.inl rfl))
  | succ j ih =>
    intro m1 hf hI hj
    refine z_iload dX0_keyOf_15 rfl ?_
    refine z_if_le (tgt := 63) dX0_keyOf_17 rfl (fun h => absurd h (by omega)) (fun h17 => ?_)
    refine z_aload_n dX0_keyOf_20 rfl ?_
    refine z_iload dX0_keyOf_21 rfl ?_
    refine z_iald dX0_keyOf_23 sA (by omega) (by omega) ?_
    refine z_aload_n dX0_keyOf_24 rfl ?_
    refine z_iload dX0_keyOf_25 rfl ?_
    refine z_iconst dX0_keyOf_27 (by decide) ?_
    refine z_sub dX0_keyOf_28 (by omega) ?_
    refine z_iald dX0_keyOf_29 sA (by omega) (by omega) ?_
    refine z_icmp_ge (tgt := 63) dX0_keyOf_30 rfl (fun h30 => ?_) (fun h30 => ?_)
    · refine zA_wk [_, _, _, _, _, zN, zN] (by exact ⟨Or.inr rfl, Or.inr rfl, Or.inr rfl, Or.inr rfl, Or.inr rfl, Or.inl rfl, Or.inl rfl, trivial⟩) ?_
      exact hP m1 hf hI.1 (ksI_end hI (Or.inr ⟨by omega, by rw [show (((j + 1 : Nat) : Int) - 1) = ((j : Nat) : Int) by omega] at h30; exact h30⟩))
    · refine z_aload_n dX0_keyOf_33 rfl ?_
      refine z_iload dX0_keyOf_34 rfl ?_
      refine z_iald dX0_keyOf_36 sA (by omega) (by omega) ?_
      refine z_istore dX0_keyOf_37 (Nat.le_of_ble_eq_true rfl) ?_
      refine z_aload_n dX0_keyOf_39 rfl ?_
      refine z_iload dX0_keyOf_40 rfl ?_
      refine z_aload_n dX0_keyOf_42 rfl ?_
      refine z_iload dX0_keyOf_43 rfl ?_
      refine z_iconst dX0_keyOf_45 (by decide) ?_
      refine z_sub dX0_keyOf_46 (by omega) ?_
      refine z_iald dX0_keyOf_47 sA (by omega) (by omega) ?_
      refine z_iast dX0_keyOf_48 sA (by omega) (by omega) ?_
      refine z_aload_n dX0_keyOf_49 rfl ?_
      refine z_iload dX0_keyOf_50 rfl ?_
      refine z_iconst dX0_keyOf_52 (by decide) ?_
      refine z_sub dX0_keyOf_53 (by omega) ?_
      refine z_iload dX0_keyOf_54 rfl ?_
      refine z_iast dX0_keyOf_56 sA (by omega) (by omega) ?_
      obtain ⟨m2, em2⟩ : ∃ x, x = zu (zu m1 A (j + 1 : Nat) (m1 A (((j + 1 : Nat) : Int) - 1))) A (((j + 1 : Nat) : Int) - 1) (m1 A (j + 1 : Nat)) := ⟨_, rfl⟩
      rw [← em2]
      refine z_inc dX0_keyOf_57 rfl (by omega) ?_
      refine z_goto (tgt := 15) dX0_keyOf_60 rfl ?_
      try dsimp only [zs0, zsI, zsP, zsN, zsJ, zsS, zst2, Nat.reduceAdd]
      refine zA_wk [_, _, _, _, _, _, zN] (by exact ⟨Or.inr rfl, Or.inr rfl, Or.inr rfl, Or.inr rfl, Or.inr rfl, Or.inr rfl, Or.inl rfl, trivial⟩) ?_
      rw [show (((j + 1 : Nat) : Int) + -1) = (j : Int) by omega]
      exact ih m2 (by rw [em2]; exact zfr_ua (zfr_ua hf (by simp)) (by simp)) (by rw [em2, show (((j + 1 : Nat) : Int) - 1) = (j : Int) by omega]; exact ksI_step hI hj hi (by rw [show (((j + 1 : Nat) : Int) - 1) = ((j : Nat) : Int) by omega] at h30; omega)) (by omega)

theorem l_keyOut (d : Nat) {E : zE} {m : zM} {P : Option zV → zM → Prop} (A len : Int) (A0 : 0 ≤ A) (sA : E.1 A = (1, len)) (n : Nat) (hnl : (n : Int) ≤ len) (hn6 : n ≤ 6) (hP : ∀ m2, zfr [(A, none)] m m2 → pm (m2 A) (m A) n → srt (m2 A) n → zA zX0_keyOf d E E P 69 [zP A, zI (n : Nat), zJ 0, zN, zN, zN, zN] [] m2 E) : ∀ (j : Nat) (i : Nat) (m1 : zM), (i + j = n) → (zfr [(A, none)] m m1) → (pm (m1 A) (m A) n) → (srt (m1 A) i) → zA zX0_keyOf (d) E E P 5 [zP A, zI (n : Nat), zJ 0, zN, zI (i : Nat), zN, zN] [] m1 E := by
  intro j
  induction j with
  | zero =>
    intro i m1 hi hf hp hs
    refine z_iload dX0_keyOf_5 rfl ?_
    refine z_iload_n dX0_keyOf_7 rfl ?_
    refine z_icmp_ge (tgt := 69) dX0_keyOf_8 rfl (fun h8 => ?_) (fun h => absurd (by omega) h)
    refine zA_wk [_, _, _, _, zN, zN, zN] (by exact ⟨Or.inr rfl, Or.inr rfl, Or.inr rfl, Or.inr rfl, Or.inl rfl, Or.inl rfl, Or.inl rfl, trivial⟩) ?_
    rw [show i = n by omega] at hs
    exact hP m1 hf hp hs
  | succ j ih =>
    intro i m1 hi hf hp hs
    refine z_iload dX0_keyOf_5 rfl ?_
    refine z_iload_n dX0_keyOf_7 rfl ?_
    refine z_icmp_ge (tgt := 69) dX0_keyOf_8 rfl (fun h => absurd h (by omega)) (fun h8 => ?_)
    refine z_iload dX0_keyOf_11 rfl ?_
    refine z_istore dX0_keyOf_13 (Nat.le_of_ble_eq_true rfl) ?_
    try dsimp only [zs0, zsI, zsP, zsN, zsJ, zsS, zst2, Nat.reduceAdd]
    refine l_keyIn d A len A0 sA n hnl hn6 i (by omega) (fun m2 f2 p2 s2 => ?_) i m1 hf (ksI_0 hp hs) (Nat.le_refl _)
    refine z_inc dX0_keyOf_63 rfl (by omega) ?_
    refine z_goto (tgt := 5) dX0_keyOf_66 rfl ?_
    try dsimp only [zs0, zsI, zsP, zsN, zsJ, zsS, zst2, Nat.reduceAdd]
    rw [show (i : Int) + 1 = ((i + 1 : Nat) : Int) by omega]
    exact ih (i + 1) m2 (by omega) f2 p2 s2

theorem l_keyPk (d : Nat) {E : zE} {m : zM} {P : Option zV → zM → Prop} (A len : Int) (A0 : 0 ≤ A) (sA : E.1 A = (1, len)) (n : Nat) (hnl : (n : Int) ≤ len) (hn6 : n ≤ 6) (hr : ∀ i : Int, 0 ≤ i → i < n → 0 ≤ m A i ∧ m A i < 1024) (hP : P (some (zJ (sPk (m A) n))) m) : ∀ (j : Nat) (k : Nat), (k + j = n) → zA zX0_keyOf (d) E E P 72 [zP A, zI (n : Nat), zJ (sPk (m A) k), zN, zI (k : Nat), zN, zN] [] m E := by
  intro j
  induction j with
  | zero =>
    intro k hk
    refine z_iload dX0_keyOf_72 rfl ?_
    refine z_iload_n dX0_keyOf_74 rfl ?_
    refine z_icmp_ge (tgt := 95) dX0_keyOf_75 rfl (fun h75 => ?_) (fun h => absurd (by omega) h)
    refine z_lload_n dX0_keyOf_95 rfl ?_
    refine z_lret dX0_keyOf_96 rfl rfl ?_
    rw [show n = k by omega] at hP
    exact hP
  | succ j ih =>
    intro k hk
    have hb := sPk_bd (f := m A) (n := k) (fun i q0 q1 => hr i q0 (by omega))
    have hb2 := p1024 k (by omega)
    have hx := hr (k : Nat) (by omega) (by omega)
    refine z_iload dX0_keyOf_72 rfl ?_
    refine z_iload_n dX0_keyOf_74 rfl ?_
    refine z_icmp_ge (tgt := 95) dX0_keyOf_75 rfl (fun h => absurd h (by omega)) (fun h75 => ?_)
    refine z_lload_n dX0_keyOf_78 rfl ?_
    refine z_bipush dX0_keyOf_79 rfl (by decide) ?_
    refine z_lshl dX0_keyOf_81 ?_
    refine z_aload_n dX0_keyOf_82 rfl ?_
    refine z_iload dX0_keyOf_83 rfl ?_
    refine z_iald dX0_keyOf_85 sA (by omega) (by omega) ?_
    refine z_i2l dX0_keyOf_86 ?_
    refine z_lor dX0_keyOf_87 ?_
    rw [zl_put hb.1 (by omega) hx.1 hx.2, show sPk (m A) k * 1024 + m A (k : Nat) = sPk (m A) (k + 1) from rfl]
    refine z_lst 2 dX0_keyOf_88 rfl (Nat.le_of_ble_eq_true rfl) ?_
    refine z_inc dX0_keyOf_89 rfl (by omega) ?_
    refine z_goto (tgt := 72) dX0_keyOf_92 rfl ?_
    try dsimp only [zs0, zsI, zsP, zsN, zsJ, zsS, zst2, Nat.reduceAdd]
    rw [show (k : Int) + 1 = ((k + 1 : Nat) : Int) by omega]
    exact ih (k + 1) (by omega)

theorem c_keyOf (d : Nat) {E : zE} {m : zM} (A len : Int) (A0 : 0 ≤ A) (sA : E.1 A = (1, len)) (n : Nat) (hnl : (n : Int) ≤ len) (hn6 : n ≤ 6) (hr : ∀ i : Int, 0 ≤ i → i < n → 0 ≤ m A i ∧ m A i < 1024) : zR zX0_keyOf (d) [zP A, zI (n : Nat)] m E E (fun r m' => r = some (zJ (sKey (m A) n)) ∧ zfr [(A, none)] m m' ∧ pm (m' A) (m A) n ∧ srt (m' A) n) := by
  refine zR_go [zP A, zI (n : Nat), zN, zN, zN, zN, zN] (by decide +kernel) (Nat.le_of_ble_eq_true rfl) rfl rfl ?_
  refine z_lconst0 dX0_keyOf_0 ?_
  refine z_lst 2 dX0_keyOf_1 rfl (Nat.le_of_ble_eq_true rfl) ?_
  refine z_iconst dX0_keyOf_2 (by decide) ?_
  refine z_istore dX0_keyOf_3 (Nat.le_of_ble_eq_true rfl) ?_
  try dsimp only [zs0, zsI, zsP, zsN, zsJ, zsS, zst2, Nat.reduceAdd]
  refine l_keyOut d A len A0 sA n hnl hn6 (fun m2 f2 p2 s2 => ?_) n 0 m (by omega) zfr_rf pm_rf (fun i j q0 q1 q2 => by omega)
  refine z_iconst dX0_keyOf_69 (by decide) ?_
  refine z_istore dX0_keyOf_70 (Nat.le_of_ble_eq_true rfl) ?_
  try dsimp only [zs0, zsI, zsP, zsN, zsJ, zsS, zst2, Nat.reduceAdd]
  refine l_keyPk d A len A0 sA n hnl hn6 (pm_all (P := fun v => 0 ≤ v ∧ v < 1024) (pm_sy p2) hr) ?_ n 0 (by omega)
  exact ⟨by rw [sKey_eq s2 p2], f2, p2, s2⟩

theorem c_readSort (d : Nat) {E : zE} {m : zM} (t : Int) (t5 : 5 < t) (sK : shK E) (sL : E.1 4 = (9, 4)) (sC : E.1 5 = (1, 6)) (sT : shT E t) (K : zK) (c w q : Int → Int) (n : Int) (hw : wfD c) (hl : wfL c w q n) (p : Int) (hS0 : lR m K t c w q n p) : zR zX3_readSort (d + 2) [zP 4, zP 1, zP t] m E E (fun r m' => (kSo K p ≠ 1 ∧ r = some (zI (-1)) ∧ m' = kBad m (kMis K p) p) ∨ (kSo K p = 1 ∧ kSrt K c p < 0 ∧ (∃ x, r = some (zI x) ∧ x < 0) ∧ m' = kBad m 3 p) ∨ (kSo K p = 1 ∧ 0 ≤ kSrt K c p ∧ r = some (zI (kSrt K c p)) ∧ m = m')) := by
  have hto := kTo_is K p
  have b2 := hw.2.1
  refine zR_go [zP 4, zP 1, zP t, zN, zN] (by decide +kernel) (Nat.le_of_ble_eq_true rfl) rfl rfl ?_
  refine z_aload_n dX3_readSort_0 rfl ?_
  refine z_gIv 6 rfl flX3_26 dX3_readSort_1 sK.1 rfl hS0.2.1.2.2.2.1 ?_
  refine z_iconst dX3_readSort_4 (by decide) ?_
  refine z_icmp_eq (tgt := 15) dX3_readSort_5 rfl (fun h5 => ?_) (fun h5 => ?_)
  · refine z_iconst dX3_readSort_15 (by decide) ?_
    refine z_ist 3 dX3_readSort_16 rfl (Nat.le_of_ble_eq_true rfl) ?_
    refine z_aload_n dX3_readSort_17 rfl ?_
    try dsimp only [zs0, zsI, zsP, zsN, zsJ, zsS, zst2, Nat.reduceAdd]
    refine z_callV mlX3_92 dX3_readSort_18 sK.1 (av := _) rfl rfl (Nat.le_of_ble_eq_true rfl) (c_size _ sK K p hS0.2.1 hS0.1.1 (by omega)) (Nat.le_refl _) (Nat.le_refl _) (Nat.le_refl _) (Nat.le_refl _) ?_
    rintro _ _ ⟨rfl, rfl⟩
    refine z_iconst dX3_readSort_21 (by decide) ?_
    refine z_icmp_ne (tgt := 37) dX3_readSort_22 rfl (fun h22 => ?_) (fun h22 => ?_)
    · refine z_aload_n dX3_readSort_37 rfl ?_
      refine z_callV mlX3_92 dX3_readSort_38 sK.1 (av := _) rfl rfl (Nat.le_of_ble_eq_true rfl) (c_size _ sK K p hS0.2.1 hS0.1.1 (by omega)) (Nat.le_refl _) (Nat.le_refl _) (Nat.le_refl _) (Nat.le_refl _) ?_
      rintro _ _ ⟨rfl, rfl⟩
      refine z_iconst dX3_readSort_41 (by decide) ?_
      refine z_icmp_ne (tgt := 76) dX3_readSort_42 rfl (fun h42 => ?_) (fun h42 => ?_)
      · refine z_iload_n dX3_readSort_76 rfl ?_
        refine z_if_ge (tgt := 86) dX3_readSort_77 rfl (fun h => absurd h (by decide)) (fun h77 => ?_)
        refine z_aload_n dX3_readSort_80 rfl ?_
        refine z_iconst dX3_readSort_81 (by decide) ?_
        refine z_callV mlX3_47 dX3_readSort_82 sK.1 (av := [_]) rfl rfl (Nat.le_of_ble_eq_true rfl) (c_failHere _ sK K p hS0.2.1 3) (Nat.le_refl _) (Nat.le_refl _) (Nat.le_refl _) (Nat.le_refl _) ?_
        rintro _ _ ⟨rfl, rfl⟩
        refine z_pop dX3_readSort_85 rfl ?_
        refine z_iload_n dX3_readSort_86 rfl ?_
        refine z_iret dX3_readSort_87 rfl rfl ?_
        have e : kSrt K c p = -1 := by unfold kSrt; rw [if_neg h22, if_neg h42]
        exact Or.inr (Or.inl ⟨by omega, by rw [e]; omega, ⟨_, rfl, by omega⟩, rfl⟩)
      · refine z_aload_n dX3_readSort_45 rfl ?_
        refine z_aload_n dX3_readSort_46 rfl ?_
        refine z_iconst dX3_readSort_47 (by decide) ?_
        refine z_callV mlX3_100 dX3_readSort_48 sK.1 (av := [_]) rfl rfl (Nat.le_of_ble_eq_true rfl) (c_letterAt _ sK K hS0.1 p hS0.2.1 (by omega) 0 (by omega)) (Nat.le_refl _) (Nat.le_refl _) (Nat.le_refl _) (Nat.le_refl _) ?_
        rintro _ _ ⟨rfl, rfl⟩
        refine z_aload_n dX3_readSort_51 rfl ?_
        refine z_iconst dX3_readSort_52 (by decide) ?_
        refine z_callV mlX3_100 dX3_readSort_53 sK.1 (av := [_]) rfl rfl (Nat.le_of_ble_eq_true rfl) (c_letterAt _ sK K hS0.1 p hS0.2.1 (by omega) 1 (by omega)) (Nat.le_refl _) (Nat.le_refl _) (Nat.le_refl _) (Nat.le_refl _) ?_
        rintro _ _ ⟨rfl, rfl⟩
        refine z_callV mlX3_103 dX3_readSort_56 (sT0 sT) (av := [_, _]) rfl rfl (Nat.le_of_ble_eq_true rfl) (c_mixOfLetters _ t (by omega) sT hS0.2.2.1 c hw hS0.2.2.2.1 _ _) (Nat.le_refl _) (Nat.le_refl _) (Nat.le_refl _) (Nat.le_refl _) ?_
        rintro _ _ ⟨rfl, rfl⟩
        have hmx := zfst_rg (p := fun k => decide (c (4 + 3 * c (24 + 2 * k)) = K.1 (p + (0 : Nat)) - 96 ∧ c (4 + 3 * c (24 + 2 * k + 1)) = K.1 (p + (1 : Nat)) - 96)) (c 1).toNat
        refine z_istore dX3_readSort_59 (Nat.le_of_ble_eq_true rfl) ?_
        refine z_iload dX3_readSort_61 rfl ?_
        try dsimp only [zs0, zsI, zsP, zsN, zsJ, zsS, zst2, Nat.reduceAdd]
        refine z_if_ge (tgt := 70) dX3_readSort_63 rfl (fun h63 => ?_) (fun h63 => ?_)
        · refine z_bipush dX3_readSort_70 rfl (by decide) ?_
          refine z_iload dX3_readSort_72 rfl ?_
          refine z_add dX3_readSort_74 (by omega) ?_
          refine z_ist 3 dX3_readSort_75 rfl (Nat.le_of_ble_eq_true rfl) ?_
          refine z_iload_n dX3_readSort_76 rfl ?_
          try dsimp only [zs0, zsI, zsP, zsN, zsJ, zsS, zst2, Nat.reduceAdd]
          refine z_if_ge (tgt := 86) dX3_readSort_77 rfl (fun h77 => ?_) (fun h77 => ?_)
          · refine z_iload_n dX3_readSort_86 rfl ?_
            refine z_iret dX3_readSort_87 rfl rfl ?_
            have e : kSrt K c p = 6 + zfst (fun k => decide (c (4 + 3 * c (24 + 2 * k)) = K.1 (p + (0 : Nat)) - 96 ∧ c (4 + 3 * c (24 + 2 * k + 1)) = K.1 (p + (1 : Nat)) - 96)) (c 1).toNat 0 := by unfold kSrt; rw [if_neg h22, if_pos (show kSz K p = 2 by omega), kMx_is hw hS0 (by omega) (by omega), if_pos (by omega)]
            exact Or.inr (Or.inr ⟨by omega, by rw [e]; omega, by rw [e], rfl⟩)
          · refine z_aload_n dX3_readSort_80 rfl ?_
            refine z_iconst dX3_readSort_81 (by decide) ?_
            refine z_callV mlX3_47 dX3_readSort_82 sK.1 (av := [_]) rfl rfl (Nat.le_of_ble_eq_true rfl) (c_failHere _ sK K p hS0.2.1 3) (Nat.le_refl _) (Nat.le_refl _) (Nat.le_refl _) (Nat.le_refl _) ?_
            rintro _ _ ⟨rfl, rfl⟩
            refine z_pop dX3_readSort_85 rfl ?_
            refine z_iload_n dX3_readSort_86 rfl ?_
            refine z_iret dX3_readSort_87 rfl rfl ?_
            have e : kSrt K c p = 6 + zfst (fun k => decide (c (4 + 3 * c (24 + 2 * k)) = K.1 (p + (0 : Nat)) - 96 ∧ c (4 + 3 * c (24 + 2 * k + 1)) = K.1 (p + (1 : Nat)) - 96)) (c 1).toNat 0 := by unfold kSrt; rw [if_neg h22, if_pos (show kSz K p = 2 by omega), kMx_is hw hS0 (by omega) (by omega), if_pos (by omega)]
            exact Or.inr (Or.inl ⟨by omega, by rw [e]; omega, ⟨_, rfl, by omega⟩, rfl⟩)
        · refine z_iconst dX3_readSort_66 (by decide) ?_
          refine z_goto (tgt := 75) dX3_readSort_67 rfl ?_
          refine z_ist 3 dX3_readSort_75 rfl (Nat.le_of_ble_eq_true rfl) ?_
          refine z_iload_n dX3_readSort_76 rfl ?_
          try dsimp only [zs0, zsI, zsP, zsN, zsJ, zsS, zst2, Nat.reduceAdd]
          refine z_if_ge (tgt := 86) dX3_readSort_77 rfl (fun h => absurd h (by decide)) (fun h77 => ?_)
          refine z_aload_n dX3_readSort_80 rfl ?_
          refine z_iconst dX3_readSort_81 (by decide) ?_
          refine z_callV mlX3_47 dX3_readSort_82 sK.1 (av := [_]) rfl rfl (Nat.le_of_ble_eq_true rfl) (c_failHere _ sK K p hS0.2.1 3) (Nat.le_refl _) (Nat.le_refl _) (Nat.le_refl _) (Nat.le_refl _) ?_
          rintro _ _ ⟨rfl, rfl⟩
          refine z_pop dX3_readSort_85 rfl ?_
          refine z_iload_n dX3_readSort_86 rfl ?_
          refine z_iret dX3_readSort_87 rfl rfl ?_
          have e : kSrt K c p = -1 := by unfold kSrt; rw [if_neg h22, if_pos (show kSz K p = 2 by omega), kMx_is hw hS0 (by omega) (by omega), if_neg (by omega)]
          exact Or.inr (Or.inl ⟨by omega, by rw [e]; omega, ⟨_, rfl, by omega⟩, rfl⟩)
    · refine z_aload_n dX3_readSort_25 rfl ?_
      refine z_aload_n dX3_readSort_26 rfl ?_
      refine z_gIv 7 rfl flX3_44 dX3_readSort_27 sK.1 rfl ((hS0.2.1.2.2.2.2.1 (by omega)).trans (kW_1 ⟨by omega, by omega⟩).1.symm) ?_
      refine z_callV mlX3_96 dX3_readSort_30 (sT0 sT) (av := [_]) rfl rfl (Nat.le_of_ble_eq_true rfl) (c_fieldOf _ t (by omega) sT hS0.2.2.1 c hw hS0.2.2.2.1 (kW K p)) (Nat.le_refl _) (Nat.le_refl _) (Nat.le_refl _) (Nat.le_refl _) ?_
      rintro _ _ ⟨rfl, rfl⟩
      refine z_ist 3 dX3_readSort_33 rfl (Nat.le_of_ble_eq_true rfl) ?_
      refine z_goto (tgt := 76) dX3_readSort_34 rfl ?_
      refine z_iload_n dX3_readSort_76 rfl ?_
      try dsimp only [zs0, zsI, zsP, zsN, zsJ, zsS, zst2, Nat.reduceAdd]
      refine z_if_ge (tgt := 86) dX3_readSort_77 rfl (fun h77 => ?_) (fun h77 => ?_)
      · refine z_iload_n dX3_readSort_86 rfl ?_
        refine z_iret dX3_readSort_87 rfl rfl ?_
        have e : kSrt K c p = cFld c (kW K p) := if_pos (show kSz K p = 1 by omega)
        exact Or.inr (Or.inr ⟨by omega, by rw [e]; omega, by rw [e], rfl⟩)
      · refine z_aload_n dX3_readSort_80 rfl ?_
        refine z_iconst dX3_readSort_81 (by decide) ?_
        refine z_callV mlX3_47 dX3_readSort_82 sK.1 (av := [_]) rfl rfl (Nat.le_of_ble_eq_true rfl) (c_failHere _ sK K p hS0.2.1 3) (Nat.le_refl _) (Nat.le_refl _) (Nat.le_refl _) (Nat.le_refl _) ?_
        rintro _ _ ⟨rfl, rfl⟩
        refine z_pop dX3_readSort_85 rfl ?_
        refine z_iload_n dX3_readSort_86 rfl ?_
        refine z_iret dX3_readSort_87 rfl rfl ?_
        have e : kSrt K c p = cFld c (kW K p) := if_pos (show kSz K p = 1 by omega)
        exact Or.inr (Or.inl ⟨by omega, by rw [e]; omega, ⟨_, rfl, by omega⟩, rfl⟩)
  · refine z_aload_n dX3_readSort_8 rfl ?_
    refine z_callV mlX3_68 dX3_readSort_9 sK.1 (av := _) rfl rfl (Nat.le_of_ble_eq_true rfl) (c_misplaced _ sK K p hS0.2.1) (Nat.le_refl _) (Nat.le_refl _) (Nat.le_refl _) (Nat.le_refl _) ?_
    rintro _ _ ⟨rfl, rfl⟩
    refine z_pop dX3_readSort_12 rfl ?_
    refine z_iconst dX3_readSort_13 (by decide) ?_
    refine z_iret dX3_readSort_14 rfl rfl ?_
    exact Or.inl ⟨by omega, rfl, rfl⟩
