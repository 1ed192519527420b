def fcI (n : Int) : Int := ((sFac (if n < 1 then 1 else n).toNat : Nat) : Int)
/-- how often the letter w stands in point p -/
def sCw (c : Int → Int) (p w : Int) : Int := zsum (fun k => zb (c (32 + 9 * p + 3 + k) = w)) (c (32 + 9 * p)).toNat 0
theorem sCw_bd {c : Int → Int} {p w : Int} : 0 ≤ sCw c p w ∧ sCw c p w ≤ (c (32 + 9 * p)).toNat := by
  have := zsum_bd (f := fun k => zb (c (32 + 9 * p + 3 + k) = w)) (b := 1) (j := (c (32 + 9 * p)).toNat) (k := 0) (fun i _ _ => by have := zb01 (c (32 + 9 * p + 3 + i) = w); omega)
  unfold sCw
  omega
def sMsk (c : Int → Int) (p : Nat) : Nat := zmask (fun q => decide (p ≤ q) && cAlike c (p : Int) (q : Int)) (c 2).toNat
/-- all orders, as the reference multiplies them -/
def sOrd (c : Int → Int) : Nat → Nat → Nat → Int → Int
  | 0, _, _, v => v
  | s + 1, p, seen, v => if seen.testBit p = true ∨ ¬ c (32 + 9 * (p : Int) + 1) = 1 then sOrd c s (p + 1) seen (zfd (fun w v => w64 (v * fcI (sCw c (p : Int) w))) 12 0 v) else sOrd c s (p + 1) (seen ||| zmask (fun q => decide (p ≤ q) && cAlike c (p : Int) (q : Int)) (c 2).toNat) (w64 (zfd (fun w v => w64 (v * fcI (sCw c (p : Int) w))) 12 0 v * fcI (zsum (fun q => zb (cAlike c (p : Int) q = true)) (c 2).toNat 0)))
theorem sOrd_s (c : Int → Int) (s p seen : Nat) (v : Int) : sOrd c (s + 1) p seen v = if seen.testBit p = true ∨ ¬ c (32 + 9 * (p : Int) + 1) = 1 then sOrd c s (p + 1) seen (zfd (fun w v => w64 (v * fcI (sCw c (p : Int) w))) 12 0 v) else sOrd c s (p + 1) (seen ||| zmask (fun q => decide (p ≤ q) && cAlike c (p : Int) (q : Int)) (c 2).toNat) (w64 (zfd (fun w v => w64 (v * fcI (sCw c (p : Int) w))) 12 0 v * fcI (zsum (fun q => zb (cAlike c (p : Int) q = true)) (c 2).toNat 0))) := rfl
theorem zmask_none {f : Nat → Bool} : ∀ {n : Nat}, (∀ i, i < n → f i = false) → zmask f n = 0
  | 0, _ => rfl
  | n + 1, h => by rw [zmask_n (h n (by omega)), zmask_none (fun i hi => h i (by omega))]
theorem lS_pos {α : Type} {f : α → Int} (h0 : ∀ x, 0 ≤ f x) : ∀ {l : List α} {x : α}, x ∈ l → f x ≤ lS f l
  | y :: l, x, hx => by
    have hn : ∀ l : List α, 0 ≤ lS f l := by
      intro l
      induction l with
      | nil => exact Int.le_refl _
      | cons z l ih => rw [lS]; have := h0 z; omega
    rw [lS]
    rcases List.mem_cons.mp hx with rfl | hx
    · have := hn l; omega
    · have := lS_pos h0 hx; have := h0 y; omega
theorem tCnt_pos {T : zT} {d : Int} (h0 : 0 ≤ d) (h1 : d < ((tD T).length : Int)) : 0 < tCnt T d := by
  obtain ⟨k, k0, k1, k2⟩ := tD_ex h0 h1
  have := lS_pos (f := fun mt => zb (tName T mt = tNm T d)) (fun x => by have := zb01 (tName T x = tNm T d); omega) (tMt_get k0 k1).2
  rw [zb_t k2] at this
  exact this
theorem l_symmetryOf_k (d : Nat) {E : zE} {m : zM} {P : Option zV → zM → Prop} (hE : shM E) (hm : ptM m) (dd v : Int) (seen p : Nat) (hp : (p : Int) < m a_c 2) (hs : seen < 256) (w : Int) (hw : wfC (m a_c)) : ∀ (j : Nat) (k n : Int), (0 ≤ k) → (k + j = m a_c (32 + 9 * (p : Int))) → (0 ≤ n ∧ n ≤ k) → (zA zX12_symmetryOf (d + 3) E E P 83 [zP aM, zI dd, zJ v, zN, zI (seen : Nat), zI (p : Nat), zI w, zI (n + zsum (fun k => zb (m a_c (32 + 9 * (p : Int) + 3 + k) = w)) j k), zN] [] m E) → zA zX12_symmetryOf (d + 3) E E P 35 [zP aM, zI dd, zJ v, zN, zI (seen : Nat), zI (p : Nat), zI w, zI n, zI k] [] m E := by
  intro j
  induction j with
  | zero =>
    intro k n h0 hk hn hP
    have hb3 := hw.2.2.1
    have hsz := (hw.2.2.2.2.2 p (by omega) hp).1
    refine z_iload dX12_symmetryOf_35 rfl ?_
    refine z_aload_n dX12_symmetryOf_37 rfl ?_
    refine z_iload dX12_symmetryOf_38 rfl ?_
    refine z_callV mlX12_127 dX12_symmetryOf_40 (sh_M hE) (av := [_]) rfl rfl (Nat.le_of_ble_eq_true rfl) (r_sizeOf _ hE hm (p : Int) (by omega) (by omega)) (Nat.le_refl _) (Nat.le_refl _) (Nat.le_refl _) (Nat.le_refl _) ?_
    rintro _ _ ⟨rfl, rfl⟩
    refine z_icmp_ge (tgt := 83) dX12_symmetryOf_43 rfl (fun h43 => ?_) (fun h => absurd (by omega) h)
    refine zA_wk [_, _, _, _, _, _, _, _, zN] (by exact ⟨Or.inr rfl, Or.inr rfl, Or.inr rfl, Or.inr rfl, Or.inr rfl, Or.inr rfl, Or.inr rfl, Or.inr rfl, Or.inl rfl, trivial⟩) ?_
    rw [zsum_0, Int.add_zero] at hP
    exact hP
  | succ j ih =>
    intro k n h0 hk hn hP
    have hb3 := hw.2.2.1
    have hsz := (hw.2.2.2.2.2 p (by omega) hp).1
    refine z_iload dX12_symmetryOf_35 rfl ?_
    refine z_aload_n dX12_symmetryOf_37 rfl ?_
    refine z_iload dX12_symmetryOf_38 rfl ?_
    refine z_callV mlX12_127 dX12_symmetryOf_40 (sh_M hE) (av := [_]) rfl rfl (Nat.le_of_ble_eq_true rfl) (r_sizeOf _ hE hm (p : Int) (by omega) (by omega)) (Nat.le_refl _) (Nat.le_refl _) (Nat.le_refl _) (Nat.le_refl _) ?_
    rintro _ _ ⟨rfl, rfl⟩
    refine z_icmp_ge (tgt := 83) dX12_symmetryOf_43 rfl (fun h => absurd h (by omega)) (fun h43 => ?_)
    refine z_iload dX12_symmetryOf_46 rfl ?_
    refine z_aload_n dX12_symmetryOf_48 rfl ?_
    refine z_gP 0 rfl (r := a_c) flX12_7 dX12_symmetryOf_49 (sh_M hE) rfl (pt_c hm) (by decide) ?_
    refine z_aload_n dX12_symmetryOf_52 rfl ?_
    refine z_iload dX12_symmetryOf_53 rfl ?_
    refine z_callV mlX12_120 dX12_symmetryOf_55 (sh_M hE) (av := [_]) rfl rfl (Nat.le_of_ble_eq_true rfl) (r_at _ hE hm (p : Int) (by omega) (by omega)) (Nat.le_refl _) (Nat.le_refl _) (Nat.le_refl _) (Nat.le_refl _) ?_
    rintro _ _ ⟨rfl, rfl⟩
    refine z_iconst dX12_symmetryOf_58 (by decide) ?_
    refine z_add dX12_symmetryOf_59 (by omega) ?_
    refine z_iload dX12_symmetryOf_60 rfl ?_
    refine z_add dX12_symmetryOf_62 (by omega) ?_
    refine z_iald dX12_symmetryOf_63 (sh_c hE) (by omega) (by omega) ?_
    refine z_iload dX12_symmetryOf_64 rfl ?_
    refine z_icmp_ne (tgt := 73) dX12_symmetryOf_66 rfl (fun h66 => ?_) (fun h66 => ?_)
    · refine z_iconst dX12_symmetryOf_73 (by decide) ?_
      refine z_add dX12_symmetryOf_74 (by omega) ?_
      refine z_istore dX12_symmetryOf_75 (Nat.le_of_ble_eq_true rfl) ?_
      refine z_inc dX12_symmetryOf_77 rfl (by omega) ?_
      refine z_goto (tgt := 35) dX12_symmetryOf_80 rfl ?_
      try dsimp only [zs0, zsI, zsP, zsN, zsJ, zsS, zst2, Nat.reduceAdd]
      rw [zsum_s, ← Int.add_assoc, zb_f (by omega)] at hP
      exact ih (k + 1) _ (by omega) (by omega) (by omega) hP
    · refine z_iconst dX12_symmetryOf_69 (by decide) ?_
      refine z_goto (tgt := 74) dX12_symmetryOf_70 rfl ?_
      refine z_add dX12_symmetryOf_74 (by omega) ?_
      refine z_istore dX12_symmetryOf_75 (Nat.le_of_ble_eq_true rfl) ?_
      refine z_inc dX12_symmetryOf_77 rfl (by omega) ?_
      refine z_goto (tgt := 35) dX12_symmetryOf_80 rfl ?_
      try dsimp only [zs0, zsI, zsP, zsN, zsJ, zsS, zst2, Nat.reduceAdd]
      rw [zsum_s, ← Int.add_assoc, zb_t (by omega)] at hP
      exact ih (k + 1) _ (by omega) (by omega) (by omega) hP

theorem l_symmetryOf_w (d : Nat) {E : zE} {m : zM} {P : Option zV → zM → Prop} (hE : shM E) (hm : ptM m) (dd : Int) (seen p : Nat) (hp : (p : Int) < m a_c 2) (hs : seen < 256) (hw : wfC (m a_c)) : ∀ (j : Nat) (w v : Int), (0 ≤ w) → (w + j = 12) → (zA zX12_symmetryOf (d + 3) E E P 97 [zP aM, zI dd, zJ (zfd (fun w v => w64 (v * fcI (sCw (m a_c) (p : Int) w))) j w v), zN, zI (seen : Nat), zI (p : Nat), zN, zN, zN] [] m E) → zA zX12_symmetryOf (d + 3) E E P 22 [zP aM, zI dd, zJ v, zN, zI (seen : Nat), zI (p : Nat), zI w, zN, zN] [] m E := by
  intro j
  induction j with
  | zero =>
    intro w v h0 hk hP
    have hb3 := hw.2.2.1
    have hsz := (hw.2.2.2.2.2 p (by omega) hp).1
    refine z_iload dX12_symmetryOf_22 rfl ?_
    refine z_bipush dX12_symmetryOf_24 rfl (by decide) ?_
    refine z_icmp_ge (tgt := 97) dX12_symmetryOf_26 rfl (fun h26 => ?_) (fun h => absurd (by omega) h)
    refine zA_wk [_, _, _, _, _, _, zN, zN, zN] (by exact ⟨Or.inr rfl, Or.inr rfl, Or.inr rfl, Or.inr rfl, Or.inr rfl, Or.inr rfl, Or.inl rfl, Or.inl rfl, Or.inl rfl, trivial⟩) ?_
    exact hP
  | succ j ih =>
    intro w v h0 hk hP
    have hb3 := hw.2.2.1
    have hsz := (hw.2.2.2.2.2 p (by omega) hp).1
    refine z_iload dX12_symmetryOf_22 rfl ?_
    refine z_bipush dX12_symmetryOf_24 rfl (by decide) ?_
    refine z_icmp_ge (tgt := 97) dX12_symmetryOf_26 rfl (fun h => absurd h (by omega)) (fun h26 => ?_)
    refine z_iconst dX12_symmetryOf_29 (by decide) ?_
    refine z_istore dX12_symmetryOf_30 (Nat.le_of_ble_eq_true rfl) ?_
    refine z_iconst dX12_symmetryOf_32 (by decide) ?_
    refine z_istore dX12_symmetryOf_33 (Nat.le_of_ble_eq_true rfl) ?_
    try dsimp only [zs0, zsI, zsP, zsN, zsJ, zsS, zst2, Nat.reduceAdd]
    refine l_symmetryOf_k d hE hm dd v seen p hp hs w hw (m a_c (32 + 9 * (p : Int))).toNat 0 0 (by omega) (by omega) (by omega) ?_
    rw [Int.zero_add, show zsum (fun k => zb (m a_c (32 + 9 * (p : Int) + 3 + k) = w)) (m a_c (32 + 9 * (p : Int))).toNat 0 = sCw (m a_c) (p : Int) w from rfl]
    have hcw := sCw_bd (c := m a_c) (p := (p : Int)) (w := w)
    refine z_lload_n dX12_symmetryOf_83 rfl ?_
    refine z_iload dX12_symmetryOf_84 rfl ?_
    refine z_callS mlX12_393 dX12_symmetryOf_86 (av := [_]) rfl rfl (Nat.le_of_ble_eq_true rfl) (r_orders _ _ (by omega)) (Nat.le_refl _) (Nat.le_refl _) (Nat.le_refl _) (Nat.le_refl _) ?_
    rintro _ _ ⟨rfl, rfl⟩
    refine z_lmul dX12_symmetryOf_89 ?_
    refine z_lst 2 dX12_symmetryOf_90 rfl (Nat.le_of_ble_eq_true rfl) ?_
    refine z_inc dX12_symmetryOf_91 rfl (by omega) ?_
    refine z_goto (tgt := 22) dX12_symmetryOf_94 rfl ?_
    try dsimp only [zs0, zsI, zsP, zsN, zsJ, zsS, zst2, Nat.reduceAdd]
    refine zA_wk [_, _, _, _, _, _, _, zN, zN] (by exact ⟨Or.inr rfl, Or.inr rfl, Or.inr rfl, Or.inr rfl, Or.inr rfl, Or.inr rfl, Or.inr rfl, Or.inl rfl, Or.inl rfl, trivial⟩) ?_
    rw [zfd_s] at hP
    exact ih (w + 1) _ (by omega) (by omega) hP

theorem l_symmetryOf_q (d : Nat) {E : zE} {m : zM} {P : Option zV → zM → Prop} (hE : shM E) (hm : ptM m) (dd v : Int) (seen p : Nat) (hp : (p : Int) < m a_c 2) (hs : seen < 256) (hw : wfC (m a_c)) : ∀ (j : Nat) (q : Nat), (p ≤ q) → ((q : Int) + j = m a_c 2) → (zA zX12_symmetryOf (d + 3) E E P 164 [zP aM, zI dd, zJ v, zN, zI (seen ||| zmask (fun q => decide (p ≤ q) && cAlike (m a_c) (p : Int) (q : Int)) (q + j) : Nat), zI (p : Nat), zN, zN, zN] [] m E) → zA zX12_symmetryOf (d + 3) E E P 123 [zP aM, zI dd, zJ v, zN, zI (seen ||| zmask (fun q => decide (p ≤ q) && cAlike (m a_c) (p : Int) (q : Int)) q : Nat), zI (p : Nat), zI (q : Nat), zN, zN] [] m E := by
  intro j
  induction j with
  | zero =>
    intro q h0 hk hP
    have hb3 := hw.2.2.1
    have hmk := zmask_lt (fun q => decide (p ≤ q) && cAlike (m a_c) (p : Int) (q : Int)) q
    have hp8 : 2 ^ q ≤ 2 ^ 8 := Nat.pow_le_pow_right (by decide) (by omega)
    have hor : seen ||| zmask (fun q => decide (p ≤ q) && cAlike (m a_c) (p : Int) (q : Int)) q < 2 ^ 8 := Nat.or_lt_two_pow hs (by omega)
    refine z_iload dX12_symmetryOf_123 rfl ?_
    refine z_aload_n dX12_symmetryOf_125 rfl ?_
    refine z_gP 0 rfl (r := a_c) flX12_7 dX12_symmetryOf_126 (sh_M hE) rfl (pt_c hm) (by decide) ?_
    refine z_iconst dX12_symmetryOf_129 (by decide) ?_
    refine z_iald dX12_symmetryOf_130 (sh_c hE) (by omega) (by omega) ?_
    refine z_icmp_ge (tgt := 164) dX12_symmetryOf_131 rfl (fun h131 => ?_) (fun h => absurd (by omega) h)
    refine zA_wk [_, _, _, _, _, _, zN, zN, zN] (by exact ⟨Or.inr rfl, Or.inr rfl, Or.inr rfl, Or.inr rfl, Or.inr rfl, Or.inr rfl, Or.inl rfl, Or.inl rfl, Or.inl rfl, trivial⟩) ?_
    exact hP
  | succ j ih =>
    intro q h0 hk hP
    have hb3 := hw.2.2.1
    have hmk := zmask_lt (fun q => decide (p ≤ q) && cAlike (m a_c) (p : Int) (q : Int)) q
    have hp8 : 2 ^ q ≤ 2 ^ 8 := Nat.pow_le_pow_right (by decide) (by omega)
    have hor : seen ||| zmask (fun q => decide (p ≤ q) && cAlike (m a_c) (p : Int) (q : Int)) q < 2 ^ 8 := Nat.or_lt_two_pow hs (by omega)
    refine z_iload dX12_symmetryOf_123 rfl ?_
    refine z_aload_n dX12_symmetryOf_125 rfl ?_
    refine z_gP 0 rfl (r := a_c) flX12_7 dX12_symmetryOf_126 (sh_M hE) rfl (pt_c hm) (by decide) ?_
    refine z_iconst dX12_symmetryOf_129 (by decide) ?_
    refine z_iald dX12_symmetryOf_130 (sh_c hE) (by omega) (by omega) ?_
    refine z_icmp_ge (tgt := 164) dX12_symmetryOf_131 rfl (fun h => absurd h (by omega)) (fun h131 => ?_)
    refine z_iload dX12_symmetryOf_134 rfl ?_
    refine z_aload_n dX12_symmetryOf_136 rfl ?_
    refine z_iload dX12_symmetryOf_137 rfl ?_
    refine z_iload dX12_symmetryOf_139 rfl ?_
    refine z_callV mlX12_234 dX12_symmetryOf_141 (sh_M hE) (av := [_, _]) rfl rfl (Nat.le_of_ble_eq_true rfl) (r_areAlike _ hE hm (p : Int) (q : Int) (by omega) hp (by omega) (by omega) hw) (Nat.le_refl _) (Nat.le_refl _) (Nat.le_refl _) (Nat.le_refl _) ?_
    rintro _ _ ⟨rfl, rfl⟩
    refine z_ifz_eq (tgt := 154) dX12_symmetryOf_144 rfl (fun h144 => ?_) (fun h144 => ?_)
    · refine z_iconst dX12_symmetryOf_154 (by decide) ?_
      refine z_ior dX12_symmetryOf_155 ?_
      rw [zor_0 (by omega)]
      refine z_istore dX12_symmetryOf_156 (Nat.le_of_ble_eq_true rfl) ?_
      refine z_inc dX12_symmetryOf_158 rfl (by omega) ?_
      refine z_goto (tgt := 123) dX12_symmetryOf_161 rfl ?_
      try dsimp only [zs0, zsI, zsP, zsN, zsJ, zsS, zst2, Nat.reduceAdd]
      rw [show (q : Int) + 1 = ((q + 1 : Nat) : Int) by omega, ← zmask_n (f := (fun q => decide (p ≤ q) && cAlike (m a_c) (p : Int) (q : Int))) (by simp only [decide_eq_true h0, Bool.true_and]; simpa using h144)]
      exact ih (q + 1) (by omega) (by omega) (by rw [show q + 1 + j = q + (j + 1) by omega]; exact hP)
    · refine z_iconst dX12_symmetryOf_147 (by decide) ?_
      refine z_iload dX12_symmetryOf_148 rfl ?_
      refine z_ishl dX12_symmetryOf_150 ?_
      refine z_goto (tgt := 155) dX12_symmetryOf_151 rfl ?_
      refine z_ior dX12_symmetryOf_155 ?_
      rw [zor_b (by omega) (by omega)]
      refine z_istore dX12_symmetryOf_156 (Nat.le_of_ble_eq_true rfl) ?_
      refine z_inc dX12_symmetryOf_158 rfl (by omega) ?_
      refine z_goto (tgt := 123) dX12_symmetryOf_161 rfl ?_
      try dsimp only [zs0, zsI, zsP, zsN, zsJ, zsS, zst2, Nat.reduceAdd]
      rw [show (q : Int) + 1 = ((q + 1 : Nat) : Int) by omega, Nat.or_assoc, ← zmask_s (f := (fun q => decide (p ≤ q) && cAlike (m a_c) (p : Int) (q : Int))) (by simp only [decide_eq_true h0, Bool.true_and]; exact h144)]
      exact ih (q + 1) (by omega) (by omega) (by rw [show q + 1 + j = q + (j + 1) by omega]; exact hP)

theorem l_symmetryOf (d : Nat) {E : zE} {m : zM} {P : Option zV → zM → Prop} (hE : shM E) (hm : ptM m) (hk : mOK m) (hL : mL m) (hN : mN m) (dd : Int) (d0 : 0 ≤ dd) (d1 : dd < ((tD (mT m)).length : Int)) (hw : wfC (m a_c)) : ∀ (j : Nat) (p seen : Nat) (v : Int), ((p : Int) + j = m a_c 2) → (seen < 256) → (P (some (zI (zl2i (zldiv (sOrd (m a_c) j p seen v) (tCnt (mT m) dd))))) m) → zA zX12_symmetryOf (d + 3 + 1) E E P 8 [zP aM, zI dd, zJ v, zN, zI (seen : Nat), zI (p : Nat), zN, zN, zN] [] m E := by
  intro j
  induction j with
  | zero =>
    intro p seen v hkp hs hP
    have hb3 := hw.2.2.1
    have hcp := tCnt_pos (T := mT m) d0 d1
    refine z_iload dX12_symmetryOf_8 rfl ?_
    refine z_aload_n dX12_symmetryOf_10 rfl ?_
    refine z_gP 0 rfl (r := a_c) flX12_7 dX12_symmetryOf_11 (sh_M hE) rfl (pt_c hm) (by decide) ?_
    refine z_iconst dX12_symmetryOf_14 (by decide) ?_
    refine z_iald dX12_symmetryOf_15 (sh_c hE) (by omega) (by omega) ?_
    refine z_icmp_ge (tgt := 182) dX12_symmetryOf_16 rfl (fun h16 => ?_) (fun h => absurd (by omega) h)
    refine z_lload_n dX12_symmetryOf_182 rfl ?_
    refine z_aload_n dX12_symmetryOf_183 rfl ?_
    refine z_iload_n dX12_symmetryOf_184 rfl ?_
    refine z_callV mlX12_307 dX12_symmetryOf_185 (sh_M hE) (av := [_]) rfl rfl (Nat.le_of_ble_eq_true rfl) (q_countOf _ hE hm hk hL hN dd d0 d1) (Nat.le_refl _) (Nat.le_refl _) (Nat.le_refl _) (Nat.le_refl _) ?_
    rintro _ _ ⟨rfl, rfl⟩
    refine z_i2l dX12_symmetryOf_188 ?_
    refine z_ldiv dX12_symmetryOf_189 (by omega) ?_
    refine z_l2i dX12_symmetryOf_190 ?_
    refine z_iret dX12_symmetryOf_191 rfl rfl ?_
    exact hP
  | succ j ih =>
    intro p seen v hkp hs hP
    have hb3 := hw.2.2.1
    have hcp := tCnt_pos (T := mT m) d0 d1
    refine z_iload dX12_symmetryOf_8 rfl ?_
    refine z_aload_n dX12_symmetryOf_10 rfl ?_
    refine z_gP 0 rfl (r := a_c) flX12_7 dX12_symmetryOf_11 (sh_M hE) rfl (pt_c hm) (by decide) ?_
    refine z_iconst dX12_symmetryOf_14 (by decide) ?_
    refine z_iald dX12_symmetryOf_15 (sh_c hE) (by omega) (by omega) ?_
    refine z_icmp_ge (tgt := 182) dX12_symmetryOf_16 rfl (fun h => absurd h (by omega)) (fun h16 => ?_)
    refine z_iconst dX12_symmetryOf_19 (by decide) ?_
    refine z_istore dX12_symmetryOf_20 (Nat.le_of_ble_eq_true rfl) ?_
    try dsimp only [zs0, zsI, zsP, zsN, zsJ, zsS, zst2, Nat.reduceAdd]
    refine l_symmetryOf_w (d + 1) hE hm dd seen p (by omega) hs hw 12 0 v (by omega) (by omega) ?_
    refine z_iload dX12_symmetryOf_97 rfl ?_
    refine z_iload dX12_symmetryOf_99 rfl ?_
    refine z_callS mlX12_158 dX12_symmetryOf_101 (av := [_, _]) rfl rfl (Nat.le_of_ble_eq_true rfl) (r_has _ hE hm seen p (by omega) (by omega)) (Nat.le_refl _) (Nat.le_refl _) (Nat.le_refl _) (Nat.le_refl _) ?_
    rintro _ _ ⟨rfl, rfl⟩
    refine z_ifz_ne (tgt := 176) dX12_symmetryOf_104 rfl (fun h104 => ?_) (fun h104 => ?_)
    · rw [sOrd_s, if_pos (Or.inl h104)] at hP
      refine z_inc dX12_symmetryOf_176 rfl (by omega) ?_
      refine z_goto (tgt := 8) dX12_symmetryOf_179 rfl ?_
      try dsimp only [zs0, zsI, zsP, zsN, zsJ, zsS, zst2, Nat.reduceAdd]
      refine zA_wk [_, _, _, _, _, _, zN, zN, zN] (by exact ⟨Or.inr rfl, Or.inr rfl, Or.inr rfl, Or.inr rfl, Or.inr rfl, Or.inr rfl, Or.inl rfl, Or.inl rfl, Or.inl rfl, trivial⟩) ?_
      rw [show (p : Int) + 1 = ((p + 1 : Nat) : Int) by omega]
      exact ih (p + 1) seen _ (by omega) hs hP
    · refine z_aload_n dX12_symmetryOf_107 rfl ?_
      refine z_iload dX12_symmetryOf_108 rfl ?_
      refine z_callV mlX12_217 dX12_symmetryOf_110 (sh_M hE) (av := [_]) rfl rfl (Nat.le_of_ble_eq_true rfl) (r_isVertex _ hE hm (p : Int) (by omega) (by omega)) (Nat.le_refl _) (Nat.le_refl _) (Nat.le_refl _) (Nat.le_refl _) ?_
      rintro _ _ ⟨rfl, rfl⟩
      refine z_ifz_ne (tgt := 119) dX12_symmetryOf_113 rfl (fun h113 => ?_) (fun h113 => ?_)
      · refine z_iload dX12_symmetryOf_119 rfl ?_
        refine z_istore dX12_symmetryOf_121 (Nat.le_of_ble_eq_true rfl) ?_
        try dsimp only [zs0, zsI, zsP, zsN, zsJ, zsS, zst2, Nat.reduceAdd]
        have hmk := zmask_lt (fun q => decide (p ≤ q) && cAlike (m a_c) (p : Int) (q : Int)) (m a_c 2).toNat
        have hp8 : 2 ^ (m a_c 2).toNat ≤ 2 ^ 8 := Nat.pow_le_pow_right (by decide) (by omega)
        have hmo : seen ||| (zmask (fun q => decide (p ≤ q) && cAlike (m a_c) (p : Int) (q : Int)) (m a_c 2).toNat) < 256 := Nat.or_lt_two_pow (n := 8) hs (by omega)
        rw [sOrd_s, if_neg (by rintro (h | h); exact h104 h; exact h h113)] at hP
        have ez : seen ||| zmask (fun q => decide (p ≤ q) && cAlike (m a_c) (p : Int) (q : Int)) p = seen := by rw [zmask_none (fun i hi => by rw [decide_eq_false (by omega)]; rfl), Nat.or_zero]
        rw [← ez]
        refine l_symmetryOf_q (d + 1) hE hm dd _ seen p (by omega) hs hw ((m a_c 2).toNat - p) p (Nat.le_refl _) (by omega) ?_
        rw [show p + ((m a_c 2).toNat - p) = (m a_c 2).toNat by omega]
        refine z_lload_n dX12_symmetryOf_164 rfl ?_
        refine z_aload_n dX12_symmetryOf_165 rfl ?_
        refine z_iload dX12_symmetryOf_166 rfl ?_
        refine z_callV mlX12_338 dX12_symmetryOf_168 (sh_M hE) (av := [_]) rfl rfl (Nat.le_of_ble_eq_true rfl) (r_alikeTo _ hE hm (p : Int) (by omega) (by omega) hw) (Nat.le_refl _) (Nat.le_refl _) (Nat.le_refl _) (Nat.le_refl _) ?_
        rintro _ _ ⟨rfl, rfl⟩
        have hal := zsum_bd (f := fun q => zb (cAlike (m a_c) (p : Int) q = true)) (b := 1) (j := (m a_c 2).toNat) (k := 0) (fun i _ _ => by have := zb01 (cAlike (m a_c) (p : Int) i = true); omega)
        refine z_callS mlX12_393 dX12_symmetryOf_171 (av := [_]) rfl rfl (Nat.le_of_ble_eq_true rfl) (r_orders _ _ (by omega)) (Nat.le_refl _) (Nat.le_refl _) (Nat.le_refl _) (Nat.le_refl _) ?_
        rintro _ _ ⟨rfl, rfl⟩
        refine z_lmul dX12_symmetryOf_174 ?_
        refine z_lst 2 dX12_symmetryOf_175 rfl (Nat.le_of_ble_eq_true rfl) ?_
        refine z_inc dX12_symmetryOf_176 rfl (by omega) ?_
        refine z_goto (tgt := 8) dX12_symmetryOf_179 rfl ?_
        try dsimp only [zs0, zsI, zsP, zsN, zsJ, zsS, zst2, Nat.reduceAdd]
        refine zA_wk [_, _, _, _, _, _, zN, zN, zN] (by exact ⟨Or.inr rfl, Or.inr rfl, Or.inr rfl, Or.inr rfl, Or.inr rfl, Or.inr rfl, Or.inl rfl, Or.inl rfl, Or.inl rfl, trivial⟩) ?_
        rw [show (p : Int) + 1 = ((p + 1 : Nat) : Int) by omega]
        exact ih (p + 1) _ _ (by omega) hmo hP
      · refine z_goto (tgt := 176) dX12_symmetryOf_116 rfl ?_
        rw [sOrd_s, if_pos (Or.inr h113)] at hP
        refine z_inc dX12_symmetryOf_176 rfl (by omega) ?_
        refine z_goto (tgt := 8) dX12_symmetryOf_179 rfl ?_
        try dsimp only [zs0, zsI, zsP, zsN, zsJ, zsS, zst2, Nat.reduceAdd]
        refine zA_wk [_, _, _, _, _, _, zN, zN, zN] (by exact ⟨Or.inr rfl, Or.inr rfl, Or.inr rfl, Or.inr rfl, Or.inr rfl, Or.inr rfl, Or.inl rfl, Or.inl rfl, Or.inl rfl, trivial⟩) ?_
        rw [show (p : Int) + 1 = ((p + 1 : Nat) : Int) by omega]
        exact ih (p + 1) seen _ (by omega) hs hP

theorem r_symmetryOf (d : Nat) {E : zE} {m : zM} (hE : shM E) (hm : ptM m) (hk : mOK m) (hL : mL m) (hN : mN m) (dd : Int) (d0 : 0 ≤ dd) (d1 : dd < ((tD (mT m)).length : Int)) (hw : wfC (m a_c)) : zR zX12_symmetryOf (d + 4) [zP aM, zI dd] m E E (fun r m' => r = some (zI (zl2i (zldiv (sOrd (m a_c) (m a_c 2).toNat 0 0 1) (tCnt (mT m) dd)))) ∧ m = m') := by
  refine zR_go [zP aM, zI dd, zN, zN, zN, zN, zN, zN, zN] (by decide +kernel) (Nat.le_of_ble_eq_true rfl) rfl rfl ?_
  refine z_lconst1 dX12_symmetryOf_0 ?_
  refine z_lst 2 dX12_symmetryOf_1 rfl (Nat.le_of_ble_eq_true rfl) ?_
  refine z_iconst dX12_symmetryOf_2 (by decide) ?_
  refine z_istore dX12_symmetryOf_3 (Nat.le_of_ble_eq_true rfl) ?_
  refine z_iconst dX12_symmetryOf_5 (by decide) ?_
  refine z_istore dX12_symmetryOf_6 (Nat.le_of_ble_eq_true rfl) ?_
  try dsimp only [zs0, zsI, zsP, zsN, zsJ, zsS, zst2, Nat.reduceAdd]
  refine l_symmetryOf d hE hm hk hL hN dd d0 d1 hw (m a_c 2).toNat 0 0 1 (by have := hw.2.2.1; omega) (by omega) ⟨rfl, rfl⟩
