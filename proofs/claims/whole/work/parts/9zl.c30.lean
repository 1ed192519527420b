theorem ofI_N (x : Int) : Int32.ofInt x = nI (x % 4294967296).toNat := by
  apply Int32.toBitVec.inj
  show BitVec.ofInt 32 x = BitVec.ofInt 32 (((x % 4294967296).toNat : Nat) : Int)
  apply BitVec.eq_of_toNat_eq
  rw [BitVec.toNat_ofInt, BitVec.toNat_ofInt]
  have := Int.emod_nonneg x (show (4294967296 : Int) ≠ 0 by decide)
  rw [show (((x % 4294967296).toNat : Nat) : Int) = x % 4294967296 by omega]
  show (x % 4294967296).toNat = (x % 4294967296 % 4294967296).toNat
  rw [Int.emod_emod]
theorem zand_rg (x : Int) {b : Nat} (hb : b < 2147483648) : ∃ k : Nat, zand x (b : Int) = (k : Int) ∧ k ≤ b := by
  refine ⟨(x % 4294967296).toNat &&& b, ?_, Nat.and_le_right⟩
  unfold zand
  rw [ofI_N x, zbN, zb_and_nI, zbI (Nat.lt_of_le_of_lt Nat.and_le_right hb)]
def kHh (e : Nat) (key : Int) : Int := zand (zl2i (zlushr (w64 (key * -7046029254386353131)) 40)) ((2 ^ e - 1 : Nat) : Int)
/-- the i-th slot that is tried -/
def kS (e : Nat) (key : Int) (i : Nat) : Int := (((kHh e key).toNat + i) % 2 ^ e : Nat)
theorem kS_rg (e : Nat) (key : Int) (i : Nat) : 0 ≤ kS e key i ∧ kS e key i < ((2 ^ e : Nat) : Int) := by
  unfold kS
  have := Nat.mod_lt ((kHh e key).toNat + i) (Nat.two_pow_pos e)
  omega
theorem kS_s {e : Nat} {key : Int} {i : Nat} (he : e ≤ 14) : zand (kS e key i + 1) (((2 ^ e : Nat) : Int) - 1) = kS e key (i + 1) := by
  have h14 : 2 ^ e ≤ 2 ^ 14 := Nat.pow_le_pow_right (by decide) he
  have h0 := Nat.two_pow_pos e
  have hm := Nat.mod_lt ((kHh e key).toNat + i) h0
  unfold kS
  rw [show ((((kHh e key).toNat + i) % 2 ^ e : Nat) : Int) + 1 = ((((kHh e key).toNat + i) % 2 ^ e + 1 : Nat) : Int) by omega, show ((2 ^ e : Nat) : Int) - 1 = ((2 ^ e - 1 : Nat) : Int) by omega, zand_N (by omega), Nat.and_two_pow_sub_one_eq_mod, Nat.mod_add_mod]
  rfl
theorem kS_0 {e : Nat} {key : Int} (he : e ≤ 14) : zand (zl2i (zlushr (w64 (key * -7046029254386353131)) 40)) (((2 ^ e : Nat) : Int) - 1) = kS e key 0 := by
  have h14 : 2 ^ e ≤ 2 ^ 14 := Nat.pow_le_pow_right (by decide) he
  have h0 := Nat.two_pow_pos e
  obtain ⟨k, h1, h2⟩ := zand_rg (zl2i (zlushr (w64 (key * -7046029254386353131)) 40)) (b := 2 ^ e - 1) (by omega)
  rw [show ((2 ^ e : Nat) : Int) - 1 = ((2 ^ e - 1 : Nat) : Int) by omega]
  unfold kS kHh
  rw [h1, Int.toNat_natCast, Nat.add_zero, Nat.mod_eq_of_lt (by omega)]
theorem kS_on (e : Nat) (key : Int) (f : Nat) (hf : f < 2 ^ e) : ∃ i : Nat, i < 2 ^ e ∧ kS e key i = (f : Int) := by
  have h0 := Nat.two_pow_pos e
  have hm := Nat.mod_lt (kHh e key).toNat h0
  refine ⟨(f + (2 ^ e - (kHh e key).toNat % 2 ^ e)) % 2 ^ e, Nat.mod_lt _ h0, ?_⟩
  unfold kS
  congr 1
  rw [Nat.add_mod_mod, ← Nat.mod_add_mod, show (kHh e key).toNat % 2 ^ e + (f + (2 ^ e - (kHh e key).toNat % 2 ^ e)) = f + 2 ^ e by omega, Nat.add_mod_right, Nat.mod_eq_of_lt hf]
/-- every key lies where its way leads, and only there -/
def kI (m : zM) (a : Int) (e : Nat) : Prop := (∀ f : Nat, f < 2 ^ e → m (a + 1) (f : Int) ≠ 0 → ∃ i : Nat, i < 2 ^ e ∧ kS e (m a (f : Int)) i = (f : Int) ∧ ∀ i1 : Nat, i1 ≤ i → m (a + 1) (kS e (m a (f : Int)) i1) ≠ 0) ∧ ∀ f g : Nat, f < 2 ^ e → g < 2 ^ e → m (a + 1) (f : Int) ≠ 0 → m (a + 1) (g : Int) ≠ 0 → m a (f : Int) = m a (g : Int) → f = g
theorem zcE {a b : Int} (h : zcmp a b = 0) : a = b := by unfold zcmp at h; split at h; omega; split at h <;> omega
theorem zcNe {a b : Int} (h : ¬ zcmp a b = 0) : a ≠ b := fun e => h (by unfold zcmp; rw [if_neg (by omega), if_pos e])
theorem l_fillA (d : Nat) {E : zE} {m : zM} {P : Option zV → zM → Prop} (b len v : Int) (sb : E.1 b = (1, len)) (hlen : 0 ≤ len ∧ len ≤ 67108864) : ∀ (j : Nat) (k : Nat) (m1 : zM), (k + j = len.toNat) → (zfr [(b, none)] m m1) → (∀ i : Int, 0 ≤ i → i < k → m1 b i = v) → (∀ m', zfr [(b, none)] m m' → (∀ i : Int, 0 ≤ i → i < len → m' b i = v) → P none m') → zA zJ7_fill_53178 (d) E E P 5 [zP b, zI v, zI (k : Nat), zI len] [] m1 E := by
  intro j
  induction j with
  | zero =>
    intro k m1 hj hf hv hP
    refine z_iload_n dJ7_fill_53178_5 rfl ?_
    refine z_iload_n dJ7_fill_53178_6 rfl ?_
    refine z_icmp_ge (tgt := 20) dJ7_fill_53178_7 rfl (fun h7 => ?_) (fun h => absurd (by omega) h)
    refine z_vret dJ7_fill_53178_20 rfl rfl ?_
    exact hP m1 hf (fun i h0 h1 => hv i h0 (by omega))
  | succ j ih =>
    intro k m1 hj hf hv hP
    refine z_iload_n dJ7_fill_53178_5 rfl ?_
    refine z_iload_n dJ7_fill_53178_6 rfl ?_
    refine z_icmp_ge (tgt := 20) dJ7_fill_53178_7 rfl (fun h => absurd h (by omega)) (fun h7 => ?_)
    refine z_aload_n dJ7_fill_53178_10 rfl ?_
    refine z_iload_n dJ7_fill_53178_11 rfl ?_
    refine z_iload_n dJ7_fill_53178_12 rfl ?_
    refine z_iast dJ7_fill_53178_13 sb (by omega) (by omega) ?_
    refine z_inc dJ7_fill_53178_14 rfl (by omega) ?_
    refine z_goto (tgt := 5) dJ7_fill_53178_17 rfl ?_
    try dsimp only [zs0, zsI, zsP, zsN, zsJ, zsS, zst2, Nat.reduceAdd]
    rw [show (k : Int) + 1 = ((k + 1 : Nat) : Int) by omega]
    refine ih (k + 1) _ (by omega) (zfr_ua hf (by simp)) (fun i h0 h1 => ?_) hP
    by_cases g : i = (k : Int)
    · rw [g, zu_s]
    · rw [zu_j g]; exact hv i h0 (by omega)

theorem c_fillA (d : Nat) {E : zE} {m : zM} (b len v : Int) (sb : E.1 b = (1, len)) (hlen : 0 ≤ len ∧ len ≤ 67108864) : zR zJ7_fill_53178 (d) [zP b, zI v] m E E (fun r m' => r = none ∧ zfr [(b, none)] m m' ∧ ∀ i : Int, 0 ≤ i → i < len → m' b i = v) := by
  refine zR_go [zP b, zI v, zN, zN] (by decide +kernel) (Nat.le_of_ble_eq_true rfl) rfl rfl ?_
  refine z_iconst dJ7_fill_53178_0 (by decide) ?_
  refine z_ist 2 dJ7_fill_53178_1 rfl (Nat.le_of_ble_eq_true rfl) ?_
  refine z_aload_n dJ7_fill_53178_2 rfl ?_
  refine z_alen dJ7_fill_53178_3 sb (by decide) ?_
  refine z_ist 3 dJ7_fill_53178_4 rfl (Nat.le_of_ble_eq_true rfl) ?_
  try dsimp only [zs0, zsI, zsP, zsN, zsJ, zsS, zst2, Nat.reduceAdd]
  exact l_fillA d b len v sb hlen len.toNat 0 m (by omega) zfr_rf (fun i h0 h1 => by omega) (fun m2 f2 h2 => ⟨rfl, f2, h2⟩)

theorem l_slotOf (d : Nat) {E : zE} {m : zM} {P : Option zV → zM → Prop} (o a cap : Int) (so : E.1 o = (8, 3)) (sa : E.1 a = (2, cap)) (sb : E.1 (a + 1) = (1, cap)) (a0 : 0 < a) (q0 : m o 0 = a) (q1 : m o 1 = a + 1) (e : Nat) (he : e ≤ 14) (q2 : m o 2 = ((2 ^ e : Nat) : Int)) (hs : ((2 ^ e : Nat) : Int) ≤ cap) (key : Int) (hI : kI m a e) (hfree : ∃ j : Nat, j < 2 ^ e ∧ m (a + 1) (j : Int) = 0) : ∀ (j : Nat) (i : Nat), (i + j = 2 ^ e) → (∀ i1 : Nat, i1 < i → m (a + 1) (kS e key i1) ≠ 0 ∧ m a (kS e key i1) ≠ key) → (∀ i : Nat, i < 2 ^ e → (∀ i1 : Nat, i1 < i → m (a + 1) (kS e key i1) ≠ 0) → ((m (a + 1) (kS e key i) ≠ 0 ∧ m a (kS e key i) = key) ∨ (m (a + 1) (kS e key i) = 0 ∧ ∀ j : Nat, j < 2 ^ e → m (a + 1) (j : Int) ≠ 0 → m a (j : Int) ≠ key)) → P (some (zI (kS e key i))) m) → zA zX2_slotOf (d) E E P 20 [zP o, zJ key, zN, zI (kS e key i), zI (i : Nat)] [] m E := by
  intro j
  induction j with
  | zero =>
    intro i hj hb hP
    have h14 : 2 ^ e ≤ 2 ^ 14 := Nat.pow_le_pow_right (by decide) he
    have hkr := kS_rg e key i
    exfalso
    obtain ⟨f, hf, hz⟩ := hfree
    obtain ⟨i2, h2, h3⟩ := kS_on e key f hf
    exact (hb i2 (by omega)).1 (by rw [h3]; exact hz)
  | succ j ih =>
    intro i hj hb hP
    have h14 : 2 ^ e ≤ 2 ^ 14 := Nat.pow_le_pow_right (by decide) he
    have hkr := kS_rg e key i
    refine z_iload dX2_slotOf_20 rfl ?_
    refine z_aload_n dX2_slotOf_22 rfl ?_
    refine z_gIv 2 rfl flX2_19 dX2_slotOf_23 so rfl q2 ?_
    refine z_icmp_ge (tgt := 66) dX2_slotOf_26 rfl (fun h => absurd h (by omega)) (fun h26 => ?_)
    refine z_aload_n dX2_slotOf_29 rfl ?_
    refine z_gP 1 rfl (r := a + 1) flX2_15 dX2_slotOf_30 so rfl q1 (by omega) ?_
    refine z_iload_n dX2_slotOf_33 rfl ?_
    refine z_iald dX2_slotOf_34 sb (by omega) (by omega) ?_
    refine z_if_eq (tgt := 66) dX2_slotOf_35 rfl (fun h35 => ?_) (fun h35 => ?_)
    · refine z_iload_n dX2_slotOf_66 rfl ?_
      refine z_iret dX2_slotOf_67 rfl rfl ?_
      refine hP i (by omega) (fun i1 h1 => (hb i1 h1).1) (Or.inr ⟨h35, fun f hf hz hk => ?_⟩)
      obtain ⟨i2, h2, h3, h4⟩ := hI.1 f hf hz
      rw [hk] at h3 h4
      rcases Nat.lt_or_ge i2 i with g | g
      · have := (hb i2 g).2
        rw [h3] at this
        exact this hk
      · exact h4 i g h35
    · refine z_aload_n dX2_slotOf_38 rfl ?_
      refine z_gP 0 rfl (r := a) flX2_9 dX2_slotOf_39 so rfl q0 (by omega) ?_
      refine z_iload_n dX2_slotOf_42 rfl ?_
      refine z_lald dX2_slotOf_43 sa (by omega) (by omega) ?_
      refine z_lload_n dX2_slotOf_44 rfl ?_
      refine z_lcmp dX2_slotOf_45 ?_
      refine z_if_eq (tgt := 66) dX2_slotOf_46 rfl (fun h46 => ?_) (fun h46 => ?_)
      · refine z_iload_n dX2_slotOf_66 rfl ?_
        refine z_iret dX2_slotOf_67 rfl rfl ?_
        exact hP i (by omega) (fun i1 h1 => (hb i1 h1).1) (Or.inl ⟨by omega, zcE h46⟩)
      · refine z_iload_n dX2_slotOf_49 rfl ?_
        refine z_iconst dX2_slotOf_50 (by decide) ?_
        refine z_add dX2_slotOf_51 (by omega) ?_
        refine z_aload_n dX2_slotOf_52 rfl ?_
        refine z_gIv 2 rfl flX2_19 dX2_slotOf_53 so rfl q2 ?_
        refine z_iconst dX2_slotOf_56 (by decide) ?_
        refine z_sub dX2_slotOf_57 (by omega) ?_
        refine z_iand dX2_slotOf_58 ?_
        rw [kS_s he]
        refine z_ist 3 dX2_slotOf_59 rfl (Nat.le_of_ble_eq_true rfl) ?_
        refine z_inc dX2_slotOf_60 rfl (by omega) ?_
        refine z_goto (tgt := 20) dX2_slotOf_63 rfl ?_
        try dsimp only [zs0, zsI, zsP, zsN, zsJ, zsS, zst2, Nat.reduceAdd]
        rw [show (i : Int) + 1 = ((i + 1 : Nat) : Int) by omega]
        refine ih (i + 1) (by omega) (fun i1 h1 => ?_) hP
        by_cases g : i1 = i
        · rw [g]; exact ⟨h35, zcNe h46⟩
        · exact hb i1 (by omega)

theorem c_slotOf (d : Nat) {E : zE} {m : zM} (o a cap : Int) (so : E.1 o = (8, 3)) (sa : E.1 a = (2, cap)) (sb : E.1 (a + 1) = (1, cap)) (a0 : 0 < a) (q0 : m o 0 = a) (q1 : m o 1 = a + 1) (e : Nat) (he : e ≤ 14) (q2 : m o 2 = ((2 ^ e : Nat) : Int)) (hs : ((2 ^ e : Nat) : Int) ≤ cap) (key : Int) (hI : kI m a e) (hfree : ∃ j : Nat, j < 2 ^ e ∧ m (a + 1) (j : Int) = 0) : zR zX2_slotOf (d) [zP o, zJ key] m E E (fun r m' => ∃ i : Nat, r = some (zI (kS e key i)) ∧ m = m' ∧ i < 2 ^ e ∧ (∀ i1 : Nat, i1 < i → m (a + 1) (kS e key i1) ≠ 0) ∧ ((m (a + 1) (kS e key i) ≠ 0 ∧ m a (kS e key i) = key) ∨ (m (a + 1) (kS e key i) = 0 ∧ ∀ j : Nat, j < 2 ^ e → m (a + 1) (j : Int) ≠ 0 → m a (j : Int) ≠ key))) := by
  have h14 : 2 ^ e ≤ 2 ^ 14 := Nat.pow_le_pow_right (by decide) he
  have h0 := Nat.two_pow_pos e
  refine zR_go [zP o, zJ key, zN, zN, zN] (by decide +kernel) (Nat.le_of_ble_eq_true rfl) rfl rfl ?_
  refine z_lload_n dX2_slotOf_0 rfl ?_
  refine z_ldc2 dX2_slotOf_1 kcX2_38 (by decide) ?_
  refine z_lmul dX2_slotOf_4 ?_
  refine z_bipush dX2_slotOf_5 rfl (by decide) ?_
  refine z_lushr dX2_slotOf_7 ?_
  refine z_l2i dX2_slotOf_8 ?_
  refine z_aload_n dX2_slotOf_9 rfl ?_
  refine z_gIv 2 rfl flX2_19 dX2_slotOf_10 so rfl q2 ?_
  refine z_iconst dX2_slotOf_13 (by decide) ?_
  refine z_sub dX2_slotOf_14 (by omega) ?_
  refine z_iand dX2_slotOf_15 ?_
  rw [kS_0 he]
  refine z_ist 3 dX2_slotOf_16 rfl (Nat.le_of_ble_eq_true rfl) ?_
  refine z_iconst dX2_slotOf_17 (by decide) ?_
  refine z_istore dX2_slotOf_18 (Nat.le_of_ble_eq_true rfl) ?_
  try dsimp only [zs0, zsI, zsP, zsN, zsJ, zsS, zst2, Nat.reduceAdd]
  exact l_slotOf d o a cap so sa sb a0 q0 q1 e he q2 hs key hI hfree (2 ^ e) 0 (by omega) (fun i1 h1 => absurd h1 (by omega)) (fun i h1 h2 h3 => ⟨i, rfl, rfl, h1, h2, h3⟩)
