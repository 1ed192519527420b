theorem p2_lt {a : Nat} (h : a < 12) : 2 ^ a < 4096 := Nat.pow_lt_pow_right (m := a) (n := 12) (by decide) h
def sTrG (ad nx : Nat → Nat) : Nat → Nat → Nat → Nat
  | 0, seen, _ => seen
  | u + 1, seen, a => if seen.testBit a then seen else sTrG ad nx u (seen ||| ad a) (nx a)
def sRiG (ad nx : Nat → Nat) (n : Nat) : Nat → Nat → Nat → Nat
  | 0, _, _ => 0
  | s + 1, k, seen => if seen.testBit k then sRiG ad nx n s (k + 1) seen else 1 + sRiG ad nx n s (k + 1) (sTrG ad nx n seen k)
theorem sTrG_t {ad nx : Nat → Nat} {u seen a : Nat} (h : seen.testBit a = true) : sTrG ad nx (u + 1) seen a = seen := by simp [sTrG, h]
theorem sTrG_f {ad nx : Nat → Nat} {u seen a : Nat} (h : seen.testBit a = false) : sTrG ad nx (u + 1) seen a = sTrG ad nx u (seen ||| ad a) (nx a) := by simp [sTrG, h]
theorem sRiG_t {ad nx : Nat → Nat} {n s k seen : Nat} (h : seen.testBit k = true) : sRiG ad nx n (s + 1) k seen = sRiG ad nx n s (k + 1) seen := by simp [sRiG, h]
theorem sRiG_f {ad nx : Nat → Nat} {n s k seen : Nat} (h : seen.testBit k = false) : sRiG ad nx n (s + 1) k seen = 1 + sRiG ad nx n s (k + 1) (sTrG ad nx n seen k) := by simp [sRiG, h]
theorem sTrG_lt {ad nx : Nat → Nat} {n : Nat} (hn : n ≤ 12) (hx : ∀ a, a < n → nx a < n) (hd : ∀ a, a < n → ad a < 4096) : ∀ u seen a, a < n → seen < 4096 → sTrG ad nx u seen a < 4096
  | 0, seen, a, _, hs => hs
  | u + 1, seen, a, ha, hs => by
    unfold sTrG
    split
    · exact hs
    · exact sTrG_lt hn hx hd u _ _ (hx a ha) (Nat.or_lt_two_pow (n := 12) hs (hd a ha))
theorem sUn_or2 {seen a b n : Nat} (ha : a < n) (h : seen.testBit a = false) : sUn (seen ||| (2 ^ a ||| b)) n < sUn seen n := by
  refine sUn_lt (v := a) (fun v hv => ?_) h ?_ n ha
  · rw [Nat.testBit_or, hv, Bool.true_or]
  · rw [Nat.testBit_or, Nat.testBit_or, Nat.testBit_two_pow]; simp
theorem l_ringsOf_in (d : Nat) {E : zE} {m : zM} {P : Option zV → zM → Prop} (hE : shM E) (hm : ptM m) (i n : Int) (kk oo : Int) (hk0 : 0 ≤ kk) (hk1 : kk < 10395) (ho0 : 0 ≤ oo) (ho1 : oo < 10395) (mk mo : Nat → Nat) (hmk : ∀ a : Nat, a < (m aM f_letters).toNat → m a_table (12 * kk + (a : Int)) = ((mk a : Nat) : Int) ∧ mk a < (m aM f_letters).toNat) (hmo : ∀ a : Nat, a < (m aM f_letters).toNat → m a_table (12 * oo + (a : Int)) = ((mo a : Nat) : Int) ∧ mo a < (m aM f_letters).toNat) (hn0 : 0 ≤ m aM f_letters ∧ m aM f_letters ≤ 12)  : ∀ (j : Nat) (seen at' : Nat), (at' < (m aM f_letters).toNat) → (seen < 4096) → (sUn seen (m aM f_letters).toNat ≤ j) → (zA zX12_ringsOf (d + 1) E E P 79 [zP aM, zI kk, zI oo, zI (sTrG (fun a => 2 ^ a ||| 2 ^ (mk a)) (fun a => mo (mk a)) j seen at' : Nat), zI n, zI i, zN] [] m E) → zA zX12_ringsOf (d + 1) E E P 36 [zP aM, zI kk, zI oo, zI (seen : Nat), zI n, zI i, zI (at' : Nat)] [] m E := by
  intro j
  induction j with
  | zero =>
    intro seen at' ha hs hu hP
    refine z_iload_n dX12_ringsOf_36 rfl ?_
    refine z_iload dX12_ringsOf_37 rfl ?_
    refine z_callS mlX12_158 dX12_ringsOf_39 (av := [_, _]) rfl rfl (Nat.le_of_ble_eq_true rfl) (r_has _ hE hm seen at' (by omega) (by omega)) (Nat.le_refl _) (Nat.le_refl _) (Nat.le_refl _) (Nat.le_refl _) ?_
    rintro _ _ ⟨rfl, rfl⟩
    refine z_ifz_ne (tgt := 79) dX12_ringsOf_42 rfl (fun h42 => ?_) (fun h => absurd (sUn_0 ha (by omega)) h)
    refine zA_wk [_, _, _, _, _, _, zN] (by exact ⟨Or.inr rfl, Or.inr rfl, Or.inr rfl, Or.inr rfl, Or.inr rfl, Or.inr rfl, Or.inl rfl, trivial⟩) ?_
    exact hP
  | succ j ih =>
    intro seen at' ha hs hu hP
    refine z_iload_n dX12_ringsOf_36 rfl ?_
    refine z_iload dX12_ringsOf_37 rfl ?_
    refine z_callS mlX12_158 dX12_ringsOf_39 (av := [_, _]) rfl rfl (Nat.le_of_ble_eq_true rfl) (r_has _ hE hm seen at' (by omega) (by omega)) (Nat.le_refl _) (Nat.le_refl _) (Nat.le_refl _) (Nat.le_refl _) ?_
    rintro _ _ ⟨rfl, rfl⟩
    refine z_ifz_ne (tgt := 79) dX12_ringsOf_42 rfl (fun h42 => ?_) (fun h42 => ?_)
    · refine zA_wk [_, _, _, _, _, _, zN] (by exact ⟨Or.inr rfl, Or.inr rfl, Or.inr rfl, Or.inr rfl, Or.inr rfl, Or.inr rfl, Or.inl rfl, trivial⟩) ?_
      rw [sTrG_t h42] at hP
      exact hP
    · refine z_iload_n dX12_ringsOf_45 rfl ?_
      refine z_iconst dX12_ringsOf_46 (by decide) ?_
      refine z_iload dX12_ringsOf_47 rfl ?_
      refine z_ishl dX12_ringsOf_49 ?_
      rw [zshl_1 (by omega)]
      refine z_iconst dX12_ringsOf_50 (by decide) ?_
      refine z_aload_n dX12_ringsOf_51 rfl ?_
      refine z_iload_n dX12_ringsOf_52 rfl ?_
      refine z_iload dX12_ringsOf_53 rfl ?_
      refine z_callV mlX12_200 dX12_ringsOf_55 (sh_M hE) (av := [_, _]) rfl rfl (Nat.le_of_ble_eq_true rfl) (r_mateOf _ hE hm kk _ hk0 hk1 (by omega) (by omega)) (Nat.le_refl _) (Nat.le_refl _) (Nat.le_refl _) (Nat.le_refl _) ?_
      rintro _ _ ⟨rfl, rfl⟩
      rw [(hmk at' ha).1]
      refine z_ishl dX12_ringsOf_58 ?_
      rw [zshl_1 (by have := (hmk at' ha).2; omega)]
      refine z_ior dX12_ringsOf_59 ?_
      rw [zor_N (by have := p2_lt (a := at') (by omega); omega) (by have := p2_lt (a := mk at') (by have := (hmk at' ha).2; omega); omega)]
      refine z_ior dX12_ringsOf_60 ?_
      rw [zor_N (by omega) (Nat.lt_of_lt_of_le (Nat.or_lt_two_pow (n := 12) (p2_lt (by omega)) (p2_lt (by have := (hmk at' ha).2; omega))) (by omega))]
      refine z_ist 3 dX12_ringsOf_61 rfl (Nat.le_of_ble_eq_true rfl) ?_
      refine z_aload_n dX12_ringsOf_62 rfl ?_
      refine z_iload_n dX12_ringsOf_63 rfl ?_
      refine z_aload_n dX12_ringsOf_64 rfl ?_
      refine z_iload_n dX12_ringsOf_65 rfl ?_
      refine z_iload dX12_ringsOf_66 rfl ?_
      try dsimp only [zs0, zsI, zsP, zsN, zsJ, zsS, zst2, Nat.reduceAdd]
      refine z_callV mlX12_200 dX12_ringsOf_68 (sh_M hE) (av := [_, _]) rfl rfl (Nat.le_of_ble_eq_true rfl) (r_mateOf _ hE hm kk _ hk0 hk1 (by omega) (by omega)) (Nat.le_refl _) (Nat.le_refl _) (Nat.le_refl _) (Nat.le_refl _) ?_
      rintro _ _ ⟨rfl, rfl⟩
      rw [(hmk at' ha).1]
      refine z_callV mlX12_200 dX12_ringsOf_71 (sh_M hE) (av := [_, _]) rfl rfl (Nat.le_of_ble_eq_true rfl) (r_mateOf _ hE hm oo _ ho0 ho1 (by omega) (by have := (hmk at' ha).2; omega)) (Nat.le_refl _) (Nat.le_refl _) (Nat.le_refl _) (Nat.le_refl _) ?_
      rintro _ _ ⟨rfl, rfl⟩
      rw [(hmo _ (hmk at' ha).2).1]
      refine z_istore dX12_ringsOf_74 (Nat.le_of_ble_eq_true rfl) ?_
      refine z_goto (tgt := 36) dX12_ringsOf_76 rfl ?_
      try dsimp only [zs0, zsI, zsP, zsN, zsJ, zsS, zst2, Nat.reduceAdd]
      rw [sTrG_f (by simpa using h42)] at hP
      exact ih _ _ (hmo _ (hmk at' ha).2).2 (Nat.or_lt_two_pow (n := 12) hs (Nat.or_lt_two_pow (n := 12) (p2_lt (by omega)) (p2_lt (by have := (hmk at' ha).2; omega)))) (by have := sUn_or2 (b := 2 ^ mk at') (seen := seen) ha (by simpa using h42); omega) hP

theorem l_ringsOf (d : Nat) {E : zE} {m : zM} {P : Option zV → zM → Prop} (hE : shM E) (hm : ptM m) (kk oo : Int) (hk0 : 0 ≤ kk) (hk1 : kk < 10395) (ho0 : 0 ≤ oo) (ho1 : oo < 10395) (mk mo : Nat → Nat) (hmk : ∀ a : Nat, a < (m aM f_letters).toNat → m a_table (12 * kk + (a : Int)) = ((mk a : Nat) : Int) ∧ mk a < (m aM f_letters).toNat) (hmo : ∀ a : Nat, a < (m aM f_letters).toNat → m a_table (12 * oo + (a : Int)) = ((mo a : Nat) : Int) ∧ mo a < (m aM f_letters).toNat) (hn0 : 0 ≤ m aM f_letters ∧ m aM f_letters ≤ 12)  : ∀ (j : Nat) (k n seen : Nat), ((k : Int) + j = m aM f_letters) → (seen < 4096) → (n ≤ k) → (P (some (zI (n + sRiG (fun a => 2 ^ a ||| 2 ^ (mk a)) (fun a => mo (mk a)) (m aM f_letters).toNat j k seen : Nat))) m) → zA zX12_ringsOf (d + 1) E E P 8 [zP aM, zI kk, zI oo, zI (seen : Nat), zI (n : Nat), zI (k : Nat), zN] [] m E := by
  intro j
  induction j with
  | zero =>
    intro k n seen hk hs hn hP
    refine z_iload dX12_ringsOf_8 rfl ?_
    refine z_aload_n dX12_ringsOf_10 rfl ?_
    refine z_gI f_letters rfl flX12_124 dX12_ringsOf_11 (sh_M hE) rfl ?_
    refine z_icmp_ge (tgt := 85) dX12_ringsOf_14 rfl (fun h14 => ?_) (fun h => absurd (by omega) h)
    refine z_iload dX12_ringsOf_85 rfl ?_
    refine z_iret dX12_ringsOf_87 rfl rfl ?_
    exact hP
  | succ j ih =>
    intro k n seen hk hs hn hP
    refine z_iload dX12_ringsOf_8 rfl ?_
    refine z_aload_n dX12_ringsOf_10 rfl ?_
    refine z_gI f_letters rfl flX12_124 dX12_ringsOf_11 (sh_M hE) rfl ?_
    refine z_icmp_ge (tgt := 85) dX12_ringsOf_14 rfl (fun h => absurd h (by omega)) (fun h14 => ?_)
    refine z_iload_n dX12_ringsOf_17 rfl ?_
    refine z_iload dX12_ringsOf_18 rfl ?_
    refine z_callS mlX12_158 dX12_ringsOf_20 (av := [_, _]) rfl rfl (Nat.le_of_ble_eq_true rfl) (r_has _ hE hm seen k (by omega) (by omega)) (Nat.le_refl _) (Nat.le_refl _) (Nat.le_refl _) (Nat.le_refl _) ?_
    rintro _ _ ⟨rfl, rfl⟩
    refine z_ifz_eq (tgt := 29) dX12_ringsOf_23 rfl (fun h23 => ?_) (fun h23 => ?_)
    · refine z_inc dX12_ringsOf_29 rfl (by omega) ?_
      refine z_iload dX12_ringsOf_32 rfl ?_
      refine z_istore dX12_ringsOf_34 (Nat.le_of_ble_eq_true rfl) ?_
      try dsimp only [zs0, zsI, zsP, zsN, zsJ, zsS, zst2, Nat.reduceAdd]
      refine l_ringsOf_in d hE hm (k : Int) ((n : Int) + 1) kk oo hk0 hk1 ho0 ho1 mk mo hmk hmo hn0 (m aM f_letters).toNat seen k (by omega) hs (sUn_le _ _) ?_
      refine z_inc dX12_ringsOf_79 rfl (by omega) ?_
      refine z_goto (tgt := 8) dX12_ringsOf_82 rfl ?_
      try dsimp only [zs0, zsI, zsP, zsN, zsJ, zsS, zst2, Nat.reduceAdd]
      rw [sRiG_f (by simpa using h23)] at hP
      rw [show (k : Int) + 1 = ((k + 1 : Nat) : Int) by omega, show (n : Int) + 1 = ((n + 1 : Nat) : Int) by omega]
      exact ih (k + 1) (n + 1) _ (by omega) (sTrG_lt (by omega) (fun a h => (hmo _ (hmk a h).2).2) (fun a h => Nat.or_lt_two_pow (n := 12) (p2_lt (by omega)) (p2_lt (by have := (hmk a h).2; omega))) _ _ _ (by omega) hs) (by omega) (by rw [← Nat.add_assoc] at hP; exact hP)
    · refine z_goto (tgt := 79) dX12_ringsOf_26 rfl ?_
      refine z_inc dX12_ringsOf_79 rfl (by omega) ?_
      refine z_goto (tgt := 8) dX12_ringsOf_82 rfl ?_
      try dsimp only [zs0, zsI, zsP, zsN, zsJ, zsS, zst2, Nat.reduceAdd]
      refine zA_wk [_, _, _, _, _, _, zN] (by exact ⟨Or.inr rfl, Or.inr rfl, Or.inr rfl, Or.inr rfl, Or.inr rfl, Or.inr rfl, Or.inl rfl, trivial⟩) ?_
      rw [sRiG_t h23] at hP
      rw [show (k : Int) + 1 = ((k + 1 : Nat) : Int) by omega]
      exact ih (k + 1) n seen (by omega) hs (by omega) hP

theorem r_ringsOf (d : Nat) {E : zE} {m : zM} (hE : shM E) (hm : ptM m) (kk oo : Int) (hk0 : 0 ≤ kk) (hk1 : kk < 10395) (ho0 : 0 ≤ oo) (ho1 : oo < 10395) (mk mo : Nat → Nat) (hmk : ∀ a : Nat, a < (m aM f_letters).toNat → m a_table (12 * kk + (a : Int)) = ((mk a : Nat) : Int) ∧ mk a < (m aM f_letters).toNat) (hmo : ∀ a : Nat, a < (m aM f_letters).toNat → m a_table (12 * oo + (a : Int)) = ((mo a : Nat) : Int) ∧ mo a < (m aM f_letters).toNat) (hn0 : 0 ≤ m aM f_letters ∧ m aM f_letters ≤ 12)  : zR zX12_ringsOf (d + 1) [zP aM, zI kk, zI oo] m E E (fun r m' => r = some (zI (sRiG (fun a => 2 ^ a ||| 2 ^ (mk a)) (fun a => mo (mk a)) (m aM f_letters).toNat (m aM f_letters).toNat 0 0 : Nat)) ∧ m = m') := by
  refine zR_go [zP aM, zI kk, zI oo, zN, zN, zN, zN] (by decide +kernel) (Nat.le_of_ble_eq_true rfl) rfl rfl ?_
  refine z_iconst dX12_ringsOf_0 (by decide) ?_
  refine z_ist 3 dX12_ringsOf_1 rfl (Nat.le_of_ble_eq_true rfl) ?_
  refine z_iconst dX12_ringsOf_2 (by decide) ?_
  refine z_istore dX12_ringsOf_3 (Nat.le_of_ble_eq_true rfl) ?_
  refine z_iconst dX12_ringsOf_5 (by decide) ?_
  refine z_istore dX12_ringsOf_6 (Nat.le_of_ble_eq_true rfl) ?_
  try dsimp only [zs0, zsI, zsP, zsN, zsJ, zsS, zst2, Nat.reduceAdd]
  refine l_ringsOf d hE hm kk oo hk0 hk1 ho0 ho1 mk mo hmk hmo hn0 (m aM f_letters).toNat 0 0 0 (by omega) (by omega) (by omega) ⟨by rw [Nat.zero_add], rfl⟩
