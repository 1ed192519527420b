def sPrG (n : Nat) (may : Int → Int → Bool) (u g : Nat) (k i j : Int) : Int := if g.testBit j.toNat = false ∧ may i j = true then sPr n may u (i.toNat + 1) (g ||| 2 ^ i.toNat ||| 2 ^ j.toNat) (k - 1) else 0
theorem sPrG_t {n : Nat} {may : Int → Int → Bool} {u g : Nat} {k : Int} {i j : Nat} (h1 : g.testBit j = false) (h2 : may i j = true) : sPrG n may u g k i j = sPr n may u (i + 1) (g ||| 2 ^ i ||| 2 ^ j) (k - 1) := by
  unfold sPrG
  rw [Int.toNat_natCast, Int.toNat_natCast, if_pos ⟨h1, h2⟩]
theorem sPrG_f {n : Nat} {may : Int → Int → Bool} {u g : Nat} {k : Int} {i j : Nat} (h : ¬ (g.testBit j = false ∧ may i j = true)) : sPrG n may u g k i j = 0 := by
  unfold sPrG
  rw [Int.toNat_natCast, if_neg h]
theorem sPrG_nn (n : Nat) (may : Int → Int → Bool) (u g : Nat) (k i j : Int) : 0 ≤ sPrG n may u g k i j := by
  unfold sPrG
  split
  · exact sPr_nn n may u _ _ _
  · decide
def aPartial (T : zT) (k : Int) : Int × Int := if k < 0 then (1, -1) else (0, sPr T.2.2.2.toNat (cMay T.1 T.2.1 T.2.2.1) 6 0 0 k)
theorem sPrF_nn (n : Nat) (may : Int → Int → Bool) (u g : Nat) (k i : Int) : 0 ≤ sPrF n may u g k i := by
  unfold sPrF
  split
  · decide
  · refine zsum_nn (fun j _ _ => ?_)
    split
    · exact sPr_nn n may u _ _ _
    · decide
theorem l_partials_in (d : Nat) {E : zE} {m : zM} {P : Option zV → zM → Prop} (hE : shM E) (hm : ptM m) (fr g u : Nat) (k : Int) (hw : wfC (m a_c)) (hl : wfL (m a_c) (m a_what) (m a_pointOf) (m aM f_letters)) (hk0 : 0 < k) (hk1 : k < 2147483648) (hg : g < 4096) (hz : zfz g ((m aM f_letters).toNat - fr) fr ≤ 2 * (u : Int) + 1) (rec : 0 < u → 0 < k → ∀ f2 g2 : Nat, f2 ≤ (m aM f_letters).toNat → g2 < 4096 → zfz g2 ((m aM f_letters).toNat - f2) f2 ≤ 2 * ((u - 1 : Nat) : Int) + 1 → zR zX12_partials (d + 2) [zP aM, zI (f2 : Nat), zI (g2 : Nat), zI (k - 1)] m E E (fun r m' => r = some (zI (sPr (m aM f_letters).toNat (cMay (m a_c) (m a_what) (m a_pointOf)) (u - 1) f2 g2 (k - 1))) ∧ m = m')) (i : Nat) (n0 rest : Int) (hi : (i : Int) < m aM f_letters) (hfr : fr ≤ i) (hfi : g.testBit i = false) (hrest : 0 ≤ rest)  : ∀ (j : Nat) (jj : Nat) (n : Int), (i < jj) → ((jj : Int) + j = m aM f_letters) → (0 ≤ n) → (n + zsum (sPrG (m aM f_letters).toNat (cMay (m a_c) (m a_what) (m a_pointOf)) (u - 1) g k (i : Int)) j (jj : Int) + rest ≤ 479001600) → (zA zX12_partials (d + 3) E E P 101 [zP aM, zI (fr : Nat), zI (g : Nat), zI k, zI (n + zsum (sPrG (m aM f_letters).toNat (cMay (m a_c) (m a_what) (m a_pointOf)) (u - 1) g k (i : Int)) j (jj : Int)), zI (i : Nat), zN] [] m E) → zA zX12_partials (d + 3) E E P 39 [zP aM, zI (fr : Nat), zI (g : Nat), zI k, zI n, zI (i : Nat), zI (jj : Nat)] [] m E := by
  intro j
  induction j with
  | zero =>
    intro jj n h0 hj hn hB hP
    have hn0 := hl.1
    refine z_iload dX12_partials_39 rfl ?_
    refine z_aload_n dX12_partials_41 rfl ?_
    refine z_gI f_letters rfl flX12_124 dX12_partials_42 (sh_M hE) rfl ?_
    refine z_icmp_ge (tgt := 101) dX12_partials_45 rfl (fun h45 => ?_) (fun h => absurd (by omega) h)
    refine zA_wk [_, _, _, _, _, _, zN] (by exact ⟨Or.inr rfl, Or.inr rfl, Or.inr rfl, Or.inr rfl, Or.inr rfl, Or.inr rfl, Or.inl rfl, trivial⟩) ?_
    rw [zsum_0, Int.add_zero] at hP
    exact hP
  | succ j ih =>
    intro jj n h0 hj hn hB hP
    have hn0 := hl.1
    refine z_iload dX12_partials_39 rfl ?_
    refine z_aload_n dX12_partials_41 rfl ?_
    refine z_gI f_letters rfl flX12_124 dX12_partials_42 (sh_M hE) rfl ?_
    refine z_icmp_ge (tgt := 101) dX12_partials_45 rfl (fun h => absurd h (by omega)) (fun h45 => ?_)
    refine z_iload_n dX12_partials_48 rfl ?_
    refine z_iload dX12_partials_49 rfl ?_
    refine z_callS mlX12_158 dX12_partials_51 (av := [_, _]) rfl rfl (Nat.le_of_ble_eq_true rfl) (r_has _ hE hm g jj (by omega) (by omega)) (Nat.le_refl _) (Nat.le_refl _) (Nat.le_refl _) (Nat.le_refl _) ?_
    rintro _ _ ⟨rfl, rfl⟩
    refine z_ifz_ne (tgt := 95) dX12_partials_54 rfl (fun h54 => ?_) (fun h54 => ?_)
    · refine z_inc dX12_partials_95 rfl (by omega) ?_
      refine z_goto (tgt := 39) dX12_partials_98 rfl ?_
      try dsimp only [zs0, zsI, zsP, zsN, zsJ, zsS, zst2, Nat.reduceAdd]
      rw [show (jj : Int) + 1 = ((jj + 1 : Nat) : Int) by omega]
      rw [zsum_s, sPrG_f (fun h => by have := h.1; rw [h54] at this; cases this), Int.zero_add, show (jj : Int) + 1 = ((jj + 1 : Nat) : Int) by omega] at hB
      rw [zsum_s, ← Int.add_assoc, sPrG_f (fun h => by have := h.1; rw [h54] at this; cases this), Int.add_zero, show (jj : Int) + 1 = ((jj + 1 : Nat) : Int) by omega] at hP
      exact ih (jj + 1) _ (by omega) (by omega) (by omega) (by omega) hP
    · refine z_aload_n dX12_partials_57 rfl ?_
      refine z_iload dX12_partials_58 rfl ?_
      refine z_iload dX12_partials_60 rfl ?_
      refine z_callV mlX12_184 dX12_partials_62 (sh_M hE) (av := [_, _]) rfl rfl (Nat.le_of_ble_eq_true rfl) (r_mayBe _ hE hm (i : Int) (jj : Int) (by omega) hi (by omega) (by omega) hw hl) (Nat.le_refl _) (Nat.le_refl _) (Nat.le_refl _) (Nat.le_refl _) ?_
      rintro _ _ ⟨rfl, rfl⟩
      refine z_ifz_eq (tgt := 95) dX12_partials_65 rfl (fun h65 => ?_) (fun h65 => ?_)
      · refine z_inc dX12_partials_95 rfl (by omega) ?_
        refine z_goto (tgt := 39) dX12_partials_98 rfl ?_
        try dsimp only [zs0, zsI, zsP, zsN, zsJ, zsS, zst2, Nat.reduceAdd]
        rw [show (jj : Int) + 1 = ((jj + 1 : Nat) : Int) by omega]
        rw [zsum_s, sPrG_f (fun h => h65 h.2), Int.zero_add, show (jj : Int) + 1 = ((jj + 1 : Nat) : Int) by omega] at hB
        rw [zsum_s, ← Int.add_assoc, sPrG_f (fun h => h65 h.2), Int.add_zero, show (jj : Int) + 1 = ((jj + 1 : Nat) : Int) by omega] at hP
        exact ih (jj + 1) _ (by omega) (by omega) (by omega) (by omega) hP
      · have e54 : g.testBit jj = false := by simpa using h54
        have hc := zfz_cut (g := g) (s := (m aM f_letters).toNat - fr) (k := fr) (i := (i : Int)) (by omega) (by omega) (by rw [Int.toNat_natCast]; exact hfi)
        rw [show ((fr : Int) + ((m aM f_letters).toNat - fr : Nat) - 1 - (i : Int)).toNat = (m aM f_letters).toNat - (i + 1) by omega] at hc
        have hc2 := zfz_less (g := g) (b := 2 ^ i) (s := (m aM f_letters).toNat - (i + 1)) (k := (i : Int) + 1) (j := (jj : Int)) (by omega) (by omega) (by omega) (by rw [Int.toNat_natCast]; exact e54)
        rw [Int.toNat_natCast, show (i : Int) + 1 = ((i + 1 : Nat) : Int) by omega] at hc2
        rw [show (i : Int) + 1 = ((i + 1 : Nat) : Int) by omega] at hc
        have hcn := (zfz_nn (g ||| 2 ^ i ||| 2 ^ jj) ((m aM f_letters).toNat - (i + 1)) ((i + 1 : Nat) : Int)).1
        have hg2 : g ||| 2 ^ i ||| 2 ^ jj < 4096 := Nat.or_lt_two_pow (n := 12) (Nat.or_lt_two_pow (n := 12) hg (p2_lt (by omega))) (p2_lt (by omega))
        have hs0 := sPr_nn (m aM f_letters).toNat (cMay (m a_c) (m a_what) (m a_pointOf)) (u - 1) (i + 1) (g ||| 2 ^ i ||| 2 ^ jj) (k - 1)
        have hzr : 0 ≤ zsum (sPrG (m aM f_letters).toNat (cMay (m a_c) (m a_what) (m a_pointOf)) (u - 1) g k (i : Int)) j ((jj : Int) + 1) := zsum_nn (fun x _ _ => sPrG_nn _ _ _ _ _ _ _)
        have hB1 := hB
        rw [zsum_s, sPrG_t e54 h65] at hB1
        refine z_iload dX12_partials_68 rfl ?_
        refine z_aload_n dX12_partials_70 rfl ?_
        refine z_iload dX12_partials_71 rfl ?_
        refine z_iconst dX12_partials_73 (by decide) ?_
        refine z_add dX12_partials_74 (by omega) ?_
        rw [show (i : Int) + 1 = ((i + 1 : Nat) : Int) by omega]
        refine z_iload_n dX12_partials_75 rfl ?_
        refine z_iconst dX12_partials_76 (by decide) ?_
        refine z_iload dX12_partials_77 rfl ?_
        refine z_ishl dX12_partials_79 ?_
        refine z_ior dX12_partials_80 ?_
        rw [zor_b (by omega) (by omega)]
        refine z_iconst dX12_partials_81 (by decide) ?_
        refine z_iload dX12_partials_82 rfl ?_
        refine z_ishl dX12_partials_84 ?_
        refine z_ior dX12_partials_85 ?_
        rw [zor_b (Nat.lt_trans (Nat.or_lt_two_pow (n := 12) hg (p2_lt (by omega))) (by decide)) (by omega)]
        refine z_iload_n dX12_partials_86 rfl ?_
        refine z_iconst dX12_partials_87 (by decide) ?_
        refine z_sub dX12_partials_88 (by omega) ?_
        refine z_callV mlX12_377 dX12_partials_89 (sh_M hE) (av := [_, _, _]) rfl rfl (Nat.le_of_ble_eq_true rfl) (rec (by have := (zfz_nn g ((m aM f_letters).toNat - fr) fr).1; omega) hk0 (i + 1) (g ||| 2 ^ i ||| 2 ^ jj) (by omega) hg2 (by omega)) (Nat.le_refl _) (Nat.le_refl _) (Nat.le_refl _) (Nat.le_refl _) ?_
        rintro _ _ ⟨rfl, rfl⟩
        refine z_add dX12_partials_92 (by omega) ?_
        refine z_istore dX12_partials_93 (Nat.le_of_ble_eq_true rfl) ?_
        refine z_inc dX12_partials_95 rfl (by omega) ?_
        refine z_goto (tgt := 39) dX12_partials_98 rfl ?_
        try dsimp only [zs0, zsI, zsP, zsN, zsJ, zsS, zst2, Nat.reduceAdd]
        rw [show (jj : Int) + 1 = ((jj + 1 : Nat) : Int) by omega]
        rw [zsum_s, sPrG_t e54 h65, show (jj : Int) + 1 = ((jj + 1 : Nat) : Int) by omega] at hB
        rw [zsum_s, ← Int.add_assoc, sPrG_t e54 h65, show (jj : Int) + 1 = ((jj + 1 : Nat) : Int) by omega] at hP
        exact ih (jj + 1) _ (by omega) (by omega) (by omega) (by omega) hP

theorem l_partials (d : Nat) {E : zE} {m : zM} {P : Option zV → zM → Prop} (hE : shM E) (hm : ptM m) (fr g u : Nat) (k : Int) (hw : wfC (m a_c)) (hl : wfL (m a_c) (m a_what) (m a_pointOf) (m aM f_letters)) (hk0 : 0 < k) (hk1 : k < 2147483648) (hg : g < 4096) (hz : zfz g ((m aM f_letters).toNat - fr) fr ≤ 2 * (u : Int) + 1) (rec : 0 < u → 0 < k → ∀ f2 g2 : Nat, f2 ≤ (m aM f_letters).toNat → g2 < 4096 → zfz g2 ((m aM f_letters).toNat - f2) f2 ≤ 2 * ((u - 1 : Nat) : Int) + 1 → zR zX12_partials (d + 2) [zP aM, zI (f2 : Nat), zI (g2 : Nat), zI (k - 1)] m E E (fun r m' => r = some (zI (sPr (m aM f_letters).toNat (cMay (m a_c) (m a_what) (m a_pointOf)) (u - 1) f2 g2 (k - 1))) ∧ m = m'))  : ∀ (j : Nat) (i : Nat) (n : Int), (fr ≤ i) → ((i : Int) + j = m aM f_letters) → (0 ≤ n) → (n + zsum (sPrF (m aM f_letters).toNat (cMay (m a_c) (m a_what) (m a_pointOf)) (u - 1) g k) j (i : Int) ≤ 479001600) → (P (some (zI (n + zsum (sPrF (m aM f_letters).toNat (cMay (m a_c) (m a_what) (m a_pointOf)) (u - 1) g k) j (i : Int)))) m) → zA zX12_partials (d + 3) E E P 12 [zP aM, zI (fr : Nat), zI (g : Nat), zI k, zI n, zI (i : Nat), zN] [] m E := by
  intro j
  induction j with
  | zero =>
    intro i n h0 hi hn hB hP
    have hn0 := hl.1
    refine z_iload dX12_partials_12 rfl ?_
    refine z_aload_n dX12_partials_14 rfl ?_
    refine z_gI f_letters rfl flX12_124 dX12_partials_15 (sh_M hE) rfl ?_
    refine z_icmp_ge (tgt := 107) dX12_partials_18 rfl (fun h18 => ?_) (fun h => absurd (by omega) h)
    refine z_iload dX12_partials_107 rfl ?_
    refine z_iret dX12_partials_109 rfl rfl ?_
    rw [zsum_0, Int.add_zero] at hP
    exact hP
  | succ j ih =>
    intro i n h0 hi hn hB hP
    have hn0 := hl.1
    refine z_iload dX12_partials_12 rfl ?_
    refine z_aload_n dX12_partials_14 rfl ?_
    refine z_gI f_letters rfl flX12_124 dX12_partials_15 (sh_M hE) rfl ?_
    refine z_icmp_ge (tgt := 107) dX12_partials_18 rfl (fun h => absurd h (by omega)) (fun h18 => ?_)
    refine z_iload_n dX12_partials_21 rfl ?_
    refine z_iload dX12_partials_22 rfl ?_
    refine z_callS mlX12_158 dX12_partials_24 (av := [_, _]) rfl rfl (Nat.le_of_ble_eq_true rfl) (r_has _ hE hm g i (by omega) (by omega)) (Nat.le_refl _) (Nat.le_refl _) (Nat.le_refl _) (Nat.le_refl _) ?_
    rintro _ _ ⟨rfl, rfl⟩
    refine z_ifz_eq (tgt := 33) dX12_partials_27 rfl (fun h27 => ?_) (fun h27 => ?_)
    · refine z_iload dX12_partials_33 rfl ?_
      refine z_iconst dX12_partials_35 (by decide) ?_
      refine z_add dX12_partials_36 (by omega) ?_
      refine z_istore dX12_partials_37 (Nat.le_of_ble_eq_true rfl) ?_
      try dsimp only [zs0, zsI, zsP, zsN, zsJ, zsS, zst2, Nat.reduceAdd]
      have e27 : g.testBit i = false := by simpa using h27
      rw [show (i : Int) + 1 = ((i + 1 : Nat) : Int) by omega]
      have hzr : 0 ≤ zsum (sPrF (m aM f_letters).toNat (cMay (m a_c) (m a_what) (m a_pointOf)) (u - 1) g k) j ((i : Int) + 1) := zsum_nn (fun x _ _ => sPrF_nn _ _ _ _ _ _)
      have eF : sPrF (m aM f_letters).toNat (cMay (m a_c) (m a_what) (m a_pointOf)) (u - 1) g k (i : Int) = zsum (sPrG (m aM f_letters).toNat (cMay (m a_c) (m a_what) (m a_pointOf)) (u - 1) g k (i : Int)) ((m aM f_letters).toNat - 1 - (i : Int).toNat) ((i : Int) + 1) := by unfold sPrF; rw [if_neg (by rw [Int.toNat_natCast, e27]; decide)]; rfl
      rw [zsum_s, eF] at hB
      rw [zsum_s, eF, ← Int.add_assoc] at hP
      rw [Int.toNat_natCast, show (i : Int) + 1 = ((i + 1 : Nat) : Int) by omega] at hB hP
      have hzi : 0 ≤ zsum (sPrG (m aM f_letters).toNat (cMay (m a_c) (m a_what) (m a_pointOf)) (u - 1) g k (i : Int)) ((m aM f_letters).toNat - 1 - i) ((i + 1 : Nat) : Int) := zsum_nn (fun x _ _ => sPrG_nn _ _ _ _ _ _ _)
      refine l_partials_in d hE hm fr g u k hw hl hk0 hk1 hg hz rec i n (zsum (sPrF (m aM f_letters).toNat (cMay (m a_c) (m a_what) (m a_pointOf)) (u - 1) g k) j ((i + 1 : Nat) : Int)) (by omega) h0 e27 (by rw [← show (i : Int) + 1 = ((i + 1 : Nat) : Int) by omega]; exact hzr) ((m aM f_letters).toNat - 1 - i) (i + 1) n (by omega) (by omega) hn (by omega) ?_
      refine z_inc dX12_partials_101 rfl (by omega) ?_
      refine z_goto (tgt := 12) dX12_partials_104 rfl ?_
      try dsimp only [zs0, zsI, zsP, zsN, zsJ, zsS, zst2, Nat.reduceAdd]
      rw [show (i : Int) + 1 = ((i + 1 : Nat) : Int) by omega]
      exact ih (i + 1) _ (by omega) (by omega) (by omega) (by omega) hP
    · refine z_goto (tgt := 101) dX12_partials_30 rfl ?_
      refine z_inc dX12_partials_101 rfl (by omega) ?_
      refine z_goto (tgt := 12) dX12_partials_104 rfl ?_
      try dsimp only [zs0, zsI, zsP, zsN, zsJ, zsS, zst2, Nat.reduceAdd]
      refine zA_wk [_, _, _, _, _, _, zN] (by exact ⟨Or.inr rfl, Or.inr rfl, Or.inr rfl, Or.inr rfl, Or.inr rfl, Or.inr rfl, Or.inl rfl, trivial⟩) ?_
      rw [zsum_s, sPrF, if_pos (by rw [Int.toNat_natCast]; exact h27)] at hB
      rw [zsum_s, sPrF, if_pos (by rw [Int.toNat_natCast]; exact h27), Int.zero_add] at hP
      rw [show (i : Int) + 1 = ((i + 1 : Nat) : Int) by omega] at hP hB ⊢
      exact ih (i + 1) n (by omega) (by omega) (by omega) (by omega) hP

theorem r_partials_step (d : Nat) {E : zE} {m : zM} (hE : shM E) (hm : ptM m) (fr g u : Nat) (k : Int) (hw : wfC (m a_c)) (hl : wfL (m a_c) (m a_what) (m a_pointOf) (m aM f_letters)) (hk00 : 0 ≤ k) (hk1 : k < 2147483648) (hg : g < 4096) (hz : zfz g ((m aM f_letters).toNat - fr) fr ≤ 2 * (u : Int) + 1) (rec : 0 < u → 0 < k → ∀ f2 g2 : Nat, f2 ≤ (m aM f_letters).toNat → g2 < 4096 → zfz g2 ((m aM f_letters).toNat - f2) f2 ≤ 2 * ((u - 1 : Nat) : Int) + 1 → zR zX12_partials (d + 2) [zP aM, zI (f2 : Nat), zI (g2 : Nat), zI (k - 1)] m E E (fun r m' => r = some (zI (sPr (m aM f_letters).toNat (cMay (m a_c) (m a_what) (m a_pointOf)) (u - 1) f2 g2 (k - 1))) ∧ m = m')) (hf0 : fr ≤ (m aM f_letters).toNat) : zR zX12_partials (d + 3) [zP aM, zI (fr : Nat), zI (g : Nat), zI k] m E E (fun r m' => r = some (zI (sPr (m aM f_letters).toNat (cMay (m a_c) (m a_what) (m a_pointOf)) u fr g k)) ∧ m = m') := by
  have hn0 := hl.1
  refine zR_go [zP aM, zI (fr : Nat), zI (g : Nat), zI k, zN, zN, zN] (by decide +kernel) (Nat.le_of_ble_eq_true rfl) rfl rfl ?_
  refine z_iload_n dX12_partials_0 rfl ?_
  refine z_if_ne (tgt := 6) dX12_partials_1 rfl (fun h1 => ?_) (fun h1 => ?_)
  · refine z_iconst dX12_partials_6 (by decide) ?_
    refine z_istore dX12_partials_7 (Nat.le_of_ble_eq_true rfl) ?_
    refine z_iload_n dX12_partials_9 rfl ?_
    refine z_istore dX12_partials_10 (Nat.le_of_ble_eq_true rfl) ?_
    try dsimp only [zs0, zsI, zsP, zsN, zsJ, zsS, zst2, Nat.reduceAdd]
    have hk0' : 0 < k := by omega
    have e := sPr_eq (n := (m aM f_letters).toNat) (may := (cMay (m a_c) (m a_what) (m a_pointOf))) (u := u) (fr := fr) (g := g) (k := k) (by omega) hz
    have hb := sPr_le (m aM f_letters).toNat (cMay (m a_c) (m a_what) (m a_pointOf)) u fr g k
    have hf := sFac_le (n := (zfz g ((m aM f_letters).toNat - fr) fr).toNat) (by have := zfz_nn g ((m aM f_letters).toNat - fr) fr; omega)
    refine l_partials d hE hm fr g u k hw hl hk0' hk1 hg hz rec ((m aM f_letters).toNat - fr) fr 0 (by omega) (by omega) (by omega) ?_ ?_
    · rw [Int.zero_add, ← e]; omega
    · rw [Int.zero_add, ← e]; exact ⟨rfl, rfl⟩
  · refine z_iconst dX12_partials_4 (by decide) ?_
    refine z_iret dX12_partials_5 rfl rfl ?_
    exact ⟨by rw [show k = 0 by omega, sPr_0], rfl⟩

theorem r_partials (d : Nat) {E : zE} {m : zM} (hE : shM E) (hm : ptM m) (hw : wfC (m a_c)) (hl : wfL (m a_c) (m a_what) (m a_pointOf) (m aM f_letters)) : ∀ (u fr g : Nat) (k : Int), 0 ≤ k → k < 2147483648 → fr ≤ (m aM f_letters).toNat → g < 4096 → zfz g ((m aM f_letters).toNat - fr) fr ≤ 2 * (u : Int) + 1 → zR zX12_partials (d + 3 + u) [zP aM, zI (fr : Nat), zI (g : Nat), zI k] m E E (fun r m' => r = some (zI (sPr (m aM f_letters).toNat (cMay (m a_c) (m a_what) (m a_pointOf)) u fr g k)) ∧ m = m')
  | 0, fr, g, k, h0, h1, hf, hg, hz => r_partials_step d hE hm fr g 0 k hw hl h0 h1 hg hz (fun h _ => absurd h (by omega)) hf
  | u + 1, fr, g, k, h0, h1, hf, hg, hz => by
    have := r_partials_step (d + u + 1) hE hm fr g (u + 1) k hw hl h0 h1 hg hz (fun _ hkp f2 g2 q1 q2 q3 => by
      have := r_partials d hE hm hw hl u f2 g2 (k - 1) (by omega) (by omega) q1 q2 (by simpa using q3)
      rw [show d + u + 1 + 2 = d + 3 + u by omega]
      exact this) hf
    rw [show d + 3 + (u + 1) = (d + u + 1) + 3 by omega]
    exact this

theorem sPr_big {n : Nat} {may : Int → Int → Bool} : ∀ {u fr g : Nat} {k : Int}, 0 < k → zfz g (n - fr) fr < 2 * k → sPr n may u fr g k = 0
  | 0, fr, g, k, hk, h => by
    unfold sPr
    rw [if_neg (by omega)]
  | u + 1, fr, g, k, hk, h => by
    unfold sPr
    rw [if_neg (by omega)]
    refine zsum_z (fun i q1 q2 => ?_)
    split
    · rfl
    · rename_i e
      have e : g.testBit i.toNat = false := by simpa using e
      have hc := zfz_cut (g := g) (s := n - fr) (k := fr) q1 q2 e
      rw [show ((fr : Int) + (n - fr : Nat) - 1 - i).toNat = n - 1 - i.toNat by omega] at hc
      refine zsum_z (fun j r1 r2 => ?_)
      split
      · rename_i e2
        have h4 := zfz_less (g := g) (b := 2 ^ i.toNat) (s := n - 1 - i.toNat) (k := i + 1) (j := j) (by omega) r1 r2 e2.1
        have h5 := (zfz_nn (g ||| 2 ^ i.toNat ||| 2 ^ j.toNat) (n - 1 - i.toNat) (i + 1)).1
        refine sPr_big (by omega) ?_
        rw [show n - (i.toNat + 1) = n - 1 - i.toNat by omega, show ((i.toNat + 1 : Nat) : Int) = i + 1 by omega]
        omega
      · rfl

theorem q_partial (d : Nat) {E : zE} {m : zM} (hE : shM E) (hI : mI m) (k : Int) : zR zX12_partial (d + 10) [zP aM, zI k] m E E (fun r m' => r = some (zI (aPartial (mT m) k).2) ∧ mQ m m' (aPartial (mT m) k).1) := by
  refine zR_ok (fun hok _ => ?_)
  have hkr : zr32 k := hok (zI k) (by simp)
  have hkr2 := hkr.2
  have hm := hI.1.1
  obtain ⟨hw, hl, hn⟩ := mI_wl hI
  have hq0 := mQ_rf hI
  have eT0 : mT m = mT m := rfl
  have t4 : (mT m).2.2.2 = m aM f_letters := rfl
  have t0 : (mT m).1 0 = m a_c 0 := rfl
  have t1 : (mT m).1 1 = m a_c 1 := rfl
  have t2 : (mT m).1 2 = m a_c 2 := rfl
  have b1 := hw.1
  have b2 := hw.2.1
  have b3 := hw.2.2.1
  refine zR_go [zP aM, zI k] (by decide +kernel) (Nat.le_of_ble_eq_true rfl) rfl rfl ?_
  refine z_aload_n dX12_partial_0 rfl ?_
  refine z_iload_n dX12_partial_1 rfl ?_
  refine z_if_ge (tgt := 9) dX12_partial_2 rfl (fun h2 => ?_) (fun h2 => ?_)
  · refine z_iconst dX12_partial_9 (by decide) ?_
    refine z_callV mlX12_310 dX12_partial_10 (sh_M hE) (av := [_]) rfl rfl (Nat.le_of_ble_eq_true rfl) (r_is _ hE hm _) (Nat.le_refl _) (Nat.le_refl _) (Nat.le_refl _) (Nat.le_refl _) ?_
    rintro _ m1 ⟨rfl, e1⟩
    have hq1 : mQ m m1 0 := e1 ▸ mQ_is hq0
    have hI1 := hq1.1
    have hm1 := hI1.1.1
    have eT1 := mQ_T hq1
    have ec1 : m1 a_c = m a_c := congrArg (fun q => q.1) eT1
    have ew1 : m1 a_what = m a_what := congrArg (fun q => q.2.1) eT1
    have ep1 : m1 a_pointOf = m a_pointOf := congrArg (fun q => q.2.2.1) eT1
    have en1 : m1 aM f_letters = m aM f_letters := congrArg (fun q => q.2.2.2) eT1
    obtain ⟨hw1, hl1, hn1⟩ := mI_wl hI1
    refine z_ifz_eq (tgt := 40) dX12_partial_13 rfl (fun h => absurd (by decide) h) (fun h13 => ?_)
    refine z_iconst dX12_partial_16 (by decide) ?_
    refine z_iload_n dX12_partial_17 rfl ?_
    refine z_imul dX12_partial_18 ?_
    refine z_aload_n dX12_partial_19 rfl ?_
    refine z_gI f_letters rfl flX12_124 dX12_partial_20 (sh_M hE) rfl ?_
    refine z_icmp_le (tgt := 30) dX12_partial_23 rfl (fun h23 => ?_) (fun h23 => ?_)
    · refine z_aload_n dX12_partial_30 rfl ?_
      refine z_iconst dX12_partial_31 (by decide) ?_
      refine z_iconst dX12_partial_32 (by decide) ?_
      refine z_iload_n dX12_partial_33 rfl ?_
      refine z_callV mlX12_377 dX12_partial_34 (sh_M hE) (av := [_, _, _]) rfl rfl (Nat.le_of_ble_eq_true rfl) (r_partials _ hE hm1 hw1 hl1 6 0 0 k (by omega) (by omega) (by omega) (by omega) (by have := zfz_nn 0 (m1 aM f_letters).toNat 0; show zfz 0 ((m1 aM f_letters).toNat - 0) 0 ≤ _; rw [Nat.sub_zero]; omega)) (Nat.le_refl _) (Nat.le_refl _) (Nat.le_refl _) (Nat.le_refl _) ?_
      rintro _ _ ⟨rfl, rfl⟩
      refine z_goto (tgt := 41) dX12_partial_37 rfl ?_
      refine z_iret dX12_partial_41 rfl rfl ?_
      have eA : aPartial (mT m) k = (0, sPr (m aM f_letters).toNat (cMay (m a_c) (m a_what) (m a_pointOf)) 6 0 0 k) := by unfold aPartial; rw [if_neg (by omega)]; rfl
      rw [eA, ec1, ew1, ep1, en1]
      exact ⟨rfl, hq1⟩
    · refine z_iconst dX12_partial_26 (by decide) ?_
      refine z_goto (tgt := 41) dX12_partial_27 rfl ?_
      refine z_iret dX12_partial_41 rfl rfl ?_
      have eA : aPartial (mT m) k = (0, sPr (m aM f_letters).toNat (cMay (m a_c) (m a_what) (m a_pointOf)) 6 0 0 k) := by unfold aPartial; rw [if_neg (by omega)]; rfl
      rw [eA]
      refine ⟨?_, hq1⟩
      by_cases hk6 : k ≤ 6
      · rw [w32_id (by omega)] at h23
        rw [sPr_big (by omega) (by have := zfz_nn 0 (m aM f_letters).toNat 0; show zfz 0 ((m aM f_letters).toNat - 0) 0 < _; rw [Nat.sub_zero]; omega)]
      · rw [sPr_big (by omega) (by have := zfz_nn 0 (m aM f_letters).toNat 0; show zfz 0 ((m aM f_letters).toNat - 0) 0 < _; rw [Nat.sub_zero]; omega)]
  · refine z_iconst dX12_partial_5 (by decide) ?_
    refine z_goto (tgt := 10) dX12_partial_6 rfl ?_
    refine z_callV mlX12_310 dX12_partial_10 (sh_M hE) (av := [_]) rfl rfl (Nat.le_of_ble_eq_true rfl) (r_is _ hE hm _) (Nat.le_refl _) (Nat.le_refl _) (Nat.le_refl _) (Nat.le_refl _) ?_
    rintro _ m1 ⟨rfl, e1⟩
    have hq1 : mQ m m1 1 := e1 ▸ mQ_is hq0
    have hI1 := hq1.1
    have hm1 := hI1.1.1
    have eT1 := mQ_T hq1
    have ec1 : m1 a_c = m a_c := congrArg (fun q => q.1) eT1
    have ew1 : m1 a_what = m a_what := congrArg (fun q => q.2.1) eT1
    have ep1 : m1 a_pointOf = m a_pointOf := congrArg (fun q => q.2.2.1) eT1
    have en1 : m1 aM f_letters = m aM f_letters := congrArg (fun q => q.2.2.2) eT1
    obtain ⟨hw1, hl1, hn1⟩ := mI_wl hI1
    refine z_ifz_eq (tgt := 40) dX12_partial_13 rfl (fun h13 => ?_) (fun h => absurd h (by decide))
    refine z_iconst dX12_partial_40 (by decide) ?_
    refine z_iret dX12_partial_41 rfl rfl ?_
    have eA : aPartial (mT m) k = (1, -1) := by unfold aPartial; rw [if_pos (by omega)]
    rw [eA]
    exact ⟨rfl, hq1⟩
