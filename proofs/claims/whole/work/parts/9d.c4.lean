theorem zl2i_and {a : Nat} : zand (zl2i (a : Int)) 1023 = ((a % 1024 : Nat) : Int) := by
  unfold zand zl2i
  rw [zlN, lN_i, Int32.ofInt_toInt, show Int32.ofInt 1023 = nI 1023 from rfl, zb_and_nI]
  have e : a &&& 1023 = a % 1024 := Nat.and_two_pow_sub_one_eq_mod a 10
  rw [e, nI_toInt (by omega)]
theorem unpN {f : Int → Int} {n k : Nat} (hn6 : n ≤ 6) (hr : ∀ i : Int, 0 ≤ i → i < n → 0 ≤ f i ∧ f i < 1024) (hk : k < n) : zand (zl2i (zlushr (sPk f n) (10 * ((n : Int) - 1 - k)))) 1023 = f k := by
  have hb := sPk_bd hr
  have hb2 : (1024 : Int) ^ n ≤ 1152921504606846976 := p1024' n (by omega)
  have hat := sPk_at hr k hk
  obtain ⟨a, ha⟩ : ∃ a : Nat, sPk f n = (a : Int) := ⟨(sPk f n).toNat, by omega⟩
  rw [ha] at hat ⊢
  rw [show 10 * ((n : Int) - 1 - k) = ((10 * (n - 1 - k) : Nat) : Int) by omega, zlushr_N (by omega) (by omega), zl2i_and, ← hat]
  rw [Nat.pow_mul, show (2 : Nat) ^ 10 = 1024 from rfl, Int.natCast_emod, Int.natCast_ediv, Int.natCast_pow]
  rfl
/-- is there another line between the same points -/
def gTw (L : Nat) (fr to' : Nat → Nat) (k : Nat) : Bool := (List.range L).any (fun j => decide (j ≠ k ∧ (fr j = fr k ∧ to' j = to' k ∨ fr j = to' k ∧ to' j = fr k)))
theorem gTw_t {L : Nat} {fr to' : Nat → Nat} {k j : Nat} (h : j < L) (h1 : j ≠ k) (h2 : fr j = fr k ∧ to' j = to' k ∨ fr j = to' k ∧ to' j = fr k) : gTw L fr to' k = true := by
  unfold gTw
  rw [List.any_eq_true]
  exact ⟨j, List.mem_range.mpr h, by rw [decide_eq_true_eq]; exact ⟨h1, h2⟩⟩
theorem gTw_f {L : Nat} {fr to' : Nat → Nat} {k : Nat} (h : ∀ x, x < L → ¬ (x ≠ k ∧ (fr x = fr k ∧ to' x = to' k ∨ fr x = to' k ∧ to' x = fr k))) : gTw L fr to' k = false := by
  unfold gTw
  rw [List.any_eq_false]
  intro x hx
  rw [decide_eq_true_eq]
  exact h x (List.mem_range.mp hx)
theorem l_readName (d : Nat) {E : zE} {m : zM} {P : Option zV → zM → Prop} (g : Int) (g0 : 0 < g) (sG : shG E g) (f : Int → Int) (L : Nat) (hL6 : L ≤ 6) (hr : ∀ i : Int, 0 ≤ i → i < L → (0 ≤ f i ∧ f i < 1024) ∧ f i / 100 < 8 ∧ f i / 10 % 10 < 8) (W : Nat) : ∀ (j : Nat) (i : Nat) (m1 : zM), (i + j = L) → (zfr (fG g) m m1) → (gGr m1 g i (gFr f) (gTo f) W) → (ptG m1 g) → (∀ m2, zfr (fG g) m m2 → gGr m2 g L (gFr f) (gTo f) W → ptG m2 g → P none m2) → zA zX1_readName (d + 2) E E P 11 [zP g, zJ (sPk f L), zN, zI (L : Nat), zI (W : Nat), zI ((j : Int) - 1)] [] m1 E := by
  intro j
  induction j with
  | zero =>
    intro i m1 hi hf hg pG hP
    refine z_iload dX1_readName_11 rfl ?_
    refine z_if_lt (tgt := 38) dX1_readName_13 rfl (fun h13 => ?_) (fun h => absurd (by decide) h)
    refine z_vret dX1_readName_38 rfl rfl ?_
    rw [show L = i by omega] at hP
    exact hP m1 hf hg pG
  | succ j ih =>
    intro i m1 hi hf hg pG hP
    have hr1 := hr i (by omega) (by omega)
    refine z_iload dX1_readName_11 rfl ?_
    refine z_if_lt (tgt := 38) dX1_readName_13 rfl (fun h => absurd h (by omega)) (fun h13 => ?_)
    refine z_aload_n dX1_readName_16 rfl ?_
    refine z_lload_n dX1_readName_17 rfl ?_
    refine z_bipush dX1_readName_18 rfl (by decide) ?_
    refine z_iload dX1_readName_20 rfl ?_
    refine z_mul dX1_readName_22 (by omega) ?_
    refine z_lushr dX1_readName_23 ?_
    refine z_l2i dX1_readName_24 ?_
    refine z_sipush dX1_readName_25 rfl (by decide) ?_
    refine z_iand dX1_readName_28 ?_
    rw [show 10 * (((j + 1 : Nat) : Int) - 1) = 10 * ((L : Int) - 1 - i) by omega, unpN hL6 (fun i q0 q1 => (hr i q0 q1).1) (by omega)]
    refine z_callV mlX1_38 dX1_readName_29 sG.1 (av := [_]) rfl rfl (Nat.le_of_ble_eq_true rfl) (c_addLine _ g g0 sG pG i (gFr f) (gTo f) W hg (f i) (gFr f i) (gTo f i) hr1.1.1 (gFr_eq hr1.1.1) (gTo_eq hr1.1.1) (by unfold gFr; omega) (by unfold gTo; omega) (by omega)) (Nat.le_refl _) (Nat.le_refl _) (Nat.le_refl _) (Nat.le_refl _) ?_
    rintro _ m2 ⟨rfl, f2, h2, p2⟩
    rw [show (fun k => if k = i then gFr f i else gFr f k) = gFr f from by funext k; split; (rename_i e; rw [e]); rfl, show (fun k => if k = i then gTo f i else gTo f k) = gTo f from by funext k; split; (rename_i e; rw [e]); rfl] at h2
    refine z_inc dX1_readName_32 rfl (by omega) ?_
    refine z_goto (tgt := 11) dX1_readName_35 rfl ?_
    try dsimp only [zs0, zsI, zsP, zsN, zsJ, zsS, zst2, Nat.reduceAdd]
    rw [show ((j + 1 : Nat) : Int) - 1 + -1 = (j : Int) - 1 by omega]
    exact ih (i + 1) m2 (by omega) (zfr_tr hf f2) h2 p2 hP

theorem c_readName (d : Nat) {E : zE} {m : zM} (g : Int) (g0 : 0 < g) (sG : shG E g) (pG : ptG m g) (f : Int → Int) (L : Nat) (hL6 : L ≤ 6) (hr : ∀ i : Int, 0 ≤ i → i < L → (0 ≤ f i ∧ f i < 1024) ∧ f i / 100 < 8 ∧ f i / 10 % 10 < 8) (W : Nat) : zR zX1_readName (d + 2) [zP g, zJ (sPk f L), zI (L : Nat), zI (W : Nat)] m E E (fun r m' => r = none ∧ zfr (fG g) m m' ∧ gGr m' g L (gFr f) (gTo f) W ∧ ptG m' g) := by
  refine zR_go [zP g, zJ (sPk f L), zN, zI (L : Nat), zI (W : Nat), zN] (by decide +kernel) (Nat.le_of_ble_eq_true rfl) rfl rfl ?_
  refine z_aload_n dX1_readName_0 rfl ?_
  refine z_iload dX1_readName_1 rfl ?_
  refine z_callV mlX1_34 dX1_readName_3 sG.1 (av := [_]) rfl rfl (Nat.le_of_ble_eq_true rfl) (c_clear _ g g0 sG pG W (gFr f) (gTo f)) (Nat.le_refl _) (Nat.le_refl _) (Nat.le_refl _) (Nat.le_refl _) ?_
  rintro _ m1 ⟨rfl, f1, h1, p1⟩
  refine z_iload_n dX1_readName_6 rfl ?_
  refine z_iconst dX1_readName_7 (by decide) ?_
  refine z_sub dX1_readName_8 (by omega) ?_
  refine z_istore dX1_readName_9 (Nat.le_of_ble_eq_true rfl) ?_
  try dsimp only [zs0, zsI, zsP, zsN, zsJ, zsS, zst2, Nat.reduceAdd]
  exact l_readName d g g0 sG f L hL6 hr W L 0 m1 (by omega) f1 h1 p1 (fun m2 a b c => ⟨rfl, a, b, c⟩)

theorem l_hasTwin (d : Nat) {E : zE} {m : zM} {P : Option zV → zM → Prop} (g : Int) (g0 : 0 < g) (sG : shG E g) (pG : ptG m g) (L : Nat) (fr to' : Nat → Nat) (hL : gLn m g L fr to') (k : Nat) (hkL : k < L) : ∀ (j : Nat) (i : Nat), (i + j = L) → (∀ x, x < i → ¬ (x ≠ k ∧ (fr x = fr k ∧ to' x = to' k ∨ fr x = to' k ∧ to' x = fr k))) → (P (some (zI (zb (gTw L fr to' k = true)))) m) → zA zX1_hasTwin (d) E E P 2 [zP g, zI (k : Nat), zI (i : Nat), zN, zN] [] m E := by
  intro j
  induction j with
  | zero =>
    intro i hi hno hP
    have hLc := hL.1
    have hL6 := hL.2.1
    obtain ⟨k1, k2, k3, k4⟩ := hL.2.2 k hkL
    refine z_iload_n dX1_hasTwin_2 rfl ?_
    refine z_aload_n dX1_hasTwin_3 rfl ?_
    refine z_gIv 3 rfl flX1_25 dX1_hasTwin_4 sG.1 rfl hL.1 ?_
    refine z_icmp_ge (tgt := 105) dX1_hasTwin_7 rfl (fun h7 => ?_) (fun h => absurd (by omega) h)
    refine z_iconst dX1_hasTwin_105 (by decide) ?_
    refine z_zret dX1_hasTwin_106 rfl (by first | omega | exact zb01 _) rfl ?_
    rw [gTw_f (fun x hx => hno x (by omega)), zb_f (by decide)] at hP
    exact hP
  | succ j ih =>
    intro i hi hno hP
    have hLc := hL.1
    have hL6 := hL.2.1
    obtain ⟨k1, k2, k3, k4⟩ := hL.2.2 k hkL
    obtain ⟨q1, q2, q3, q4⟩ := hL.2.2 i (by omega)
    refine z_iload_n dX1_hasTwin_2 rfl ?_
    refine z_aload_n dX1_hasTwin_3 rfl ?_
    refine z_gIv 3 rfl flX1_25 dX1_hasTwin_4 sG.1 rfl hL.1 ?_
    refine z_icmp_ge (tgt := 105) dX1_hasTwin_7 rfl (fun h => absurd h (by omega)) (fun h7 => ?_)
    refine z_aload_n dX1_hasTwin_10 rfl ?_
    refine z_gP 1 rfl (r := (g + 2)) flX1_15 dX1_hasTwin_11 sG.1 rfl pG.2.1 (by omega) ?_
    refine z_iload_n dX1_hasTwin_14 rfl ?_
    refine z_ialv dX1_hasTwin_15 sG.2.2.1 (by omega) (by omega) q1 ?_
    refine z_aload_n dX1_hasTwin_16 rfl ?_
    refine z_gP 1 rfl (r := (g + 2)) flX1_15 dX1_hasTwin_17 sG.1 rfl pG.2.1 (by omega) ?_
    refine z_iload_n dX1_hasTwin_20 rfl ?_
    refine z_ialv dX1_hasTwin_21 sG.2.2.1 (by omega) (by omega) k1 ?_
    refine z_icmp_ne (tgt := 44) dX1_hasTwin_22 rfl (fun h22 => ?_) (fun h22 => ?_)
    · refine z_iconst dX1_hasTwin_44 (by decide) ?_
      refine z_ist 3 dX1_hasTwin_45 rfl (Nat.le_of_ble_eq_true rfl) ?_
      refine z_aload_n dX1_hasTwin_46 rfl ?_
      refine z_gP 1 rfl (r := (g + 2)) flX1_15 dX1_hasTwin_47 sG.1 rfl pG.2.1 (by omega) ?_
      refine z_iload_n dX1_hasTwin_50 rfl ?_
      refine z_ialv dX1_hasTwin_51 sG.2.2.1 (by omega) (by omega) q1 ?_
      refine z_aload_n dX1_hasTwin_52 rfl ?_
      refine z_gP 2 rfl (r := (g + 3)) flX1_18 dX1_hasTwin_53 sG.1 rfl pG.2.2 (by omega) ?_
      refine z_iload_n dX1_hasTwin_56 rfl ?_
      refine z_ialv dX1_hasTwin_57 sG.2.2.2 (by omega) (by omega) k2 ?_
      try dsimp only [zs0, zsI, zsP, zsN, zsJ, zsS, zst2, Nat.reduceAdd]
      refine z_icmp_ne (tgt := 80) dX1_hasTwin_58 rfl (fun h58 => ?_) (fun h58 => ?_)
      · refine z_iconst dX1_hasTwin_80 (by decide) ?_
        refine z_istore dX1_hasTwin_81 (Nat.le_of_ble_eq_true rfl) ?_
        refine z_iload_n dX1_hasTwin_83 rfl ?_
        refine z_iload_n dX1_hasTwin_84 rfl ?_
        try dsimp only [zs0, zsI, zsP, zsN, zsJ, zsS, zst2, Nat.reduceAdd]
        refine z_icmp_eq (tgt := 99) dX1_hasTwin_85 rfl (fun h85 => ?_) (fun h85 => ?_)
        · refine z_inc dX1_hasTwin_99 rfl (by omega) ?_
          refine z_goto (tgt := 2) dX1_hasTwin_102 rfl ?_
          try dsimp only [zs0, zsI, zsP, zsN, zsJ, zsS, zst2, Nat.reduceAdd]
          rw [show (i : Int) + 1 = ((i + 1 : Nat) : Int) by omega]
          refine zA_wk [_, _, _, zN, zN] (by exact ⟨Or.inr rfl, Or.inr rfl, Or.inr rfl, Or.inl rfl, Or.inl rfl, trivial⟩) ?_
          exact ih (i + 1) (by omega) (fun x hx => by
            by_cases e : x = i
            · rw [e]; exact fun h => h.1 (by omega)
            · exact hno x (by omega)) hP
        · refine z_iload_n dX1_hasTwin_88 rfl ?_
          refine z_if_ne (tgt := 97) dX1_hasTwin_89 rfl (fun h => absurd h (by decide)) (fun h89 => ?_)
          refine z_iload dX1_hasTwin_92 rfl ?_
          refine z_if_eq (tgt := 99) dX1_hasTwin_94 rfl (fun h94 => ?_) (fun h => absurd (by decide) h)
          refine z_inc dX1_hasTwin_99 rfl (by omega) ?_
          refine z_goto (tgt := 2) dX1_hasTwin_102 rfl ?_
          try dsimp only [zs0, zsI, zsP, zsN, zsJ, zsS, zst2, Nat.reduceAdd]
          rw [show (i : Int) + 1 = ((i + 1 : Nat) : Int) by omega]
          refine zA_wk [_, _, _, zN, zN] (by exact ⟨Or.inr rfl, Or.inr rfl, Or.inr rfl, Or.inl rfl, Or.inl rfl, trivial⟩) ?_
          exact ih (i + 1) (by omega) (fun x hx => by
            by_cases e : x = i
            · rw [e]; exact fun h => by have := h.2; omega
            · exact hno x (by omega)) hP
      · refine z_aload_n dX1_hasTwin_61 rfl ?_
        refine z_gP 2 rfl (r := (g + 3)) flX1_18 dX1_hasTwin_62 sG.1 rfl pG.2.2 (by omega) ?_
        refine z_iload_n dX1_hasTwin_65 rfl ?_
        refine z_ialv dX1_hasTwin_66 sG.2.2.2 (by omega) (by omega) q2 ?_
        refine z_aload_n dX1_hasTwin_67 rfl ?_
        refine z_gP 1 rfl (r := (g + 2)) flX1_15 dX1_hasTwin_68 sG.1 rfl pG.2.1 (by omega) ?_
        refine z_iload_n dX1_hasTwin_71 rfl ?_
        refine z_ialv dX1_hasTwin_72 sG.2.2.1 (by omega) (by omega) k1 ?_
        refine z_icmp_ne (tgt := 80) dX1_hasTwin_73 rfl (fun h73 => ?_) (fun h73 => ?_)
        · refine z_iconst dX1_hasTwin_80 (by decide) ?_
          refine z_istore dX1_hasTwin_81 (Nat.le_of_ble_eq_true rfl) ?_
          refine z_iload_n dX1_hasTwin_83 rfl ?_
          refine z_iload_n dX1_hasTwin_84 rfl ?_
          try dsimp only [zs0, zsI, zsP, zsN, zsJ, zsS, zst2, Nat.reduceAdd]
          refine z_icmp_eq (tgt := 99) dX1_hasTwin_85 rfl (fun h85 => ?_) (fun h85 => ?_)
          · refine z_inc dX1_hasTwin_99 rfl (by omega) ?_
            refine z_goto (tgt := 2) dX1_hasTwin_102 rfl ?_
            try dsimp only [zs0, zsI, zsP, zsN, zsJ, zsS, zst2, Nat.reduceAdd]
            rw [show (i : Int) + 1 = ((i + 1 : Nat) : Int) by omega]
            refine zA_wk [_, _, _, zN, zN] (by exact ⟨Or.inr rfl, Or.inr rfl, Or.inr rfl, Or.inl rfl, Or.inl rfl, trivial⟩) ?_
            exact ih (i + 1) (by omega) (fun x hx => by
              by_cases e : x = i
              · rw [e]; exact fun h => h.1 (by omega)
              · exact hno x (by omega)) hP
          · refine z_iload_n dX1_hasTwin_88 rfl ?_
            refine z_if_ne (tgt := 97) dX1_hasTwin_89 rfl (fun h => absurd h (by decide)) (fun h89 => ?_)
            refine z_iload dX1_hasTwin_92 rfl ?_
            refine z_if_eq (tgt := 99) dX1_hasTwin_94 rfl (fun h94 => ?_) (fun h => absurd (by decide) h)
            refine z_inc dX1_hasTwin_99 rfl (by omega) ?_
            refine z_goto (tgt := 2) dX1_hasTwin_102 rfl ?_
            try dsimp only [zs0, zsI, zsP, zsN, zsJ, zsS, zst2, Nat.reduceAdd]
            rw [show (i : Int) + 1 = ((i + 1 : Nat) : Int) by omega]
            refine zA_wk [_, _, _, zN, zN] (by exact ⟨Or.inr rfl, Or.inr rfl, Or.inr rfl, Or.inl rfl, Or.inl rfl, trivial⟩) ?_
            exact ih (i + 1) (by omega) (fun x hx => by
              by_cases e : x = i
              · rw [e]; exact fun h => by have := h.2; omega
              · exact hno x (by omega)) hP
        · refine z_iconst dX1_hasTwin_76 (by decide) ?_
          refine z_goto (tgt := 81) dX1_hasTwin_77 rfl ?_
          refine z_istore dX1_hasTwin_81 (Nat.le_of_ble_eq_true rfl) ?_
          refine z_iload_n dX1_hasTwin_83 rfl ?_
          refine z_iload_n dX1_hasTwin_84 rfl ?_
          try dsimp only [zs0, zsI, zsP, zsN, zsJ, zsS, zst2, Nat.reduceAdd]
          refine z_icmp_eq (tgt := 99) dX1_hasTwin_85 rfl (fun h85 => ?_) (fun h85 => ?_)
          · refine z_inc dX1_hasTwin_99 rfl (by omega) ?_
            refine z_goto (tgt := 2) dX1_hasTwin_102 rfl ?_
            try dsimp only [zs0, zsI, zsP, zsN, zsJ, zsS, zst2, Nat.reduceAdd]
            rw [show (i : Int) + 1 = ((i + 1 : Nat) : Int) by omega]
            refine zA_wk [_, _, _, zN, zN] (by exact ⟨Or.inr rfl, Or.inr rfl, Or.inr rfl, Or.inl rfl, Or.inl rfl, trivial⟩) ?_
            exact ih (i + 1) (by omega) (fun x hx => by
              by_cases e : x = i
              · rw [e]; exact fun h => h.1 (by omega)
              · exact hno x (by omega)) hP
          · refine z_iload_n dX1_hasTwin_88 rfl ?_
            refine z_if_ne (tgt := 97) dX1_hasTwin_89 rfl (fun h => absurd h (by decide)) (fun h89 => ?_)
            refine z_iload dX1_hasTwin_92 rfl ?_
            refine z_if_eq (tgt := 99) dX1_hasTwin_94 rfl (fun h => absurd h (by decide)) (fun h94 => ?_)
            refine z_iconst dX1_hasTwin_97 (by decide) ?_
            refine z_zret dX1_hasTwin_98 rfl (by first | omega | exact zb01 _) rfl ?_
            rw [gTw_t (show i < L by omega) (by omega) (by omega), zb_t rfl] at hP
            exact hP
    · refine z_aload_n dX1_hasTwin_25 rfl ?_
      refine z_gP 2 rfl (r := (g + 3)) flX1_18 dX1_hasTwin_26 sG.1 rfl pG.2.2 (by omega) ?_
      refine z_iload_n dX1_hasTwin_29 rfl ?_
      refine z_ialv dX1_hasTwin_30 sG.2.2.2 (by omega) (by omega) q2 ?_
      refine z_aload_n dX1_hasTwin_31 rfl ?_
      refine z_gP 2 rfl (r := (g + 3)) flX1_18 dX1_hasTwin_32 sG.1 rfl pG.2.2 (by omega) ?_
      refine z_iload_n dX1_hasTwin_35 rfl ?_
      refine z_ialv dX1_hasTwin_36 sG.2.2.2 (by omega) (by omega) k2 ?_
      refine z_icmp_ne (tgt := 44) dX1_hasTwin_37 rfl (fun h37 => ?_) (fun h37 => ?_)
      · refine z_iconst dX1_hasTwin_44 (by decide) ?_
        refine z_ist 3 dX1_hasTwin_45 rfl (Nat.le_of_ble_eq_true rfl) ?_
        refine z_aload_n dX1_hasTwin_46 rfl ?_
        refine z_gP 1 rfl (r := (g + 2)) flX1_15 dX1_hasTwin_47 sG.1 rfl pG.2.1 (by omega) ?_
        refine z_iload_n dX1_hasTwin_50 rfl ?_
        refine z_ialv dX1_hasTwin_51 sG.2.2.1 (by omega) (by omega) q1 ?_
        refine z_aload_n dX1_hasTwin_52 rfl ?_
        refine z_gP 2 rfl (r := (g + 3)) flX1_18 dX1_hasTwin_53 sG.1 rfl pG.2.2 (by omega) ?_
        refine z_iload_n dX1_hasTwin_56 rfl ?_
        refine z_ialv dX1_hasTwin_57 sG.2.2.2 (by omega) (by omega) k2 ?_
        try dsimp only [zs0, zsI, zsP, zsN, zsJ, zsS, zst2, Nat.reduceAdd]
        refine z_icmp_ne (tgt := 80) dX1_hasTwin_58 rfl (fun h58 => ?_) (fun h58 => ?_)
        · refine z_iconst dX1_hasTwin_80 (by decide) ?_
          refine z_istore dX1_hasTwin_81 (Nat.le_of_ble_eq_true rfl) ?_
          refine z_iload_n dX1_hasTwin_83 rfl ?_
          refine z_iload_n dX1_hasTwin_84 rfl ?_
          try dsimp only [zs0, zsI, zsP, zsN, zsJ, zsS, zst2, Nat.reduceAdd]
          refine z_icmp_eq (tgt := 99) dX1_hasTwin_85 rfl (fun h85 => ?_) (fun h85 => ?_)
          · refine z_inc dX1_hasTwin_99 rfl (by omega) ?_
            refine z_goto (tgt := 2) dX1_hasTwin_102 rfl ?_
            try dsimp only [zs0, zsI, zsP, zsN, zsJ, zsS, zst2, Nat.reduceAdd]
            rw [show (i : Int) + 1 = ((i + 1 : Nat) : Int) by omega]
            refine zA_wk [_, _, _, zN, zN] (by exact ⟨Or.inr rfl, Or.inr rfl, Or.inr rfl, Or.inl rfl, Or.inl rfl, trivial⟩) ?_
            exact ih (i + 1) (by omega) (fun x hx => by
              by_cases e : x = i
              · rw [e]; exact fun h => h.1 (by omega)
              · exact hno x (by omega)) hP
          · refine z_iload_n dX1_hasTwin_88 rfl ?_
            refine z_if_ne (tgt := 97) dX1_hasTwin_89 rfl (fun h => absurd h (by decide)) (fun h89 => ?_)
            refine z_iload dX1_hasTwin_92 rfl ?_
            refine z_if_eq (tgt := 99) dX1_hasTwin_94 rfl (fun h94 => ?_) (fun h => absurd (by decide) h)
            refine z_inc dX1_hasTwin_99 rfl (by omega) ?_
            refine z_goto (tgt := 2) dX1_hasTwin_102 rfl ?_
            try dsimp only [zs0, zsI, zsP, zsN, zsJ, zsS, zst2, Nat.reduceAdd]
            rw [show (i : Int) + 1 = ((i + 1 : Nat) : Int) by omega]
            refine zA_wk [_, _, _, zN, zN] (by exact ⟨Or.inr rfl, Or.inr rfl, Or.inr rfl, Or.inl rfl, Or.inl rfl, trivial⟩) ?_
            exact ih (i + 1) (by omega) (fun x hx => by
              by_cases e : x = i
              · rw [e]; exact fun h => by have := h.2; omega
              · exact hno x (by omega)) hP
        · refine z_aload_n dX1_hasTwin_61 rfl ?_
          refine z_gP 2 rfl (r := (g + 3)) flX1_18 dX1_hasTwin_62 sG.1 rfl pG.2.2 (by omega) ?_
          refine z_iload_n dX1_hasTwin_65 rfl ?_
          refine z_ialv dX1_hasTwin_66 sG.2.2.2 (by omega) (by omega) q2 ?_
          refine z_aload_n dX1_hasTwin_67 rfl ?_
          refine z_gP 1 rfl (r := (g + 2)) flX1_15 dX1_hasTwin_68 sG.1 rfl pG.2.1 (by omega) ?_
          refine z_iload_n dX1_hasTwin_71 rfl ?_
          refine z_ialv dX1_hasTwin_72 sG.2.2.1 (by omega) (by omega) k1 ?_
          refine z_icmp_ne (tgt := 80) dX1_hasTwin_73 rfl (fun h73 => ?_) (fun h73 => ?_)
          · refine z_iconst dX1_hasTwin_80 (by decide) ?_
            refine z_istore dX1_hasTwin_81 (Nat.le_of_ble_eq_true rfl) ?_
            refine z_iload_n dX1_hasTwin_83 rfl ?_
            refine z_iload_n dX1_hasTwin_84 rfl ?_
            try dsimp only [zs0, zsI, zsP, zsN, zsJ, zsS, zst2, Nat.reduceAdd]
            refine z_icmp_eq (tgt := 99) dX1_hasTwin_85 rfl (fun h85 => ?_) (fun h85 => ?_)
            · refine z_inc dX1_hasTwin_99 rfl (by omega) ?_
              refine z_goto (tgt := 2) dX1_hasTwin_102 rfl ?_
              try dsimp only [zs0, zsI, zsP, zsN, zsJ, zsS, zst2, Nat.reduceAdd]
              rw [show (i : Int) + 1 = ((i + 1 : Nat) : Int) by omega]
              refine zA_wk [_, _, _, zN, zN] (by exact ⟨Or.inr rfl, Or.inr rfl, Or.inr rfl, Or.inl rfl, Or.inl rfl, trivial⟩) ?_
              exact ih (i + 1) (by omega) (fun x hx => by
                by_cases e : x = i
                · rw [e]; exact fun h => h.1 (by omega)
                · exact hno x (by omega)) hP
            · refine z_iload_n dX1_hasTwin_88 rfl ?_
              refine z_if_ne (tgt := 97) dX1_hasTwin_89 rfl (fun h => absurd h (by decide)) (fun h89 => ?_)
              refine z_iload dX1_hasTwin_92 rfl ?_
              refine z_if_eq (tgt := 99) dX1_hasTwin_94 rfl (fun h94 => ?_) (fun h => absurd (by decide) h)
              refine z_inc dX1_hasTwin_99 rfl (by omega) ?_
              refine z_goto (tgt := 2) dX1_hasTwin_102 rfl ?_
              try dsimp only [zs0, zsI, zsP, zsN, zsJ, zsS, zst2, Nat.reduceAdd]
              rw [show (i : Int) + 1 = ((i + 1 : Nat) : Int) by omega]
              refine zA_wk [_, _, _, zN, zN] (by exact ⟨Or.inr rfl, Or.inr rfl, Or.inr rfl, Or.inl rfl, Or.inl rfl, trivial⟩) ?_
              exact ih (i + 1) (by omega) (fun x hx => by
                by_cases e : x = i
                · rw [e]; exact fun h => by have := h.2; omega
                · exact hno x (by omega)) hP
          · refine z_iconst dX1_hasTwin_76 (by decide) ?_
            refine z_goto (tgt := 81) dX1_hasTwin_77 rfl ?_
            refine z_istore dX1_hasTwin_81 (Nat.le_of_ble_eq_true rfl) ?_
            refine z_iload_n dX1_hasTwin_83 rfl ?_
            refine z_iload_n dX1_hasTwin_84 rfl ?_
            try dsimp only [zs0, zsI, zsP, zsN, zsJ, zsS, zst2, Nat.reduceAdd]
            refine z_icmp_eq (tgt := 99) dX1_hasTwin_85 rfl (fun h85 => ?_) (fun h85 => ?_)
            · refine z_inc dX1_hasTwin_99 rfl (by omega) ?_
              refine z_goto (tgt := 2) dX1_hasTwin_102 rfl ?_
              try dsimp only [zs0, zsI, zsP, zsN, zsJ, zsS, zst2, Nat.reduceAdd]
              rw [show (i : Int) + 1 = ((i + 1 : Nat) : Int) by omega]
              refine zA_wk [_, _, _, zN, zN] (by exact ⟨Or.inr rfl, Or.inr rfl, Or.inr rfl, Or.inl rfl, Or.inl rfl, trivial⟩) ?_
              exact ih (i + 1) (by omega) (fun x hx => by
                by_cases e : x = i
                · rw [e]; exact fun h => h.1 (by omega)
                · exact hno x (by omega)) hP
            · refine z_iload_n dX1_hasTwin_88 rfl ?_
              refine z_if_ne (tgt := 97) dX1_hasTwin_89 rfl (fun h => absurd h (by decide)) (fun h89 => ?_)
              refine z_iload dX1_hasTwin_92 rfl ?_
              refine z_if_eq (tgt := 99) dX1_hasTwin_94 rfl (fun h => absurd h (by decide)) (fun h94 => ?_)
              refine z_iconst dX1_hasTwin_97 (by decide) ?_
              refine z_zret dX1_hasTwin_98 rfl (by first | omega | exact zb01 _) rfl ?_
              rw [gTw_t (show i < L by omega) (by omega) (by omega), zb_t rfl] at hP
              exact hP
      · refine z_iconst dX1_hasTwin_40 (by decide) ?_
        refine z_goto (tgt := 45) dX1_hasTwin_41 rfl ?_
        refine z_ist 3 dX1_hasTwin_45 rfl (Nat.le_of_ble_eq_true rfl) ?_
        refine z_aload_n dX1_hasTwin_46 rfl ?_
        refine z_gP 1 rfl (r := (g + 2)) flX1_15 dX1_hasTwin_47 sG.1 rfl pG.2.1 (by omega) ?_
        refine z_iload_n dX1_hasTwin_50 rfl ?_
        refine z_ialv dX1_hasTwin_51 sG.2.2.1 (by omega) (by omega) q1 ?_
        refine z_aload_n dX1_hasTwin_52 rfl ?_
        refine z_gP 2 rfl (r := (g + 3)) flX1_18 dX1_hasTwin_53 sG.1 rfl pG.2.2 (by omega) ?_
        refine z_iload_n dX1_hasTwin_56 rfl ?_
        refine z_ialv dX1_hasTwin_57 sG.2.2.2 (by omega) (by omega) k2 ?_
        try dsimp only [zs0, zsI, zsP, zsN, zsJ, zsS, zst2, Nat.reduceAdd]
        refine z_icmp_ne (tgt := 80) dX1_hasTwin_58 rfl (fun h58 => ?_) (fun h58 => ?_)
        · refine z_iconst dX1_hasTwin_80 (by decide) ?_
          refine z_istore dX1_hasTwin_81 (Nat.le_of_ble_eq_true rfl) ?_
          refine z_iload_n dX1_hasTwin_83 rfl ?_
          refine z_iload_n dX1_hasTwin_84 rfl ?_
          try dsimp only [zs0, zsI, zsP, zsN, zsJ, zsS, zst2, Nat.reduceAdd]
          refine z_icmp_eq (tgt := 99) dX1_hasTwin_85 rfl (fun h85 => ?_) (fun h85 => ?_)
          · refine z_inc dX1_hasTwin_99 rfl (by omega) ?_
            refine z_goto (tgt := 2) dX1_hasTwin_102 rfl ?_
            try dsimp only [zs0, zsI, zsP, zsN, zsJ, zsS, zst2, Nat.reduceAdd]
            rw [show (i : Int) + 1 = ((i + 1 : Nat) : Int) by omega]
            refine zA_wk [_, _, _, zN, zN] (by exact ⟨Or.inr rfl, Or.inr rfl, Or.inr rfl, Or.inl rfl, Or.inl rfl, trivial⟩) ?_
            exact ih (i + 1) (by omega) (fun x hx => by
              by_cases e : x = i
              · rw [e]; exact fun h => h.1 (by omega)
              · exact hno x (by omega)) hP
          · refine z_iload_n dX1_hasTwin_88 rfl ?_
            refine z_if_ne (tgt := 97) dX1_hasTwin_89 rfl (fun h89 => ?_) (fun h => absurd (by decide) h)
            refine z_iconst dX1_hasTwin_97 (by decide) ?_
            refine z_zret dX1_hasTwin_98 rfl (by first | omega | exact zb01 _) rfl ?_
            rw [gTw_t (show i < L by omega) (by omega) (by omega), zb_t rfl] at hP
            exact hP
        · refine z_aload_n dX1_hasTwin_61 rfl ?_
          refine z_gP 2 rfl (r := (g + 3)) flX1_18 dX1_hasTwin_62 sG.1 rfl pG.2.2 (by omega) ?_
          refine z_iload_n dX1_hasTwin_65 rfl ?_
          refine z_ialv dX1_hasTwin_66 sG.2.2.2 (by omega) (by omega) q2 ?_
          refine z_aload_n dX1_hasTwin_67 rfl ?_
          refine z_gP 1 rfl (r := (g + 2)) flX1_15 dX1_hasTwin_68 sG.1 rfl pG.2.1 (by omega) ?_
          refine z_iload_n dX1_hasTwin_71 rfl ?_
          refine z_ialv dX1_hasTwin_72 sG.2.2.1 (by omega) (by omega) k1 ?_
          refine z_icmp_ne (tgt := 80) dX1_hasTwin_73 rfl (fun h73 => ?_) (fun h73 => ?_)
          · refine z_iconst dX1_hasTwin_80 (by decide) ?_
            refine z_istore dX1_hasTwin_81 (Nat.le_of_ble_eq_true rfl) ?_
            refine z_iload_n dX1_hasTwin_83 rfl ?_
            refine z_iload_n dX1_hasTwin_84 rfl ?_
            try dsimp only [zs0, zsI, zsP, zsN, zsJ, zsS, zst2, Nat.reduceAdd]
            refine z_icmp_eq (tgt := 99) dX1_hasTwin_85 rfl (fun h85 => ?_) (fun h85 => ?_)
            · refine z_inc dX1_hasTwin_99 rfl (by omega) ?_
              refine z_goto (tgt := 2) dX1_hasTwin_102 rfl ?_
              try dsimp only [zs0, zsI, zsP, zsN, zsJ, zsS, zst2, Nat.reduceAdd]
              rw [show (i : Int) + 1 = ((i + 1 : Nat) : Int) by omega]
              refine zA_wk [_, _, _, zN, zN] (by exact ⟨Or.inr rfl, Or.inr rfl, Or.inr rfl, Or.inl rfl, Or.inl rfl, trivial⟩) ?_
              exact ih (i + 1) (by omega) (fun x hx => by
                by_cases e : x = i
                · rw [e]; exact fun h => h.1 (by omega)
                · exact hno x (by omega)) hP
            · refine z_iload_n dX1_hasTwin_88 rfl ?_
              refine z_if_ne (tgt := 97) dX1_hasTwin_89 rfl (fun h89 => ?_) (fun h => absurd (by decide) h)
              refine z_iconst dX1_hasTwin_97 (by decide) ?_
              refine z_zret dX1_hasTwin_98 rfl (by first | omega | exact zb01 _) rfl ?_
              rw [gTw_t (show i < L by omega) (by omega) (by omega), zb_t rfl] at hP
              exact hP
          · refine z_iconst dX1_hasTwin_76 (by decide) ?_
            refine z_goto (tgt := 81) dX1_hasTwin_77 rfl ?_
            refine z_istore dX1_hasTwin_81 (Nat.le_of_ble_eq_true rfl) ?_
            refine z_iload_n dX1_hasTwin_83 rfl ?_
            refine z_iload_n dX1_hasTwin_84 rfl ?_
            try dsimp only [zs0, zsI, zsP, zsN, zsJ, zsS, zst2, Nat.reduceAdd]
            refine z_icmp_eq (tgt := 99) dX1_hasTwin_85 rfl (fun h85 => ?_) (fun h85 => ?_)
            · refine z_inc dX1_hasTwin_99 rfl (by omega) ?_
              refine z_goto (tgt := 2) dX1_hasTwin_102 rfl ?_
              try dsimp only [zs0, zsI, zsP, zsN, zsJ, zsS, zst2, Nat.reduceAdd]
              rw [show (i : Int) + 1 = ((i + 1 : Nat) : Int) by omega]
              refine zA_wk [_, _, _, zN, zN] (by exact ⟨Or.inr rfl, Or.inr rfl, Or.inr rfl, Or.inl rfl, Or.inl rfl, trivial⟩) ?_
              exact ih (i + 1) (by omega) (fun x hx => by
                by_cases e : x = i
                · rw [e]; exact fun h => h.1 (by omega)
                · exact hno x (by omega)) hP
            · refine z_iload_n dX1_hasTwin_88 rfl ?_
              refine z_if_ne (tgt := 97) dX1_hasTwin_89 rfl (fun h89 => ?_) (fun h => absurd (by decide) h)
              refine z_iconst dX1_hasTwin_97 (by decide) ?_
              refine z_zret dX1_hasTwin_98 rfl (by first | omega | exact zb01 _) rfl ?_
              rw [gTw_t (show i < L by omega) (by omega) (by omega), zb_t rfl] at hP
              exact hP

theorem c_hasTwin (d : Nat) {E : zE} {m : zM} (g : Int) (g0 : 0 < g) (sG : shG E g) (pG : ptG m g) (L : Nat) (fr to' : Nat → Nat) (hL : gLn m g L fr to') (k : Nat) (hkL : k < L) : zR zX1_hasTwin (d) [zP g, zI (k : Nat)] m E E (fun r m' => r = some (zI (zb (gTw L fr to' k = true))) ∧ m = m') := by
  refine zR_go [zP g, zI (k : Nat), zN, zN, zN] (by decide +kernel) (Nat.le_of_ble_eq_true rfl) rfl rfl ?_
  refine z_iconst dX1_hasTwin_0 (by decide) ?_
  refine z_ist 2 dX1_hasTwin_1 rfl (Nat.le_of_ble_eq_true rfl) ?_
  try dsimp only [zs0, zsI, zsP, zsN, zsJ, zsS, zst2, Nat.reduceAdd]
  exact l_hasTwin d g g0 sG pG L fr to' hL k hkL L 0 (by omega) (fun x hx => absurd hx (by omega)) ⟨rfl, rfl⟩
