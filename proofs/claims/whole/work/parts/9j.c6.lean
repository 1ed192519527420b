theorem c_hasPoint (d : Nat) {E : zE} {m : zM} (t : Int) (t0 : 0 < t) (sT : shT E t) (pT : ptT m t) (c : Int → Int) (hw : wfD c) (hc : cTh m t c) (p : Int) : zR zX7_hasPoint (d) [zP t, zI p] m E E (fun r m' => r = some (zI (zb (0 ≤ p ∧ p ≤ c 2 - 1))) ∧ m = m') := by
  have b1 := hw.1
  have b2 := hw.2.1
  have b3 := hw.2.2.1
  refine zR_go [zP t, zI p] (by decide +kernel) (Nat.le_of_ble_eq_true rfl) rfl rfl ?_
  refine z_iload_n dX7_hasPoint_0 rfl ?_
  refine z_if_lt (tgt := 16) dX7_hasPoint_1 rfl (fun h1 => ?_) (fun h1 => ?_)
  · refine z_iconst dX7_hasPoint_16 (by decide) ?_
    refine z_zret dX7_hasPoint_17 rfl (by first | omega | exact zb01 _) rfl ?_
    exact ⟨by rw [zb_f (by omega)], rfl⟩
  · refine z_iload_n dX7_hasPoint_4 rfl ?_
    refine z_aload_n dX7_hasPoint_5 rfl ?_
    refine z_gIv 13 rfl flX7_57 dX7_hasPoint_6 (sT0 sT) rfl hc.2.2.1 ?_
    refine z_icmp_ge (tgt := 16) dX7_hasPoint_9 rfl (fun h9 => ?_) (fun h9 => ?_)
    · refine z_iconst dX7_hasPoint_16 (by decide) ?_
      refine z_zret dX7_hasPoint_17 rfl (by first | omega | exact zb01 _) rfl ?_
      exact ⟨by rw [zb_f (by omega)], rfl⟩
    · refine z_iconst dX7_hasPoint_12 (by decide) ?_
      refine z_goto (tgt := 17) dX7_hasPoint_13 rfl ?_
      refine z_zret dX7_hasPoint_17 rfl (by first | omega | exact zb01 _) rfl ?_
      exact ⟨by rw [zb_t (by omega)], rfl⟩

theorem c_hasLetter (d : Nat) {E : zE} {m : zM} (t : Int) (t0 : 0 < t) (sT : shT E t) (pT : ptT m t) (n i : Int) (hn : m t 14 = n) : zR zX7_hasLetter (d) [zP t, zI i] m E E (fun r m' => r = some (zI (zb (0 ≤ i ∧ i ≤ n - 1))) ∧ m = m') := by
  refine zR_go [zP t, zI i] (by decide +kernel) (Nat.le_of_ble_eq_true rfl) rfl rfl ?_
  refine z_iload_n dX7_hasLetter_0 rfl ?_
  refine z_if_lt (tgt := 16) dX7_hasLetter_1 rfl (fun h1 => ?_) (fun h1 => ?_)
  · refine z_iconst dX7_hasLetter_16 (by decide) ?_
    refine z_zret dX7_hasLetter_17 rfl (by first | omega | exact zb01 _) rfl ?_
    exact ⟨by rw [zb_f (by omega)], rfl⟩
  · refine z_iload_n dX7_hasLetter_4 rfl ?_
    refine z_aload_n dX7_hasLetter_5 rfl ?_
    refine z_gIv 14 rfl flX7_69 dX7_hasLetter_6 (sT0 sT) rfl hn ?_
    refine z_icmp_ge (tgt := 16) dX7_hasLetter_9 rfl (fun h9 => ?_) (fun h9 => ?_)
    · refine z_iconst dX7_hasLetter_16 (by decide) ?_
      refine z_zret dX7_hasLetter_17 rfl (by first | omega | exact zb01 _) rfl ?_
      exact ⟨by rw [zb_f (by omega)], rfl⟩
    · refine z_iconst dX7_hasLetter_12 (by decide) ?_
      refine z_goto (tgt := 17) dX7_hasLetter_13 rfl ?_
      refine z_zret dX7_hasLetter_17 rfl (by first | omega | exact zb01 _) rfl ?_
      exact ⟨by rw [zb_t (by omega)], rfl⟩

theorem c_isPairSort (d : Nat) {E : zE} {m : zM} (t : Int) (t0 : 0 < t) (sT : shT E t) (pT : ptT m t) (c : Int → Int) (hw : wfD c) (hc : cTh m t c) (s : Int) (h0 : 0 ≤ s) (h1 : s < 6 → s < c 0) : zR zX7_isPairSort (d) [zP t, zI s] m E E (fun r m' => r = some (zI (zb (s < 6 ∧ c (4 + 3 * s + 1) = 1))) ∧ m = m') := by
  have b1 := hw.1
  have b2 := hw.2.1
  have b3 := hw.2.2.1
  refine zR_go [zP t, zI s] (by decide +kernel) (Nat.le_of_ble_eq_true rfl) rfl rfl ?_
  refine z_iload_n dX7_isPairSort_0 rfl ?_
  refine z_bipush dX7_isPairSort_1 rfl (by decide) ?_
  refine z_icmp_ge (tgt := 19) dX7_isPairSort_3 rfl (fun h3 => ?_) (fun h3 => ?_)
  · refine z_iconst dX7_isPairSort_19 (by decide) ?_
    refine z_zret dX7_isPairSort_20 rfl (by first | omega | exact zb01 _) rfl ?_
    exact ⟨by rw [zb_f (by omega)], rfl⟩
  · refine z_aload_n dX7_isPairSort_6 rfl ?_
    refine z_gP 1 rfl (r := (t + 2)) flX7_15 dX7_isPairSort_7 (sT0 sT) rfl (pT1 pT) (by omega) ?_
    refine z_iload_n dX7_isPairSort_10 rfl ?_
    refine z_zald dX7_isPairSort_11 (sT2 sT) (by omega) (by omega) ?_
    rw [(hc.2.2.2.1 s h0 (by omega)).2.1]
    refine z_if_eq (tgt := 19) dX7_isPairSort_12 rfl (fun h12 => ?_) (fun h12 => ?_)
    · refine z_iconst dX7_isPairSort_19 (by decide) ?_
      refine z_zret dX7_isPairSort_20 rfl (by first | omega | exact zb01 _) rfl ?_
      have hv := (hw.2.2.2.1 s h0 (by omega)).2.1
      exact ⟨by rw [zb_f (by omega)], rfl⟩
    · refine z_iconst dX7_isPairSort_15 (by decide) ?_
      refine z_goto (tgt := 20) dX7_isPairSort_16 rfl ?_
      refine z_zret dX7_isPairSort_20 rfl (by first | omega | exact zb01 _) rfl ?_
      have hv := (hw.2.2.2.1 s h0 (by omega)).2.1
      exact ⟨by rw [zb_t (by omega)], rfl⟩

theorem c_isRealSort (d : Nat) {E : zE} {m : zM} (t : Int) (t0 : 0 < t) (sT : shT E t) (pT : ptT m t) (c : Int → Int) (hw : wfD c) (hc : cTh m t c) (s : Int) (h0 : 0 ≤ s) (h1 : s < 6 → s < c 0) : zR zX7_isRealSort (d) [zP t, zI s] m E E (fun r m' => r = some (zI (zb (s < 6 ∧ c (4 + 3 * s + 1) ≠ 1))) ∧ m = m') := by
  have b1 := hw.1
  have b2 := hw.2.1
  have b3 := hw.2.2.1
  refine zR_go [zP t, zI s] (by decide +kernel) (Nat.le_of_ble_eq_true rfl) rfl rfl ?_
  refine z_iload_n dX7_isRealSort_0 rfl ?_
  refine z_bipush dX7_isRealSort_1 rfl (by decide) ?_
  refine z_icmp_ge (tgt := 19) dX7_isRealSort_3 rfl (fun h3 => ?_) (fun h3 => ?_)
  · refine z_iconst dX7_isRealSort_19 (by decide) ?_
    refine z_zret dX7_isRealSort_20 rfl (by first | omega | exact zb01 _) rfl ?_
    exact ⟨by rw [zb_f (by omega)], rfl⟩
  · refine z_aload_n dX7_isRealSort_6 rfl ?_
    refine z_gP 1 rfl (r := (t + 2)) flX7_15 dX7_isRealSort_7 (sT0 sT) rfl (pT1 pT) (by omega) ?_
    refine z_iload_n dX7_isRealSort_10 rfl ?_
    refine z_zald dX7_isRealSort_11 (sT2 sT) (by omega) (by omega) ?_
    rw [(hc.2.2.2.1 s h0 (by omega)).2.1]
    refine z_if_ne (tgt := 19) dX7_isRealSort_12 rfl (fun h12 => ?_) (fun h12 => ?_)
    · refine z_iconst dX7_isRealSort_19 (by decide) ?_
      refine z_zret dX7_isRealSort_20 rfl (by first | omega | exact zb01 _) rfl ?_
      have hv := (hw.2.2.2.1 s h0 (by omega)).2.1
      exact ⟨by rw [zb_f (by omega)], rfl⟩
    · refine z_iconst dX7_isRealSort_15 (by decide) ?_
      refine z_goto (tgt := 20) dX7_isRealSort_16 rfl ?_
      refine z_zret dX7_isRealSort_20 rfl (by first | omega | exact zb01 _) rfl ?_
      have hv := (hw.2.2.2.1 s h0 (by omega)).2.1
      exact ⟨by rw [zb_t (by omega)], rfl⟩

theorem c_hasSort (d : Nat) {E : zE} {m : zM} (t : Int) (t0 : 0 < t) (sT : shT E t) (pT : ptT m t) (c : Int → Int) (hw : wfD c) (hc : cTh m t c) (s : Int) (h0 : 0 ≤ s) (h1 : s < 10) : zR zX7_hasSort (d) [zP t, zI s] m E E (fun r m' => r = some (zI (zb (if 6 ≤ s then s - 6 < c 1 else s < c 0))) ∧ m = m') := by
  have b1 := hw.1
  have b2 := hw.2.1
  have b3 := hw.2.2.1
  refine zR_go [zP t, zI s] (by decide +kernel) (Nat.le_of_ble_eq_true rfl) rfl rfl ?_
  refine z_iload_n dX7_hasSort_0 rfl ?_
  refine z_bipush dX7_hasSort_1 rfl (by decide) ?_
  refine z_icmp_ge (tgt := 22) dX7_hasSort_3 rfl (fun h3 => ?_) (fun h3 => ?_)
  · refine z_iload_n dX7_hasSort_22 rfl ?_
    refine z_bipush dX7_hasSort_23 rfl (by decide) ?_
    refine z_sub dX7_hasSort_25 (by omega) ?_
    refine z_aload_n dX7_hasSort_26 rfl ?_
    refine z_gIv 12 rfl flX7_54 dX7_hasSort_27 (sT0 sT) rfl hc.2.1 ?_
    refine z_icmp_ge (tgt := 37) dX7_hasSort_30 rfl (fun h30 => ?_) (fun h30 => ?_)
    · refine z_iconst dX7_hasSort_37 (by decide) ?_
      refine z_zret dX7_hasSort_38 rfl (by first | omega | exact zb01 _) rfl ?_
      exact ⟨by rw [zb_f (by rw [if_pos (by omega)]; omega)], rfl⟩
    · refine z_iconst dX7_hasSort_33 (by decide) ?_
      refine z_goto (tgt := 38) dX7_hasSort_34 rfl ?_
      refine z_zret dX7_hasSort_38 rfl (by first | omega | exact zb01 _) rfl ?_
      exact ⟨by rw [zb_t (by rw [if_pos (by omega)]; omega)], rfl⟩
  · refine z_iload_n dX7_hasSort_6 rfl ?_
    refine z_aload_n dX7_hasSort_7 rfl ?_
    refine z_gIv 11 rfl flX7_50 dX7_hasSort_8 (sT0 sT) rfl hc.1 ?_
    refine z_icmp_ge (tgt := 18) dX7_hasSort_11 rfl (fun h11 => ?_) (fun h11 => ?_)
    · refine z_iconst dX7_hasSort_18 (by decide) ?_
      refine z_goto (tgt := 38) dX7_hasSort_19 rfl ?_
      refine z_zret dX7_hasSort_38 rfl (by first | omega | exact zb01 _) rfl ?_
      exact ⟨by rw [zb_f (by rw [if_neg (by omega)]; omega)], rfl⟩
    · refine z_iconst dX7_hasSort_14 (by decide) ?_
      refine z_goto (tgt := 38) dX7_hasSort_15 rfl ?_
      refine z_zret dX7_hasSort_38 rfl (by first | omega | exact zb01 _) rfl ?_
      exact ⟨by rw [zb_t (by rw [if_neg (by omega)]; omega)], rfl⟩

theorem c_codeFor (d : Nat) {E : zE} {m : zM} (t : Int) (t0 : 0 < t) (sT : shT E t) (pT : ptT m t) (c : Int → Int) (hw : wfD c) (hc : cTh m t c) (f g s : Int) (h0 : 0 ≤ s) (h1 : s < 6 → s < c 0) (hf : 0 ≤ f ∧ f < 8) (hg : 0 ≤ g ∧ g < 8) (hs : s < 10) : zR zX7_codeFor (d) [zP t, zI f, zI g, zI s] m E E (fun r m' => r = some (zI (kCd c f g s)) ∧ m = m') := by
  have b1 := hw.1
  have b2 := hw.2.1
  have b3 := hw.2.2.1
  refine zR_go [zP t, zI f, zI g, zI s, zN] (by decide +kernel) (Nat.le_of_ble_eq_true rfl) rfl rfl ?_
  refine z_iload_n dX7_codeFor_0 rfl ?_
  refine z_iload_n dX7_codeFor_1 rfl ?_
  refine z_icmp_le (tgt := 24) dX7_codeFor_2 rfl (fun h2 => ?_) (fun h2 => ?_)
  · refine z_iconst dX7_codeFor_24 (by decide) ?_
    refine z_istore dX7_codeFor_25 (Nat.le_of_ble_eq_true rfl) ?_
    refine z_iload dX7_codeFor_27 rfl ?_
    try dsimp only [zs0, zsI, zsP, zsN, zsJ, zsS, zst2, Nat.reduceAdd]
    refine z_if_eq (tgt := 46) dX7_codeFor_29 rfl (fun h29 => ?_) (fun h => absurd (by decide) h)
    refine z_bipush dX7_codeFor_46 rfl (by decide) ?_
    refine z_iload_n dX7_codeFor_48 rfl ?_
    refine z_mul dX7_codeFor_49 (by omega) ?_
    refine z_bipush dX7_codeFor_50 rfl (by decide) ?_
    refine z_iload_n dX7_codeFor_52 rfl ?_
    refine z_mul dX7_codeFor_53 (by omega) ?_
    refine z_add dX7_codeFor_54 (by omega) ?_
    refine z_iload_n dX7_codeFor_55 rfl ?_
    refine z_add dX7_codeFor_56 (by omega) ?_
    refine z_iret dX7_codeFor_57 rfl rfl ?_
    refine ⟨?_, rfl⟩
    unfold kCd
    rw [if_neg (by omega)]
  · refine z_iload_n dX7_codeFor_5 rfl ?_
    refine z_bipush dX7_codeFor_6 rfl (by decide) ?_
    refine z_icmp_ge (tgt := 24) dX7_codeFor_8 rfl (fun h8 => ?_) (fun h8 => ?_)
    · refine z_iconst dX7_codeFor_24 (by decide) ?_
      refine z_istore dX7_codeFor_25 (Nat.le_of_ble_eq_true rfl) ?_
      refine z_iload dX7_codeFor_27 rfl ?_
      try dsimp only [zs0, zsI, zsP, zsN, zsJ, zsS, zst2, Nat.reduceAdd]
      refine z_if_eq (tgt := 46) dX7_codeFor_29 rfl (fun h29 => ?_) (fun h => absurd (by decide) h)
      refine z_bipush dX7_codeFor_46 rfl (by decide) ?_
      refine z_iload_n dX7_codeFor_48 rfl ?_
      refine z_mul dX7_codeFor_49 (by omega) ?_
      refine z_bipush dX7_codeFor_50 rfl (by decide) ?_
      refine z_iload_n dX7_codeFor_52 rfl ?_
      refine z_mul dX7_codeFor_53 (by omega) ?_
      refine z_add dX7_codeFor_54 (by omega) ?_
      refine z_iload_n dX7_codeFor_55 rfl ?_
      refine z_add dX7_codeFor_56 (by omega) ?_
      refine z_iret dX7_codeFor_57 rfl rfl ?_
      refine ⟨?_, rfl⟩
      unfold kCd
      rw [if_neg (by omega)]
    · refine z_aload_n dX7_codeFor_11 rfl ?_
      refine z_gP 1 rfl (r := (t + 2)) flX7_15 dX7_codeFor_12 (sT0 sT) rfl (pT1 pT) (by omega) ?_
      refine z_iload_n dX7_codeFor_15 rfl ?_
      refine z_zald dX7_codeFor_16 (sT2 sT) (by omega) (by omega) ?_
      rw [(hc.2.2.2.1 s h0 (by omega)).2.1]
      refine z_if_ne (tgt := 24) dX7_codeFor_17 rfl (fun h17 => ?_) (fun h17 => ?_)
      · refine z_iconst dX7_codeFor_24 (by decide) ?_
        refine z_istore dX7_codeFor_25 (Nat.le_of_ble_eq_true rfl) ?_
        refine z_iload dX7_codeFor_27 rfl ?_
        try dsimp only [zs0, zsI, zsP, zsN, zsJ, zsS, zst2, Nat.reduceAdd]
        refine z_if_eq (tgt := 46) dX7_codeFor_29 rfl (fun h29 => ?_) (fun h => absurd (by decide) h)
        refine z_bipush dX7_codeFor_46 rfl (by decide) ?_
        refine z_iload_n dX7_codeFor_48 rfl ?_
        refine z_mul dX7_codeFor_49 (by omega) ?_
        refine z_bipush dX7_codeFor_50 rfl (by decide) ?_
        refine z_iload_n dX7_codeFor_52 rfl ?_
        refine z_mul dX7_codeFor_53 (by omega) ?_
        refine z_add dX7_codeFor_54 (by omega) ?_
        refine z_iload_n dX7_codeFor_55 rfl ?_
        refine z_add dX7_codeFor_56 (by omega) ?_
        refine z_iret dX7_codeFor_57 rfl rfl ?_
        have hv := (hw.2.2.2.1 s h0 (by omega)).2.1
        refine ⟨?_, rfl⟩
        unfold kCd
        rw [if_neg (by omega)]
      · refine z_iconst dX7_codeFor_20 (by decide) ?_
        refine z_goto (tgt := 25) dX7_codeFor_21 rfl ?_
        refine z_istore dX7_codeFor_25 (Nat.le_of_ble_eq_true rfl) ?_
        refine z_iload dX7_codeFor_27 rfl ?_
        try dsimp only [zs0, zsI, zsP, zsN, zsJ, zsS, zst2, Nat.reduceAdd]
        refine z_if_eq (tgt := 46) dX7_codeFor_29 rfl (fun h => absurd h (by decide)) (fun h29 => ?_)
        refine z_bipush dX7_codeFor_32 rfl (by decide) ?_
        refine z_iload_n dX7_codeFor_34 rfl ?_
        refine z_mul dX7_codeFor_35 (by omega) ?_
        refine z_bipush dX7_codeFor_36 rfl (by decide) ?_
        refine z_iload_n dX7_codeFor_38 rfl ?_
        refine z_mul dX7_codeFor_39 (by omega) ?_
        refine z_add dX7_codeFor_40 (by omega) ?_
        refine z_iload_n dX7_codeFor_41 rfl ?_
        refine z_add dX7_codeFor_42 (by omega) ?_
        refine z_goto (tgt := 57) dX7_codeFor_43 rfl ?_
        refine z_iret dX7_codeFor_57 rfl rfl ?_
        have hv := (hw.2.2.2.1 s h0 (by omega)).2.1
        refine ⟨?_, rfl⟩
        unfold kCd
        rw [if_pos (by omega)]

theorem c_hasCode (d : Nat) {E : zE} {m : zM} (t : Int) (t0 : 0 < t) (sT : shT E t) (pT : ptT m t) (c : Int → Int) (hw : wfD c) (hc : cTh m t c) (co : Int) : zR zX7_hasCode (d + 1) [zP t, zI co] m E E (fun r m' => r = some (zI (zb (cCodeOk c co = true))) ∧ m = m') := by
  have b1 := hw.1
  have b2 := hw.2.1
  have b3 := hw.2.2.1
  refine zR_go [zP t, zI co, zN, zN, zN] (by decide +kernel) (Nat.le_of_ble_eq_true rfl) rfl rfl ?_
  refine z_iload_n dX7_hasCode_0 rfl ?_
  refine z_if_lt (tgt := 11) dX7_hasCode_1 rfl (fun h1 => ?_) (fun h1 => ?_)
  · refine z_iconst dX7_hasCode_11 (by decide) ?_
    refine z_zret dX7_hasCode_12 rfl (by first | omega | exact zb01 _) rfl ?_
    refine ⟨?_, rfl⟩
    have hk : ¬ cCodeOk c co = true := by
      rw [cCodeOk_iff]
      rintro ⟨g1, g2, g3, g4⟩
      omega
    rw [zb_f hk]
  · refine z_iload_n dX7_hasCode_4 rfl ?_
    refine z_sipush dX7_hasCode_5 rfl (by decide) ?_
    refine z_icmp_lt (tgt := 13) dX7_hasCode_8 rfl (fun h8 => ?_) (fun h8 => ?_)
    · refine z_iload_n dX7_hasCode_13 rfl ?_
      refine z_bipush dX7_hasCode_14 rfl (by decide) ?_
      refine z_div dX7_hasCode_16 (by omega) (by omega) ?_
      refine z_ist 2 dX7_hasCode_17 rfl (Nat.le_of_ble_eq_true rfl) ?_
      refine z_iload_n dX7_hasCode_18 rfl ?_
      refine z_bipush dX7_hasCode_19 rfl (by decide) ?_
      refine z_div dX7_hasCode_21 (by omega) (by omega) ?_
      refine z_bipush dX7_hasCode_22 rfl (by decide) ?_
      refine z_rem dX7_hasCode_24 (by omega) (by omega) ?_
      refine z_ist 3 dX7_hasCode_25 rfl (Nat.le_of_ble_eq_true rfl) ?_
      refine z_iload_n dX7_hasCode_26 rfl ?_
      refine z_bipush dX7_hasCode_27 rfl (by decide) ?_
      refine z_rem dX7_hasCode_29 (by omega) (by omega) ?_
      refine z_istore dX7_hasCode_30 (Nat.le_of_ble_eq_true rfl) ?_
      refine z_aload_n dX7_hasCode_32 rfl ?_
      refine z_iload_n dX7_hasCode_33 rfl ?_
      try dsimp only [zs0, zsI, zsP, zsN, zsJ, zsS, zst2, Nat.reduceAdd]
      refine z_callV mlX7_127 dX7_hasCode_34 (sT0 sT) (av := [_]) rfl rfl (Nat.le_of_ble_eq_true rfl) (c_hasPoint _ t t0 sT pT c hw hc _) (Nat.le_refl _) (Nat.le_refl _) (Nat.le_refl _) (Nat.le_refl _) ?_
      rintro _ _ ⟨rfl, rfl⟩
      refine z_ifz_eq (tgt := 57) dX7_hasCode_37 rfl (fun h37 => ?_) (fun h37 => ?_)
      · refine z_iconst dX7_hasCode_57 (by decide) ?_
        refine z_zret dX7_hasCode_58 rfl (by first | omega | exact zb01 _) rfl ?_
        refine ⟨?_, rfl⟩
        have hk : ¬ cCodeOk c co = true := by
          rw [cCodeOk_iff]
          rintro ⟨g1, g2, g3, g4⟩
          omega
        rw [zb_f hk]
      · refine z_aload_n dX7_hasCode_40 rfl ?_
        refine z_iload_n dX7_hasCode_41 rfl ?_
        refine z_callV mlX7_127 dX7_hasCode_42 (sT0 sT) (av := [_]) rfl rfl (Nat.le_of_ble_eq_true rfl) (c_hasPoint _ t t0 sT pT c hw hc _) (Nat.le_refl _) (Nat.le_refl _) (Nat.le_refl _) (Nat.le_refl _) ?_
        rintro _ _ ⟨rfl, rfl⟩
        refine z_ifz_eq (tgt := 57) dX7_hasCode_45 rfl (fun h45 => ?_) (fun h45 => ?_)
        · refine z_iconst dX7_hasCode_57 (by decide) ?_
          refine z_zret dX7_hasCode_58 rfl (by first | omega | exact zb01 _) rfl ?_
          refine ⟨?_, rfl⟩
          have hk : ¬ cCodeOk c co = true := by
            rw [cCodeOk_iff]
            rintro ⟨g1, g2, g3, g4⟩
            omega
          rw [zb_f hk]
        · refine z_aload_n dX7_hasCode_48 rfl ?_
          refine z_iload dX7_hasCode_49 rfl ?_
          refine z_callV mlX7_131 dX7_hasCode_51 (sT0 sT) (av := [_]) rfl rfl (Nat.le_of_ble_eq_true rfl) (c_hasSort _ t t0 sT pT c hw hc (co % 10) (by omega) (by omega)) (Nat.le_refl _) (Nat.le_refl _) (Nat.le_refl _) (Nat.le_refl _) ?_
          rintro _ _ ⟨rfl, rfl⟩
          refine z_ifz_ne (tgt := 59) dX7_hasCode_54 rfl (fun h54 => ?_) (fun h54 => ?_)
          · refine z_aload_n dX7_hasCode_59 rfl ?_
            refine z_iload dX7_hasCode_60 rfl ?_
            refine z_callV mlX7_134 dX7_hasCode_62 (sT0 sT) (av := [_]) rfl rfl (Nat.le_of_ble_eq_true rfl) (c_isRealSort _ t t0 sT pT c hw hc (co % 10) (by omega) (fun h => by rw [if_neg (by omega)] at h54; exact h54)) (Nat.le_refl _) (Nat.le_refl _) (Nat.le_refl _) (Nat.le_refl _) ?_
            rintro _ _ ⟨rfl, rfl⟩
            refine z_ifz_eq (tgt := 73) dX7_hasCode_65 rfl (fun h65 => ?_) (fun h65 => ?_)
            · refine z_iconst dX7_hasCode_73 (by decide) ?_
              refine z_goto (tgt := 78) dX7_hasCode_74 rfl ?_
              refine z_zret dX7_hasCode_78 rfl (by first | omega | exact zb01 _) rfl ?_
              refine ⟨?_, rfl⟩
              have hk : cCodeOk c co = true := by
                rw [cCodeOk_iff]
                refine ⟨by omega, by omega, by omega, ?_⟩
                by_cases q : 6 ≤ co % 10
                · rw [if_pos q] at h54 ⊢; exact h54
                · rw [if_neg q] at h54 ⊢
                  refine ⟨h54, ?_⟩
                  by_cases q2 : c (4 + 3 * (co % 10) + 1) = 1
                  · exact Or.inl q2
                  · right; exact absurd ⟨by omega, q2⟩ h65
              rw [zb_t hk]
            · refine z_iload_n dX7_hasCode_68 rfl ?_
              refine z_iload_n dX7_hasCode_69 rfl ?_
              refine z_icmp_gt (tgt := 77) dX7_hasCode_70 rfl (fun h70 => ?_) (fun h70 => ?_)
              · refine z_iconst dX7_hasCode_77 (by decide) ?_
                refine z_zret dX7_hasCode_78 rfl (by first | omega | exact zb01 _) rfl ?_
                refine ⟨?_, rfl⟩
                have hk : ¬ cCodeOk c co = true := by
                  rw [cCodeOk_iff]
                  rintro ⟨g1, g2, g3, g4⟩
                  rw [if_neg (by omega)] at g4
                  obtain ⟨g5, g6 | g6⟩ := g4
                  · exact h65.2 g6
                  · omega
                rw [zb_f hk]
              · refine z_iconst dX7_hasCode_73 (by decide) ?_
                refine z_goto (tgt := 78) dX7_hasCode_74 rfl ?_
                refine z_zret dX7_hasCode_78 rfl (by first | omega | exact zb01 _) rfl ?_
                refine ⟨?_, rfl⟩
                have hk : cCodeOk c co = true := by
                  rw [cCodeOk_iff]
                  refine ⟨by omega, by omega, by omega, ?_⟩
                  by_cases q : 6 ≤ co % 10
                  · rw [if_pos q] at h54 ⊢; exact h54
                  · rw [if_neg q] at h54 ⊢
                    refine ⟨h54, ?_⟩
                    by_cases q2 : c (4 + 3 * (co % 10) + 1) = 1
                    · exact Or.inl q2
                    · right; omega
                rw [zb_t hk]
          · refine z_iconst dX7_hasCode_57 (by decide) ?_
            refine z_zret dX7_hasCode_58 rfl (by first | omega | exact zb01 _) rfl ?_
            refine ⟨?_, rfl⟩
            have hk : ¬ cCodeOk c co = true := by
              rw [cCodeOk_iff]
              rintro ⟨g1, g2, g3, g4⟩
              exact h54 (by by_cases q : 6 ≤ co % 10; (rw [if_pos q] at g4 ⊢; exact g4); (rw [if_neg q] at g4 ⊢; exact g4.1))
            rw [zb_f hk]
    · refine z_iconst dX7_hasCode_11 (by decide) ?_
      refine z_zret dX7_hasCode_12 rfl (by first | omega | exact zb01 _) rfl ?_
      refine ⟨?_, rfl⟩
      have hk : ¬ cCodeOk c co = true := by
        rw [cCodeOk_iff]
        rintro ⟨g1, g2, g3, g4⟩
        omega
      rw [zb_f hk]

theorem l_fieldOf (d : Nat) {E : zE} {m : zM} {P : Option zV → zM → Prop} (t : Int) (t0 : 0 < t) (sT : shT E t) (pT : ptT m t) (c : Int → Int) (hw : wfD c) (hc : cTh m t c) (v : Int) : ∀ (j : Nat) (f : Int), (0 ≤ f) → (f + j = c 0) → (P (some (zI (zfst (fun f => decide (c (4 + 3 * f) = v)) j f))) m) → zA zX7_fieldOf (d) E E P 2 [zP t, zI v, zI f] [] m E := by
  intro j
  induction j with
  | zero =>
    intro f h0 hk hP
    have b1 := hw.1
    have b2 := hw.2.1
    have b3 := hw.2.2.1
    refine z_iload_n dX7_fieldOf_2 rfl ?_
    refine z_aload_n dX7_fieldOf_3 rfl ?_
    refine z_gIv 11 rfl flX7_50 dX7_fieldOf_4 (sT0 sT) rfl hc.1 ?_
    refine z_icmp_ge (tgt := 28) dX7_fieldOf_7 rfl (fun h7 => ?_) (fun h => absurd (by omega) h)
    refine z_iconst dX7_fieldOf_28 (by decide) ?_
    refine z_iret dX7_fieldOf_29 rfl rfl ?_
    exact hP
  | succ j ih =>
    intro f h0 hk hP
    have b1 := hw.1
    have b2 := hw.2.1
    have b3 := hw.2.2.1
    refine z_iload_n dX7_fieldOf_2 rfl ?_
    refine z_aload_n dX7_fieldOf_3 rfl ?_
    refine z_gIv 11 rfl flX7_50 dX7_fieldOf_4 (sT0 sT) rfl hc.1 ?_
    refine z_icmp_ge (tgt := 28) dX7_fieldOf_7 rfl (fun h => absurd h (by omega)) (fun h7 => ?_)
    refine z_aload_n dX7_fieldOf_10 rfl ?_
    refine z_gP 0 rfl (r := (t + 1)) flX7_9 dX7_fieldOf_11 (sT0 sT) rfl (pT0 pT) (by omega) ?_
    refine z_iload_n dX7_fieldOf_14 rfl ?_
    refine z_ialv dX7_fieldOf_15 (sT1 sT) (by omega) (by omega) (hc.2.2.2.1 f h0 (by omega)).1 ?_
    refine z_iload_n dX7_fieldOf_16 rfl ?_
    refine z_icmp_ne (tgt := 22) dX7_fieldOf_17 rfl (fun h17 => ?_) (fun h17 => ?_)
    · refine z_inc dX7_fieldOf_22 rfl (by omega) ?_
      refine z_goto (tgt := 2) dX7_fieldOf_25 rfl ?_
      try dsimp only [zs0, zsI, zsP, zsN, zsJ, zsS, zst2, Nat.reduceAdd]
      rw [zfst_f (by rw [decide_eq_false_iff_not]; omega)] at hP
      exact ih (f + 1) (by omega) (by omega) hP
    · refine z_iload_n dX7_fieldOf_20 rfl ?_
      refine z_iret dX7_fieldOf_21 rfl rfl ?_
      rw [zfst_t (by rw [decide_eq_true_eq]; omega)] at hP
      exact hP

theorem c_fieldOf (d : Nat) {E : zE} {m : zM} (t : Int) (t0 : 0 < t) (sT : shT E t) (pT : ptT m t) (c : Int → Int) (hw : wfD c) (hc : cTh m t c) (v : Int) : zR zX7_fieldOf (d) [zP t, zI v] m E E (fun r m' => r = some (zI (cFld c v)) ∧ m = m') := by
  have b1 := hw.1
  have b2 := hw.2.1
  have b3 := hw.2.2.1
  refine zR_go [zP t, zI v, zN] (by decide +kernel) (Nat.le_of_ble_eq_true rfl) rfl rfl ?_
  refine z_iconst dX7_fieldOf_0 (by decide) ?_
  refine z_ist 2 dX7_fieldOf_1 rfl (Nat.le_of_ble_eq_true rfl) ?_
  try dsimp only [zs0, zsI, zsP, zsN, zsJ, zsS, zst2, Nat.reduceAdd]
  exact l_fieldOf d t t0 sT pT c hw hc v (c 0).toNat 0 (by omega) (by omega) ⟨rfl, rfl⟩

theorem l_mixOf2 (d : Nat) {E : zE} {m : zM} {P : Option zV → zM → Prop} (t : Int) (t0 : 0 < t) (sT : shT E t) (pT : ptT m t) (c : Int → Int) (hw : wfD c) (hc : cTh m t c) (f g : Int) : ∀ (j : Nat) (k : Int), (0 ≤ k) → (k + j = c 1) → (P (some (zI (zfst (cMixP c f g) j k))) m) → zA zX7_mixOf (d) E E P 2 [zP t, zI f, zI g, zI k, zN] [] m E := by
  intro j
  induction j with
  | zero =>
    intro k h0 hk hP
    have b1 := hw.1
    have b2 := hw.2.1
    have b3 := hw.2.2.1
    refine z_iload_n dX7_mixOf_2 rfl ?_
    refine z_aload_n dX7_mixOf_3 rfl ?_
    refine z_gIv 12 rfl flX7_54 dX7_mixOf_4 (sT0 sT) rfl hc.2.1 ?_
    refine z_icmp_ge (tgt := 70) dX7_mixOf_7 rfl (fun h7 => ?_) (fun h => absurd (by omega) h)
    refine z_iconst dX7_mixOf_70 (by decide) ?_
    refine z_iret dX7_mixOf_71 rfl rfl ?_
    exact hP
  | succ j ih =>
    intro k h0 hk hP
    have b1 := hw.1
    have b2 := hw.2.1
    have b3 := hw.2.2.1
    refine z_iload_n dX7_mixOf_2 rfl ?_
    refine z_aload_n dX7_mixOf_3 rfl ?_
    refine z_gIv 12 rfl flX7_54 dX7_mixOf_4 (sT0 sT) rfl hc.2.1 ?_
    refine z_icmp_ge (tgt := 70) dX7_mixOf_7 rfl (fun h => absurd h (by omega)) (fun h7 => ?_)
    refine z_aload_n dX7_mixOf_10 rfl ?_
    refine z_gP 3 rfl (r := (t + 4)) flX7_22 dX7_mixOf_11 (sT0 sT) rfl (pT3 pT) (by omega) ?_
    refine z_iload_n dX7_mixOf_14 rfl ?_
    refine z_ialv dX7_mixOf_15 (sT4 sT) (by omega) (by omega) (hc.2.2.2.2.1 k h0 (by omega)).1 ?_
    refine z_iload_n dX7_mixOf_16 rfl ?_
    refine z_icmp_ne (tgt := 34) dX7_mixOf_17 rfl (fun h17 => ?_) (fun h17 => ?_)
    · refine z_iconst dX7_mixOf_34 (by decide) ?_
      refine z_istore dX7_mixOf_35 (Nat.le_of_ble_eq_true rfl) ?_
      refine z_iload dX7_mixOf_37 rfl ?_
      try dsimp only [zs0, zsI, zsP, zsN, zsJ, zsS, zst2, Nat.reduceAdd]
      refine z_if_ne (tgt := 62) dX7_mixOf_39 rfl (fun h => absurd h (by decide)) (fun h39 => ?_)
      refine z_aload_n dX7_mixOf_42 rfl ?_
      refine z_gP 3 rfl (r := (t + 4)) flX7_22 dX7_mixOf_43 (sT0 sT) rfl (pT3 pT) (by omega) ?_
      refine z_iload_n dX7_mixOf_46 rfl ?_
      refine z_ialv dX7_mixOf_47 (sT4 sT) (by omega) (by omega) (hc.2.2.2.2.1 k h0 (by omega)).1 ?_
      refine z_iload_n dX7_mixOf_48 rfl ?_
      refine z_icmp_ne (tgt := 64) dX7_mixOf_49 rfl (fun h49 => ?_) (fun h49 => ?_)
      · refine z_inc dX7_mixOf_64 rfl (by omega) ?_
        refine z_goto (tgt := 2) dX7_mixOf_67 rfl ?_
        try dsimp only [zs0, zsI, zsP, zsN, zsJ, zsS, zst2, Nat.reduceAdd]
        refine zA_wk [_, _, _, _, zN] (by exact ⟨Or.inr rfl, Or.inr rfl, Or.inr rfl, Or.inr rfl, Or.inl rfl, trivial⟩) ?_
        rw [zfst_f (by unfold cMixP; rw [decide_eq_false_iff_not]; omega)] at hP
        exact ih (k + 1) (by omega) (by omega) hP
      · refine z_aload_n dX7_mixOf_52 rfl ?_
        refine z_gP 4 rfl (r := (t + 5)) flX7_25 dX7_mixOf_53 (sT0 sT) rfl (pT4 pT) (by omega) ?_
        refine z_iload_n dX7_mixOf_56 rfl ?_
        refine z_ialv dX7_mixOf_57 (sT5 sT) (by omega) (by omega) (hc.2.2.2.2.1 k h0 (by omega)).2 ?_
        refine z_iload_n dX7_mixOf_58 rfl ?_
        refine z_icmp_ne (tgt := 64) dX7_mixOf_59 rfl (fun h59 => ?_) (fun h59 => ?_)
        · refine z_inc dX7_mixOf_64 rfl (by omega) ?_
          refine z_goto (tgt := 2) dX7_mixOf_67 rfl ?_
          try dsimp only [zs0, zsI, zsP, zsN, zsJ, zsS, zst2, Nat.reduceAdd]
          refine zA_wk [_, _, _, _, zN] (by exact ⟨Or.inr rfl, Or.inr rfl, Or.inr rfl, Or.inr rfl, Or.inl rfl, trivial⟩) ?_
          rw [zfst_f (by unfold cMixP; rw [decide_eq_false_iff_not]; omega)] at hP
          exact ih (k + 1) (by omega) (by omega) hP
        · refine z_iload_n dX7_mixOf_62 rfl ?_
          refine z_iret dX7_mixOf_63 rfl rfl ?_
          rw [zfst_t (by unfold cMixP; rw [decide_eq_true_eq]; omega)] at hP
          exact hP
    · refine z_aload_n dX7_mixOf_20 rfl ?_
      refine z_gP 4 rfl (r := (t + 5)) flX7_25 dX7_mixOf_21 (sT0 sT) rfl (pT4 pT) (by omega) ?_
      refine z_iload_n dX7_mixOf_24 rfl ?_
      refine z_ialv dX7_mixOf_25 (sT5 sT) (by omega) (by omega) (hc.2.2.2.2.1 k h0 (by omega)).2 ?_
      refine z_iload_n dX7_mixOf_26 rfl ?_
      refine z_icmp_ne (tgt := 34) dX7_mixOf_27 rfl (fun h27 => ?_) (fun h27 => ?_)
      · refine z_iconst dX7_mixOf_34 (by decide) ?_
        refine z_istore dX7_mixOf_35 (Nat.le_of_ble_eq_true rfl) ?_
        refine z_iload dX7_mixOf_37 rfl ?_
        try dsimp only [zs0, zsI, zsP, zsN, zsJ, zsS, zst2, Nat.reduceAdd]
        refine z_if_ne (tgt := 62) dX7_mixOf_39 rfl (fun h => absurd h (by decide)) (fun h39 => ?_)
        refine z_aload_n dX7_mixOf_42 rfl ?_
        refine z_gP 3 rfl (r := (t + 4)) flX7_22 dX7_mixOf_43 (sT0 sT) rfl (pT3 pT) (by omega) ?_
        refine z_iload_n dX7_mixOf_46 rfl ?_
        refine z_ialv dX7_mixOf_47 (sT4 sT) (by omega) (by omega) (hc.2.2.2.2.1 k h0 (by omega)).1 ?_
        refine z_iload_n dX7_mixOf_48 rfl ?_
        refine z_icmp_ne (tgt := 64) dX7_mixOf_49 rfl (fun h49 => ?_) (fun h49 => ?_)
        · refine z_inc dX7_mixOf_64 rfl (by omega) ?_
          refine z_goto (tgt := 2) dX7_mixOf_67 rfl ?_
          try dsimp only [zs0, zsI, zsP, zsN, zsJ, zsS, zst2, Nat.reduceAdd]
          refine zA_wk [_, _, _, _, zN] (by exact ⟨Or.inr rfl, Or.inr rfl, Or.inr rfl, Or.inr rfl, Or.inl rfl, trivial⟩) ?_
          rw [zfst_f (by unfold cMixP; rw [decide_eq_false_iff_not]; omega)] at hP
          exact ih (k + 1) (by omega) (by omega) hP
        · refine z_aload_n dX7_mixOf_52 rfl ?_
          refine z_gP 4 rfl (r := (t + 5)) flX7_25 dX7_mixOf_53 (sT0 sT) rfl (pT4 pT) (by omega) ?_
          refine z_iload_n dX7_mixOf_56 rfl ?_
          refine z_ialv dX7_mixOf_57 (sT5 sT) (by omega) (by omega) (hc.2.2.2.2.1 k h0 (by omega)).2 ?_
          refine z_iload_n dX7_mixOf_58 rfl ?_
          refine z_icmp_ne (tgt := 64) dX7_mixOf_59 rfl (fun h59 => ?_) (fun h59 => ?_)
          · refine z_inc dX7_mixOf_64 rfl (by omega) ?_
            refine z_goto (tgt := 2) dX7_mixOf_67 rfl ?_
            try dsimp only [zs0, zsI, zsP, zsN, zsJ, zsS, zst2, Nat.reduceAdd]
            refine zA_wk [_, _, _, _, zN] (by exact ⟨Or.inr rfl, Or.inr rfl, Or.inr rfl, Or.inr rfl, Or.inl rfl, trivial⟩) ?_
            rw [zfst_f (by unfold cMixP; rw [decide_eq_false_iff_not]; omega)] at hP
            exact ih (k + 1) (by omega) (by omega) hP
          · refine z_iload_n dX7_mixOf_62 rfl ?_
            refine z_iret dX7_mixOf_63 rfl rfl ?_
            rw [zfst_t (by unfold cMixP; rw [decide_eq_true_eq]; omega)] at hP
            exact hP
      · refine z_iconst dX7_mixOf_30 (by decide) ?_
        refine z_goto (tgt := 35) dX7_mixOf_31 rfl ?_
        refine z_istore dX7_mixOf_35 (Nat.le_of_ble_eq_true rfl) ?_
        refine z_iload dX7_mixOf_37 rfl ?_
        try dsimp only [zs0, zsI, zsP, zsN, zsJ, zsS, zst2, Nat.reduceAdd]
        refine z_if_ne (tgt := 62) dX7_mixOf_39 rfl (fun h39 => ?_) (fun h => absurd (by decide) h)
        refine z_iload_n dX7_mixOf_62 rfl ?_
        refine z_iret dX7_mixOf_63 rfl rfl ?_
        rw [zfst_t (by unfold cMixP; rw [decide_eq_true_eq]; omega)] at hP
        exact hP

theorem c_mixOf (d : Nat) {E : zE} {m : zM} (t : Int) (t0 : 0 < t) (sT : shT E t) (pT : ptT m t) (c : Int → Int) (hw : wfD c) (hc : cTh m t c) (f g : Int) : zR zX7_mixOf (d) [zP t, zI f, zI g] m E E (fun r m' => r = some (zI (cMix c f g)) ∧ m = m') := by
  have b1 := hw.1
  have b2 := hw.2.1
  have b3 := hw.2.2.1
  refine zR_go [zP t, zI f, zI g, zN, zN] (by decide +kernel) (Nat.le_of_ble_eq_true rfl) rfl rfl ?_
  refine z_iconst dX7_mixOf_0 (by decide) ?_
  refine z_ist 3 dX7_mixOf_1 rfl (Nat.le_of_ble_eq_true rfl) ?_
  try dsimp only [zs0, zsI, zsP, zsN, zsJ, zsS, zst2, Nat.reduceAdd]
  exact l_mixOf2 d t t0 sT pT c hw hc f g (c 1).toNat 0 (by omega) (by omega) ⟨rfl, rfl⟩

theorem c_allPoints (d : Nat) {E : zE} {m : zM} (t : Int) (t0 : 0 < t) (sT : shT E t) (pT : ptT m t) (c : Int → Int) (hw : wfD c) (hc : cTh m t c)  : zR zX7_allPoints (d) [zP t] m E E (fun r m' => r = some (zI ((tAll c : Nat))) ∧ m = m') := by
  have b1 := hw.1
  have b2 := hw.2.1
  have b3 := hw.2.2.1
  refine zR_go [zP t] (by decide +kernel) (Nat.le_of_ble_eq_true rfl) rfl rfl ?_
  refine z_iconst dX7_allPoints_0 (by decide) ?_
  refine z_aload_n dX7_allPoints_1 rfl ?_
  refine z_gIv 13 rfl flX7_57 dX7_allPoints_2 (sT0 sT) rfl hc.2.2.1 ?_
  refine z_ishl dX7_allPoints_5 ?_
  refine z_iconst dX7_allPoints_6 (by decide) ?_
  have ha : zshl 1 (c 2) - 1 = ((tAll c : Nat) : Int) := by rw [show c 2 = (((c 2).toNat : Nat) : Int) by omega]; exact zall (by omega)
  have hl := tAll_ltD hw
  refine z_sub dX7_allPoints_7 (by omega) ?_
  rw [ha]
  refine z_iret dX7_allPoints_8 rfl rfl ?_
  exact ⟨rfl, rfl⟩
