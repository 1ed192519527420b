theorem sKey_congr {f g : Int → Int} {n : Nat} (h : ∀ i : Int, 0 ≤ i → i < n → f i = g i) : sKey f n = sKey g n := by
  have e : (∃ v : Int, ∃ k, srt k n ∧ pm k f n ∧ v = sPk k n) ↔ ∃ v : Int, ∃ k, srt k n ∧ pm k g n ∧ v = sPk k n := by
    constructor
    · rintro ⟨v, k, h1, h2, h3⟩; exact ⟨v, k, h1, pm_tr h2 (pm_eq h), h3⟩
    · rintro ⟨v, k, h1, h2, h3⟩; exact ⟨v, k, h1, pm_tr h2 (pm_sy (pm_eq h)), h3⟩
  by_cases hx : ∃ v : Int, ∃ k, srt k n ∧ pm k g n ∧ v = sPk k n
  · obtain ⟨v, k, h1, h2, h3⟩ := hx
    rw [sKey_eq h1 h2, sKey_eq h1 (pm_tr h2 (pm_sy (pm_eq h)))]
  · unfold sKey
    rw [dif_neg hx, dif_neg (fun q => hx (e.mp q))]
theorem sPlc_eq {nP : Nat} {al : Int → Int → Bool} {V : (Int → Int) → Int} {s p used : Nat} {pl : Int → Int} (h : 0 < s) : sPlc nP al V s p used pl = sCat (fun q => if used.testBit q.toNat = false ∧ (q = p ∨ al p q = true) then sPlc nP al V (s - 1) (p + 1) (used ||| 2 ^ q.toNat) (fun x => if x = (p : Int) then q else pl x) else []) nP 0 := by
  obtain ⟨t, rfl⟩ : ∃ t, s = t + 1 := ⟨s - 1, by omega⟩
  rfl
theorem sV_congr {c co pl pl' : Int → Int} {n : Int} (hln : 0 ≤ n ∧ n ≤ 6) (hcd : ∀ k : Int, 0 ≤ k → k < n → 0 ≤ co k ∧ co k / 100 < c 2 ∧ co k / 10 % 10 < c 2) (h : ∀ x : Int, 0 ≤ x → x < c 2 → pl x = pl' x) : sKey (fun k => cImg c pl (co k)) n.toNat = sV c co n.toNat pl' := by
  unfold sV
  apply sKey_congr
  intro k q1 q2
  have h1 := hcd k q1 (by omega)
  simp only [cImg, h (co k / 100) (by omega) h1.2.1, h (co k / 10 % 10) (by omega) h1.2.2]
theorem r_tries_step (d : Nat) {E : zE} {m : zM} (hE : shM E) (hm : ptM m) (hw : wfC (m a_c)) (hln : 0 ≤ m aM f_lines ∧ m aM f_lines ≤ 6) (hcd : ∀ k : Int, 0 ≤ k → k < m aM f_lines → 0 ≤ m a_codes k ∧ m a_codes k / 100 < m a_c 2 ∧ m a_codes k / 10 % 10 < m a_c 2) (s : Nat) (p used : Nat) (hs : (p : Int) + s = m a_c 2) (hus : used < 256) (pl : Int → Int) (hag : ∀ x : Int, 0 ≤ x → x < p → m a_places x = pl x) (hpl : ∀ x : Int, 0 ≤ x → x < 8 → 0 ≤ m a_places x ∧ m a_places x < 8) (hsm : 0 ≤ m aM f_sameNames ∧ m aM f_sameNames + ((sPlc (m a_c 2).toNat (cAlike (m a_c)) (sV (m a_c) (m a_codes) (m aM f_lines).toNat) s p used pl).length : Int) ≤ 2000000000) (rec : 0 < s → ∀ (q : Nat) (m2 : zM), ptM m2 → (q : Int) < m a_c 2 → zfr fTries m m2 → (∀ x : Int, 0 ≤ x → x < p + 1 → m2 a_places x = (if x = (p : Int) then (q : Int) else pl x)) → (∀ x : Int, 0 ≤ x → x < 8 → 0 ≤ m2 a_places x ∧ m2 a_places x < 8) → 0 ≤ m2 aM f_sameNames ∧ m2 aM f_sameNames + ((sPlc (m a_c 2).toNat (cAlike (m a_c)) (sV (m a_c) (m a_codes) (m aM f_lines).toNat) (s - 1) (p + 1) (used ||| 2 ^ q) (fun x => if x = (p : Int) then (q : Int) else pl x)).length : Int) ≤ 2000000000 → zR zX12_tries (s + (d + 2)) [zP aM, zI ((p + 1 : Nat) : Int), zI ((used ||| 2 ^ q : Nat) : Int)] m2 E E (fun r m3 => r = none ∧ zfr fTries m2 m3 ∧ m3 aM f_leastName = sLeast (m2 aM f_leastName) (sPlc (m a_c 2).toNat (cAlike (m a_c)) (sV (m a_c) (m a_codes) (m aM f_lines).toNat) (s - 1) (p + 1) (used ||| 2 ^ q) (fun x => if x = (p : Int) then (q : Int) else pl x)) ∧ m3 aM f_sameNames = m2 aM f_sameNames + sSame (m aM f_wantedName) (sPlc (m a_c 2).toNat (cAlike (m a_c)) (sV (m a_c) (m a_codes) (m aM f_lines).toNat) (s - 1) (p + 1) (used ||| 2 ^ q) (fun x => if x = (p : Int) then (q : Int) else pl x)) ∧ (∀ x : Int, 0 ≤ x → x < 8 → 0 ≤ m3 a_places x ∧ m3 a_places x < 8) ∧ ∀ x : Int, 0 ≤ x → x < p + 1 → m3 a_places x = m2 a_places x)) : zR zX12_tries (s + (d + 3)) [zP aM, zI (p : Nat), zI (used : Nat)] m E E (fun r m' => r = none ∧ zfr fTries m m' ∧ m' aM f_leastName = sLeast (m aM f_leastName) (sPlc (m a_c 2).toNat (cAlike (m a_c)) (sV (m a_c) (m a_codes) (m aM f_lines).toNat) s p used pl) ∧ m' aM f_sameNames = m aM f_sameNames + sSame (m aM f_wantedName) (sPlc (m a_c 2).toNat (cAlike (m a_c)) (sV (m a_c) (m a_codes) (m aM f_lines).toNat) s p used pl) ∧ (∀ x : Int, 0 ≤ x → x < 8 → 0 ≤ m' a_places x ∧ m' a_places x < 8) ∧ ∀ x : Int, 0 ≤ x → x < p → m' a_places x = m a_places x) := by
  refine zR_go [zP aM, zI (p : Nat), zI (used : Nat), zN, zN] (by decide +kernel) (Nat.le_of_ble_eq_true rfl) rfl rfl ?_
  have hb3 := hw.2.2.1
  have hcd2 : ∀ k : Int, 0 ≤ k → k < m aM f_lines → 0 ≤ m a_codes k ∧ m a_codes k < 800 ∧ m a_codes k / 10 % 10 < 8 := fun k a1 a2 => by have := hcd k a1 a2; omega
  refine z_iload_n dX12_tries_0 rfl ?_
  refine z_aload_n dX12_tries_1 rfl ?_
  refine z_gP 0 rfl (r := a_c) flX12_7 dX12_tries_2 (sh_M hE) rfl (pt_c hm) (by decide) ?_
  refine z_iconst dX12_tries_5 (by decide) ?_
  refine z_iald dX12_tries_6 (sh_c hE) (by omega) (by omega) ?_
  refine z_icmp_ne (tgt := 69) dX12_tries_7 rfl (fun h7 => ?_) (fun h7 => ?_)
  · refine z_iconst dX12_tries_69 (by decide) ?_
    refine z_ist 3 dX12_tries_70 rfl (Nat.le_of_ble_eq_true rfl) ?_
    try dsimp only [zs0, zsI, zsP, zsN, zsJ, zsS, zst2, Nat.reduceAdd]
    have hs0 : 0 < s := by omega
    rw [sPlc_eq hs0] at hsm ⊢
    exact l_tries_q d hE hw hln hcd s p used hs hus pl hag hpl hs0 hsm.1 (rec hs0) (m a_c 2).toNat 0 m [] hm (by omega) ⟨zfr_rf, rfl, by simp [sSame], hpl, fun _ _ _ => rfl⟩ (by simpa using hsm.2) (fun m2 h2 => ⟨rfl, by simpa using h2⟩)
  · refine z_aload_n dX12_tries_10 rfl ?_
    refine z_callV mlX12_220 dX12_tries_11 (sh_M hE) (av := _) rfl rfl (Nat.le_of_ble_eq_true rfl) (r_named _ hE hm hln hcd2 hpl) (Nat.le_refl _) (Nat.le_refl _) (Nat.le_refl _) (Nat.le_refl _) ?_
    rintro _ m1 ⟨rfl, n1⟩
    have hm1 : ptM m1 := ptM_t hm (zfr_sub n1 (by decide))
    rw [show sKey (fun k => cImg (m a_c) (m a_places) (m a_codes k)) (m aM f_lines).toNat = (sV (m a_c) (m a_codes) (m aM f_lines).toNat) pl from sV_congr hln hcd (fun x a1 a2 => hag x a1 (by omega))]
    have hvs : (sPlc (m a_c 2).toNat (cAlike (m a_c)) (sV (m a_c) (m a_codes) (m aM f_lines).toNat) s p used pl) = [(sV (m a_c) (m a_codes) (m aM f_lines).toNat) pl] := by rw [show s = 0 by omega]; rfl
    rw [hvs] at hsm
    refine z_lst 3 dX12_tries_14 rfl (Nat.le_of_ble_eq_true rfl) ?_
    refine z_aload_n dX12_tries_15 rfl ?_
    refine z_aload_n dX12_tries_16 rfl ?_
    refine z_gJv f_leastName rfl flX12_224 dX12_tries_17 (sh_M hE) rfl (zfr_at n1 (by decide)) ?_
    refine z_lconst0 dX12_tries_20 ?_
    refine z_lcmp dX12_tries_21 ?_
    try dsimp only [zs0, zsI, zsP, zsN, zsJ, zsS, zst2, Nat.reduceAdd]
    refine z_if_lt (tgt := 34) dX12_tries_22 rfl (fun h22 => ?_) (fun h22 => ?_)
    · refine z_lload_n dX12_tries_34 rfl ?_
      refine z_goto (tgt := 42) dX12_tries_35 rfl ?_
      refine z_pJ f_leastName rfl (fpX12_224 _) dX12_tries_42 (sh_M hE) rfl ?_
      refine z_aload_n dX12_tries_45 rfl ?_
      refine z_dup dX12_tries_46 rfl ?_
      refine z_gIv f_sameNames rfl flX12_228 dX12_tries_47 (sh_M hE) rfl ((zu_j (by decide)).trans (zfr_at n1 (by decide))) ?_
      refine z_lload_n dX12_tries_50 rfl ?_
      refine z_aload_n dX12_tries_51 rfl ?_
      refine z_gJv f_wantedName rfl flX12_231 dX12_tries_52 (sh_M hE) rfl ((zu_j (by decide)).trans (zfr_at n1 (by decide))) ?_
      refine z_lcmp dX12_tries_55 ?_
      refine z_if_ne (tgt := 63) dX12_tries_56 rfl (fun h56 => ?_) (fun h56 => ?_)
      · refine z_iconst dX12_tries_63 (by decide) ?_
        refine z_add dX12_tries_64 (by omega) ?_
        refine z_pI f_sameNames rfl (fpX12_228 _) dX12_tries_65 (sh_M hE) rfl ?_
        refine z_vret dX12_tries_68 rfl rfl ?_
        rw [zcmp_lt] at h22
        simp only [ne_eq, zcmp_eq] at h56
        refine ⟨rfl, zfr_uj (zfr_uj (zfr_sub n1 (by decide)) (by decide)) (by decide), ?_, ?_, fun x a1 a2 => ?_, fun x a1 a2 => ?_⟩
        · rw [zu_j (by decide), zu_s, hvs]
          show _ = (if _ then _ else _)
          rw [if_pos (by omega)]
        · rw [zu_s, hvs]
          show _ = _ + (zb _ + 0)
          rw [zb_f (by omega)]
          omega
        · rw [zu_a (by decide), zu_a (by decide), congrFun (zfr_cell (a := a_places) n1 (by decide)) x]; exact hpl x a1 a2
        · rw [zu_a (by decide), zu_a (by decide), congrFun (zfr_cell (a := a_places) n1 (by decide)) x]
      · refine z_iconst dX12_tries_59 (by decide) ?_
        refine z_goto (tgt := 64) dX12_tries_60 rfl ?_
        refine z_add dX12_tries_64 (by omega) ?_
        refine z_pI f_sameNames rfl (fpX12_228 _) dX12_tries_65 (sh_M hE) rfl ?_
        refine z_vret dX12_tries_68 rfl rfl ?_
        rw [zcmp_lt] at h22
        simp only [ne_eq, zcmp_eq] at h56
        refine ⟨rfl, zfr_uj (zfr_uj (zfr_sub n1 (by decide)) (by decide)) (by decide), ?_, ?_, fun x a1 a2 => ?_, fun x a1 a2 => ?_⟩
        · rw [zu_j (by decide), zu_s, hvs]
          show _ = (if _ then _ else _)
          rw [if_pos (by omega)]
        · rw [zu_s, hvs]
          show _ = _ + (zb _ + 0)
          rw [zb_t (by omega)]
          omega
        · rw [zu_a (by decide), zu_a (by decide), congrFun (zfr_cell (a := a_places) n1 (by decide)) x]; exact hpl x a1 a2
        · rw [zu_a (by decide), zu_a (by decide), congrFun (zfr_cell (a := a_places) n1 (by decide)) x]
    · refine z_lload_n dX12_tries_25 rfl ?_
      refine z_aload_n dX12_tries_26 rfl ?_
      refine z_gJv f_leastName rfl flX12_224 dX12_tries_27 (sh_M hE) rfl (zfr_at n1 (by decide)) ?_
      refine z_lcmp dX12_tries_30 ?_
      refine z_if_ge (tgt := 38) dX12_tries_31 rfl (fun h31 => ?_) (fun h31 => ?_)
      · refine z_aload_n dX12_tries_38 rfl ?_
        refine z_gJv f_leastName rfl flX12_224 dX12_tries_39 (sh_M hE) rfl (zfr_at n1 (by decide)) ?_
        refine z_pJ f_leastName rfl (fpX12_224 _) dX12_tries_42 (sh_M hE) rfl ?_
        refine z_aload_n dX12_tries_45 rfl ?_
        refine z_dup dX12_tries_46 rfl ?_
        refine z_gIv f_sameNames rfl flX12_228 dX12_tries_47 (sh_M hE) rfl ((zu_j (by decide)).trans (zfr_at n1 (by decide))) ?_
        refine z_lload_n dX12_tries_50 rfl ?_
        refine z_aload_n dX12_tries_51 rfl ?_
        refine z_gJv f_wantedName rfl flX12_231 dX12_tries_52 (sh_M hE) rfl ((zu_j (by decide)).trans (zfr_at n1 (by decide))) ?_
        refine z_lcmp dX12_tries_55 ?_
        refine z_if_ne (tgt := 63) dX12_tries_56 rfl (fun h56 => ?_) (fun h56 => ?_)
        · refine z_iconst dX12_tries_63 (by decide) ?_
          refine z_add dX12_tries_64 (by omega) ?_
          refine z_pI f_sameNames rfl (fpX12_228 _) dX12_tries_65 (sh_M hE) rfl ?_
          refine z_vret dX12_tries_68 rfl rfl ?_
          rw [zcmp_lt] at h22
          rw [zcmp_ge] at h31
          simp only [ne_eq, zcmp_eq] at h56
          refine ⟨rfl, zfr_uj (zfr_uj (zfr_sub n1 (by decide)) (by decide)) (by decide), ?_, ?_, fun x a1 a2 => ?_, fun x a1 a2 => ?_⟩
          · rw [zu_j (by decide), zu_s, hvs]
            show _ = (if _ then _ else _)
            rw [if_neg (by omega)]
          · rw [zu_s, hvs]
            show _ = _ + (zb _ + 0)
            rw [zb_f (by omega)]
            omega
          · rw [zu_a (by decide), zu_a (by decide), congrFun (zfr_cell (a := a_places) n1 (by decide)) x]; exact hpl x a1 a2
          · rw [zu_a (by decide), zu_a (by decide), congrFun (zfr_cell (a := a_places) n1 (by decide)) x]
        · refine z_iconst dX12_tries_59 (by decide) ?_
          refine z_goto (tgt := 64) dX12_tries_60 rfl ?_
          refine z_add dX12_tries_64 (by omega) ?_
          refine z_pI f_sameNames rfl (fpX12_228 _) dX12_tries_65 (sh_M hE) rfl ?_
          refine z_vret dX12_tries_68 rfl rfl ?_
          rw [zcmp_lt] at h22
          rw [zcmp_ge] at h31
          simp only [ne_eq, zcmp_eq] at h56
          refine ⟨rfl, zfr_uj (zfr_uj (zfr_sub n1 (by decide)) (by decide)) (by decide), ?_, ?_, fun x a1 a2 => ?_, fun x a1 a2 => ?_⟩
          · rw [zu_j (by decide), zu_s, hvs]
            show _ = (if _ then _ else _)
            rw [if_neg (by omega)]
          · rw [zu_s, hvs]
            show _ = _ + (zb _ + 0)
            rw [zb_t (by omega)]
            omega
          · rw [zu_a (by decide), zu_a (by decide), congrFun (zfr_cell (a := a_places) n1 (by decide)) x]; exact hpl x a1 a2
          · rw [zu_a (by decide), zu_a (by decide), congrFun (zfr_cell (a := a_places) n1 (by decide)) x]
      · refine z_lload_n dX12_tries_34 rfl ?_
        refine z_goto (tgt := 42) dX12_tries_35 rfl ?_
        refine z_pJ f_leastName rfl (fpX12_224 _) dX12_tries_42 (sh_M hE) rfl ?_
        refine z_aload_n dX12_tries_45 rfl ?_
        refine z_dup dX12_tries_46 rfl ?_
        refine z_gIv f_sameNames rfl flX12_228 dX12_tries_47 (sh_M hE) rfl ((zu_j (by decide)).trans (zfr_at n1 (by decide))) ?_
        refine z_lload_n dX12_tries_50 rfl ?_
        refine z_aload_n dX12_tries_51 rfl ?_
        refine z_gJv f_wantedName rfl flX12_231 dX12_tries_52 (sh_M hE) rfl ((zu_j (by decide)).trans (zfr_at n1 (by decide))) ?_
        refine z_lcmp dX12_tries_55 ?_
        refine z_if_ne (tgt := 63) dX12_tries_56 rfl (fun h56 => ?_) (fun h56 => ?_)
        · refine z_iconst dX12_tries_63 (by decide) ?_
          refine z_add dX12_tries_64 (by omega) ?_
          refine z_pI f_sameNames rfl (fpX12_228 _) dX12_tries_65 (sh_M hE) rfl ?_
          refine z_vret dX12_tries_68 rfl rfl ?_
          rw [zcmp_lt] at h22
          rw [zcmp_ge] at h31
          simp only [ne_eq, zcmp_eq] at h56
          refine ⟨rfl, zfr_uj (zfr_uj (zfr_sub n1 (by decide)) (by decide)) (by decide), ?_, ?_, fun x a1 a2 => ?_, fun x a1 a2 => ?_⟩
          · rw [zu_j (by decide), zu_s, hvs]
            show _ = (if _ then _ else _)
            rw [if_pos (by omega)]
          · rw [zu_s, hvs]
            show _ = _ + (zb _ + 0)
            rw [zb_f (by omega)]
            omega
          · rw [zu_a (by decide), zu_a (by decide), congrFun (zfr_cell (a := a_places) n1 (by decide)) x]; exact hpl x a1 a2
          · rw [zu_a (by decide), zu_a (by decide), congrFun (zfr_cell (a := a_places) n1 (by decide)) x]
        · refine z_iconst dX12_tries_59 (by decide) ?_
          refine z_goto (tgt := 64) dX12_tries_60 rfl ?_
          refine z_add dX12_tries_64 (by omega) ?_
          refine z_pI f_sameNames rfl (fpX12_228 _) dX12_tries_65 (sh_M hE) rfl ?_
          refine z_vret dX12_tries_68 rfl rfl ?_
          rw [zcmp_lt] at h22
          rw [zcmp_ge] at h31
          simp only [ne_eq, zcmp_eq] at h56
          refine ⟨rfl, zfr_uj (zfr_uj (zfr_sub n1 (by decide)) (by decide)) (by decide), ?_, ?_, fun x a1 a2 => ?_, fun x a1 a2 => ?_⟩
          · rw [zu_j (by decide), zu_s, hvs]
            show _ = (if _ then _ else _)
            rw [if_pos (by omega)]
          · rw [zu_s, hvs]
            show _ = _ + (zb _ + 0)
            rw [zb_t (by omega)]
            omega
          · rw [zu_a (by decide), zu_a (by decide), congrFun (zfr_cell (a := a_places) n1 (by decide)) x]; exact hpl x a1 a2
          · rw [zu_a (by decide), zu_a (by decide), congrFun (zfr_cell (a := a_places) n1 (by decide)) x]
