theorem gR_lt {L : Nat} {fr to' : Nat → Nat} {sk : Nat → Bool} {p : Nat} : gR L fr to' sk p < 256 := by
  unfold gR
  by_cases h : ∃ S, gReach L fr to' sk p S
  · rw [dif_pos h]; exact (Classical.choose_spec h).1
  · rw [dif_neg h]; omega
theorem l_reached_in (d : Nat) {E : zE} {m : zM} {P : Option zV → zM → Prop} (hE : shM E) (hm : ptM m) (p : Nat) (wl wp : Int) (hp : p < 8) (old : Nat) (hln : 0 ≤ m aM f_lines ∧ m aM f_lines ≤ 6) (hcd : ∀ k : Nat, (k : Int) < m aM f_lines → 0 ≤ m a_codes k ∧ gFr (m a_codes) k < 8 ∧ gTo (m a_codes) k < 8) : ∀ (j : Nat) (k S : Nat), (gInv (m aM f_lines).toNat (gFr (m a_codes)) (gTo (m a_codes)) (gSk (m a_codes) wl wp) p old k S) → ((k : Int) + j = m aM f_lines) → (∀ S, gInv (m aM f_lines).toNat (gFr (m a_codes)) (gTo (m a_codes)) (gSk (m a_codes) wl wp) p old (m aM f_lines).toNat S → zA zX12_reached (d + 1) E E P 116 [zP aM, zI (p : Nat), zI wl, zI wp, zI (S : Nat), zI (old : Nat), zN] [] m E) → zA zX12_reached (d + 1) E E P 22 [zP aM, zI (p : Nat), zI wl, zI wp, zI (S : Nat), zI (old : Nat), zI (k : Nat)] [] m E := by
  intro j
  induction j with
  | zero =>
    intro k S hI hk hP
    refine z_iload dX12_reached_22 rfl ?_
    refine z_aload_n dX12_reached_24 rfl ?_
    refine z_gI f_lines rfl flX12_197 dX12_reached_25 (sh_M hE) rfl ?_
    refine z_icmp_ge (tgt := 116) dX12_reached_28 rfl (fun h28 => ?_) (fun h => absurd (by omega) h)
    refine zA_wk [_, _, _, _, _, _, zN] (by exact ⟨Or.inr rfl, Or.inr rfl, Or.inr rfl, Or.inr rfl, Or.inr rfl, Or.inr rfl, Or.inl rfl, trivial⟩) ?_
    exact hP S (by rw [show (m aM f_lines).toNat = k by omega] at hI ⊢; exact hI)
  | succ j ih =>
    intro k S hI hk hP
    have hc := hcd k (by omega)
    refine z_iload dX12_reached_22 rfl ?_
    refine z_aload_n dX12_reached_24 rfl ?_
    refine z_gI f_lines rfl flX12_197 dX12_reached_25 (sh_M hE) rfl ?_
    refine z_icmp_ge (tgt := 116) dX12_reached_28 rfl (fun h => absurd h (by omega)) (fun h28 => ?_)
    refine z_iload dX12_reached_31 rfl ?_
    refine z_iload_n dX12_reached_33 rfl ?_
    refine z_icmp_eq (tgt := 110) dX12_reached_34 rfl (fun h34 => ?_) (fun h34 => ?_)
    · refine z_inc dX12_reached_110 rfl (by omega) ?_
      refine z_goto (tgt := 22) dX12_reached_113 rfl ?_
      try dsimp only [zs0, zsI, zsP, zsN, zsJ, zsS, zst2, Nat.reduceAdd]
      rw [show (k : Int) + 1 = ((k + 1 : Nat) : Int) by omega]
      exact ih (k + 1) S (gInv_keep hI (fun q => by simp only [gSk, decide_eq_false_iff_not] at q; omega)) (by omega) hP
    · refine z_aload_n dX12_reached_37 rfl ?_
      refine z_iload dX12_reached_38 rfl ?_
      refine z_callV mlX12_276 dX12_reached_40 (sh_M hE) (av := [_]) rfl rfl (Nat.le_of_ble_eq_true rfl) (r_fromOf _ hE hm (k : Int) (by omega) (by omega) hc.1) (Nat.le_refl _) (Nat.le_refl _) (Nat.le_refl _) (Nat.le_refl _) ?_
      rw [gFr_eq hc.1]
      rintro _ _ ⟨rfl, rfl⟩
      refine z_iload_n dX12_reached_43 rfl ?_
      refine z_icmp_eq (tgt := 110) dX12_reached_44 rfl (fun h44 => ?_) (fun h44 => ?_)
      · refine z_inc dX12_reached_110 rfl (by omega) ?_
        refine z_goto (tgt := 22) dX12_reached_113 rfl ?_
        try dsimp only [zs0, zsI, zsP, zsN, zsJ, zsS, zst2, Nat.reduceAdd]
        rw [show (k : Int) + 1 = ((k + 1 : Nat) : Int) by omega]
        exact ih (k + 1) S (gInv_keep hI (fun q => by simp only [gSk, decide_eq_false_iff_not] at q; omega)) (by omega) hP
      · refine z_aload_n dX12_reached_47 rfl ?_
        refine z_iload dX12_reached_48 rfl ?_
        refine z_callV mlX12_279 dX12_reached_50 (sh_M hE) (av := [_]) rfl rfl (Nat.le_of_ble_eq_true rfl) (r_toOf _ hE hm (k : Int) (by omega) (by omega) hc.1) (Nat.le_refl _) (Nat.le_refl _) (Nat.le_refl _) (Nat.le_refl _) ?_
        rw [gTo_eq hc.1]
        rintro _ _ ⟨rfl, rfl⟩
        refine z_iload_n dX12_reached_53 rfl ?_
        refine z_icmp_ne (tgt := 60) dX12_reached_54 rfl (fun h54 => ?_) (fun h54 => ?_)
        · refine z_iload dX12_reached_60 rfl ?_
          refine z_aload_n dX12_reached_62 rfl ?_
          refine z_iload dX12_reached_63 rfl ?_
          refine z_callV mlX12_276 dX12_reached_65 (sh_M hE) (av := [_]) rfl rfl (Nat.le_of_ble_eq_true rfl) (r_fromOf _ hE hm (k : Int) (by omega) (by omega) hc.1) (Nat.le_refl _) (Nat.le_refl _) (Nat.le_refl _) (Nat.le_refl _) ?_
          rw [gFr_eq hc.1]
          rintro _ _ ⟨rfl, rfl⟩
          refine z_callS mlX12_158 dX12_reached_68 (av := [_, _]) rfl rfl (Nat.le_of_ble_eq_true rfl) (r_has _ hE hm S (gFr (m a_codes) k) (by have := hI.2.1; omega) (by omega)) (Nat.le_refl _) (Nat.le_refl _) (Nat.le_refl _) (Nat.le_refl _) ?_
          rintro _ _ ⟨rfl, rfl⟩
          refine z_ifz_ne (tgt := 88) dX12_reached_71 rfl (fun h71 => ?_) (fun h71 => ?_)
          · refine z_iload dX12_reached_88 rfl ?_
            refine z_iconst dX12_reached_90 (by decide) ?_
            refine z_aload_n dX12_reached_91 rfl ?_
            refine z_iload dX12_reached_92 rfl ?_
            refine z_callV mlX12_276 dX12_reached_94 (sh_M hE) (av := [_]) rfl rfl (Nat.le_of_ble_eq_true rfl) (r_fromOf _ hE hm (k : Int) (by omega) (by omega) hc.1) (Nat.le_refl _) (Nat.le_refl _) (Nat.le_refl _) (Nat.le_refl _) ?_
            rw [gFr_eq hc.1]
            rintro _ _ ⟨rfl, rfl⟩
            refine z_ishl dX12_reached_97 ?_
            rw [zshl_1 (by omega)]
            refine z_iconst dX12_reached_98 (by decide) ?_
            refine z_aload_n dX12_reached_99 rfl ?_
            refine z_iload dX12_reached_100 rfl ?_
            refine z_callV mlX12_279 dX12_reached_102 (sh_M hE) (av := [_]) rfl rfl (Nat.le_of_ble_eq_true rfl) (r_toOf _ hE hm (k : Int) (by omega) (by omega) hc.1) (Nat.le_refl _) (Nat.le_refl _) (Nat.le_refl _) (Nat.le_refl _) ?_
            rw [gTo_eq hc.1]
            rintro _ _ ⟨rfl, rfl⟩
            refine z_ishl dX12_reached_105 ?_
            rw [zshl_1 (by omega)]
            have q1 : (2 : Nat) ^ gFr (m a_codes) k < 256 := Nat.pow_lt_pow_right (n := 8) (by omega) hc.2.1
            have q2 : (2 : Nat) ^ gTo (m a_codes) k < 256 := Nat.pow_lt_pow_right (n := 8) (by omega) hc.2.2
            refine z_ior dX12_reached_106 ?_
            rw [zor_N (by omega) (by omega)]
            have q3 := Nat.or_lt_two_pow (n := 8) q1 q2
            have q4 := hI.2.1
            refine z_ior dX12_reached_107 ?_
            rw [zor_N (by omega) (by omega)]
            refine z_istore dX12_reached_108 (Nat.le_of_ble_eq_true rfl) ?_
            refine z_inc dX12_reached_110 rfl (by omega) ?_
            refine z_goto (tgt := 22) dX12_reached_113 rfl ?_
            try dsimp only [zs0, zsI, zsP, zsN, zsJ, zsS, zst2, Nat.reduceAdd]
            rw [show (k : Int) + 1 = ((k + 1 : Nat) : Int) by omega]
            exact ih (k + 1) _ (gInv_add hI (by omega) (by simp only [gSk, decide_eq_false_iff_not]; omega) hc.2.1 hc.2.2 (Or.inl h71)) (by omega) hP
          · refine z_iload dX12_reached_74 rfl ?_
            refine z_aload_n dX12_reached_76 rfl ?_
            refine z_iload dX12_reached_77 rfl ?_
            refine z_callV mlX12_279 dX12_reached_79 (sh_M hE) (av := [_]) rfl rfl (Nat.le_of_ble_eq_true rfl) (r_toOf _ hE hm (k : Int) (by omega) (by omega) hc.1) (Nat.le_refl _) (Nat.le_refl _) (Nat.le_refl _) (Nat.le_refl _) ?_
            rw [gTo_eq hc.1]
            rintro _ _ ⟨rfl, rfl⟩
            refine z_callS mlX12_158 dX12_reached_82 (av := [_, _]) rfl rfl (Nat.le_of_ble_eq_true rfl) (r_has _ hE hm S (gTo (m a_codes) k) (by have := hI.2.1; omega) (by omega)) (Nat.le_refl _) (Nat.le_refl _) (Nat.le_refl _) (Nat.le_refl _) ?_
            rintro _ _ ⟨rfl, rfl⟩
            refine z_ifz_eq (tgt := 110) dX12_reached_85 rfl (fun h85 => ?_) (fun h85 => ?_)
            · refine z_inc dX12_reached_110 rfl (by omega) ?_
              refine z_goto (tgt := 22) dX12_reached_113 rfl ?_
              try dsimp only [zs0, zsI, zsP, zsN, zsJ, zsS, zst2, Nat.reduceAdd]
              rw [show (k : Int) + 1 = ((k + 1 : Nat) : Int) by omega]
              exact ih (k + 1) S (gInv_keep hI (fun _ => by rw [Bool.not_eq_true] at h71 h85; rw [h71, h85])) (by omega) hP
            · refine z_iload dX12_reached_88 rfl ?_
              refine z_iconst dX12_reached_90 (by decide) ?_
              refine z_aload_n dX12_reached_91 rfl ?_
              refine z_iload dX12_reached_92 rfl ?_
              refine z_callV mlX12_276 dX12_reached_94 (sh_M hE) (av := [_]) rfl rfl (Nat.le_of_ble_eq_true rfl) (r_fromOf _ hE hm (k : Int) (by omega) (by omega) hc.1) (Nat.le_refl _) (Nat.le_refl _) (Nat.le_refl _) (Nat.le_refl _) ?_
              rw [gFr_eq hc.1]
              rintro _ _ ⟨rfl, rfl⟩
              refine z_ishl dX12_reached_97 ?_
              rw [zshl_1 (by omega)]
              refine z_iconst dX12_reached_98 (by decide) ?_
              refine z_aload_n dX12_reached_99 rfl ?_
              refine z_iload dX12_reached_100 rfl ?_
              refine z_callV mlX12_279 dX12_reached_102 (sh_M hE) (av := [_]) rfl rfl (Nat.le_of_ble_eq_true rfl) (r_toOf _ hE hm (k : Int) (by omega) (by omega) hc.1) (Nat.le_refl _) (Nat.le_refl _) (Nat.le_refl _) (Nat.le_refl _) ?_
              rw [gTo_eq hc.1]
              rintro _ _ ⟨rfl, rfl⟩
              refine z_ishl dX12_reached_105 ?_
              rw [zshl_1 (by omega)]
              have q1 : (2 : Nat) ^ gFr (m a_codes) k < 256 := Nat.pow_lt_pow_right (n := 8) (by omega) hc.2.1
              have q2 : (2 : Nat) ^ gTo (m a_codes) k < 256 := Nat.pow_lt_pow_right (n := 8) (by omega) hc.2.2
              refine z_ior dX12_reached_106 ?_
              rw [zor_N (by omega) (by omega)]
              have q3 := Nat.or_lt_two_pow (n := 8) q1 q2
              have q4 := hI.2.1
              refine z_ior dX12_reached_107 ?_
              rw [zor_N (by omega) (by omega)]
              refine z_istore dX12_reached_108 (Nat.le_of_ble_eq_true rfl) ?_
              refine z_inc dX12_reached_110 rfl (by omega) ?_
              refine z_goto (tgt := 22) dX12_reached_113 rfl ?_
              try dsimp only [zs0, zsI, zsP, zsN, zsJ, zsS, zst2, Nat.reduceAdd]
              rw [show (k : Int) + 1 = ((k + 1 : Nat) : Int) by omega]
              exact ih (k + 1) _ (gInv_add hI (by omega) (by simp only [gSk, decide_eq_false_iff_not]; omega) hc.2.1 hc.2.2 (Or.inr h85)) (by omega) hP
        · refine z_goto (tgt := 110) dX12_reached_57 rfl ?_
          refine z_inc dX12_reached_110 rfl (by omega) ?_
          refine z_goto (tgt := 22) dX12_reached_113 rfl ?_
          try dsimp only [zs0, zsI, zsP, zsN, zsJ, zsS, zst2, Nat.reduceAdd]
          rw [show (k : Int) + 1 = ((k + 1 : Nat) : Int) by omega]
          exact ih (k + 1) S (gInv_keep hI (fun q => by simp only [gSk, decide_eq_false_iff_not] at q; omega)) (by omega) hP

theorem l_reached (d : Nat) {E : zE} {m : zM} {P : Option zV → zM → Prop} (hE : shM E) (hm : ptM m) (p : Nat) (wl wp : Int) (hp : p < 8) (hln : 0 ≤ m aM f_lines ∧ m aM f_lines ≤ 6) (hcd : ∀ k : Nat, (k : Int) < m aM f_lines → 0 ≤ m a_codes k ∧ gFr (m a_codes) k < 8 ∧ gTo (m a_codes) k < 8) : ∀ (j : Nat) (S was : Nat), (S < 256 ∧ S.testBit p = true ∧ (∀ T, T.testBit p = true → gClosed (m aM f_lines).toNat (gFr (m a_codes)) (gTo (m a_codes)) (gSk (m a_codes) wl wp) T → gSub S T) ∧ (was = S → gClosed (m aM f_lines).toNat (gFr (m a_codes)) (gTo (m a_codes)) (gSk (m a_codes) wl wp) S)) → (sUn S 8 + (if was = S then 0 else 1) ≤ j) → (∀ S, gReach (m aM f_lines).toNat (gFr (m a_codes)) (gTo (m a_codes)) (gSk (m a_codes) wl wp) p S → P (some (zI (S : Nat))) m) → zA zX12_reached (d + 1) E E P 8 [zP aM, zI (p : Nat), zI wl, zI wp, zI (S : Nat), zI (was : Nat), zN] [] m E := by
  intro j
  induction j with
  | zero =>
    intro S was hS hu hP
    refine z_iload dX12_reached_8 rfl ?_
    refine z_iload dX12_reached_10 rfl ?_
    refine z_icmp_eq (tgt := 119) dX12_reached_12 rfl (fun h12 => ?_) (fun h => absurd (by have hq : was = S := Classical.byContradiction (fun hq => by rw [if_neg hq] at hu; omega); omega) h)
    refine z_iload dX12_reached_119 rfl ?_
    refine z_iret dX12_reached_121 rfl rfl ?_
    exact hP S ⟨hS.1, hS.2.1, hS.2.2.2 (by omega), hS.2.2.1⟩
  | succ j ih =>
    intro S was hS hu hP
    refine z_iload dX12_reached_8 rfl ?_
    refine z_iload dX12_reached_10 rfl ?_
    refine z_icmp_eq (tgt := 119) dX12_reached_12 rfl (fun h12 => ?_) (fun h12 => ?_)
    · refine z_iload dX12_reached_119 rfl ?_
      refine z_iret dX12_reached_121 rfl rfl ?_
      exact hP S ⟨hS.1, hS.2.1, hS.2.2.2 (by omega), hS.2.2.1⟩
    · refine z_iload dX12_reached_15 rfl ?_
      refine z_istore dX12_reached_17 (Nat.le_of_ble_eq_true rfl) ?_
      refine z_iconst dX12_reached_19 (by decide) ?_
      refine z_istore dX12_reached_20 (Nat.le_of_ble_eq_true rfl) ?_
      try dsimp only [zs0, zsI, zsP, zsN, zsJ, zsS, zst2, Nat.reduceAdd]
      refine l_reached_in d hE hm p wl wp hp S hln hcd (m aM f_lines).toNat 0 S ⟨fun v hv => hv, hS.1, hS.2.1, hS.2.2.1, fun _ x hx => by omega⟩ (by omega) (fun S2 hI2 => ?_)
      refine z_goto (tgt := 8) dX12_reached_116 rfl ?_
      refine ih S2 S ⟨hI2.2.1, hI2.2.2.1, hI2.2.2.2.1, fun e x hx hs => hI2.2.2.2.2 e.symm x hx hs⟩ ?_ hP
      have hw0 : ¬ was = S := by omega
      rw [if_neg hw0] at hu
      by_cases e : S2 = S
      · rw [if_pos e.symm, e]; omega
      · have := sUn_grow hI2.1 hI2.2.1 e
        rw [if_neg (fun q => e q.symm)]; omega

theorem r_reached (d : Nat) {E : zE} {m : zM} (hE : shM E) (hm : ptM m) (p : Nat) (wl wp : Int) (hp : p < 8) (hln : 0 ≤ m aM f_lines ∧ m aM f_lines ≤ 6) (hcd : ∀ k : Nat, (k : Int) < m aM f_lines → 0 ≤ m a_codes k ∧ gFr (m a_codes) k < 8 ∧ gTo (m a_codes) k < 8) : zR zX12_reached (d + 1) [zP aM, zI (p : Nat), zI wl, zI wp] m E E (fun r m' => r = some (zI (gR (m aM f_lines).toNat (gFr (m a_codes)) (gTo (m a_codes)) (gSk (m a_codes) wl wp) p : Nat)) ∧ m = m') := by
  refine zR_go [zP aM, zI (p : Nat), zI wl, zI wp, zN, zN, zN] (by decide +kernel) (Nat.le_of_ble_eq_true rfl) rfl rfl ?_
  refine z_iconst dX12_reached_0 (by decide) ?_
  refine z_iload_n dX12_reached_1 rfl ?_
  refine z_ishl dX12_reached_2 ?_
  rw [zshl_1 (by omega)]
  have q1 : (2 : Nat) ^ p < 256 := Nat.pow_lt_pow_right (n := 8) (by omega) hp
  have q2 := Nat.two_pow_pos p
  refine z_istore dX12_reached_3 (Nat.le_of_ble_eq_true rfl) ?_
  refine z_iconst dX12_reached_5 (by decide) ?_
  refine z_istore dX12_reached_6 (Nat.le_of_ble_eq_true rfl) ?_
  try dsimp only [zs0, zsI, zsP, zsN, zsJ, zsS, zst2, Nat.reduceAdd]
  refine l_reached d hE hm p wl wp hp hln hcd 9 (2 ^ p) 0 ⟨q1, Nat.testBit_two_pow_self, fun T hT _ v hv => ?_, fun e => by omega⟩ ?_ (fun S hS => ⟨by rw [gR_eq hS], rfl⟩)
  · rw [Nat.testBit_two_pow, decide_eq_true_eq] at hv; rw [← hv]; exact hT
  · have := sUn_le (2 ^ p) 8
    split <;> omega
