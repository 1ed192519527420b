def fR (t : Int) : List (Int × Option Int) := [(t + 7, none), (t + 8, none), (t + 9, none), (t + 10, none), (t + 11, none), (t, some 14), (t, some 15)]
theorem fR_at {m m' : zM} {t a j : Int} (h : zfr (fR t) m m') (ha : ¬ (t + 7 ≤ a ∧ a ≤ t + 11)) (hj : ¬ (a = t ∧ 14 ≤ j)) : m' a j = m a j := h a j (by simp only [fR, List.mem_cons, Prod.mk.injEq, reduceCtorEq, and_false, and_true, List.not_mem_nil, or_false]; omega) (by simp only [fR, List.mem_cons, Prod.mk.injEq, reduceCtorEq, and_false, and_true, List.not_mem_nil, or_false, false_or, Option.some.injEq]; omega)
theorem ptT_R {m m' : zM} {t : Int} (h : ptT m t) (f : zfr (fR t) m m') : ptT m' t := by
  obtain ⟨⟨h1, h2, h3, h4, h5, h6, h7, h8, h9, h10, h11⟩, g2, g3, g4⟩ := h
  refine ⟨⟨?_, ?_, ?_, ?_, ?_, ?_, ?_, ?_, ?_, ?_, ?_⟩, fun i q0 q1 => by rw [fR_at f (by omega) (by omega)]; exact g2 i q0 q1, fun p q0 q1 => by rw [fR_at f (by omega) (by omega)]; exact g3 p q0 q1, fun p q a1 a2 a3 a4 => by rw [fR_at f (by omega) (by omega), fR_at f (by omega) (by omega)]; exact g4 p q a1 a2 a3 a4⟩ <;> (rw [fR_at f (by omega) (by omega)]; assumption)
theorem cTh_R {m m' : zM} {t : Int} {c : Int → Int} (hp : ptT m t) (hw : wfD c) (h : cTh m t c) (f : zfr (fR t) m m') : cTh m' t c := by
  have b3 := hw.2.2.1
  obtain ⟨h1, h2, h3, h4, h5, h6⟩ := h
  refine ⟨(fR_at f (by omega) (by omega)).trans h1, (fR_at f (by omega) (by omega)).trans h2, (fR_at f (by omega) (by omega)).trans h3, fun x q0 q1 => ?_, fun k q0 q1 => ?_, fun p q0 q1 => ?_⟩
  · rw [fR_at f (by omega) (by omega), fR_at f (by omega) (by omega), fR_at f (by omega) (by omega)]; exact h4 x q0 q1
  · rw [fR_at f (by omega) (by omega), fR_at f (by omega) (by omega)]; exact h5 k q0 q1
  · rw [fR_at (a := t + 6) f (by omega) (by omega)]
    obtain ⟨i, i0, i1, i2⟩ := hp.2.2.1 p q0 (by omega)
    have h := h6 p q0 q1
    unfold cPt at h ⊢
    rw [fR_at f (by omega) (by omega), fR_at f (by omega) (by omega), fR_at f (by omega) (by omega)]
    exact ⟨h.1, h.2.1, h.2.2.1, fun k r0 r1 => by rw [fR_at f (by omega) (by omega)]; exact h.2.2.2 k r0 r1⟩
theorem may_1 {c w q : Int → Int} {a b : Int} (h : a = b) : cMay c w q a b = false := by unfold cMay; rw [decide_eq_false_iff_not]; exact fun g => g.1 (Or.inl h)
theorem may_2 {c w q : Int → Int} {a b : Int} (h : q a = q b) (h2 : c (32 + 9 * q a + 2) = 1) : cMay c w q a b = false := by unfold cMay; rw [decide_eq_false_iff_not]; exact fun g => g.1 (Or.inr ⟨h, h2⟩)
theorem may_3 {c w q : Int → Int} {a b : Int} (h : w a / 2 ≠ w b / 2) (h2 : cMix c (w a / 2) (w b / 2) < 0) : cMay c w q a b = false := by
  unfold cMay
  rw [decide_eq_false_iff_not]
  intro g
  have := g.2
  rw [if_neg h] at this
  omega
theorem may_4 {c w q : Int → Int} {a b : Int} (h : w a / 2 = w b / 2) (h2 : c (4 + 3 * (w a / 2) + 1) = 1) (h3 : w a = w b) : cMay c w q a b = false := by
  unfold cMay
  rw [decide_eq_false_iff_not]
  intro g
  have := g.2
  rw [if_pos h] at this
  omega
theorem cMix_ltD {c : Int → Int} {f g : Int} (hw : wfD c) : cMix c f g < c 1 := by
  have := hw.2.1
  unfold cMix
  rcases zfst_ge (p := cMixP c f g) (j := (c 1).toNat) (k := 0) (by omega) with ⟨h, -⟩ | ⟨-, h, -⟩ <;> omega
theorem cMix_is {c : Int → Int} {f g : Int} (hw : wfD c) (h : 0 ≤ cMix c f g) : (c (24 + 2 * cMix c f g) = f ∧ c (24 + 2 * cMix c f g + 1) = g) ∨ (c (24 + 2 * cMix c f g) = g ∧ c (24 + 2 * cMix c f g + 1) = f) := by
  have := hw.2.1
  unfold cMix at h ⊢
  rcases zfst_ge (p := cMixP c f g) (j := (c 1).toNat) (k := 0) (by omega) with ⟨e, -⟩ | ⟨-, -, e, -⟩
  · omega
  · unfold cMixP at e
    rw [decide_eq_true_eq] at e
    exact e
theorem may_mix {c w q : Int → Int} {a b : Int} (hw : wfD c) (hx : cMz c) (h0 : a ≠ b) (h1 : ¬ (q a = q b ∧ c (32 + 9 * q a + 2) = 1)) (hm : 0 ≤ cMix c (w a / 2) (w b / 2)) : cMay c w q a b = true ∧ cCode c w q a b = if c (24 + 2 * cMix c (w a / 2) (w b / 2)) = w a / 2 then 100 * q a + 10 * q b + 6 + cMix c (w a / 2) (w b / 2) else 100 * q b + 10 * q a + 6 + cMix c (w a / 2) (w b / 2) := by
  have h2 := hx _ hm (cMix_ltD hw)
  have h3 := cMix_is hw hm
  have hne : w a / 2 ≠ w b / 2 := fun e => by rw [← e] at h2 h3; omega
  have hpa : c (4 + 3 * (w a / 2) + 1) ≠ 1 ∧ c (4 + 3 * (w b / 2) + 1) ≠ 1 := by
    rcases h3 with ⟨e1, e2⟩ | ⟨e1, e2⟩
    · rw [e1, e2] at h2; exact h2.2
    · rw [e1, e2] at h2; exact ⟨h2.2.2, h2.2.1⟩
  constructor
  · unfold cMay
    rw [decide_eq_true_eq, if_neg hne]
    exact ⟨fun h => h.elim h0 h1, hpa.1, hpa.2, hm⟩
  · unfold cCode
    rw [if_neg hne]
theorem may_own {c w q : Int → Int} {a b : Int} (h0 : a ≠ b) (h1 : ¬ (q a = q b ∧ c (32 + 9 * q a + 2) = 1)) (he : w a / 2 = w b / 2) (hp : c (4 + 3 * (w a / 2) + 1) ≠ 1 ∨ w a ≠ w b) : cMay c w q a b = true ∧ cCode c w q a b = if c (4 + 3 * (w a / 2) + 1) = 1 then (if w a % 2 = 0 then 100 * q a + 10 * q b + w a / 2 else 100 * q b + 10 * q a + w a / 2) else if q a < q b then 100 * q a + 10 * q b + w a / 2 else 100 * q b + 10 * q a + w a / 2 := by
  constructor
  · unfold cMay
    rw [decide_eq_true_eq, if_pos he]
    exact ⟨fun h => h.elim h0 h1, hp⟩
  · unfold cCode
    rw [if_pos he]
theorem c_setCode (d : Nat) {E : zE} {m : zM} (t : Int) (t0 : 0 < t) (sT : shT E t) (pT : ptT m t) (c : Int → Int) (hw : wfD c) (hc : cTh m t c) (w q : Int → Int) (n : Int) (hl : wfL c w q n) (hk : ∀ i, 0 ≤ i → i < n → m (t + 7) i = w i ∧ m (t + 8) i = q i) (a : Int) (b : Nat) (a0 : 0 ≤ a) (a1 : a < n) (bn : (b : Int) < n) (S : Nat) (hS : S < 4096) (hp : m (t + 9) a = (S : Int)) (aw s : Int) (s0 : 0 ≤ s) (s1 : s < 6 → s < c 0) (s9 : s < 10) : zR zX7_setCode (d + 1) [zP t, zI a, zI (b : Nat), zI aw, zI s] m E E (fun r m' => r = none ∧ m' = zu (zu m (t + 9) a ((S ||| 2 ^ b : Nat) : Int)) (t + 10) (12 * a + b) (if aw ≠ 0 then kCd c (q a) (q (b : Int)) s else kCd c (q (b : Int)) (q a) s)) := by
  have b1 := hw.1
  have b2 := hw.2.1
  have b3 := hw.2.2.1
  have hn := hl.1
  have ha := hl.2 a a0 a1
  have hb := hl.2 (b : Int) (by omega) bn
  have hka := hk a a0 a1
  have hkb := hk (b : Int) (by omega) bn
  refine zR_go [zP t, zI a, zI (b : Nat), zI aw, zI s] (by decide +kernel) (Nat.le_of_ble_eq_true rfl) rfl rfl ?_
  refine z_aload_n dX7_setCode_0 rfl ?_
  refine z_gP 8 rfl (r := (t + 9)) flX7_40 dX7_setCode_1 (sT0 sT) rfl (pT8 pT) (by omega) ?_
  refine z_iload_n dX7_setCode_4 rfl ?_
  refine z_dup2 dX7_setCode_5 rfl rfl ?_
  refine z_ialv dX7_setCode_6 (sT9 sT) (by omega) (by omega) hp ?_
  refine z_iconst dX7_setCode_7 (by decide) ?_
  refine z_iload_n dX7_setCode_8 rfl ?_
  refine z_ishl dX7_setCode_9 ?_
  refine z_ior dX7_setCode_10 ?_
  rw [zor_b (by omega) (by omega)]
  refine z_iast dX7_setCode_11 (sT9 sT) (by omega) (by omega) ?_
  obtain ⟨m1, em1⟩ : ∃ x, x = zu m (t + 9) a ((S ||| 2 ^ b : Nat) : Int) := ⟨_, rfl⟩
  rw [← em1]
  have f1 : zfr (fR t) m m1 := by rw [em1]; exact zfr_ua zfr_rf (by simp [fR])
  have p1 := ptT_R pT f1
  have c1 := cTh_R pT hw hc f1
  have k1 : m1 (t + 8) = m (t + 8) := by funext j; rw [em1, zu_a (by omega)]
  refine z_aload_n dX7_setCode_12 rfl ?_
  refine z_gP 9 rfl (r := (t + 10)) flX7_43 dX7_setCode_13 (sT0 sT) rfl (pT9 p1) (by omega) ?_
  refine z_iload_n dX7_setCode_16 rfl ?_
  refine z_bipush dX7_setCode_17 rfl (by decide) ?_
  refine z_mul dX7_setCode_19 (by omega) ?_
  refine z_iload_n dX7_setCode_20 rfl ?_
  refine z_add dX7_setCode_21 (by omega) ?_
  refine z_iload_n dX7_setCode_22 rfl ?_
  refine z_if_eq (tgt := 47) dX7_setCode_23 rfl (fun h23 => ?_) (fun h23 => ?_)
  · refine z_aload_n dX7_setCode_47 rfl ?_
    refine z_aload_n dX7_setCode_48 rfl ?_
    refine z_gP 7 rfl (r := (t + 8)) flX7_37 dX7_setCode_49 (sT0 sT) rfl (pT7 p1) (by omega) ?_
    refine z_iload_n dX7_setCode_52 rfl ?_
    refine z_ialv dX7_setCode_53 (sT8 sT) (by omega) (by omega) ((congrFun k1 _).trans hkb.2) ?_
    refine z_aload_n dX7_setCode_54 rfl ?_
    refine z_gP 7 rfl (r := (t + 8)) flX7_37 dX7_setCode_55 (sT0 sT) rfl (pT7 p1) (by omega) ?_
    refine z_iload_n dX7_setCode_58 rfl ?_
    refine z_ialv dX7_setCode_59 (sT8 sT) (by omega) (by omega) ((congrFun k1 _).trans hka.2) ?_
    refine z_iload dX7_setCode_60 rfl ?_
    refine z_callV mlX7_97 dX7_setCode_62 (sT0 sT) (av := [_, _, _]) rfl rfl (Nat.le_of_ble_eq_true rfl) (c_codeFor _ t t0 sT p1 c hw c1 (q (b : Int)) (q a) s s0 s1 (by omega) (by omega) (by omega)) (Nat.le_refl _) (Nat.le_refl _) (Nat.le_refl _) (Nat.le_refl _) ?_
    rintro _ _ ⟨rfl, rfl⟩
    refine z_iast dX7_setCode_65 (sT10 sT) (by omega) (by omega) ?_
    refine z_vret dX7_setCode_66 rfl rfl ?_
    refine ⟨rfl, ?_⟩
    rw [if_neg (by omega), em1, show a * 12 + (b : Int) = 12 * a + b by omega]
  · refine z_aload_n dX7_setCode_26 rfl ?_
    refine z_aload_n dX7_setCode_27 rfl ?_
    refine z_gP 7 rfl (r := (t + 8)) flX7_37 dX7_setCode_28 (sT0 sT) rfl (pT7 p1) (by omega) ?_
    refine z_iload_n dX7_setCode_31 rfl ?_
    refine z_ialv dX7_setCode_32 (sT8 sT) (by omega) (by omega) ((congrFun k1 _).trans hka.2) ?_
    refine z_aload_n dX7_setCode_33 rfl ?_
    refine z_gP 7 rfl (r := (t + 8)) flX7_37 dX7_setCode_34 (sT0 sT) rfl (pT7 p1) (by omega) ?_
    refine z_iload_n dX7_setCode_37 rfl ?_
    refine z_ialv dX7_setCode_38 (sT8 sT) (by omega) (by omega) ((congrFun k1 _).trans hkb.2) ?_
    refine z_iload dX7_setCode_39 rfl ?_
    refine z_callV mlX7_97 dX7_setCode_41 (sT0 sT) (av := [_, _, _]) rfl rfl (Nat.le_of_ble_eq_true rfl) (c_codeFor _ t t0 sT p1 c hw c1 (q a) (q (b : Int)) s s0 s1 (by omega) (by omega) (by omega)) (Nat.le_refl _) (Nat.le_refl _) (Nat.le_refl _) (Nat.le_refl _) ?_
    rintro _ _ ⟨rfl, rfl⟩
    refine z_goto (tgt := 65) dX7_setCode_44 rfl ?_
    refine z_iast dX7_setCode_65 (sT10 sT) (by omega) (by omega) ?_
    refine z_vret dX7_setCode_66 rfl rfl ?_
    refine ⟨rfl, ?_⟩
    rw [if_pos (by omega), em1, show a * 12 + (b : Int) = 12 * a + b by omega]

theorem c_linkLetters (d : Nat) {E : zE} {m : zM} (t : Int) (t0 : 0 < t) (sT : shT E t) (pT : ptT m t) (c : Int → Int) (hw : wfD c) (hc : cTh m t c) (hx : cMz c) (w q : Int → Int) (n : Int) (hl : wfL c w q n) (hk : ∀ i, 0 ≤ i → i < n → m (t + 7) i = w i ∧ m (t + 8) i = q i) (a : Int) (b : Nat) (a0 : 0 ≤ a) (a1 : a < n) (bn : (b : Int) < n) (S : Nat) (hS : S < 4096) (hp : m (t + 9) a = (S : Int)) : zR zX7_linkLetters (d + 2) [zP t, zI a, zI (b : Nat)] m E E (fun r m' => r = none ∧ m' = (if cMay c w q a (b : Int) = true then zu (zu m (t + 9) a ((S ||| 2 ^ b : Nat) : Int)) (t + 10) (12 * a + b) (cCode c w q a (b : Int)) else m)) := by
  have b1 := hw.1
  have b2 := hw.2.1
  have b3 := hw.2.2.1
  have hn := hl.1
  have ha := hl.2 a a0 a1
  have hb := hl.2 (b : Int) (by omega) bn
  have hka := hk a a0 a1
  have hkb := hk (b : Int) (by omega) bn
  refine zR_go [zP t, zI a, zI (b : Nat), zN, zN, zN] (by decide +kernel) (Nat.le_of_ble_eq_true rfl) rfl rfl ?_
  refine z_iload_n dX7_linkLetters_0 rfl ?_
  refine z_iload_n dX7_linkLetters_1 rfl ?_
  refine z_icmp_eq (tgt := 37) dX7_linkLetters_2 rfl (fun h2 => ?_) (fun h2 => ?_)
  · refine z_vret dX7_linkLetters_37 rfl rfl ?_
    exact ⟨rfl, by rw [if_neg (by rw [may_1 (by omega)]; decide)]⟩
  · refine z_aload_n dX7_linkLetters_5 rfl ?_
    refine z_gP 7 rfl (r := (t + 8)) flX7_37 dX7_linkLetters_6 (sT0 sT) rfl (pT7 pT) (by omega) ?_
    refine z_iload_n dX7_linkLetters_9 rfl ?_
    refine z_ialv dX7_linkLetters_10 (sT8 sT) (by omega) (by omega) hka.2 ?_
    refine z_aload_n dX7_linkLetters_11 rfl ?_
    refine z_gP 7 rfl (r := (t + 8)) flX7_37 dX7_linkLetters_12 (sT0 sT) rfl (pT7 pT) (by omega) ?_
    refine z_iload_n dX7_linkLetters_15 rfl ?_
    refine z_ialv dX7_linkLetters_16 (sT8 sT) (by omega) (by omega) hkb.2 ?_
    refine z_icmp_ne (tgt := 38) dX7_linkLetters_17 rfl (fun h17 => ?_) (fun h17 => ?_)
    · refine z_aload_n dX7_linkLetters_38 rfl ?_
      refine z_gP 6 rfl (r := (t + 7)) flX7_34 dX7_linkLetters_39 (sT0 sT) rfl (pT6 pT) (by omega) ?_
      refine z_iload_n dX7_linkLetters_42 rfl ?_
      refine z_ialv dX7_linkLetters_43 (sT7 sT) (by omega) (by omega) hka.1 ?_
      refine z_iconst dX7_linkLetters_44 (by decide) ?_
      refine z_div dX7_linkLetters_45 (by omega) (by omega) ?_
      refine z_ist 3 dX7_linkLetters_46 rfl (Nat.le_of_ble_eq_true rfl) ?_
      refine z_aload_n dX7_linkLetters_47 rfl ?_
      refine z_gP 6 rfl (r := (t + 7)) flX7_34 dX7_linkLetters_48 (sT0 sT) rfl (pT6 pT) (by omega) ?_
      refine z_iload_n dX7_linkLetters_51 rfl ?_
      refine z_ialv dX7_linkLetters_52 (sT7 sT) (by omega) (by omega) hkb.1 ?_
      refine z_iconst dX7_linkLetters_53 (by decide) ?_
      refine z_div dX7_linkLetters_54 (by omega) (by omega) ?_
      refine z_istore dX7_linkLetters_55 (Nat.le_of_ble_eq_true rfl) ?_
      refine z_aload_n dX7_linkLetters_57 rfl ?_
      refine z_iload_n dX7_linkLetters_58 rfl ?_
      refine z_iload dX7_linkLetters_59 rfl ?_
      try dsimp only [zs0, zsI, zsP, zsN, zsJ, zsS, zst2, Nat.reduceAdd]
      refine z_callV mlX7_89 dX7_linkLetters_61 (sT0 sT) (av := [_, _]) rfl rfl (Nat.le_of_ble_eq_true rfl) (c_mixOf _ t t0 sT pT c hw hc (w a / 2) (w (b : Int) / 2)) (Nat.le_refl _) (Nat.le_refl _) (Nat.le_refl _) (Nat.le_refl _) ?_
      rintro _ _ ⟨rfl, rfl⟩
      refine z_istore dX7_linkLetters_64 (Nat.le_of_ble_eq_true rfl) ?_
      refine z_iload dX7_linkLetters_66 rfl ?_
      try dsimp only [zs0, zsI, zsP, zsN, zsJ, zsS, zst2, Nat.reduceAdd]
      refine z_if_lt (tgt := 101) dX7_linkLetters_68 rfl (fun h68 => ?_) (fun h68 => ?_)
      · refine z_iload_n dX7_linkLetters_101 rfl ?_
        refine z_iload dX7_linkLetters_102 rfl ?_
        refine z_icmp_ne (tgt := 158) dX7_linkLetters_104 rfl (fun h104 => ?_) (fun h104 => ?_)
        · refine z_vret dX7_linkLetters_158 rfl rfl ?_
          exact ⟨rfl, by rw [if_neg (by rw [may_3 (by omega) (by omega)]; decide)]⟩
        · refine z_aload_n dX7_linkLetters_107 rfl ?_
          refine z_gP 1 rfl (r := (t + 2)) flX7_15 dX7_linkLetters_108 (sT0 sT) rfl (pT1 pT) (by omega) ?_
          refine z_iload_n dX7_linkLetters_111 rfl ?_
          refine z_zald dX7_linkLetters_112 (sT2 sT) (by omega) (by omega) ?_
          rw [(hc.2.2.2.1 (w a / 2) (by omega) (by omega)).2.1]
          have hfw := hw.2.2.2.1 (w a / 2) (by omega) (by omega)
          refine z_if_eq (tgt := 131) dX7_linkLetters_113 rfl (fun h113 => ?_) (fun h113 => ?_)
          · refine z_aload_n dX7_linkLetters_131 rfl ?_
            refine z_iload_n dX7_linkLetters_132 rfl ?_
            refine z_iload_n dX7_linkLetters_133 rfl ?_
            refine z_aload_n dX7_linkLetters_134 rfl ?_
            refine z_gP 6 rfl (r := (t + 7)) flX7_34 dX7_linkLetters_135 (sT0 sT) rfl (pT6 pT) (by omega) ?_
            refine z_iload_n dX7_linkLetters_138 rfl ?_
            refine z_ialv dX7_linkLetters_139 (sT7 sT) (by omega) (by omega) hka.1 ?_
            refine z_aload_n dX7_linkLetters_140 rfl ?_
            refine z_gP 6 rfl (r := (t + 7)) flX7_34 dX7_linkLetters_141 (sT0 sT) rfl (pT6 pT) (by omega) ?_
            refine z_iload_n dX7_linkLetters_144 rfl ?_
            refine z_ialv dX7_linkLetters_145 (sT7 sT) (by omega) (by omega) hkb.1 ?_
            refine z_icmp_ge (tgt := 153) dX7_linkLetters_146 rfl (fun h146 => ?_) (fun h146 => ?_)
            · refine z_iconst dX7_linkLetters_153 (by decide) ?_
              refine z_iload_n dX7_linkLetters_154 rfl ?_
              refine z_callV mlX7_93 dX7_linkLetters_155 (sT0 sT) (av := [_, _, _, _]) rfl rfl (Nat.le_of_ble_eq_true rfl) (c_setCode _ t t0 sT pT c hw hc w q n hl hk a b a0 a1 bn S hS hp 0 (w a / 2) (by omega) (by omega) (by omega)) (Nat.le_refl _) (Nat.le_refl _) (Nat.le_refl _) (Nat.le_refl _) ?_
              rintro _ _ ⟨rfl, rfl⟩
              refine z_vret dX7_linkLetters_158 rfl rfl ?_
              obtain ⟨e1, e2⟩ := may_own (c := c) (w := w) (q := q) (a := a) (b := (b : Int)) (by omega) (by omega) (by omega) (by omega)
              refine ⟨rfl, ?_⟩
              rw [if_pos e1, e2, if_neg (by decide)]
              congr 1
              unfold kCd
              repeat' split
              all_goals omega
            · refine z_iconst dX7_linkLetters_149 (by decide) ?_
              refine z_goto (tgt := 154) dX7_linkLetters_150 rfl ?_
              refine z_iload_n dX7_linkLetters_154 rfl ?_
              refine z_callV mlX7_93 dX7_linkLetters_155 (sT0 sT) (av := [_, _, _, _]) rfl rfl (Nat.le_of_ble_eq_true rfl) (c_setCode _ t t0 sT pT c hw hc w q n hl hk a b a0 a1 bn S hS hp 1 (w a / 2) (by omega) (by omega) (by omega)) (Nat.le_refl _) (Nat.le_refl _) (Nat.le_refl _) (Nat.le_refl _) ?_
              rintro _ _ ⟨rfl, rfl⟩
              refine z_vret dX7_linkLetters_158 rfl rfl ?_
              obtain ⟨e1, e2⟩ := may_own (c := c) (w := w) (q := q) (a := a) (b := (b : Int)) (by omega) (by omega) (by omega) (by omega)
              refine ⟨rfl, ?_⟩
              rw [if_pos e1, e2, if_pos (by decide)]
              congr 1
              unfold kCd
              repeat' split
              all_goals omega
          · refine z_aload_n dX7_linkLetters_116 rfl ?_
            refine z_gP 6 rfl (r := (t + 7)) flX7_34 dX7_linkLetters_117 (sT0 sT) rfl (pT6 pT) (by omega) ?_
            refine z_iload_n dX7_linkLetters_120 rfl ?_
            refine z_ialv dX7_linkLetters_121 (sT7 sT) (by omega) (by omega) hka.1 ?_
            refine z_aload_n dX7_linkLetters_122 rfl ?_
            refine z_gP 6 rfl (r := (t + 7)) flX7_34 dX7_linkLetters_123 (sT0 sT) rfl (pT6 pT) (by omega) ?_
            refine z_iload_n dX7_linkLetters_126 rfl ?_
            refine z_ialv dX7_linkLetters_127 (sT7 sT) (by omega) (by omega) hkb.1 ?_
            refine z_icmp_eq (tgt := 158) dX7_linkLetters_128 rfl (fun h128 => ?_) (fun h128 => ?_)
            · refine z_vret dX7_linkLetters_158 rfl rfl ?_
              exact ⟨rfl, by rw [if_neg (by rw [may_4 (by omega) (by omega) (by omega)]; decide)]⟩
            · refine z_aload_n dX7_linkLetters_131 rfl ?_
              refine z_iload_n dX7_linkLetters_132 rfl ?_
              refine z_iload_n dX7_linkLetters_133 rfl ?_
              refine z_aload_n dX7_linkLetters_134 rfl ?_
              refine z_gP 6 rfl (r := (t + 7)) flX7_34 dX7_linkLetters_135 (sT0 sT) rfl (pT6 pT) (by omega) ?_
              refine z_iload_n dX7_linkLetters_138 rfl ?_
              refine z_ialv dX7_linkLetters_139 (sT7 sT) (by omega) (by omega) hka.1 ?_
              refine z_aload_n dX7_linkLetters_140 rfl ?_
              refine z_gP 6 rfl (r := (t + 7)) flX7_34 dX7_linkLetters_141 (sT0 sT) rfl (pT6 pT) (by omega) ?_
              refine z_iload_n dX7_linkLetters_144 rfl ?_
              refine z_ialv dX7_linkLetters_145 (sT7 sT) (by omega) (by omega) hkb.1 ?_
              refine z_icmp_ge (tgt := 153) dX7_linkLetters_146 rfl (fun h146 => ?_) (fun h146 => ?_)
              · refine z_iconst dX7_linkLetters_153 (by decide) ?_
                refine z_iload_n dX7_linkLetters_154 rfl ?_
                refine z_callV mlX7_93 dX7_linkLetters_155 (sT0 sT) (av := [_, _, _, _]) rfl rfl (Nat.le_of_ble_eq_true rfl) (c_setCode _ t t0 sT pT c hw hc w q n hl hk a b a0 a1 bn S hS hp 0 (w a / 2) (by omega) (by omega) (by omega)) (Nat.le_refl _) (Nat.le_refl _) (Nat.le_refl _) (Nat.le_refl _) ?_
                rintro _ _ ⟨rfl, rfl⟩
                refine z_vret dX7_linkLetters_158 rfl rfl ?_
                obtain ⟨e1, e2⟩ := may_own (c := c) (w := w) (q := q) (a := a) (b := (b : Int)) (by omega) (by omega) (by omega) (by omega)
                refine ⟨rfl, ?_⟩
                rw [if_pos e1, e2, if_neg (by decide)]
                congr 1
                unfold kCd
                repeat' split
                all_goals omega
              · refine z_iconst dX7_linkLetters_149 (by decide) ?_
                refine z_goto (tgt := 154) dX7_linkLetters_150 rfl ?_
                refine z_iload_n dX7_linkLetters_154 rfl ?_
                refine z_callV mlX7_93 dX7_linkLetters_155 (sT0 sT) (av := [_, _, _, _]) rfl rfl (Nat.le_of_ble_eq_true rfl) (c_setCode _ t t0 sT pT c hw hc w q n hl hk a b a0 a1 bn S hS hp 1 (w a / 2) (by omega) (by omega) (by omega)) (Nat.le_refl _) (Nat.le_refl _) (Nat.le_refl _) (Nat.le_refl _) ?_
                rintro _ _ ⟨rfl, rfl⟩
                refine z_vret dX7_linkLetters_158 rfl rfl ?_
                obtain ⟨e1, e2⟩ := may_own (c := c) (w := w) (q := q) (a := a) (b := (b : Int)) (by omega) (by omega) (by omega) (by omega)
                refine ⟨rfl, ?_⟩
                rw [if_pos e1, e2, if_pos (by decide)]
                congr 1
                unfold kCd
                repeat' split
                all_goals omega
      · have h68' : 0 ≤ (cMix c (w a / 2) (w (b : Int) / 2)) := by omega
        have hmx := cMix_ltD (c := c) (f := (w a / 2)) (g := (w (b : Int) / 2)) hw
        have hme := may_mix (c := c) (w := w) (q := q) (a := a) (b := (b : Int)) hw hx
        refine z_aload_n dX7_linkLetters_71 rfl ?_
        refine z_iload_n dX7_linkLetters_72 rfl ?_
        refine z_iload_n dX7_linkLetters_73 rfl ?_
        refine z_aload_n dX7_linkLetters_74 rfl ?_
        refine z_gP 3 rfl (r := (t + 4)) flX7_22 dX7_linkLetters_75 (sT0 sT) rfl (pT3 pT) (by omega) ?_
        refine z_iload dX7_linkLetters_78 rfl ?_
        refine z_ialv dX7_linkLetters_80 (sT4 sT) (by omega) (by omega) (hc.2.2.2.2.1 (cMix c (w a / 2) (w (b : Int) / 2)) (by omega) hmx).1 ?_
        refine z_iload_n dX7_linkLetters_81 rfl ?_
        refine z_icmp_ne (tgt := 89) dX7_linkLetters_82 rfl (fun h82 => ?_) (fun h82 => ?_)
        · refine z_iconst dX7_linkLetters_89 (by decide) ?_
          refine z_bipush dX7_linkLetters_90 rfl (by decide) ?_
          refine z_iload dX7_linkLetters_92 rfl ?_
          refine z_add dX7_linkLetters_94 (by omega) ?_
          refine z_callV mlX7_93 dX7_linkLetters_95 (sT0 sT) (av := [_, _, _, _]) rfl rfl (Nat.le_of_ble_eq_true rfl) (c_setCode _ t t0 sT pT c hw hc w q n hl hk a b a0 a1 bn S hS hp 0 (6 + (cMix c (w a / 2) (w (b : Int) / 2))) (by omega) (by omega) (by omega)) (Nat.le_refl _) (Nat.le_refl _) (Nat.le_refl _) (Nat.le_refl _) ?_
          rintro _ _ ⟨rfl, rfl⟩
          refine z_goto (tgt := 158) dX7_linkLetters_98 rfl ?_
          refine z_vret dX7_linkLetters_158 rfl rfl ?_
          obtain ⟨e1, e2⟩ := may_mix (c := c) (w := w) (q := q) (a := a) (b := (b : Int)) hw hx (by omega) (by omega) h68'
          refine ⟨rfl, ?_⟩
          rw [if_pos e1, e2, if_neg (by decide), if_neg (by omega)]
          unfold kCd
          rw [if_neg (by omega)]
          congr 1
          omega
        · refine z_iconst dX7_linkLetters_85 (by decide) ?_
          refine z_goto (tgt := 90) dX7_linkLetters_86 rfl ?_
          refine z_bipush dX7_linkLetters_90 rfl (by decide) ?_
          refine z_iload dX7_linkLetters_92 rfl ?_
          refine z_add dX7_linkLetters_94 (by omega) ?_
          refine z_callV mlX7_93 dX7_linkLetters_95 (sT0 sT) (av := [_, _, _, _]) rfl rfl (Nat.le_of_ble_eq_true rfl) (c_setCode _ t t0 sT pT c hw hc w q n hl hk a b a0 a1 bn S hS hp 1 (6 + (cMix c (w a / 2) (w (b : Int) / 2))) (by omega) (by omega) (by omega)) (Nat.le_refl _) (Nat.le_refl _) (Nat.le_refl _) (Nat.le_refl _) ?_
          rintro _ _ ⟨rfl, rfl⟩
          refine z_goto (tgt := 158) dX7_linkLetters_98 rfl ?_
          refine z_vret dX7_linkLetters_158 rfl rfl ?_
          obtain ⟨e1, e2⟩ := may_mix (c := c) (w := w) (q := q) (a := a) (b := (b : Int)) hw hx (by omega) (by omega) h68'
          refine ⟨rfl, ?_⟩
          rw [if_pos e1, e2, if_pos (by decide), if_pos (by omega)]
          unfold kCd
          rw [if_neg (by omega)]
          congr 1
          omega
    · refine z_aload_n dX7_linkLetters_20 rfl ?_
      refine z_gP 5 rfl (r := (t + 6)) flX7_30 dX7_linkLetters_21 (sT0 sT) rfl (pT5 pT) (by omega) ?_
      refine z_aload_n dX7_linkLetters_24 rfl ?_
      refine z_gP 7 rfl (r := (t + 8)) flX7_37 dX7_linkLetters_25 (sT0 sT) rfl (pT7 pT) (by omega) ?_
      refine z_iload_n dX7_linkLetters_28 rfl ?_
      refine z_ialv dX7_linkLetters_29 (sT8 sT) (by omega) (by omega) hka.2 ?_
      have hO := pO sT pT (p := q a) (by omega) (by omega)
      have hPt := hc.2.2.2.2.2 (q a) (by omega) (by omega)
      have hPw := hw.2.2.2.2.2 (q a) (by omega) (by omega)
      refine z_aald dX7_linkLetters_30 (sT6 sT) (by omega) (by omega) rfl (by omega) ?_
      refine z_gIv 3 rfl flX7_85 dX7_linkLetters_31 hO.1 rfl hPt.2.2.1 ?_
      refine z_if_eq (tgt := 38) dX7_linkLetters_34 rfl (fun h34 => ?_) (fun h34 => ?_)
      · refine z_aload_n dX7_linkLetters_38 rfl ?_
        refine z_gP 6 rfl (r := (t + 7)) flX7_34 dX7_linkLetters_39 (sT0 sT) rfl (pT6 pT) (by omega) ?_
        refine z_iload_n dX7_linkLetters_42 rfl ?_
        refine z_ialv dX7_linkLetters_43 (sT7 sT) (by omega) (by omega) hka.1 ?_
        refine z_iconst dX7_linkLetters_44 (by decide) ?_
        refine z_div dX7_linkLetters_45 (by omega) (by omega) ?_
        refine z_ist 3 dX7_linkLetters_46 rfl (Nat.le_of_ble_eq_true rfl) ?_
        refine z_aload_n dX7_linkLetters_47 rfl ?_
        refine z_gP 6 rfl (r := (t + 7)) flX7_34 dX7_linkLetters_48 (sT0 sT) rfl (pT6 pT) (by omega) ?_
        refine z_iload_n dX7_linkLetters_51 rfl ?_
        refine z_ialv dX7_linkLetters_52 (sT7 sT) (by omega) (by omega) hkb.1 ?_
        refine z_iconst dX7_linkLetters_53 (by decide) ?_
        refine z_div dX7_linkLetters_54 (by omega) (by omega) ?_
        refine z_istore dX7_linkLetters_55 (Nat.le_of_ble_eq_true rfl) ?_
        refine z_aload_n dX7_linkLetters_57 rfl ?_
        refine z_iload_n dX7_linkLetters_58 rfl ?_
        refine z_iload dX7_linkLetters_59 rfl ?_
        try dsimp only [zs0, zsI, zsP, zsN, zsJ, zsS, zst2, Nat.reduceAdd]
        refine z_callV mlX7_89 dX7_linkLetters_61 (sT0 sT) (av := [_, _]) rfl rfl (Nat.le_of_ble_eq_true rfl) (c_mixOf _ t t0 sT pT c hw hc (w a / 2) (w (b : Int) / 2)) (Nat.le_refl _) (Nat.le_refl _) (Nat.le_refl _) (Nat.le_refl _) ?_
        rintro _ _ ⟨rfl, rfl⟩
        refine z_istore dX7_linkLetters_64 (Nat.le_of_ble_eq_true rfl) ?_
        refine z_iload dX7_linkLetters_66 rfl ?_
        try dsimp only [zs0, zsI, zsP, zsN, zsJ, zsS, zst2, Nat.reduceAdd]
        refine z_if_lt (tgt := 101) dX7_linkLetters_68 rfl (fun h68 => ?_) (fun h68 => ?_)
        · refine z_iload_n dX7_linkLetters_101 rfl ?_
          refine z_iload dX7_linkLetters_102 rfl ?_
          refine z_icmp_ne (tgt := 158) dX7_linkLetters_104 rfl (fun h104 => ?_) (fun h104 => ?_)
          · refine z_vret dX7_linkLetters_158 rfl rfl ?_
            exact ⟨rfl, by rw [if_neg (by rw [may_3 (by omega) (by omega)]; decide)]⟩
          · refine z_aload_n dX7_linkLetters_107 rfl ?_
            refine z_gP 1 rfl (r := (t + 2)) flX7_15 dX7_linkLetters_108 (sT0 sT) rfl (pT1 pT) (by omega) ?_
            refine z_iload_n dX7_linkLetters_111 rfl ?_
            refine z_zald dX7_linkLetters_112 (sT2 sT) (by omega) (by omega) ?_
            rw [(hc.2.2.2.1 (w a / 2) (by omega) (by omega)).2.1]
            have hfw := hw.2.2.2.1 (w a / 2) (by omega) (by omega)
            refine z_if_eq (tgt := 131) dX7_linkLetters_113 rfl (fun h113 => ?_) (fun h113 => ?_)
            · refine z_aload_n dX7_linkLetters_131 rfl ?_
              refine z_iload_n dX7_linkLetters_132 rfl ?_
              refine z_iload_n dX7_linkLetters_133 rfl ?_
              refine z_aload_n dX7_linkLetters_134 rfl ?_
              refine z_gP 6 rfl (r := (t + 7)) flX7_34 dX7_linkLetters_135 (sT0 sT) rfl (pT6 pT) (by omega) ?_
              refine z_iload_n dX7_linkLetters_138 rfl ?_
              refine z_ialv dX7_linkLetters_139 (sT7 sT) (by omega) (by omega) hka.1 ?_
              refine z_aload_n dX7_linkLetters_140 rfl ?_
              refine z_gP 6 rfl (r := (t + 7)) flX7_34 dX7_linkLetters_141 (sT0 sT) rfl (pT6 pT) (by omega) ?_
              refine z_iload_n dX7_linkLetters_144 rfl ?_
              refine z_ialv dX7_linkLetters_145 (sT7 sT) (by omega) (by omega) hkb.1 ?_
              refine z_icmp_ge (tgt := 153) dX7_linkLetters_146 rfl (fun h146 => ?_) (fun h146 => ?_)
              · refine z_iconst dX7_linkLetters_153 (by decide) ?_
                refine z_iload_n dX7_linkLetters_154 rfl ?_
                refine z_callV mlX7_93 dX7_linkLetters_155 (sT0 sT) (av := [_, _, _, _]) rfl rfl (Nat.le_of_ble_eq_true rfl) (c_setCode _ t t0 sT pT c hw hc w q n hl hk a b a0 a1 bn S hS hp 0 (w a / 2) (by omega) (by omega) (by omega)) (Nat.le_refl _) (Nat.le_refl _) (Nat.le_refl _) (Nat.le_refl _) ?_
                rintro _ _ ⟨rfl, rfl⟩
                refine z_vret dX7_linkLetters_158 rfl rfl ?_
                obtain ⟨e1, e2⟩ := may_own (c := c) (w := w) (q := q) (a := a) (b := (b : Int)) (by omega) (by omega) (by omega) (by omega)
                refine ⟨rfl, ?_⟩
                rw [if_pos e1, e2, if_neg (by decide)]
                congr 1
                unfold kCd
                repeat' split
                all_goals omega
              · refine z_iconst dX7_linkLetters_149 (by decide) ?_
                refine z_goto (tgt := 154) dX7_linkLetters_150 rfl ?_
                refine z_iload_n dX7_linkLetters_154 rfl ?_
                refine z_callV mlX7_93 dX7_linkLetters_155 (sT0 sT) (av := [_, _, _, _]) rfl rfl (Nat.le_of_ble_eq_true rfl) (c_setCode _ t t0 sT pT c hw hc w q n hl hk a b a0 a1 bn S hS hp 1 (w a / 2) (by omega) (by omega) (by omega)) (Nat.le_refl _) (Nat.le_refl _) (Nat.le_refl _) (Nat.le_refl _) ?_
                rintro _ _ ⟨rfl, rfl⟩
                refine z_vret dX7_linkLetters_158 rfl rfl ?_
                obtain ⟨e1, e2⟩ := may_own (c := c) (w := w) (q := q) (a := a) (b := (b : Int)) (by omega) (by omega) (by omega) (by omega)
                refine ⟨rfl, ?_⟩
                rw [if_pos e1, e2, if_pos (by decide)]
                congr 1
                unfold kCd
                repeat' split
                all_goals omega
            · refine z_aload_n dX7_linkLetters_116 rfl ?_
              refine z_gP 6 rfl (r := (t + 7)) flX7_34 dX7_linkLetters_117 (sT0 sT) rfl (pT6 pT) (by omega) ?_
              refine z_iload_n dX7_linkLetters_120 rfl ?_
              refine z_ialv dX7_linkLetters_121 (sT7 sT) (by omega) (by omega) hka.1 ?_
              refine z_aload_n dX7_linkLetters_122 rfl ?_
              refine z_gP 6 rfl (r := (t + 7)) flX7_34 dX7_linkLetters_123 (sT0 sT) rfl (pT6 pT) (by omega) ?_
              refine z_iload_n dX7_linkLetters_126 rfl ?_
              refine z_ialv dX7_linkLetters_127 (sT7 sT) (by omega) (by omega) hkb.1 ?_
              refine z_icmp_eq (tgt := 158) dX7_linkLetters_128 rfl (fun h128 => ?_) (fun h128 => ?_)
              · refine z_vret dX7_linkLetters_158 rfl rfl ?_
                exact ⟨rfl, by rw [if_neg (by rw [may_4 (by omega) (by omega) (by omega)]; decide)]⟩
              · refine z_aload_n dX7_linkLetters_131 rfl ?_
                refine z_iload_n dX7_linkLetters_132 rfl ?_
                refine z_iload_n dX7_linkLetters_133 rfl ?_
                refine z_aload_n dX7_linkLetters_134 rfl ?_
                refine z_gP 6 rfl (r := (t + 7)) flX7_34 dX7_linkLetters_135 (sT0 sT) rfl (pT6 pT) (by omega) ?_
                refine z_iload_n dX7_linkLetters_138 rfl ?_
                refine z_ialv dX7_linkLetters_139 (sT7 sT) (by omega) (by omega) hka.1 ?_
                refine z_aload_n dX7_linkLetters_140 rfl ?_
                refine z_gP 6 rfl (r := (t + 7)) flX7_34 dX7_linkLetters_141 (sT0 sT) rfl (pT6 pT) (by omega) ?_
                refine z_iload_n dX7_linkLetters_144 rfl ?_
                refine z_ialv dX7_linkLetters_145 (sT7 sT) (by omega) (by omega) hkb.1 ?_
                refine z_icmp_ge (tgt := 153) dX7_linkLetters_146 rfl (fun h146 => ?_) (fun h146 => ?_)
                · refine z_iconst dX7_linkLetters_153 (by decide) ?_
                  refine z_iload_n dX7_linkLetters_154 rfl ?_
                  refine z_callV mlX7_93 dX7_linkLetters_155 (sT0 sT) (av := [_, _, _, _]) rfl rfl (Nat.le_of_ble_eq_true rfl) (c_setCode _ t t0 sT pT c hw hc w q n hl hk a b a0 a1 bn S hS hp 0 (w a / 2) (by omega) (by omega) (by omega)) (Nat.le_refl _) (Nat.le_refl _) (Nat.le_refl _) (Nat.le_refl _) ?_
                  rintro _ _ ⟨rfl, rfl⟩
                  refine z_vret dX7_linkLetters_158 rfl rfl ?_
                  obtain ⟨e1, e2⟩ := may_own (c := c) (w := w) (q := q) (a := a) (b := (b : Int)) (by omega) (by omega) (by omega) (by omega)
                  refine ⟨rfl, ?_⟩
                  rw [if_pos e1, e2, if_neg (by decide)]
                  congr 1
                  unfold kCd
                  repeat' split
                  all_goals omega
                · refine z_iconst dX7_linkLetters_149 (by decide) ?_
                  refine z_goto (tgt := 154) dX7_linkLetters_150 rfl ?_
                  refine z_iload_n dX7_linkLetters_154 rfl ?_
                  refine z_callV mlX7_93 dX7_linkLetters_155 (sT0 sT) (av := [_, _, _, _]) rfl rfl (Nat.le_of_ble_eq_true rfl) (c_setCode _ t t0 sT pT c hw hc w q n hl hk a b a0 a1 bn S hS hp 1 (w a / 2) (by omega) (by omega) (by omega)) (Nat.le_refl _) (Nat.le_refl _) (Nat.le_refl _) (Nat.le_refl _) ?_
                  rintro _ _ ⟨rfl, rfl⟩
                  refine z_vret dX7_linkLetters_158 rfl rfl ?_
                  obtain ⟨e1, e2⟩ := may_own (c := c) (w := w) (q := q) (a := a) (b := (b : Int)) (by omega) (by omega) (by omega) (by omega)
                  refine ⟨rfl, ?_⟩
                  rw [if_pos e1, e2, if_pos (by decide)]
                  congr 1
                  unfold kCd
                  repeat' split
                  all_goals omega
        · have h68' : 0 ≤ (cMix c (w a / 2) (w (b : Int) / 2)) := by omega
          have hmx := cMix_ltD (c := c) (f := (w a / 2)) (g := (w (b : Int) / 2)) hw
          have hme := may_mix (c := c) (w := w) (q := q) (a := a) (b := (b : Int)) hw hx
          refine z_aload_n dX7_linkLetters_71 rfl ?_
          refine z_iload_n dX7_linkLetters_72 rfl ?_
          refine z_iload_n dX7_linkLetters_73 rfl ?_
          refine z_aload_n dX7_linkLetters_74 rfl ?_
          refine z_gP 3 rfl (r := (t + 4)) flX7_22 dX7_linkLetters_75 (sT0 sT) rfl (pT3 pT) (by omega) ?_
          refine z_iload dX7_linkLetters_78 rfl ?_
          refine z_ialv dX7_linkLetters_80 (sT4 sT) (by omega) (by omega) (hc.2.2.2.2.1 (cMix c (w a / 2) (w (b : Int) / 2)) (by omega) hmx).1 ?_
          refine z_iload_n dX7_linkLetters_81 rfl ?_
          refine z_icmp_ne (tgt := 89) dX7_linkLetters_82 rfl (fun h82 => ?_) (fun h82 => ?_)
          · refine z_iconst dX7_linkLetters_89 (by decide) ?_
            refine z_bipush dX7_linkLetters_90 rfl (by decide) ?_
            refine z_iload dX7_linkLetters_92 rfl ?_
            refine z_add dX7_linkLetters_94 (by omega) ?_
            refine z_callV mlX7_93 dX7_linkLetters_95 (sT0 sT) (av := [_, _, _, _]) rfl rfl (Nat.le_of_ble_eq_true rfl) (c_setCode _ t t0 sT pT c hw hc w q n hl hk a b a0 a1 bn S hS hp 0 (6 + (cMix c (w a / 2) (w (b : Int) / 2))) (by omega) (by omega) (by omega)) (Nat.le_refl _) (Nat.le_refl _) (Nat.le_refl _) (Nat.le_refl _) ?_
            rintro _ _ ⟨rfl, rfl⟩
            refine z_goto (tgt := 158) dX7_linkLetters_98 rfl ?_
            refine z_vret dX7_linkLetters_158 rfl rfl ?_
            obtain ⟨e1, e2⟩ := may_mix (c := c) (w := w) (q := q) (a := a) (b := (b : Int)) hw hx (by omega) (by omega) h68'
            refine ⟨rfl, ?_⟩
            rw [if_pos e1, e2, if_neg (by decide), if_neg (by omega)]
            unfold kCd
            rw [if_neg (by omega)]
            congr 1
            omega
          · refine z_iconst dX7_linkLetters_85 (by decide) ?_
            refine z_goto (tgt := 90) dX7_linkLetters_86 rfl ?_
            refine z_bipush dX7_linkLetters_90 rfl (by decide) ?_
            refine z_iload dX7_linkLetters_92 rfl ?_
            refine z_add dX7_linkLetters_94 (by omega) ?_
            refine z_callV mlX7_93 dX7_linkLetters_95 (sT0 sT) (av := [_, _, _, _]) rfl rfl (Nat.le_of_ble_eq_true rfl) (c_setCode _ t t0 sT pT c hw hc w q n hl hk a b a0 a1 bn S hS hp 1 (6 + (cMix c (w a / 2) (w (b : Int) / 2))) (by omega) (by omega) (by omega)) (Nat.le_refl _) (Nat.le_refl _) (Nat.le_refl _) (Nat.le_refl _) ?_
            rintro _ _ ⟨rfl, rfl⟩
            refine z_goto (tgt := 158) dX7_linkLetters_98 rfl ?_
            refine z_vret dX7_linkLetters_158 rfl rfl ?_
            obtain ⟨e1, e2⟩ := may_mix (c := c) (w := w) (q := q) (a := a) (b := (b : Int)) hw hx (by omega) (by omega) h68'
            refine ⟨rfl, ?_⟩
            rw [if_pos e1, e2, if_pos (by decide), if_pos (by omega)]
            unfold kCd
            rw [if_neg (by omega)]
            congr 1
            omega
      · refine z_vret dX7_linkLetters_37 rfl rfl ?_
        exact ⟨rfl, by rw [if_neg (by rw [may_2 (by omega) (by omega)]; decide)]⟩
