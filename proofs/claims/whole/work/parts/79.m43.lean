def sMove (T : zT) (p pl : Int) : Int := if ¬ (0 ≤ pl ∧ pl ≤ T.1 2 - 1) then 1 else if ¬ (0 ≤ p ∧ p ≤ T.1 2 - 1) then 2 else if p = pl then 4 else 0
def gE (p q : Int) (g0 : Int → Int) (b : Int) : Int := if q < b ∧ b ≤ p then b - 1 else g0 b
def gM (p q : Int) (b : Int) : Int := if b = q then p else if p ≤ b ∧ b < q then b + 1 else if q < b ∧ b ≤ p then b - 1 else b
theorem gM_eq {p pl b : Int} (h : p ≠ pl) : (if b = pl then p else gE p (if pl ≤ p then pl else p) (gD p (if p ≤ pl then pl else p)) b) = gM p pl b := by
  by_cases a2 : p ≤ pl
  · rw [if_pos a2, if_neg (show ¬ pl ≤ p by omega)]
    unfold gM gE gD
    by_cases a1 : b = pl
    · rw [if_pos a1, if_pos a1]
    · rw [if_neg a1, if_neg a1, if_neg (show ¬ (p < b ∧ b ≤ p) by omega)]
      by_cases a3 : p ≤ b ∧ b < pl
      · rw [if_pos a3, if_pos a3]
      · rw [if_neg a3, if_neg a3, if_neg (by omega)]
  · rw [if_neg a2, if_pos (show pl ≤ p by omega)]
    unfold gM gE gD
    by_cases a1 : b = pl
    · rw [if_pos a1, if_pos a1]
    · rw [if_neg a1, if_neg a1]
      by_cases a3 : pl < b ∧ b ≤ p
      · rw [if_pos a3, if_neg (show ¬ (p ≤ b ∧ b < pl) by omega), if_pos a3]
      · rw [if_neg a3, if_neg (show ¬ (p ≤ b ∧ b < p) by omega), if_neg (show ¬ (p ≤ b ∧ b < pl) by omega), if_neg a3]
theorem eBlk_put {c g f : Int → Int} {s t : Int} (t0 : 0 ≤ t) (t1 : t < 8) (h1 : ∀ i, 0 ≤ i → i < 9 → f (32 + 9 * t + i) = c (32 + 9 * s + i)) (h2 : ∀ x, (x < 32 + 9 * t ∨ 32 + 9 * t + 9 ≤ x) → f x = eBlk c g x) : f = eBlk c (fun b => if b = t then s else g b) := by
  funext x
  by_cases e : x < 32 + 9 * t ∨ 32 + 9 * t + 9 ≤ x
  · rw [h2 x e]
    unfold eBlk
    split
    · dsimp only; rw [if_neg (by omega)]
    · rfl
  · have h := h1 (x - 32 - 9 * t) (by omega) (by omega)
    rw [show 32 + 9 * t + (x - 32 - 9 * t) = x by omega] at h
    rw [h]
    unfold eBlk
    rw [if_pos (by omega)]
    dsimp only
    rw [if_pos (by omega), show (x - 32) % 9 = x - 32 - 9 * t by omega]
theorem eN_same {c g : Int → Int} : eBlk c g = eN (eBlk c g) (c 2) := by
  funext x
  unfold eN
  split
  · rename_i h; rw [h, eBlk_o (by omega)]
  · rfl
/-- a point that changes its place leaves the sum -/
theorem sum_move {f : Int → Int} {p q n : Int} (p0 : 0 ≤ p) (p1 : p < n) (q0 : 0 ≤ q) (q1 : q < n) : zsum (fun b => f (gM p q b)) n.toNat 0 = zsum f n.toNat 0 := by
  have h1 := sum_drop (f := f) p0 p1
  have h2 := sum_drop (f := fun b => f (gM p q b)) q0 q1
  have e : zsum (fun b => (fun b => f (gM p q b)) (gD q (n - 1) b)) (n - 1).toNat 0 = zsum (fun b => f (gD p (n - 1) b)) (n - 1).toNat 0 := zsum_congr (fun i r0 r1 => by
    dsimp only
    congr 1
    unfold gM gD
    by_cases a : q ≤ i ∧ i < n - 1
    · rw [if_pos a, if_neg (by omega)]
      by_cases b : p ≤ i ∧ i < n - 1
      · rw [if_pos b, if_neg (by omega), if_neg (by omega)]
      · rw [if_neg b, if_neg (by omega), if_pos (by omega)]; omega
    · rw [if_neg a, if_neg (by omega)]
      by_cases b : p ≤ i ∧ i < n - 1
      · rw [if_pos b, if_pos (by omega)]
      · rw [if_neg b, if_neg (by omega), if_neg (by omega)])
  have e3 : f (gM p q q) = f p := by unfold gM; rw [if_pos rfl]
  rw [e, h1, e3] at h2
  omega
theorem l_move_u (d : Nat) {E : zE} {m : zM} {P : Option zV → zM → Prop} (hE : shM E) (hm : ptM m) (p pl : Int) (hp0 : 0 ≤ p) (hp1 : p < 8) (hl0 : 0 ≤ pl) (hl1 : pl < 8)  : ∀ (j : Nat) (q : Int) (m1 : zM), (p ≤ q) → ((q ≤ pl ∧ q + j = pl) ∨ (pl < q ∧ q = p ∧ j = 0)) → (zfr [(a_c, none)] m m1) → (m1 a_c = eBlk (m a_c) (gD p q)) → (∀ m2, zfr [(a_c, none)] m m2 → m2 a_c = eBlk (m a_c) (gD p (if p ≤ pl then pl else p)) → zA zX12_move (d + 3) E E P 77 [zP aM, zI p, zI pl, zN] [] m2 E) → zA zX12_move (d + 3) E E P 58 [zP aM, zI p, zI pl, zI q] [] m1 E := by
  intro j
  induction j with
  | zero =>
    intro q m1 h0 hq hf hc hP
    have hm1 : ptM m1 := ptM_ed hm (zfr_sub hf (by decide))
    refine z_iload_n dX12_move_58 rfl ?_
    refine z_iload_n dX12_move_59 rfl ?_
    refine z_icmp_ge (tgt := 77) dX12_move_60 rfl (fun h60 => ?_) (fun h => absurd (by omega) h)
    refine zA_wk [_, _, _, zN] (by exact ⟨Or.inr rfl, Or.inr rfl, Or.inr rfl, Or.inl rfl, trivial⟩) ?_
    exact hP m1 hf (by rw [hc]; split <;> (congr 2; omega))
  | succ j ih =>
    intro q m1 h0 hq hf hc hP
    have hm1 : ptM m1 := ptM_ed hm (zfr_sub hf (by decide))
    refine z_iload_n dX12_move_58 rfl ?_
    refine z_iload_n dX12_move_59 rfl ?_
    refine z_icmp_ge (tgt := 77) dX12_move_60 rfl (fun h => absurd h (by omega)) (fun h60 => ?_)
    refine z_aload_n dX12_move_63 rfl ?_
    refine z_iload_n dX12_move_64 rfl ?_
    refine z_iconst dX12_move_65 (by decide) ?_
    refine z_add dX12_move_66 (by omega) ?_
    refine z_iload_n dX12_move_67 rfl ?_
    refine z_callV mlX12_344 dX12_move_68 (sh_M hE) (av := [_, _]) rfl rfl (Nat.le_of_ble_eq_true rfl) (r_shifts _ hE hm1 (q + 1) (q) (by omega) (by omega) (by omega) (by omega) (by omega)) (Nat.le_refl _) (Nat.le_refl _) (Nat.le_refl _) (Nat.le_refl _) ?_
    rintro _ m2 ⟨rfl, s1, s2, s3⟩
    have hm2 : ptM m2 := ptM_ed hm1 (zfr_sub s1 (by decide))
    refine z_inc dX12_move_71 rfl (by omega) ?_
    refine z_goto (tgt := 58) dX12_move_74 rfl ?_
    try dsimp only [zs0, zsI, zsP, zsN, zsJ, zsS, zst2, Nat.reduceAdd]
    refine ih (q + 1) m2 (by omega) (by omega) (zfr_tr hf s1) ?_ hP
    rw [hc] at s2 s3
    rw [eBlk_shift (s := q + 1) (t := q) (by omega) (by omega) (by omega) (by omega) s2 s3]
    exact eBlk_congr (fun b q1 q2 => by unfold gD; by_cases e : b = q; (rw [if_pos e, if_neg (by omega), if_pos (by omega)]; omega); (rw [if_neg e]; by_cases e2 : p ≤ b ∧ b < q; (rw [if_pos e2, if_pos (by omega)]); (rw [if_neg e2, if_neg (by omega)])))

theorem l_move_d (d : Nat) {E : zE} {m : zM} {P : Option zV → zM → Prop} (hE : shM E) (hm : ptM m) (p pl : Int) (hp0 : 0 ≤ p) (hp1 : p < 8) (hl0 : 0 ≤ pl) (hl1 : pl < 8) (g0 : Int → Int) (hg : pl < p → ∀ b, g0 b = b) (c0 : Int → Int)  : ∀ (j : Nat) (q : Int) (m1 : zM), (q ≤ p) → ((pl ≤ q ∧ q = pl + j) ∨ (q < pl ∧ q = p ∧ j = 0)) → (zfr [(a_c, none)] m m1) → (m1 a_c = eBlk c0 (gE p q g0)) → (∀ m2, zfr [(a_c, none)] m m2 → m2 a_c = eBlk c0 (gE p (if pl ≤ p then pl else p) g0) → zA zX12_move (d + 3) E E P 98 [zP aM, zI p, zI pl, zN] [] m2 E) → zA zX12_move (d + 3) E E P 79 [zP aM, zI p, zI pl, zI q] [] m1 E := by
  intro j
  induction j with
  | zero =>
    intro q m1 h0 hq hf hc hP
    have hm1 : ptM m1 := ptM_ed hm (zfr_sub hf (by decide))
    refine z_iload_n dX12_move_79 rfl ?_
    refine z_iload_n dX12_move_80 rfl ?_
    refine z_icmp_le (tgt := 98) dX12_move_81 rfl (fun h81 => ?_) (fun h => absurd (by omega) h)
    refine zA_wk [_, _, _, zN] (by exact ⟨Or.inr rfl, Or.inr rfl, Or.inr rfl, Or.inl rfl, trivial⟩) ?_
    exact hP m1 hf (by rw [hc]; split <;> (congr 2; omega))
  | succ j ih =>
    intro q m1 h0 hq hf hc hP
    have hm1 : ptM m1 := ptM_ed hm (zfr_sub hf (by decide))
    refine z_iload_n dX12_move_79 rfl ?_
    refine z_iload_n dX12_move_80 rfl ?_
    refine z_icmp_le (tgt := 98) dX12_move_81 rfl (fun h => absurd h (by omega)) (fun h81 => ?_)
    refine z_aload_n dX12_move_84 rfl ?_
    refine z_iload_n dX12_move_85 rfl ?_
    refine z_iconst dX12_move_86 (by decide) ?_
    refine z_sub dX12_move_87 (by omega) ?_
    refine z_iload_n dX12_move_88 rfl ?_
    refine z_callV mlX12_344 dX12_move_89 (sh_M hE) (av := [_, _]) rfl rfl (Nat.le_of_ble_eq_true rfl) (r_shifts _ hE hm1 (q - 1) (q) (by omega) (by omega) (by omega) (by omega) (by omega)) (Nat.le_refl _) (Nat.le_refl _) (Nat.le_refl _) (Nat.le_refl _) ?_
    rintro _ m2 ⟨rfl, s1, s2, s3⟩
    have hm2 : ptM m2 := ptM_ed hm1 (zfr_sub s1 (by decide))
    refine z_inc dX12_move_92 rfl (by omega) ?_
    refine z_goto (tgt := 79) dX12_move_95 rfl ?_
    try dsimp only [zs0, zsI, zsP, zsN, zsJ, zsS, zst2, Nat.reduceAdd]
    refine ih (q + -1) m2 (by omega) (by omega) (zfr_tr hf s1) ?_ hP
    rw [hc] at s2 s3
    rw [eBlk_shift (s := q - 1) (t := q) (by omega) (by omega) (by omega) (by omega) s2 s3]
    exact eBlk_congr (fun b q1 q2 => by unfold gE; by_cases e : b = q; (rw [if_pos e, if_neg (by omega), hg (by omega), if_pos (by omega)]; omega); (rw [if_neg e]; by_cases e2 : q < b ∧ b ≤ p; (rw [if_pos e2, if_pos (by omega)]); (rw [if_neg e2, if_neg (by omega)])))

theorem q_move (d : Nat) {E : zE} {m : zM} (hE : shM E) (hI : mI m) (p pl : Int) : zR zX12_move (d + 5) [zP aM, zI p, zI pl] m E E (fun r m' => r = some (zI (if sMove (mT m) p pl = 0 then zsum (fun q => m' a_c (32 + 9 * q)) pl.toNat 0 else -1)) ∧ mI m' ∧ zfr fEd m m' ∧ m' aM f_status = sMove (mT m) p pl ∧ (sMove (mT m) p pl = 0 → m' a_c = eN (eBlk (m a_c) (gM p pl)) (m a_c 2) ∧ ∀ i, 0 ≤ i → i < 800 → m' a_worths i = 1) ∧ (sMove (mT m) p pl ≠ 0 → mT m' = mT m ∧ m' a_worths = m a_worths)) := by
  have hm := hI.1.1
  obtain ⟨hw, hl, hn⟩ := mI_wl hI
  have hq0 := mQ_rf hI
  have eT0 : mT m = mT m := rfl
  have t4 : (mT m).2.2.2 = m aM f_letters := rfl
  have t0 : (mT m).1 0 = m a_c 0 := rfl
  have t1 : (mT m).1 1 = m a_c 1 := rfl
  have t2 : (mT m).1 2 = m a_c 2 := rfl
  have b1 := hw.1
  have b2 := hw.2.1
  have b3 := hw.2.2.1
  refine zR_go [zP aM, zI p, zI pl, zN] (by decide +kernel) (Nat.le_of_ble_eq_true rfl) rfl rfl ?_
  refine z_aload_n dX12_move_0 rfl ?_
  refine z_iload_n dX12_move_1 rfl ?_
  refine z_iconst dX12_move_2 (by decide) ?_
  refine z_aload_n dX12_move_3 rfl ?_
  refine z_gP 0 rfl (r := a_c) flX12_7 dX12_move_4 (sh_M hE) rfl (pt_c hm) (by decide) ?_
  refine z_iconst dX12_move_7 (by decide) ?_
  refine z_iald dX12_move_8 (sh_c hE) (by omega) (by omega) ?_
  refine z_iconst dX12_move_9 (by decide) ?_
  refine z_sub dX12_move_10 (by omega) ?_
  refine z_callS mlX12_140 dX12_move_11 (av := [_, _, _]) rfl rfl (Nat.le_of_ble_eq_true rfl) (r_isIn _ hE hm pl 0 _) (Nat.le_refl _) (Nat.le_refl _) (Nat.le_refl _) (Nat.le_refl _) ?_
  rintro _ _ ⟨rfl, rfl⟩
  refine z_ifz_ne (tgt := 21) dX12_move_14 rfl (fun h14 => ?_) (fun h14 => ?_)
  · refine z_aload_n dX12_move_21 rfl ?_
    refine z_iload_n dX12_move_22 rfl ?_
    refine z_callV mlX12_332 dX12_move_23 (sh_M hE) (av := [_]) rfl rfl (Nat.le_of_ble_eq_true rfl) (r_isPoint _ hE hm p hw) (Nat.le_refl _) (Nat.le_refl _) (Nat.le_refl _) (Nat.le_refl _) ?_
    rintro _ _ ⟨rfl, rfl⟩
    refine z_ifz_ne (tgt := 33) dX12_move_26 rfl (fun h26 => ?_) (fun h26 => ?_)
    · refine z_iload_n dX12_move_33 rfl ?_
      refine z_iload_n dX12_move_34 rfl ?_
      refine z_icmp_ne (tgt := 42) dX12_move_35 rfl (fun h35 => ?_) (fun h35 => ?_)
      · refine z_iconst dX12_move_42 (by decide) ?_
        refine z_callV mlX12_310 dX12_move_43 (sh_M hE) (av := [_]) rfl rfl (Nat.le_of_ble_eq_true rfl) (r_is _ hE hm _) (Nat.le_refl _) (Nat.le_refl _) (Nat.le_refl _) (Nat.le_refl _) ?_
        rintro _ m1 ⟨rfl, e1⟩
        have hq1 : mQ m m1 0 := e1 ▸ mQ_is hq0
        have hI1 := hq1.1
        have hm1 := hI1.1.1
        have eT1 := mQ_T hq1
        have ec1 : m1 a_c = m a_c := congrArg (fun q => q.1) eT1
        have ec21 : m1 a_c 2 = m a_c 2 := congrFun ec1 2
        have ew1 : m1 a_what = m a_what := congrArg (fun q => q.2.1) eT1
        have ep1 : m1 a_pointOf = m a_pointOf := congrArg (fun q => q.2.2.1) eT1
        have en1 : m1 aM f_letters = m aM f_letters := congrArg (fun q => q.2.2.2) eT1
        obtain ⟨hw1, hl1, hn1⟩ := mI_wl hI1
        refine z_ifz_ne (tgt := 51) dX12_move_46 rfl (fun h46 => ?_) (fun h => absurd (by decide) h)
        refine z_aload_n dX12_move_51 rfl ?_
        refine z_iload_n dX12_move_52 rfl ?_
        refine z_callV mlX12_350 dX12_move_53 (sh_M hE) (av := [_]) rfl rfl (Nat.le_of_ble_eq_true rfl) (r_holds0 _ hE hm1 p (by omega) (by omega)) (Nat.le_refl _) (Nat.le_refl _) (Nat.le_refl _) (Nat.le_refl _) ?_
        rintro _ m2 ⟨rfl, b1, b2⟩
        have hm2 : ptM m2 := ptM_ed hm1 (zfr_sub b1 (by decide))
        refine z_iload_n dX12_move_56 rfl ?_
        refine z_ist 3 dX12_move_57 rfl (Nat.le_of_ble_eq_true rfl) ?_
        try dsimp only [zs0, zsI, zsP, zsN, zsJ, zsS, zst2, Nat.reduceAdd]
        have hrg : ∀ b, 0 ≤ b → b < m a_c 2 → 0 ≤ gM p pl b ∧ gM p pl b < m a_c 2 := fun b q0 q1 => by unfold gM; split <;> (try split) <;> (try split) <;> omega
        have hw9 : wfC (eN (eBlk (m a_c) (gM p pl)) (m a_c 2)) := eN_wfC hw (by omega) hrg
        have ht9 : cPre (eN (eBlk (m a_c) (gM p pl)) (m a_c 2)) ((eN (eBlk (m a_c) (gM p pl)) (m a_c 2)) 2).toNat ≤ 12 := by
          rw [eN_2, eN_pre (by omega), sum_move (f := fun q => m a_c (32 + 9 * q)) (by omega) (by omega) (by omega) (by omega)]
          have h1 := hI.1.2.2.1.1
          have h2 := hI.1.2.2.2.1
          unfold cPre at h1
          omega
        have hc2 : m2 a_c = m a_c := (zfr_cell b1 (by decide)).trans ec1
        refine l_move_u (d + 2) (m := m2) hE hm2 p pl (by omega) (by omega) (by omega) (by omega) (pl - p).toNat p m2 (by omega) (by omega) zfr_rf (by rw [gD_0]; exact eBlk_id.symm) (fun m3 w1 w2 => ?_)
        rw [hc2] at w2
        have hm3 : ptM m3 := ptM_ed hm2 (zfr_sub w1 (by decide))
        refine z_iload_n dX12_move_77 rfl ?_
        refine z_ist 3 dX12_move_78 rfl (Nat.le_of_ble_eq_true rfl) ?_
        try dsimp only [zs0, zsI, zsP, zsN, zsJ, zsS, zst2, Nat.reduceAdd]
        refine l_move_d (d + 2) (m := m2) hE hm2 p pl (by omega) (by omega) (by omega) (by omega) (gD p (if p ≤ pl then pl else p)) (fun h b => by rw [if_neg (by omega), gD_0]) (m a_c) (p - pl).toNat p m3 (by omega) (by omega) w1 (by rw [w2]; exact eBlk_congr (fun b q0 q1 => (if_neg (show ¬ (p < b ∧ b ≤ p) by omega)).symm)) (fun m4 x1 x2 => ?_)
        have hm4 : ptM m4 := ptM_ed hm2 (zfr_sub x1 (by decide))
        refine z_aload_n dX12_move_98 rfl ?_
        refine z_iload_n dX12_move_99 rfl ?_
        refine z_callV mlX12_353 dX12_move_100 (sh_M hE) (av := [_]) rfl rfl (Nat.le_of_ble_eq_true rfl) (r_laysHeld _ hE hm4 pl (by omega) (by omega)) (Nat.le_refl _) (Nat.le_refl _) (Nat.le_refl _) (Nat.le_refl _) ?_
        rintro _ m9 ⟨rfl, k1, k2, k3⟩
        have h9 : ptM m9 := ptM_ed hm4 (zfr_sub k1 (by decide))
        have e4 : zfr [(a_c, none)] m2 m4 := x1
        have hh4 : m4 a_held = m2 a_held := zfr_cell x1 (by decide)
        have hc9 : m9 a_c = eN (eBlk (m a_c) (gM p pl)) (m a_c 2) := by
          rw [hh4] at k2
          rw [x2] at k3
          have k2 : ∀ i, 0 ≤ i → i < 9 → m9 a_c (32 + 9 * pl + i) = m a_c (32 + 9 * p + i) := fun i q0 q1 => by rw [k2 i q0 q1, b2 i q0 q1, ec1]
          rw [eBlk_put (s := p) (by omega) (by omega) k2 k3, ← eN_same]
          exact eBlk_congr (fun b q0 q1 => gM_eq (by omega))
        have f9 : zfr fEd0 m1 m9 := zfr_tr (zfr_tr (zfr_sub b1 (by decide)) (zfr_sub x1 (by decide))) (zfr_sub k1 (by decide))
        refine z_aload_n dX12_move_103 rfl ?_
        refine z_callV mlX12_347 dX12_move_104 (sh_M hE) (av := _) rfl rfl (Nat.le_of_ble_eq_true rfl) (r_pointsChange _ hE h9 (by rw [hc9]; exact hw9) (by rw [hc9]; exact ht9)) (Nat.le_refl _) (Nat.le_refl _) (Nat.le_refl _) (Nat.le_refl _) ?_
        rintro _ mp ⟨rfl, g1, g2, g3, g4, g5⟩
        have gc : mp a_c = eN (eBlk (m a_c) (gM p pl)) (m a_c 2) := (zfr_cell g1 (by decide)).trans hc9
        have hmp : ptM mp := ptM_ed h9 (zfr_sub g1 (by decide))
        have hfl : isFlat (mp a_c) (mp a_what) (mp a_pointOf) (mp aM f_letters) := by rw [zfr_cell (a := a_c) g1 (by decide)]; exact g2
        have hwp : wfC (mp a_c) := by rw [gc]; exact hw9
        have hlp : mp aM f_letters ≤ 12 := by rw [hfl.1, gc]; exact ht9
        have fp : zfr fEd0 m1 mp := zfr_tr f9 (zfr_sub g1 (by decide))
        have hIp := mI_new hI1 fp hwp hfl hlp g3 g4 g5
        have fq : zfr fEd m mp := zfr_tr (zfr_sub hq1.2.1 (by decide)) (zfr_sub fp (by decide))
        have hst : mp aM f_status = 0 := (zfr_at fp (by decide)).trans hq1.2.2
        refine z_aload_n dX12_move_107 rfl ?_
        refine z_iload_n dX12_move_108 rfl ?_
        refine z_callV mlX12_335 dX12_move_109 (sh_M hE) (av := [_]) rfl rfl (Nat.le_of_ble_eq_true rfl) (r_firstOf _ hE hmp pl hwp (by omega) (by rw [gc, eN_2]; omega)) (Nat.le_refl _) (Nat.le_refl _) (Nat.le_refl _) (Nat.le_refl _) ?_
        rintro _ _ ⟨rfl, rfl⟩
        refine z_iret dX12_move_112 rfl rfl ?_
        have eS : sMove (mT m) p pl = 0 := by unfold sMove; rw [if_neg (by omega), if_neg (by omega), if_neg (by omega)]
        rw [eS]
        refine ⟨?_, hIp, fq, hst, fun _ => ⟨gc, g5⟩, fun h => absurd rfl h⟩
        rw [if_pos rfl]
      · refine z_iconst dX12_move_38 (by decide) ?_
        refine z_goto (tgt := 43) dX12_move_39 rfl ?_
        refine z_callV mlX12_310 dX12_move_43 (sh_M hE) (av := [_]) rfl rfl (Nat.le_of_ble_eq_true rfl) (r_is _ hE hm _) (Nat.le_refl _) (Nat.le_refl _) (Nat.le_refl _) (Nat.le_refl _) ?_
        rintro _ m1 ⟨rfl, e1⟩
        have hq1 : mQ m m1 4 := e1 ▸ mQ_is hq0
        have hI1 := hq1.1
        have hm1 := hI1.1.1
        have eT1 := mQ_T hq1
        have ec1 : m1 a_c = m a_c := congrArg (fun q => q.1) eT1
        have ec21 : m1 a_c 2 = m a_c 2 := congrFun ec1 2
        have ew1 : m1 a_what = m a_what := congrArg (fun q => q.2.1) eT1
        have ep1 : m1 a_pointOf = m a_pointOf := congrArg (fun q => q.2.2.1) eT1
        have en1 : m1 aM f_letters = m aM f_letters := congrArg (fun q => q.2.2.2) eT1
        obtain ⟨hw1, hl1, hn1⟩ := mI_wl hI1
        refine z_ifz_ne (tgt := 51) dX12_move_46 rfl (fun h => absurd h (by decide)) (fun h46 => ?_)
        refine z_iconst dX12_move_49 (by decide) ?_
        refine z_iret dX12_move_50 rfl rfl ?_
        have eS : sMove (mT m) p pl = 4 := by unfold sMove; rw [if_neg (by omega), if_neg (by omega), if_pos (by omega)]
        rw [eS]
        exact ⟨rfl, hI1, zfr_sub hq1.2.1 (by decide), hq1.2.2, fun h => absurd h (by decide), fun _ => ⟨eT1, zfr_cell hq1.2.1 (by decide)⟩⟩
    · refine z_iconst dX12_move_29 (by decide) ?_
      refine z_goto (tgt := 43) dX12_move_30 rfl ?_
      refine z_callV mlX12_310 dX12_move_43 (sh_M hE) (av := [_]) rfl rfl (Nat.le_of_ble_eq_true rfl) (r_is _ hE hm _) (Nat.le_refl _) (Nat.le_refl _) (Nat.le_refl _) (Nat.le_refl _) ?_
      rintro _ m1 ⟨rfl, e1⟩
      have hq1 : mQ m m1 2 := e1 ▸ mQ_is hq0
      have hI1 := hq1.1
      have hm1 := hI1.1.1
      have eT1 := mQ_T hq1
      have ec1 : m1 a_c = m a_c := congrArg (fun q => q.1) eT1
      have ec21 : m1 a_c 2 = m a_c 2 := congrFun ec1 2
      have ew1 : m1 a_what = m a_what := congrArg (fun q => q.2.1) eT1
      have ep1 : m1 a_pointOf = m a_pointOf := congrArg (fun q => q.2.2.1) eT1
      have en1 : m1 aM f_letters = m aM f_letters := congrArg (fun q => q.2.2.2) eT1
      obtain ⟨hw1, hl1, hn1⟩ := mI_wl hI1
      refine z_ifz_ne (tgt := 51) dX12_move_46 rfl (fun h => absurd h (by decide)) (fun h46 => ?_)
      refine z_iconst dX12_move_49 (by decide) ?_
      refine z_iret dX12_move_50 rfl rfl ?_
      have eS : sMove (mT m) p pl = 2 := by unfold sMove; rw [if_neg (by omega), if_pos (by omega)]
      rw [eS]
      exact ⟨rfl, hI1, zfr_sub hq1.2.1 (by decide), hq1.2.2, fun h => absurd h (by decide), fun _ => ⟨eT1, zfr_cell hq1.2.1 (by decide)⟩⟩
  · refine z_iconst dX12_move_17 (by decide) ?_
    refine z_goto (tgt := 43) dX12_move_18 rfl ?_
    refine z_callV mlX12_310 dX12_move_43 (sh_M hE) (av := [_]) rfl rfl (Nat.le_of_ble_eq_true rfl) (r_is _ hE hm _) (Nat.le_refl _) (Nat.le_refl _) (Nat.le_refl _) (Nat.le_refl _) ?_
    rintro _ m1 ⟨rfl, e1⟩
    have hq1 : mQ m m1 1 := e1 ▸ mQ_is hq0
    have hI1 := hq1.1
    have hm1 := hI1.1.1
    have eT1 := mQ_T hq1
    have ec1 : m1 a_c = m a_c := congrArg (fun q => q.1) eT1
    have ec21 : m1 a_c 2 = m a_c 2 := congrFun ec1 2
    have ew1 : m1 a_what = m a_what := congrArg (fun q => q.2.1) eT1
    have ep1 : m1 a_pointOf = m a_pointOf := congrArg (fun q => q.2.2.1) eT1
    have en1 : m1 aM f_letters = m aM f_letters := congrArg (fun q => q.2.2.2) eT1
    obtain ⟨hw1, hl1, hn1⟩ := mI_wl hI1
    refine z_ifz_ne (tgt := 51) dX12_move_46 rfl (fun h => absurd h (by decide)) (fun h46 => ?_)
    refine z_iconst dX12_move_49 (by decide) ?_
    refine z_iret dX12_move_50 rfl rfl ?_
    have eS : sMove (mT m) p pl = 1 := by unfold sMove; rw [if_pos (by omega)]
    rw [eS]
    exact ⟨rfl, hI1, zfr_sub hq1.2.1 (by decide), hq1.2.2, fun h => absurd h (by decide), fun _ => ⟨eT1, zfr_cell hq1.2.1 (by decide)⟩⟩
