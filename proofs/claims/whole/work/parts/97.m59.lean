def fLq : List (Int × Option Int) := (aM, some f_thrown) :: (aM, some f_status) :: (aM, some f_wide) :: fBt
def fLnL : List (Int × Option Int) := fPr ++ fQ ++ fW2
noncomputable def tLc (T : zT) (td : Int → Int) (w : Nat) : Int := sLeast (-1) (sPlc (T.1 2).toNat (cAlike T.1) (sV T.1 td w) (T.1 2).toNat 0 0 (fun _ => 0))
def pLins (K : zK) (c : Int → Int) (n : Int) : Nat → (Int → Int) → Int → Int → zPq
  | 0, td, w, p => (0, 0, td, w, p)
  | j + 1, td, w, p => if kSo K p = 0 then (0, 0, td, w, p) else if (pLin K c n td w p).1 ≠ 0 then pLin K c n td w p else pLins K c n j (pLin K c n td w p).2.2.1 (pLin K c n td w p).2.2.2.1 (pLin K c n td w p).2.2.2.2
theorem pLins_s (K : zK) (c : Int → Int) (n : Int) (j : Nat) (td : Int → Int) (w p : Int) : pLins K c n (j + 1) td w p = if kSo K p = 0 then (0, 0, td, w, p) else if (pLin K c n td w p).1 ≠ 0 then pLin K c n td w p else pLins K c n j (pLin K c n td w p).2.2.1 (pLin K c n td w p).2.2.2.1 (pLin K c n td w p).2.2.2.2 := rfl
theorem kCd_ok {c : Int → Int} {K : zK} {p f t : Int} (hw : wfC c) (hf : 0 ≤ f ∧ f < c 2) (ht : 0 ≤ t ∧ t < c 2) (hs : ¬ kSrt K c p < 0) : cCodeOk c (kCd c f t (kSrt K c p)) = true := by
  have b1 := hw.1
  have b2 := hw.2.1
  have b3 := hw.2.2.1
  have hr := kSrt_rg (K := K) (p := p) hw
  have hss : (kSrt K c p < 6 → kSrt K c p < c 0) ∧ (6 ≤ kSrt K c p → kSrt K c p - 6 < c 1) := by
    unfold kSrt at hs ⊢
    by_cases s1 : kSz K p = 1
    · rw [if_pos s1] at hs ⊢
      have := cFld_rg b1 (show 0 ≤ cFld c (kW K p) by omega)
      omega
    · rw [if_neg s1] at hs ⊢
      by_cases s2 : kSz K p = 2
      · rw [if_pos s2] at hs ⊢
        by_cases s3 : 0 ≤ cMx c (kW K p)
        · rw [if_pos s3]
          unfold cMx at s3 ⊢
          rcases zfst_ge (p := fun x => decide (kW K p = 27 * c (4 + 3 * c (24 + 2 * x)) + c (4 + 3 * c (24 + 2 * x + 1)))) (j := (c 1).toNat) (k := 0) (by omega) with ⟨e, _⟩ | ⟨e1, e2, e3, e4⟩
          · omega
          · omega
        · rw [if_neg s3] at hs; omega
      · rw [if_neg s2] at hs; omega
  generalize kSrt K c p = s at hs hr hss ⊢
  rw [cCodeOk_iff]
  unfold kCd
  by_cases e : t < f ∧ (s < 6 ∧ c (4 + 3 * s + 1) ≠ 1)
  · rw [if_pos e, show (100 * t + 10 * f + s) / 100 = t by omega, show (100 * t + 10 * f + s) / 10 % 10 = f by omega, show (100 * t + 10 * f + s) % 10 = s by omega, if_neg (by omega)]
    omega
  · rw [if_neg e, show (100 * f + 10 * t + s) / 100 = f by omega, show (100 * f + 10 * t + s) / 10 % 10 = t by omega, show (100 * f + 10 * t + s) % 10 = s by omega]
    refine ⟨by omega, by omega, by omega, ?_⟩
    by_cases q : 6 ≤ s
    · rw [if_pos q]; exact hss.2 q
    · rw [if_neg q]
      refine ⟨hss.1 (by omega), ?_⟩
      by_cases q2 : c (4 + 3 * s + 1) = 1
      · exact Or.inl q2
      · right
        by_cases q3 : t < f
        · exact absurd ⟨q3, by omega, q2⟩ e
        · omega
theorem pLin_ok {K : zK} {c : Int → Int} {n : Int} {td : Int → Int} {w p : Int} (hk : kOk K) (hw : wfC c) : 0 ≤ (pLin K c n td w p).1 ∧ ((pLin K c n td w p).1 = 0 → (p + 1 ≤ (pLin K c n td w p).2.2.2.2 ∧ (pLin K c n td w p).2.2.2.1 = w + 1 ∧ w < n / 2 ∧ ∃ v, cCodeOk c v = true ∧ (pLin K c n td w p).2.2.1 = eU td w v)) := by
  have g1 := kR_ge (p := p) hk
  have g2 := kR_ge (p := kR K p) hk
  have g3 := kR_ge (p := kR K (kR K p)) hk
  have g4 := kR_ge (p := kR K (kR K (kR K p))) hk
  have g5 := kR_ge (p := kR K (kR K (kR K (kR K p)))) hk
  unfold pLin
  generalize kR K p = p1 at g1 g2 g3 g4 g5 ⊢
  generalize kR K p1 = p2 at g2 g3 g4 g5 ⊢
  generalize kR K p2 = p3 at g3 g4 g5 ⊢
  generalize kR K p3 = p4 at g4 g5 ⊢
  generalize kR K p4 = p5 at g5 ⊢
  by_cases a1 : ¬ kSo K p = 2
  · rw [if_pos a1]; exact ⟨kMis_nn, fun h => absurd h kMis_ne⟩
  rw [if_neg a1]
  by_cases a2 : ¬ kN K p < c 2
  · rw [if_pos a2]; exact ⟨by show (0 : Int) ≤ 3; decide, fun h => absurd (show (3 : Int) = 0 from h) (by decide)⟩
  rw [if_neg a2]
  by_cases hwn : n / 2 ≤ w
  · rw [if_pos hwn]; exact ⟨by show (0 : Int) ≤ 6; decide, fun h => absurd (show (6 : Int) = 0 from h) (by decide)⟩
  rw [if_neg hwn]
  by_cases a6 : ¬ (kSn K p1 62 ∨ kSn K p1 45)
  · rw [if_pos a6]; exact ⟨kMis_nn, fun h => absurd h kMis_ne⟩
  rw [if_neg a6]
  by_cases a3 : ¬ kSo K p2 = 2
  · rw [if_pos a3]; exact ⟨kMis_nn, fun h => absurd h kMis_ne⟩
  rw [if_neg a3]
  by_cases a4 : ¬ kN K p2 < c 2
  · rw [if_pos a4]; exact ⟨by show (0 : Int) ≤ 3; decide, fun h => absurd (show (3 : Int) = 0 from h) (by decide)⟩
  rw [if_neg a4]
  by_cases a7 : ¬ kSo K p3 = 1
  · rw [if_pos a7]; exact ⟨kMis_nn, fun h => absurd h kMis_ne⟩
  rw [if_neg a7]
  by_cases a5 : kSrt K c p3 < 0
  · rw [if_pos a5]; exact ⟨by show (0 : Int) ≤ 3; decide, fun h => absurd (show (3 : Int) = 0 from h) (by decide)⟩
  rw [if_neg a5]
  by_cases a8 : ¬ zb (kSrt K c p3 < 6 ∧ c (4 + 3 * kSrt K c p3 + 1) = 1) = zb (kSn K p1 62)
  · rw [if_pos a8]; exact ⟨by show (0 : Int) ≤ 4; decide, fun h => absurd (show (4 : Int) = 0 from h) (by decide)⟩
  rw [if_neg a8]
  by_cases a9 : ¬ kSn K p4 59
  · rw [if_pos a9]; exact ⟨kMis_nn, fun h => absurd h kMis_ne⟩
  rw [if_neg a9]
  have n1 := kN_rg (Decidable.not_not.mp a1)
  have n2 := kN_rg (Decidable.not_not.mp a3)
  exact ⟨Int.le_refl _, fun _ => ⟨by show p + 1 ≤ p5; omega, rfl, by omega, _, kCd_ok hw ⟨n1.1, Decidable.not_not.mp a2⟩ ⟨n2.1, Decidable.not_not.mp a4⟩ a5, rfl⟩⟩
theorem pLins_ok {K : zK} {c : Int → Int} {n : Int} (hk : kOk K) (hw : wfC c) : ∀ (j : Nat) (td : Int → Int) (w p : Int), 0 ≤ (pLins K c n j td w p).1 ∧ ((pLins K c n j td w p).1 = 0 → 0 ≤ w → w ≤ 0 ∨ w ≤ n / 2 → (∀ i, 0 ≤ i → i < w → cCodeOk c (td i) = true) → (0 ≤ (pLins K c n j td w p).2.2.2.1 ∧ ((pLins K c n j td w p).2.2.2.1 ≤ 0 ∨ (pLins K c n j td w p).2.2.2.1 ≤ n / 2)) ∧ ∀ i, 0 ≤ i → i < (pLins K c n j td w p).2.2.2.1 → cCodeOk c ((pLins K c n j td w p).2.2.1 i) = true)
  | 0, td, w, p => ⟨Int.le_refl _, fun _ h1 h2 h3 => ⟨⟨h1, h2⟩, h3⟩⟩
  | j + 1, td, w, p => by
    rw [pLins_s]
    by_cases a : kSo K p = 0
    · rw [if_pos a]
      exact ⟨Int.le_refl _, fun _ h1 h2 h3 => ⟨⟨h1, h2⟩, h3⟩⟩
    rw [if_neg a]
    have ok := pLin_ok (K := K) (c := c) (n := n) (td := td) (w := w) (p := p) hk hw
    by_cases b : (pLin K c n td w p).1 ≠ 0
    · rw [if_pos b]
      exact ⟨ok.1, fun h => absurd h b⟩
    rw [if_neg b]
    obtain ⟨o1, o2, o3, v, o4, o5⟩ := ok.2 (Decidable.not_not.mp b)
    have ih := pLins_ok (n := n) hk hw j (pLin K c n td w p).2.2.1 (pLin K c n td w p).2.2.2.1 (pLin K c n td w p).2.2.2.2
    refine ⟨ih.1, fun h h1 h2 h3 => ih.2 h (by omega) (by omega) (fun i q0 q1 => ?_)⟩
    rw [o5]
    by_cases e : i = w
    · rw [e, eU_s]; exact o4
    · rw [eU_o e]; exact h3 i q0 (by omega)
def tLns (t : Int → Int) (T : zT) (td : Int → Int) (n : Int) : zPq := pLins (mV t n, n, 1) T.1 T.2.2.2 401 td 0 (kSk (mV t n, n, 1) 0)
noncomputable def sLns (t : Int → Int) (T : zT) (td : Int → Int) (tp n : Int) : Int := if ¬ (0 ≤ n ∧ n ≤ tp) then 1 else if (tLns t T td n).1 ≠ 0 then 9 else if 2 * (tLns t T td n).2.2.2.1 ≠ T.2.2.2 then 5 else if tIx T (tLc T (tLns t T td n).2.2.1 (tLns t T td n).2.2.2.1.toNat) < 0 then 5 else 0
theorem tLns_ok {t td : Int → Int} {T : zT} {n : Int} (hk : kOk (mV t n, n, 1)) (hw : wfC T.1) (hn : 0 ≤ T.2.2.2 ∧ T.2.2.2 ≤ 12) (h : (tLns t T td n).1 = 0) : (0 ≤ (tLns t T td n).2.2.2.1 ∧ (tLns t T td n).2.2.2.1 ≤ 6) ∧ ∀ k, 0 ≤ k → k < (tLns t T td n).2.2.2.1 → cCodeOk T.1 ((tLns t T td n).2.2.1 k) = true := by
  have g := (pLins_ok (n := T.2.2.2) hk hw 401 td 0 (kSk (mV t n, n, 1) 0)).2 h (Int.le_refl _) (Or.inl (Int.le_refl _)) (fun i q0 q1 => by omega)
  refine ⟨?_, g.2⟩
  have g1 := g.1
  unfold tLns
  omega
theorem l_lines_t (d : Nat) {E : zE} {P : Option zV → zM → Prop} (hE : shM E) (n : Int) : ∀ (j : Nat) (p : Int) (m : zM), mB m → m aM f_wrong = 0 → mTk m p → wfC (m a_c) → (0 ≤ m aM f_letters ∧ m aM f_letters ≤ 12) → (0 ≤ m aM f_wide ∧ m aM f_wide ≤ 6) → 401 ≤ p + j → (∀ m2, mPl2 m m2 (pLins (mK m) (m a_c) (m aM f_letters) j (m a_toldCodes) (m aM f_wide) p) → zA zX12_lines (d + 14) E E P 58 [zP aM, zI n, zN] [] m2 E) → zA zX12_lines (d + 14) E E P 37 [zP aM, zI n, zN] [] m E := by
  intro j
  induction j with
  | zero =>
    intro p m hB hw ht hwf hln hwd hj hP
    have hm := hB.1
    have hok := mK_ok hB.2.1
    have hz : kSo (mK m) p = 0 := Classical.byContradiction (fun h => by have h1 := kSo_lt hok h; have h2 := hB.2.1.2; have h3 : (mK m).2.1 = m aM f_end := rfl; omega)
    refine z_aload_n dX12_lines_37 rfl ?_
    refine z_gIv f_wrong rfl flX12_487 dX12_lines_38 (sh_M hE) rfl hw ?_
    refine z_if_ne (tgt := 58) dX12_lines_41 rfl (fun h => absurd h (by omega)) (fun h41 => ?_)
    refine z_aload_n dX12_lines_44 rfl ?_
    refine z_gIv f_sort rfl flX12_471 dX12_lines_45 (sh_M hE) rfl ht.2.2.2.1 ?_
    refine z_if_eq (tgt := 58) dX12_lines_48 rfl (fun h48 => ?_) (fun h => absurd hz h)
    exact hP m ⟨zfr_rf, hw, fun h => absurd rfl h, fun _ => ⟨rfl, rfl, ht⟩⟩
  | succ j ih =>
    intro p m hB hw ht hwf hln hwd hj hP
    have hm := hB.1
    have hok := mK_ok hB.2.1
    refine z_aload_n dX12_lines_37 rfl ?_
    refine z_gIv f_wrong rfl flX12_487 dX12_lines_38 (sh_M hE) rfl hw ?_
    refine z_if_ne (tgt := 58) dX12_lines_41 rfl (fun h => absurd h (by omega)) (fun h41 => ?_)
    refine z_aload_n dX12_lines_44 rfl ?_
    refine z_gIv f_sort rfl flX12_471 dX12_lines_45 (sh_M hE) rfl ht.2.2.2.1 ?_
    refine z_if_eq (tgt := 58) dX12_lines_48 rfl (fun h48 => ?_) (fun h48 => ?_)
    · rw [pLins_s, if_pos h48] at hP
      exact hP m ⟨zfr_rf, hw, fun h => absurd rfl h, fun _ => ⟨rfl, rfl, ht⟩⟩
    · refine z_aload_n dX12_lines_51 rfl ?_
      refine z_callV mlX12_557 dX12_lines_52 (sh_M hE) (av := _) rfl rfl (Nat.le_of_ble_eq_true rfl) (x_readsLine _ hE hB hw p ht hwf hln hwd) (Nat.le_refl _) (Nat.le_refl _) (Nat.le_refl _) (Nat.le_refl _) ?_
      rintro _ m2 ⟨rfl, g⟩
      rw [pLins_s, if_neg h48] at hP
      have hok1 := pLin_ok (K := mK m) (c := m a_c) (n := m aM f_letters) (td := m a_toldCodes) (w := m aM f_wide) (p := p) hok hwf
      obtain ⟨r, er⟩ : ∃ r, r = (pLin (mK m) (m a_c) (m aM f_letters) (m a_toldCodes) (m aM f_wide) p) := ⟨_, rfl⟩
      rw [← er] at g hP hok1
      obtain ⟨z2, hw2, g2, g3⟩ := g
      have hB2 := mB_fr hB (zfr_sub z2 (by decide))
      have hm2 : ptM m2 := hB2.1
      have hK2 : mK m2 = mK m := mK_fr z2 (by decide)
      have c1 : m2 a_c = m a_c := zfr_cell z2 (by decide)
      have c4 : m2 aM f_letters = m aM f_letters := zfr_at z2 (by decide)
      by_cases e0 : r.1 = 0
      · obtain ⟨gm, gw, gt⟩ := g3 e0
        obtain ⟨o1, o2, o3, _⟩ := hok1.2 e0
        rw [if_neg (not_not_intro e0)] at hP
        refine z_goto (tgt := 37) dX12_lines_55 rfl ?_
        refine ih r.2.2.2.2 m2 hB2 (hw2.trans e0) gt (by rw [c1]; exact hwf) (by rw [c4]; exact hln) (by omega) (by omega) (fun m3 g3' => hP m3 ?_)
        rw [hK2, c1, c4, gm, gw] at g3'
        exact ⟨zfr_tr z2 g3'.1, g3'.2⟩
      · have hnn := hok1.1
        rw [if_pos e0] at hP
        refine z_goto (tgt := 37) dX12_lines_55 rfl ?_
        refine z_aload_n dX12_lines_37 rfl ?_
        refine z_gIv f_wrong rfl flX12_487 dX12_lines_38 (sh_M hE) rfl hw2 ?_
        refine z_if_ne (tgt := 58) dX12_lines_41 rfl (fun h41 => ?_) (fun h => absurd (by omega) h)
        exact hP m2 ⟨z2, hw2, fun _ => g2 e0, fun h => absurd h e0⟩

theorem l_lines_c (d : Nat) {E : zE} {m : zM} {P : Option zV → zM → Prop} (hE : shM E) (hm : ptM m) (n w : Int) (hw6 : 0 ≤ w ∧ w ≤ 6) (hwd : m aM f_wide = w)  : ∀ (j : Nat) (k : Int) (m1 : zM), (0 ≤ k) → (k + j = w) → (zfr [(a_codes, none)] m m1) → (∀ x, 0 ≤ x → x < k → m1 a_codes x = m a_toldCodes x) → (∀ m2, zfr [(a_codes, none)] m m2 → (∀ x, 0 ≤ x → x < w → m2 a_codes x = m a_toldCodes x) → zA zX12_lines (d + 14) E E P 130 [zP aM, zI n, zN] [] m2 E) → zA zX12_lines (d + 14) E E P 104 [zP aM, zI n, zI k] [] m1 E := by
  intro j
  induction j with
  | zero =>
    intro k m1 h0 hk hf hv hP
    have hm1 : ptM m1 := ptM_pr hm (zfr_sub hf (by decide))
    have hc : m1 a_toldCodes = m a_toldCodes := zfr_cell hf (by decide)
    have hn : m1 aM f_wide = w := (zfr_at hf (by decide)).trans hwd
    refine z_iload_n dX12_lines_104 rfl ?_
    refine z_aload_n dX12_lines_105 rfl ?_
    refine z_gIv f_wide rfl flX12_545 dX12_lines_106 (sh_M hE) rfl hn ?_
    refine z_icmp_ge (tgt := 130) dX12_lines_109 rfl (fun h109 => ?_) (fun h => absurd (by omega) h)
    refine zA_wk [_, _, zN] (by exact ⟨Or.inr rfl, Or.inr rfl, Or.inl rfl, trivial⟩) ?_
    exact hP m1 hf (fun x q0 q1 => hv x q0 (by omega))
  | succ j ih =>
    intro k m1 h0 hk hf hv hP
    have hm1 : ptM m1 := ptM_pr hm (zfr_sub hf (by decide))
    have hc : m1 a_toldCodes = m a_toldCodes := zfr_cell hf (by decide)
    have hn : m1 aM f_wide = w := (zfr_at hf (by decide)).trans hwd
    refine z_iload_n dX12_lines_104 rfl ?_
    refine z_aload_n dX12_lines_105 rfl ?_
    refine z_gIv f_wide rfl flX12_545 dX12_lines_106 (sh_M hE) rfl hn ?_
    refine z_icmp_ge (tgt := 130) dX12_lines_109 rfl (fun h => absurd h (by omega)) (fun h109 => ?_)
    refine z_aload_n dX12_lines_112 rfl ?_
    refine z_gP 18 rfl (r := a_codes) flX12_44 dX12_lines_113 (sh_M hE) rfl (pt_codes hm1) (by decide) ?_
    refine z_iload_n dX12_lines_116 rfl ?_
    refine z_aload_n dX12_lines_117 rfl ?_
    refine z_gP 53 rfl (r := a_toldCodes) flX12_108 dX12_lines_118 (sh_M hE) rfl (pt_toldCodes hm1) (by decide) ?_
    refine z_iload_n dX12_lines_121 rfl ?_
    refine z_iald dX12_lines_122 (sh_toldCodes hE) (by omega) (by omega) ?_
    refine z_iast dX12_lines_123 (sh_codes hE) (by omega) (by omega) ?_
    refine z_inc dX12_lines_124 rfl (by omega) ?_
    refine z_goto (tgt := 104) dX12_lines_127 rfl ?_
    try dsimp only [zs0, zsI, zsP, zsN, zsJ, zsS, zst2, Nat.reduceAdd]
    refine ih (k + 1) _ (by omega) (by omega) (zfr_ua hf (by decide)) (fun x q0 q1 => ?_) hP
    by_cases e : x = k
    · rw [e, zu_s, hc]
    · rw [zu_j e]; exact hv x q0 (by omega)

theorem q_lines (d : Nat) {E : zE} {m : zM} (hE : shM E) (hI : mI m) (n : Int) : zR zX12_lines (d + 14) [zP aM, zI n] m E E (fun r m' => r = some (zI (if sLns (m a_tape) (mT m) (m a_toldCodes) (m aM f_taped) n = 0 then tIx (mT m) (tLc (mT m) (tLns (m a_tape) (mT m) (m a_toldCodes) n).2.2.1 (tLns (m a_tape) (mT m) (m a_toldCodes) n).2.2.2.1.toNat) else -1)) ∧ mI m' ∧ zfr fLnL m m' ∧ m' aM f_status = sLns (m a_tape) (mT m) (m a_toldCodes) (m aM f_taped) n ∧ mT m' = mT m ∧ (sLns (m a_tape) (mT m) (m a_toldCodes) (m aM f_taped) n = 1 → m' aM f_taped = m aM f_taped ∧ m' aM f_faultKind = m aM f_faultKind ∧ m' aM f_faultAt = m aM f_faultAt) ∧ (sLns (m a_tape) (mT m) (m a_toldCodes) (m aM f_taped) n ≠ 1 → m' aM f_taped = 0 ∧ m' aM f_faultKind = (tLns (m a_tape) (mT m) (m a_toldCodes) n).1 ∧ m' aM f_faultAt = (if (tLns (m a_tape) (mT m) (m a_toldCodes) n).1 ≠ 0 then (tLns (m a_tape) (mT m) (m a_toldCodes) n).2.1 else -1))) := by
  have hm := hI.1.1
  have htp := hI.2.2.2.2.2.1
  obtain ⟨hw, hl, hn⟩ := mI_wl hI
  have hq0 := mQ_rf hI
  have eT0 : mT m = mT m := rfl
  have t4 : (mT m).2.2.2 = m aM f_letters := rfl
  have t0 : (mT m).1 0 = m a_c 0 := rfl
  have t1 : (mT m).1 1 = m a_c 1 := rfl
  have t2 : (mT m).1 2 = m a_c 2 := rfl
  have b1 := hw.1
  have b2 := hw.2.1
  have b3 := hw.2.2.1
  refine zR_go [zP aM, zI n, zN] (by decide +kernel) (Nat.le_of_ble_eq_true rfl) rfl rfl ?_
  refine z_aload_n dX12_lines_0 rfl ?_
  refine z_iload_n dX12_lines_1 rfl ?_
  refine z_iconst dX12_lines_2 (by decide) ?_
  refine z_aload_n dX12_lines_3 rfl ?_
  refine z_gI f_taped rfl flX12_447 dX12_lines_4 (sh_M hE) rfl ?_
  refine z_callS mlX12_140 dX12_lines_7 (av := [_, _, _]) rfl rfl (Nat.le_of_ble_eq_true rfl) (r_isIn _ hE hm n 0 _) (Nat.le_refl _) (Nat.le_refl _) (Nat.le_refl _) (Nat.le_refl _) ?_
  rintro _ _ ⟨rfl, rfl⟩
  refine z_ifz_eq (tgt := 17) dX12_lines_10 rfl (fun h10 => ?_) (fun h10 => ?_)
  · refine z_iconst dX12_lines_17 (by decide) ?_
    refine z_callV mlX12_310 dX12_lines_18 (sh_M hE) (av := [_]) rfl rfl (Nat.le_of_ble_eq_true rfl) (r_is _ hE hm _) (Nat.le_refl _) (Nat.le_refl _) (Nat.le_refl _) (Nat.le_refl _) ?_
    rintro _ m1 ⟨rfl, e1⟩
    have hq1 : mQ m m1 1 := e1 ▸ mQ_is hq0
    have hI1 := hq1.1
    have hm1 := hI1.1.1
    have eT1 := mQ_T hq1
    have ec1 : m1 a_c = m a_c := congrArg (fun q => q.1) eT1
    have ec21 : m1 a_c 2 = m a_c 2 := congrFun ec1 2
    have ew1 : m1 a_what = m a_what := congrArg (fun q => q.2.1) eT1
    have ep1 : m1 a_pointOf = m a_pointOf := congrArg (fun q => q.2.2.1) eT1
    have en1 : m1 aM f_letters = m aM f_letters := congrArg (fun q => q.2.2.2) eT1
    obtain ⟨hw1, hl1, hn1⟩ := mI_wl hI1
    refine z_ifz_ne (tgt := 26) dX12_lines_21 rfl (fun h => absurd h (by decide)) (fun h21 => ?_)
    refine z_iconst dX12_lines_24 (by decide) ?_
    refine z_iret dX12_lines_25 rfl rfl ?_
    have eS : sLns (m a_tape) (mT m) (m a_toldCodes) (m aM f_taped) n = 1 := by unfold sLns; rw [if_pos (by omega)]
    rw [eS]
    exact ⟨rfl, hI1, zfr_sub hq1.2.1 (by decide), hq1.2.2, eT1, fun _ => ⟨zfr_at hq1.2.1 (by decide), zfr_at hq1.2.1 (by decide), zfr_at hq1.2.1 (by decide)⟩, fun h => absurd rfl h⟩
  · refine z_iconst dX12_lines_13 (by decide) ?_
    refine z_goto (tgt := 18) dX12_lines_14 rfl ?_
    refine z_callV mlX12_310 dX12_lines_18 (sh_M hE) (av := [_]) rfl rfl (Nat.le_of_ble_eq_true rfl) (r_is _ hE hm _) (Nat.le_refl _) (Nat.le_refl _) (Nat.le_refl _) (Nat.le_refl _) ?_
    rintro _ m1 ⟨rfl, e1⟩
    have hq1 : mQ m m1 0 := e1 ▸ mQ_is hq0
    have hI1 := hq1.1
    have hm1 := hI1.1.1
    have eT1 := mQ_T hq1
    have ec1 : m1 a_c = m a_c := congrArg (fun q => q.1) eT1
    have ec21 : m1 a_c 2 = m a_c 2 := congrFun ec1 2
    have ew1 : m1 a_what = m a_what := congrArg (fun q => q.2.1) eT1
    have ep1 : m1 a_pointOf = m a_pointOf := congrArg (fun q => q.2.2.1) eT1
    have en1 : m1 aM f_letters = m aM f_letters := congrArg (fun q => q.2.2.2) eT1
    obtain ⟨hw1, hl1, hn1⟩ := mI_wl hI1
    refine z_ifz_ne (tgt := 26) dX12_lines_21 rfl (fun h21 => ?_) (fun h => absurd (by decide) h)
    refine z_aload_n dX12_lines_26 rfl ?_
    refine z_iconst dX12_lines_27 (by decide) ?_
    refine z_pI f_wide rfl (fpX12_545 _) dX12_lines_28 (sh_M hE) rfl ?_
    obtain ⟨m3, em3⟩ : ∃ x, x = zu m1 aM f_wide 0 := ⟨_, rfl⟩
    rw [← em3]
    have y3 : zfr fPr m m3 := by rw [em3, ← e1]; exact zfr_uj (zfr_uj (zfr_uj zfr_rf (by decide)) (by decide)) (by decide)
    have y3' : zfr fLq m m3 := by rw [em3, ← e1]; exact zfr_uj (zfr_uj (zfr_uj zfr_rf (by decide)) (by decide)) (by decide)
    have hm3 : ptM m3 := ptM_pr hm y3
    have gw3 : m3 aM f_wide = 0 := em3 ▸ zu_s
    have et3 : m3 a_tape = m a_tape := zfr_cell y3 (by decide)
    have hWd3 : mWd m3 := by unfold mWd; rw [zfr_cell (a := a_words) y3 (by decide)]; exact hI.2.2.2.2.2.2.2
    refine z_aload_n dX12_lines_31 rfl ?_
    refine z_iload_n dX12_lines_32 rfl ?_
    refine z_iconst dX12_lines_33 (by decide) ?_
    refine z_callV mlX12_532 dX12_lines_34 (sh_M hE) (av := [_, _]) rfl rfl (Nat.le_of_ble_eq_true rfl) (x_begins _ hE ⟨hm3, hWd3⟩ n 1 (by omega) (Or.inr rfl)) (Nat.le_refl _) (Nat.le_refl _) (Nat.le_refl _) (Nat.le_refl _) ?_
    rintro _ m4 ⟨rfl, z4, hB4, hw4, hK4, ht4⟩
    rw [et3] at hK4 ht4
    have hm4 : ptM m4 := hB4.1
    have y4 : zfr fPr m m4 := zfr_tr y3 (zfr_sub z4 (by decide))
    have eT4 : mT m4 = mT m := mT_fr y4 (by decide)
    have c1 : m4 a_c = m a_c := congrArg (fun q => q.1) eT4
    have c4 : m4 aM f_letters = m aM f_letters := congrArg (fun q => q.2.2.2) eT4
    have gw4 : m4 aM f_wide = 0 := (zfr_at z4 (by decide)).trans gw3
    have hok : kOk (mV (m a_tape) n, n, (1 : Int)) := hK4 ▸ mK_ok hB4.2.1
    have hsk := (kSk_ge (K := (mV (m a_tape) n, n, (1 : Int))) (k := 0) hok).1
    refine l_lines_t d hE n 401 (kSk (mV (m a_tape) n, n, (1 : Int)) 0) m4 hB4 hw4 ht4 (by rw [c1]; exact hw) (by rw [c4]; exact hn) (by rw [gw4]; decide) (by omega) (fun m5 g => ?_)
    rw [hK4, c1, c4, gw4, show m4 a_toldCodes = m a_toldCodes from zfr_cell (zfr_tr y3' (zfr_sub z4 (by decide)) : zfr fLq m m4) (by decide)] at g
    obtain ⟨z5, hw5, g4, g5⟩ := g
    have eRR : pLins (mV (m a_tape) n, n, (1 : Int)) (m a_c) (m aM f_letters) 401 (m a_toldCodes) 0 (kSk (mV (m a_tape) n, n, (1 : Int)) 0) = (tLns (m a_tape) (mT m) (m a_toldCodes) n) := rfl
    rw [eRR] at hw5 g4 g5
    have hRn : 0 ≤ (tLns (m a_tape) (mT m) (m a_toldCodes) n).1 := (pLins_ok hok hw 401 _ _ _).1
    have y5 : zfr fPr m m5 := zfr_tr y4 (zfr_sub z5 (by decide))
    have hm5 : ptM m5 := ptM_pr hm y5
    refine z_aload_n dX12_lines_58 rfl ?_
    refine z_callV mlX12_539 dX12_lines_59 (sh_M hE) (av := _) rfl rfl (Nat.le_of_ble_eq_true rfl) (x_ends _ hE ⟨hm5, trivial⟩) (Nat.le_refl _) (Nat.le_refl _) (Nat.le_refl _) (Nat.le_refl _) ?_
    rintro _ m6 ⟨rfl, q1, q2, q3, q4, q5⟩
    have y6 : zfr fPr m m6 := zfr_tr y5 (zfr_sub q1 (by decide))
    have hm6 : ptM m6 := ptM_pr hm y6
    have hw6 : m6 aM f_wrong = (tLns (m a_tape) (mT m) (m a_toldCodes) n).1 := (zfr_at q1 (by decide)).trans hw5
    have hI6 : mI m6 := mI_pr hI y6 (fun x hx => by rw [zfr_cell (a := a_mate) q1 (by decide), zfr_cell (a := a_mate) z5 (by decide), zfr_cell (a := a_mate) z4 (by decide), em3, zu_fn (by decide)]; exact hI1.1.2.2.2.2 x hx) (by rw [q2]; decide)
    have eT6 : mT m6 = mT m := mT_fr y6 (by decide)
    refine z_aload_n dX12_lines_62 rfl ?_
    refine z_gIv f_wrong rfl flX12_487 dX12_lines_63 (sh_M hE) rfl hw6 ?_
    refine z_if_le (tgt := 71) dX12_lines_66 rfl (fun h66 => ?_) (fun h66 => ?_)
    · have eR : (tLns (m a_tape) (mT m) (m a_toldCodes) n).1 = 0 := by omega
      have gw6 : m6 aM f_wide = (tLns (m a_tape) (mT m) (m a_toldCodes) n).2.2.2.1 := (zfr_at q1 (by decide)).trans (g5 eR).2.1
      obtain ⟨hwr, htd⟩ := tLns_ok hok hw hn eR
      refine z_aload_n dX12_lines_71 rfl ?_
      refine z_callV mlX12_273 dX12_lines_72 (sh_M hE) (av := _) rfl rfl (Nat.le_of_ble_eq_true rfl) (q_names _ hE hI6) (Nat.le_refl _) (Nat.le_refl _) (Nat.le_refl _) (Nat.le_refl _) ?_
      rintro _ m7 ⟨rfl, hI7, f7, hL7, hN7⟩
      have hm7 := hI7.1.1
      have y7 : zfr (fPr ++ fNames) m m7 := zfr_tr (zfr_sub y6 (by decide)) (zfr_sub f7 (by decide))
      have eT7 : mT m7 = mT m := (mT_fr f7 (by decide)).trans eT6
      have en7 : m7 aM f_letters = m aM f_letters := congrArg (fun q => q.2.2.2) eT7
      have gw7 : m7 aM f_wide = (tLns (m a_tape) (mT m) (m a_toldCodes) n).2.2.2.1 := (zfr_at f7 (by decide)).trans gw6
      have nD := mN_D hN7
      rw [eT7] at nD
      have hsi : sInc (m7 a_names) (tD (mT m)).length := by
        have hN7' := hN7
        obtain ⟨D, d1, d2, d3, _⟩ := hN7'
        have : D = (tD (mT m)).length := by have := nD.1; omega
        rw [← this]; exact d3
      have hnm : ∀ x : Int, 0 ≤ x → x < ((tD (mT m)).length : Int) → m7 a_names x = tNm (mT m) x := nD.2.2.1
      have gt7 : m7 a_toldCodes = (tLns (m a_tape) (mT m) (m a_toldCodes) n).2.2.1 := (zfr_cell f7 (by decide)).trans ((zfr_cell q1 (by decide)).trans (g5 eR).1)
      refine z_iconst dX12_lines_75 (by decide) ?_
      refine z_aload_n dX12_lines_76 rfl ?_
      refine z_gIv f_wide rfl flX12_545 dX12_lines_77 (sh_M hE) rfl gw7 ?_
      refine z_mul dX12_lines_80 (by omega) ?_
      refine z_aload_n dX12_lines_81 rfl ?_
      refine z_gIv f_letters rfl flX12_124 dX12_lines_82 (sh_M hE) rfl en7 ?_
      refine z_icmp_eq (tgt := 94) dX12_lines_85 rfl (fun h85 => ?_) (fun h85 => ?_)
      · have h2w : ¬ 2 * (tLns (m a_tape) (mT m) (m a_toldCodes) n).2.2.2.1 ≠ (mT m).2.2.2 := not_not_intro (by show _ = m aM f_letters; omega)
        refine z_aload_n dX12_lines_94 rfl ?_
        refine z_aload_n dX12_lines_95 rfl ?_
        refine z_gIv f_wide rfl flX12_545 dX12_lines_96 (sh_M hE) rfl gw7 ?_
        refine z_pI f_lines rfl (fpX12_197 _) dX12_lines_99 (sh_M hE) rfl ?_
        obtain ⟨m8, em8⟩ : ∃ x, x = zu m7 aM f_lines (tLns (m a_tape) (mT m) (m a_toldCodes) n).2.2.2.1 := ⟨_, rfl⟩
        rw [← em8]
        have f8 : zfr fW2 m7 m8 := em8 ▸ zfr_uj zfr_rf (by decide)
        have hm8 : ptM m8 := em8 ▸ ptM_j hm7 (by decide)
        have ln8 : m8 aM f_lines = (tLns (m a_tape) (mT m) (m a_toldCodes) n).2.2.2.1 := em8 ▸ zu_s
        have gw8 : m8 aM f_wide = (tLns (m a_tape) (mT m) (m a_toldCodes) n).2.2.2.1 := (zfr_at f8 (by decide)).trans gw7
        refine z_iconst dX12_lines_102 (by decide) ?_
        refine z_ist 2 dX12_lines_103 rfl (Nat.le_of_ble_eq_true rfl) ?_
        try dsimp only [zs0, zsI, zsP, zsN, zsJ, zsS, zst2, Nat.reduceAdd]
        refine l_lines_c d hE hm8 n (tLns (m a_tape) (mT m) (m a_toldCodes) n).2.2.2.1 hwr gw8 (tLns (m a_tape) (mT m) (m a_toldCodes) n).2.2.2.1.toNat 0 m8 (by omega) (by omega) zfr_rf (fun x q0 q1 => by omega) (fun m9 k1 k2 => ?_)
        have f9 : zfr fW2 m7 m9 := zfr_tr f8 (zfr_sub k1 (by decide))
        have hm9 : ptM m9 := ptM_pr hm8 (zfr_sub k1 (by decide))
        have ln9 : m9 aM f_lines = (tLns (m a_tape) (mT m) (m a_toldCodes) n).2.2.2.1 := (zfr_at k1 (by decide)).trans ln8
        have ec9 : m9 a_c = m a_c := (zfr_cell f9 (by decide)).trans (congrArg (fun q => q.1) eT7)
        have cd9 : ∀ x, 0 ≤ x → x < (tLns (m a_tape) (mT m) (m a_toldCodes) n).2.2.2.1 → m9 a_codes x = (tLns (m a_tape) (mT m) (m a_toldCodes) n).2.2.1 x := fun x q0 q1 => by rw [k2 x q0 q1, zfr_cell (a := a_toldCodes) f8 (by decide), gt7]
        have hpl9 : ∀ x : Int, 0 ≤ x → x < 8 → 0 ≤ m9 a_places x ∧ m9 a_places x < 8 := by rw [zfr_cell (a := a_places) k1 (by decide), em8, zu_fn (by decide)]; exact hI7.2.2.2.1
        have dg9 : m9 aM f_diagrams = ((tD (mT m)).length : Int) := (zfr_at f9 (by decide)).trans nD.1
        refine z_aload_n dX12_lines_130 rfl ?_
        refine z_gP 28 rfl (r := a_names) flX12_63 dX12_lines_131 (sh_M hE) rfl (pt_names hm9) (by decide) ?_
        refine z_aload_n dX12_lines_134 rfl ?_
        refine z_gIv f_diagrams rfl flX12_266 dX12_lines_135 (sh_M hE) rfl dg9 ?_
        refine z_aload_n dX12_lines_138 rfl ?_
        refine z_ldc2 dX12_lines_139 kcX12_241 (by decide) ?_
        refine z_callV mlX12_262 dX12_lines_142 (sh_M hE) (av := [_]) rfl rfl (Nat.le_of_ble_eq_true rfl) (by have h := r_leastOf (d + 1) hE hm9 (by rw [ec9]; exact hw) (by rw [ln9]; exact hwr) (fun k q0 q1 => by rw [ln9] at q1; rw [cd9 k q0 q1, ec9]; have hc := cCodeOk_rg hw (htd k q0 q1); omega) hpl9 (-1); rw [ec9, ln9, sV_co (co' := (tLns (m a_tape) (mT m) (m a_toldCodes) n).2.2.1) (fun i q0 q1 => cd9 i q0 (by omega))] at h; exact h) (Nat.le_refl _) (Nat.le_refl _) (Nat.le_refl _) (Nat.le_refl _) ?_
        rintro _ m10 ⟨rfl, l1, l2, l3⟩
        have f10 : zfr fW2 m7 m10 := zfr_tr f9 (zfr_sub l1 (by decide))
        have hI10 : mI m10 := mI_fr2 hI7 f10 l3
        have hm10 : ptM m10 := hI10.1.1
        have eT10 : mT m10 = mT m := (mT_fr f10 (by decide)).trans eT7
        have en10 : m10 a_names = m7 a_names := zfr_cell f10 (by decide)
        refine z_callS mlX12_269 dX12_lines_145 (av := [_, _, _]) rfl rfl (Nat.le_of_ble_eq_true rfl) (r_placeIn _ a_names 10395 (sh_names hE) (tD (mT m)).length (by omega) (by omega) (tLc (mT m) (tLns (m a_tape) (mT m) (m a_toldCodes) n).2.2.1 (tLns (m a_tape) (mT m) (m a_toldCodes) n).2.2.2.1.toNat) (by rw [en10]; exact fun i j q1 q2 q3 => sInc_le hsi q1 q2 q3)) (Nat.le_refl _) (Nat.le_refl _) (Nat.le_refl _) (Nat.le_refl _) ?_
        rintro _ _ ⟨x, rfl, rfl, hx⟩
        rw [en10] at hx
        have hxI : x = tIx (mT m) (tLc (mT m) (tLns (m a_tape) (mT m) (m a_toldCodes) n).2.2.1 (tLns (m a_tape) (mT m) (m a_toldCodes) n).2.2.2.1.toNat) := by
          unfold tIx
          rcases hx with ⟨x1, x2⟩ | ⟨x1, x2, x3⟩
          · rw [x1]
            exact (zfst_none (fun i hi => by rw [decide_eq_false_iff_not, ← hnm i (by omega) (by omega)]; exact x2 i (by omega) (by omega))).symm
          · obtain ⟨y, rfl⟩ : ∃ y : Nat, x = y := ⟨x.toNat, by omega⟩
            refine (zfst_at (fun i hi => ?_) (by rw [decide_eq_true_eq, ← hnm y (by omega) (by omega)]; exact x3) (by omega)).symm
            rw [decide_eq_false_iff_not]
            intro e
            rw [hnm y (by omega) (by omega)] at x3
            have := lf_inj (sSet_rise _) (show (0 : Int) ≤ i by omega) (show (i : Int) < ((tD (mT m)).length : Int) by omega) (show (0 : Int) ≤ y by omega) (show (y : Int) < ((tD (mT m)).length : Int) by omega) (e.trans x3.symm)
            omega
        have hxr : -1 ≤ x := by omega
        refine z_ist 2 dX12_lines_148 rfl (Nat.le_of_ble_eq_true rfl) ?_
        refine z_iload_n dX12_lines_149 rfl ?_
        try dsimp only [zs0, zsI, zsP, zsN, zsJ, zsS, zst2, Nat.reduceAdd]
        refine z_if_ge (tgt := 161) dX12_lines_150 rfl (fun h150 => ?_) (fun h150 => ?_)
        · refine z_iload_n dX12_lines_161 rfl ?_
          refine z_iret dX12_lines_162 rfl rfl ?_
          have eS : sLns (m a_tape) (mT m) (m a_toldCodes) (m aM f_taped) n = 0 := by unfold sLns; rw [if_neg (by omega), if_neg (not_not_intro eR), if_neg h2w, if_neg (by omega)]
          rw [eS]
          refine ⟨by rw [if_pos rfl, hxI], hI10, zfr_tr (zfr_sub y7 (by decide)) (zfr_sub f10 (by decide)), ?_, eT10, fun h => absurd h (by decide), fun _ => ⟨?_, ?_, ?_⟩⟩
          · rw [zfr_at (j := f_status) f10 (by decide), zfr_at (j := f_status) f7 (by decide), q5, if_neg (by omega)]
          · rw [zfr_at (j := f_taped) f10 (by decide), zfr_at (j := f_taped) f7 (by decide)]; exact q2
          · rw [zfr_at (j := f_faultKind) f10 (by decide), zfr_at (j := f_faultKind) f7 (by decide)]; exact q3.trans hw5
          · rw [zfr_at (j := f_faultAt) f10 (by decide), zfr_at (j := f_faultAt) f7 (by decide), q4, if_neg (by omega), if_neg (not_not_intro eR)]
        · refine z_aload_n dX12_lines_153 rfl ?_
          refine z_iconst dX12_lines_154 (by decide) ?_
          refine z_callV mlX12_426 dX12_lines_155 (sh_M hE) (av := [_]) rfl rfl (Nat.le_of_ble_eq_true rfl) (r_refuse _ hE hm10 5) (Nat.le_refl _) (Nat.le_refl _) (Nat.le_refl _) (Nat.le_refl _) ?_
          rintro _ _ ⟨rfl, rfl⟩
          refine z_goto (tgt := 162) dX12_lines_158 rfl ?_
          refine z_iret dX12_lines_162 rfl rfl ?_
          have e1 : x = -1 := by omega
          rw [e1] at hxI
          have eS : sLns (m a_tape) (mT m) (m a_toldCodes) (m aM f_taped) n = 5 := by unfold sLns; rw [if_neg (by omega), if_neg (not_not_intro eR), if_neg h2w, if_pos (by omega)]
          rw [eS]
          refine ⟨rfl, mI_fr hI10 (zfr_uj zfr_rf (by decide)), zfr_uj (zfr_tr (zfr_sub y7 (by decide)) (zfr_sub f10 (by decide))) (by decide), zu_s, (mT_fr (zfr_uj zfr_rf (by decide) : zfr fFree m10 _) (by decide)).trans eT10, fun h => absurd h (by decide), fun _ => ⟨?_, ?_, ?_⟩⟩
          · rw [zu_j (by decide), zfr_at (j := f_taped) f10 (by decide), zfr_at (j := f_taped) f7 (by decide)]; exact q2
          · rw [zu_j (by decide), zfr_at (j := f_faultKind) f10 (by decide), zfr_at (j := f_faultKind) f7 (by decide)]; exact q3.trans hw5
          · rw [zu_j (by decide), zfr_at (j := f_faultAt) f10 (by decide), zfr_at (j := f_faultAt) f7 (by decide), q4, if_neg (by omega), if_neg (not_not_intro eR)]
      · have h2w : 2 * (tLns (m a_tape) (mT m) (m a_toldCodes) n).2.2.2.1 ≠ (mT m).2.2.2 := by show _ ≠ m aM f_letters; omega
        refine z_aload_n dX12_lines_88 rfl ?_
        refine z_iconst dX12_lines_89 (by decide) ?_
        refine z_callV mlX12_426 dX12_lines_90 (sh_M hE) (av := [_]) rfl rfl (Nat.le_of_ble_eq_true rfl) (r_refuse _ hE hm7 5) (Nat.le_refl _) (Nat.le_refl _) (Nat.le_refl _) (Nat.le_refl _) ?_
        rintro _ _ ⟨rfl, rfl⟩
        refine z_iret dX12_lines_93 rfl rfl ?_
        have eS : sLns (m a_tape) (mT m) (m a_toldCodes) (m aM f_taped) n = 5 := by unfold sLns; rw [if_neg (by omega), if_neg (not_not_intro eR), if_pos h2w]
        rw [eS]
        refine ⟨rfl, mI_fr hI7 (zfr_uj zfr_rf (by decide)), zfr_uj (zfr_tr (zfr_sub y6 (by decide)) (zfr_sub f7 (by decide))) (by decide), zu_s, (mT_fr (zfr_uj zfr_rf (by decide) : zfr fFree m7 _) (by decide)).trans eT7, fun h => absurd h (by decide), fun _ => ⟨?_, ?_, ?_⟩⟩
        · rw [zu_j (by decide), zfr_at (j := f_taped) f7 (by decide)]; exact q2
        · rw [zu_j (by decide), zfr_at (j := f_faultKind) f7 (by decide)]; exact q3.trans hw5
        · rw [zu_j (by decide), zfr_at (j := f_faultAt) f7 (by decide), q4, if_neg (by omega), if_neg (not_not_intro eR)]
    · have eR : ¬ (tLns (m a_tape) (mT m) (m a_toldCodes) n).1 = 0 := by omega
      refine z_iconst dX12_lines_69 (by decide) ?_
      refine z_iret dX12_lines_70 rfl rfl ?_
      have eS : sLns (m a_tape) (mT m) (m a_toldCodes) (m aM f_taped) n = 9 := by unfold sLns; rw [if_neg (by omega), if_pos eR]
      rw [eS]
      exact ⟨rfl, hI6, zfr_sub y6 (by decide), by rw [q5, if_pos (by omega)], eT6, fun h => absurd h (by decide), fun _ => ⟨q2, q3.trans hw5, by rw [q4, if_pos (by omega), if_pos eR]; exact g4 eR⟩⟩
