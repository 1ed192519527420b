def cMx (c : Int → Int) (v : Int) : Int := zfst (fun x => decide (v = 27 * c (4 + 3 * c (24 + 2 * x)) + c (4 + 3 * c (24 + 2 * x + 1)))) (c 1).toNat 0
/-- the sort that a word tells; none -/
def kSrt (K : zK) (c : Int → Int) (p : Int) : Int := if kSz K p = 1 then cFld c (kW K p) else if kSz K p = 2 then (if 0 ≤ cMx c (kW K p) then 6 + cMx c (kW K p) else -1) else -1
theorem cFld_no {c : Int → Int} {v : Int} (h : ¬ 0 ≤ cFld c v) : cFld c v = -1 := by
  unfold cFld at h ⊢
  rcases zfst_ge (p := fun f => decide (c (4 + 3 * f) = v)) (j := (c 0).toNat) (k := 0) (by omega) with ⟨e, _⟩ | ⟨e1, e2, e3, e4⟩
  · exact e
  · omega
theorem kSrt_rg {K : zK} {c : Int → Int} {p : Int} (hw : wfC c) : -1 ≤ kSrt K c p ∧ kSrt K c p < 10 := by
  have b1 := hw.1
  have b2 := hw.2.1
  unfold kSrt
  split
  · by_cases h : 0 ≤ cFld c (kW K p)
    · have := cFld_rg b1 h; omega
    · rw [cFld_no h]; decide
  · split
    · split
      · unfold cMx
        rcases zfst_ge (p := fun x => decide (kW K p = 27 * c (4 + 3 * c (24 + 2 * x)) + c (4 + 3 * c (24 + 2 * x + 1)))) (j := (c 1).toNat) (k := 0) (by omega) with ⟨e, _⟩ | ⟨e1, e2, e3, e4⟩
        · omega
        · omega
      · decide
    · decide
def kCd (c : Int → Int) (f t s : Int) : Int := if t < f ∧ (s < 6 ∧ c (4 + 3 * s + 1) ≠ 1) then 100 * t + 10 * f + s else 100 * f + 10 * t + s
theorem eU_t {m : zM} {c : Int → Int} {x v : Int} (h : m a_toldCodes = c) : zu m a_toldCodes x v a_toldCodes = eU c x v := by
  funext y
  by_cases e : y = x
  · rw [e, zu_s, eU_s]
  · rw [zu_j e, eU_o e, h]
def fTl : List (Int × Option Int) := [(aM, some f_place), (aM, some f_next), (aM, some f_sort), (aM, some f_word), (aM, some f_number), (aM, some f_size), (aM, some f_wrong), (aM, some f_wrongAt), (a_toldCodes, none), (aM, some f_wide)]
def mPl2 (m m' : zM) (r : zPq) : Prop := zfr fTl m m' ∧ m' aM f_wrong = r.1 ∧ (r.1 ≠ 0 → m' aM f_wrongAt = r.2.1) ∧ (r.1 = 0 → m' a_toldCodes = r.2.2.1 ∧ m' aM f_wide = r.2.2.2.1 ∧ mTk m' r.2.2.2.2)
/-- a line that is told -/
def pLin (K : zK) (c : Int → Int) (n : Int) (td : Int → Int) (w p : Int) : zPq :=
  if ¬ kSo K p = 2 then (kMis K p, p, td, w, p) else if ¬ kN K p < c 2 then (3, p, td, w, p) else if n / 2 ≤ w then (6, p, td, w, p)
  else if ¬ (kSn K (kR K p) 62 ∨ kSn K (kR K p) 45) then (kMis K (kR K p), kR K p, td, w, p)
  else if ¬ kSo K (kR K (kR K p)) = 2 then (kMis K (kR K (kR K p)), kR K (kR K p), td, w, p) else if ¬ kN K (kR K (kR K p)) < c 2 then (3, kR K (kR K p), td, w, p)
  else if ¬ kSo K (kR K (kR K (kR K p))) = 1 then (kMis K (kR K (kR K (kR K p))), kR K (kR K (kR K p)), td, w, p)
  else if kSrt K c (kR K (kR K (kR K p))) < 0 then (3, kR K (kR K (kR K p)), td, w, p)
  else if ¬ zb (kSrt K c (kR K (kR K (kR K p))) < 6 ∧ c (4 + 3 * kSrt K c (kR K (kR K (kR K p))) + 1) = 1) = zb (kSn K (kR K p) 62) then (4, kR K (kR K (kR K p)), td, w, p)
  else if ¬ kSn K (kR K (kR K (kR K (kR K p)))) 59 then (kMis K (kR K (kR K (kR K (kR K p)))), kR K (kR K (kR K (kR K p))), td, w, p)
  else (0, 0, eU td w (kCd c (kN K p) (kN K (kR K (kR K p))) (kSrt K c (kR K (kR K (kR K p))))), w + 1, kR K (kR K (kR K (kR K (kR K p)))))
theorem l_sortHere (d : Nat) {E : zE} {m : zM} {P : Option zV → zM → Prop} (hE : shM E) (hm : ptM m) (hB : mB m) (hw : m aM f_wrong = 0) (p : Int) (ht : mTk m p) (h1 : kSo (mK m) p = 1) (hwf : wfC (m a_c))  : ∀ (j : Nat) (f : Int), (0 ≤ f) → (f + j = m a_c 0) → ((kSz (mK m) p = 1 ∧ 0 ≤ zfst (fun f => decide (m a_c (4 + 3 * f) = kW (mK m) p)) j f) → P (some (zI (zfst (fun f => decide (m a_c (4 + 3 * f) = kW (mK m) p)) j f))) m) → (¬ (kSz (mK m) p = 1 ∧ 0 ≤ zfst (fun f => decide (m a_c (4 + 3 * f) = kW (mK m) p)) j f) → zA zX12_sortHere d E E P 47 [zP aM, zN] [] m E) → zA zX12_sortHere (d) E E P 2 [zP aM, zI f] [] m E := by
  intro j
  induction j with
  | zero =>
    intro f h0 hk hP1 hP2
    have b1 := hwf.1
    refine z_iload_n dX12_sortHere_2 rfl ?_
    refine z_aload_n dX12_sortHere_3 rfl ?_
    refine z_gP 0 rfl (r := a_c) flX12_7 dX12_sortHere_4 (sh_M hE) rfl (pt_c hm) (by decide) ?_
    refine z_iconst dX12_sortHere_7 (by decide) ?_
    refine z_iald dX12_sortHere_8 (sh_c hE) (by omega) (by omega) ?_
    refine z_icmp_ge (tgt := 47) dX12_sortHere_9 rfl (fun h9 => ?_) (fun h => absurd (by omega) h)
    refine zA_wk [_, zN] (by exact ⟨Or.inr rfl, Or.inl rfl, trivial⟩) ?_
    exact hP2 (fun h => absurd h.2 (by rw [zfst_0]; decide))
  | succ j ih =>
    intro f h0 hk hP1 hP2
    have b1 := hwf.1
    refine z_iload_n dX12_sortHere_2 rfl ?_
    refine z_aload_n dX12_sortHere_3 rfl ?_
    refine z_gP 0 rfl (r := a_c) flX12_7 dX12_sortHere_4 (sh_M hE) rfl (pt_c hm) (by decide) ?_
    refine z_iconst dX12_sortHere_7 (by decide) ?_
    refine z_iald dX12_sortHere_8 (sh_c hE) (by omega) (by omega) ?_
    refine z_icmp_ge (tgt := 47) dX12_sortHere_9 rfl (fun h => absurd h (by omega)) (fun h9 => ?_)
    refine z_aload_n dX12_sortHere_12 rfl ?_
    refine z_gIv f_size rfl flX12_484 dX12_sortHere_13 (sh_M hE) rfl ht.2.2.2.2.1 ?_
    refine z_iconst dX12_sortHere_16 (by decide) ?_
    refine z_icmp_ne (tgt := 41) dX12_sortHere_17 rfl (fun h17 => ?_) (fun h17 => ?_)
    · refine z_inc dX12_sortHere_41 rfl (by omega) ?_
      refine z_goto (tgt := 2) dX12_sortHere_44 rfl ?_
      try dsimp only [zs0, zsI, zsP, zsN, zsJ, zsS, zst2, Nat.reduceAdd]
      exact ih (f + 1) (by omega) (by omega) (fun h => absurd h.1 (by omega)) (fun _ => hP2 (fun h => absurd h.1 (by omega)))
    · refine z_aload_n dX12_sortHere_20 rfl ?_
      refine z_gJv f_word rfl flX12_474 dX12_sortHere_21 (sh_M hE) rfl (ht.2.2.2.2.2.1 h1) ?_
      refine z_aload_n dX12_sortHere_24 rfl ?_
      refine z_gP 0 rfl (r := a_c) flX12_7 dX12_sortHere_25 (sh_M hE) rfl (pt_c hm) (by decide) ?_
      refine z_iconst dX12_sortHere_28 (by decide) ?_
      refine z_iconst dX12_sortHere_29 (by decide) ?_
      refine z_iload_n dX12_sortHere_30 rfl ?_
      refine z_mul dX12_sortHere_31 (by omega) ?_
      refine z_add dX12_sortHere_32 (by omega) ?_
      refine z_iald dX12_sortHere_33 (sh_c hE) (by omega) (by omega) ?_
      refine z_i2l dX12_sortHere_34 ?_
      refine z_lcmp dX12_sortHere_35 ?_
      refine z_if_ne (tgt := 41) dX12_sortHere_36 rfl (fun h36 => ?_) (fun h36 => ?_)
      · refine z_inc dX12_sortHere_41 rfl (by omega) ?_
        refine z_goto (tgt := 2) dX12_sortHere_44 rfl ?_
        try dsimp only [zs0, zsI, zsP, zsN, zsJ, zsS, zst2, Nat.reduceAdd]
        have e : zfst (fun f => decide (m a_c (4 + 3 * f) = kW (mK m) p)) (j + 1) f = zfst (fun f => decide (m a_c (4 + 3 * f) = kW (mK m) p)) j (f + 1) := zfst_f (by rw [decide_eq_false_iff_not]; exact fun h => h36 (zcmp_eq.mpr h.symm))
        rw [e] at hP1 hP2
        exact ih (f + 1) (by omega) (by omega) hP1 hP2
      · refine z_iload_n dX12_sortHere_39 rfl ?_
        refine z_iret dX12_sortHere_40 rfl rfl ?_
        have e : zfst (fun f => decide (m a_c (4 + 3 * f) = kW (mK m) p)) (j + 1) f = f := zfst_t (by rw [decide_eq_true_eq]; exact (zcmp_eq.mp (Decidable.not_not.mp h36)).symm)
        rw [e] at hP1
        exact hP1 ⟨by omega, h0⟩

theorem l_sortHere_m (d : Nat) {E : zE} {m : zM} {P : Option zV → zM → Prop} (hE : shM E) (hm : ptM m) (hB : mB m) (hw : m aM f_wrong = 0) (p : Int) (ht : mTk m p) (h1 : kSo (mK m) p = 1) (hwf : wfC (m a_c))  : ∀ (j : Nat) (k : Int), (0 ≤ k) → (k + j = m a_c 1) → (P (some (zI (if kSz (mK m) p = 2 ∧ 0 ≤ zfst (fun x => decide (kW (mK m) p = 27 * m a_c (4 + 3 * m a_c (24 + 2 * x)) + m a_c (4 + 3 * m a_c (24 + 2 * x + 1)))) j k then 6 + zfst (fun x => decide (kW (mK m) p = 27 * m a_c (4 + 3 * m a_c (24 + 2 * x)) + m a_c (4 + 3 * m a_c (24 + 2 * x + 1)))) j k else -1))) m) → zA zX12_sortHere (d) E E P 49 [zP aM, zI k] [] m E := by
  intro j
  induction j with
  | zero =>
    intro k h0 hk hP
    have b1 := hwf.1
    have b2 := hwf.2.1
    refine z_iload_n dX12_sortHere_49 rfl ?_
    refine z_aload_n dX12_sortHere_50 rfl ?_
    refine z_gP 0 rfl (r := a_c) flX12_7 dX12_sortHere_51 (sh_M hE) rfl (pt_c hm) (by decide) ?_
    refine z_iconst dX12_sortHere_54 (by decide) ?_
    refine z_iald dX12_sortHere_55 (sh_c hE) (by omega) (by omega) ?_
    refine z_icmp_ge (tgt := 135) dX12_sortHere_56 rfl (fun h56 => ?_) (fun h => absurd (by omega) h)
    refine z_iconst dX12_sortHere_135 (by decide) ?_
    refine z_iret dX12_sortHere_136 rfl rfl ?_
    rw [if_neg (fun h => absurd h.2 (by rw [zfst_0]; decide))] at hP
    exact hP
  | succ j ih =>
    intro k h0 hk hP
    have b1 := hwf.1
    have b2 := hwf.2.1
    refine z_iload_n dX12_sortHere_49 rfl ?_
    refine z_aload_n dX12_sortHere_50 rfl ?_
    refine z_gP 0 rfl (r := a_c) flX12_7 dX12_sortHere_51 (sh_M hE) rfl (pt_c hm) (by decide) ?_
    refine z_iconst dX12_sortHere_54 (by decide) ?_
    refine z_iald dX12_sortHere_55 (sh_c hE) (by omega) (by omega) ?_
    refine z_icmp_ge (tgt := 135) dX12_sortHere_56 rfl (fun h => absurd h (by omega)) (fun h56 => ?_)
    refine z_aload_n dX12_sortHere_59 rfl ?_
    refine z_gIv f_size rfl flX12_484 dX12_sortHere_60 (sh_M hE) rfl ht.2.2.2.2.1 ?_
    refine z_iconst dX12_sortHere_63 (by decide) ?_
    refine z_icmp_ne (tgt := 129) dX12_sortHere_64 rfl (fun h64 => ?_) (fun h64 => ?_)
    · refine z_inc dX12_sortHere_129 rfl (by omega) ?_
      refine z_goto (tgt := 49) dX12_sortHere_132 rfl ?_
      try dsimp only [zs0, zsI, zsP, zsN, zsJ, zsS, zst2, Nat.reduceAdd]
      rw [if_neg (fun h => absurd h.1 (by omega))] at hP
      exact ih (k + 1) (by omega) (by omega) (by rw [if_neg (fun h => absurd h.1 (by omega))]; exact hP)
    · obtain ⟨⟨u1, u2⟩, u3, u4⟩ := hwf.2.2.2.2.1 k h0 (by omega)
      have v1 := (hwf.2.2.2.1 _ u1 u2).1
      have v2 := (hwf.2.2.2.1 _ u3 u4).1
      refine z_aload_n dX12_sortHere_67 rfl ?_
      refine z_gJv f_word rfl flX12_474 dX12_sortHere_68 (sh_M hE) rfl (ht.2.2.2.2.2.1 h1) ?_
      refine z_ldc2 dX12_sortHere_71 kcX12_477 (by decide) ?_
      refine z_aload_n dX12_sortHere_74 rfl ?_
      refine z_gP 0 rfl (r := a_c) flX12_7 dX12_sortHere_75 (sh_M hE) rfl (pt_c hm) (by decide) ?_
      refine z_iconst dX12_sortHere_78 (by decide) ?_
      refine z_iconst dX12_sortHere_79 (by decide) ?_
      refine z_aload_n dX12_sortHere_80 rfl ?_
      refine z_gP 0 rfl (r := a_c) flX12_7 dX12_sortHere_81 (sh_M hE) rfl (pt_c hm) (by decide) ?_
      refine z_bipush dX12_sortHere_84 rfl (by decide) ?_
      refine z_iconst dX12_sortHere_86 (by decide) ?_
      refine z_iload_n dX12_sortHere_87 rfl ?_
      refine z_mul dX12_sortHere_88 (by omega) ?_
      refine z_add dX12_sortHere_89 (by omega) ?_
      refine z_iald dX12_sortHere_90 (sh_c hE) (by omega) (by omega) ?_
      refine z_mul dX12_sortHere_91 (by omega) ?_
      refine z_add dX12_sortHere_92 (by omega) ?_
      refine z_iald dX12_sortHere_93 (sh_c hE) (by omega) (by omega) ?_
      refine z_i2l dX12_sortHere_94 ?_
      refine z_lmul' dX12_sortHere_95 (by omega) ?_
      refine z_aload_n dX12_sortHere_96 rfl ?_
      refine z_gP 0 rfl (r := a_c) flX12_7 dX12_sortHere_97 (sh_M hE) rfl (pt_c hm) (by decide) ?_
      refine z_iconst dX12_sortHere_100 (by decide) ?_
      refine z_iconst dX12_sortHere_101 (by decide) ?_
      refine z_aload_n dX12_sortHere_102 rfl ?_
      refine z_gP 0 rfl (r := a_c) flX12_7 dX12_sortHere_103 (sh_M hE) rfl (pt_c hm) (by decide) ?_
      refine z_bipush dX12_sortHere_106 rfl (by decide) ?_
      refine z_iconst dX12_sortHere_108 (by decide) ?_
      refine z_iload_n dX12_sortHere_109 rfl ?_
      refine z_mul dX12_sortHere_110 (by omega) ?_
      refine z_add dX12_sortHere_111 (by omega) ?_
      refine z_iconst dX12_sortHere_112 (by decide) ?_
      refine z_add dX12_sortHere_113 (by omega) ?_
      refine z_iald dX12_sortHere_114 (sh_c hE) (by omega) (by omega) ?_
      refine z_mul dX12_sortHere_115 (by omega) ?_
      refine z_add dX12_sortHere_116 (by omega) ?_
      refine z_iald dX12_sortHere_117 (sh_c hE) (by omega) (by omega) ?_
      refine z_i2l dX12_sortHere_118 ?_
      refine z_ladd' dX12_sortHere_119 (by omega) ?_
      refine z_lcmp dX12_sortHere_120 ?_
      refine z_if_ne (tgt := 129) dX12_sortHere_121 rfl (fun h121 => ?_) (fun h121 => ?_)
      · refine z_inc dX12_sortHere_129 rfl (by omega) ?_
        refine z_goto (tgt := 49) dX12_sortHere_132 rfl ?_
        try dsimp only [zs0, zsI, zsP, zsN, zsJ, zsS, zst2, Nat.reduceAdd]
        have e : zfst (fun x => decide (kW (mK m) p = 27 * m a_c (4 + 3 * m a_c (24 + 2 * x)) + m a_c (4 + 3 * m a_c (24 + 2 * x + 1)))) (j + 1) k = zfst (fun x => decide (kW (mK m) p = 27 * m a_c (4 + 3 * m a_c (24 + 2 * x)) + m a_c (4 + 3 * m a_c (24 + 2 * x + 1)))) j (k + 1) := zfst_f (by rw [decide_eq_false_iff_not]; exact fun h => h121 (zcmp_eq.mpr h))
        rw [e] at hP
        exact ih (k + 1) (by omega) (by omega) hP
      · refine z_bipush dX12_sortHere_124 rfl (by decide) ?_
        refine z_iload_n dX12_sortHere_126 rfl ?_
        refine z_add dX12_sortHere_127 (by omega) ?_
        refine z_iret dX12_sortHere_128 rfl rfl ?_
        have e : zfst (fun x => decide (kW (mK m) p = 27 * m a_c (4 + 3 * m a_c (24 + 2 * x)) + m a_c (4 + 3 * m a_c (24 + 2 * x + 1)))) (j + 1) k = k := zfst_t (by rw [decide_eq_true_eq]; exact zcmp_eq.mp (Decidable.not_not.mp h121))
        rw [e, if_pos ⟨by omega, h0⟩] at hP
        exact hP

theorem x_sortHere (d : Nat) {E : zE} {m : zM} (hE : shM E) (hB : mB m) (hw : m aM f_wrong = 0) (p : Int) (ht : mTk m p) (h1 : kSo (mK m) p = 1) (hwf : wfC (m a_c)) : zR zX12_sortHere (d) [zP aM] m E E (fun r m' => r = some (zI (kSrt (mK m) (m a_c) p)) ∧ m = m') := by
  have hm := hB.1
  refine zR_go [zP aM, zN] (by decide +kernel) (Nat.le_of_ble_eq_true rfl) rfl rfl ?_
  refine z_iconst dX12_sortHere_0 (by decide) ?_
  refine z_ist 1 dX12_sortHere_1 rfl (Nat.le_of_ble_eq_true rfl) ?_
  try dsimp only [zs0, zsI, zsP, zsN, zsJ, zsS, zst2, Nat.reduceAdd]
  have b1 := hwf.1
  have b2 := hwf.2.1
  refine l_sortHere d hE hm hB hw p ht h1 hwf (m a_c 0).toNat 0 (by omega) (by omega) (fun h => ⟨?_, rfl⟩) (fun hno => ?_)
  · unfold kSrt
    rw [if_pos h.1]
    rfl
  refine z_iconst dX12_sortHere_47 (by decide) ?_
  refine z_ist 1 dX12_sortHere_48 rfl (Nat.le_of_ble_eq_true rfl) ?_
  try dsimp only [zs0, zsI, zsP, zsN, zsJ, zsS, zst2, Nat.reduceAdd]
  refine l_sortHere_m d hE hm hB hw p ht h1 hwf (m a_c 1).toNat 0 (by omega) (by omega) ⟨?_, rfl⟩
  have e2 : (if kSz (mK m) p = 2 ∧ 0 ≤ zfst (fun x => decide (kW (mK m) p = 27 * m a_c (4 + 3 * m a_c (24 + 2 * x)) + m a_c (4 + 3 * m a_c (24 + 2 * x + 1)))) (m a_c 1).toNat 0 then 6 + zfst (fun x => decide (kW (mK m) p = 27 * m a_c (4 + 3 * m a_c (24 + 2 * x)) + m a_c (4 + 3 * m a_c (24 + 2 * x + 1)))) (m a_c 1).toNat 0 else -1) = kSrt (mK m) (m a_c) p := by
    unfold kSrt cMx
    by_cases s1 : kSz (mK m) p = 1
    · rw [if_pos s1, if_neg (fun h => absurd h.1 (by omega))]
      have := cFld_no (c := m a_c) (v := kW (mK m) p) (fun h => hno ⟨s1, h⟩)
      exact this.symm
    · rw [if_neg s1]
      by_cases s2 : kSz (mK m) p = 2
      · rw [if_pos s2]
        by_cases s3 : 0 ≤ zfst (fun x => decide (kW (mK m) p = 27 * m a_c (4 + 3 * m a_c (24 + 2 * x)) + m a_c (4 + 3 * m a_c (24 + 2 * x + 1)))) (m a_c 1).toNat 0
        · rw [if_pos ⟨s2, s3⟩, if_pos s3]
        · rw [if_neg (fun h => s3 h.2), if_neg s3]
      · rw [if_neg s2, if_neg (fun h => s2 h.1)]
  rw [e2]

theorem x_readsLine (d : Nat) {E : zE} {m : zM} (hE : shM E) (hB : mB m) (hw : m aM f_wrong = 0) (p : Int) (ht : mTk m p) (hwf : wfC (m a_c)) (hln : 0 ≤ m aM f_letters ∧ m aM f_letters ≤ 12) (hwd : 0 ≤ m aM f_wide ∧ m aM f_wide ≤ 6) : zR zX12_readsLine (d + 4) [zP aM] m E E (fun r m' => r = none ∧ mPl2 m m' (pLin (mK m) (m a_c) (m aM f_letters) (m a_toldCodes) (m aM f_wide) p)) := by
  have hb3 := hwf.2.2.1
  have hm := hB.1
  have hB0 := hB
  have hw0 := hw
  have ht0 := ht
  have hK0 : mK m = mK m := rfl
  have hn0 : m aM f_end = m aM f_end := rfl
  have hm0 := hm
  have hok := mK_ok hB.2.1
  have z0 : zfr fTl m m := zfr_rf
  have ha_c0 : m a_c = m a_c := rfl
  have ha_toldCodes0 : m a_toldCodes = m a_toldCodes := rfl
  have hletters0 : m aM f_letters = m aM f_letters := rfl
  have hwide0 : m aM f_wide = m aM f_wide := rfl
  refine zR_go [zP aM, zN, zN, zN, zN] (by decide +kernel) (Nat.le_of_ble_eq_true rfl) rfl rfl ?_
  refine z_aload_n dX12_readsLine_0 rfl ?_
  refine z_aload_n dX12_readsLine_1 rfl ?_
  refine z_gP 0 rfl (r := a_c) flX12_7 dX12_readsLine_2 (sh_M hE) rfl (pt_c hm) (by decide) ?_
  refine z_iconst dX12_readsLine_5 (by decide) ?_
  refine z_ialv dX12_readsLine_6 (sh_c hE) (by omega) (by omega) (congrFun ha_c0 2) ?_
  refine z_callV mlX12_542 dX12_readsLine_7 (sh_M hE) (av := [_]) rfl rfl (Nat.le_of_ble_eq_true rfl) (by have h := v_needs (d + 2) hE hB0 hw0 p ht0 (m a_c 2); rw [hK0] at h; exact h) (Nat.le_refl _) (Nat.le_refl _) (Nat.le_refl _) (Nat.le_refl _) ?_
  rintro _ m1 ⟨rfl, (⟨g1, i1, rfl⟩ | ⟨g1, i1, b1⟩ | ⟨g1, b1⟩)⟩
  · have kr7 := kN_rg g1
    refine z_aload_n dX12_readsLine_10 rfl ?_
    refine z_aload_n dX12_readsLine_11 rfl ?_
    refine z_gIv f_wide rfl flX12_545 dX12_readsLine_12 (sh_M hE) rfl hwide0 ?_
    refine z_aload_n dX12_readsLine_15 rfl ?_
    refine z_gIv f_letters rfl flX12_124 dX12_readsLine_16 (sh_M hE) rfl hletters0 ?_
    refine z_iconst dX12_readsLine_19 (by decide) ?_
    refine z_div dX12_readsLine_20 (by omega) (by omega) ?_
    refine z_icmp_ge (tgt := 28) dX12_readsLine_21 rfl (fun h21 => ?_) (fun h21 => ?_)
    · refine z_iconst dX12_readsLine_28 (by decide) ?_
      refine z_bipush dX12_readsLine_29 rfl (by decide) ?_
      refine z_callV mlX12_493 dX12_readsLine_31 (sh_M hE) (av := [_, _]) rfl rfl (Nat.le_of_ble_eq_true rfl) (x_mustK _ hE hB0 hw0 p ht0 6 (by decide)) (Nat.le_refl _) (Nat.le_refl _) (Nat.le_refl _) (Nat.le_refl _) ?_
      rintro _ m1 ⟨rfl, b1⟩
      have hB1 : mB m1 := b1 ▸ mB_bad hB0
      have hw1 : m1 aM f_wrong = 6 := b1 ▸ mBad_w
      have ha1 : m1 aM f_wrongAt = p := b1 ▸ mBad_a
      have z1 : zfr fTl m m1 := b1 ▸ zfr_uj (zfr_uj z0 (by decide)) (by decide)
      have hd1 : 0 < m1 aM f_wrong := by rw [hw1]; first | exact kMis_pos | decide
      have hm1 : ptM m1 := hB1.1
      have ha_c1 : m1 a_c = m a_c := b1 ▸ (zu_fn (by decide)).trans (zu_fn (by decide))
      have ha_toldCodes1 : m1 a_toldCodes = m a_toldCodes := b1 ▸ (zu_fn (by decide)).trans (zu_fn (by decide))
      have hletters1 : m1 aM f_letters = m aM f_letters := (b1 ▸ (zu_j (by decide)).trans (zu_j (by decide)) : m1 aM f_letters = m aM f_letters).trans hletters0
      have hwide1 : m1 aM f_wide = m aM f_wide := (b1 ▸ (zu_j (by decide)).trans (zu_j (by decide)) : m1 aM f_wide = m aM f_wide).trans hwide0
      refine z_aload_n dX12_readsLine_34 rfl ?_
      refine z_gI f_number rfl flX12_481 dX12_readsLine_35 (sh_M hE) rfl ?_
      refine z_ist 1 dX12_readsLine_38 rfl (Nat.le_of_ble_eq_true rfl) ?_
      refine z_aload_n dX12_readsLine_39 rfl ?_
      refine z_gIv f_wrong rfl flX12_487 dX12_readsLine_40 (sh_M hE) rfl hw1 ?_
      try dsimp only [zs0, zsI, zsP, zsN, zsJ, zsS, zst2, Nat.reduceAdd]
      refine z_if_ne (tgt := 50) dX12_readsLine_43 rfl (fun h43 => ?_) (fun h => absurd (by omega) h)
      refine z_aload_n dX12_readsLine_50 rfl ?_
      refine z_bipush dX12_readsLine_51 rfl (by decide) ?_
      refine z_callV mlX12_520 dX12_readsLine_53 (sh_M hE) (av := [_]) rfl rfl (Nat.le_of_ble_eq_true rfl) (w_isSign _ hE hB1 hd1 62) (Nat.le_refl _) (Nat.le_refl _) (Nat.le_refl _) (Nat.le_refl _) ?_
      rintro _ _ ⟨rfl, rfl⟩
      refine z_ist 2 dX12_readsLine_56 rfl (Nat.le_of_ble_eq_true rfl) ?_
      refine z_aload_n dX12_readsLine_57 rfl ?_
      refine z_iload_n dX12_readsLine_58 rfl ?_
      try dsimp only [zs0, zsI, zsP, zsN, zsJ, zsS, zst2, Nat.reduceAdd]
      refine z_ifz_ne (tgt := 71) dX12_readsLine_59 rfl (fun h => absurd h (by decide)) (fun h59 => ?_)
      refine z_aload_n dX12_readsLine_62 rfl ?_
      refine z_bipush dX12_readsLine_63 rfl (by decide) ?_
      refine z_callV mlX12_520 dX12_readsLine_65 (sh_M hE) (av := [_]) rfl rfl (Nat.le_of_ble_eq_true rfl) (w_isSign _ hE hB1 hd1 45) (Nat.le_refl _) (Nat.le_refl _) (Nat.le_refl _) (Nat.le_refl _) ?_
      rintro _ _ ⟨rfl, rfl⟩
      refine z_ifz_eq (tgt := 75) dX12_readsLine_68 rfl (fun h68 => ?_) (fun h => absurd h (by decide))
      refine z_iconst dX12_readsLine_75 (by decide) ?_
      refine z_callV mlX12_506 dX12_readsLine_76 (sh_M hE) (av := [_]) rfl rfl (Nat.le_of_ble_eq_true rfl) (y_takes _ hE hB1 hd1 _) (Nat.le_refl _) (Nat.le_refl _) (Nat.le_refl _) (Nat.le_refl _) ?_
      rintro _ _ ⟨rfl, rfl⟩
      refine z_aload_n dX12_readsLine_79 rfl ?_
      refine z_aload_n dX12_readsLine_80 rfl ?_
      refine z_gP 0 rfl (r := a_c) flX12_7 dX12_readsLine_81 (sh_M hE) rfl (pt_c hm1) (by decide) ?_
      refine z_iconst dX12_readsLine_84 (by decide) ?_
      refine z_ialv dX12_readsLine_85 (sh_c hE) (by omega) (by omega) (congrFun ha_c1 2) ?_
      refine z_callV mlX12_542 dX12_readsLine_86 (sh_M hE) (av := [_]) rfl rfl (Nat.le_of_ble_eq_true rfl) (y_needs _ hE hB1 hd1 _) (Nat.le_refl _) (Nat.le_refl _) (Nat.le_refl _) (Nat.le_refl _) ?_
      rintro _ _ ⟨rfl, rfl⟩
      refine z_aload_n dX12_readsLine_89 rfl ?_
      refine z_gI f_number rfl flX12_481 dX12_readsLine_90 (sh_M hE) rfl ?_
      refine z_ist 3 dX12_readsLine_93 rfl (Nat.le_of_ble_eq_true rfl) ?_
      refine z_aload_n dX12_readsLine_94 rfl ?_
      refine z_gIv f_wrong rfl flX12_487 dX12_readsLine_95 (sh_M hE) rfl hw1 ?_
      try dsimp only [zs0, zsI, zsP, zsN, zsJ, zsS, zst2, Nat.reduceAdd]
      refine z_if_ne (tgt := 105) dX12_readsLine_98 rfl (fun h98 => ?_) (fun h => absurd (by omega) h)
      refine z_aload_n dX12_readsLine_105 rfl ?_
      refine z_aload_n dX12_readsLine_106 rfl ?_
      refine z_gI f_sort rfl flX12_471 dX12_readsLine_107 (sh_M hE) rfl ?_
      refine z_iconst dX12_readsLine_110 (by decide) ?_
      refine z_icmp_ne (tgt := 118) dX12_readsLine_111 rfl (fun h111 => ?_) (fun h111 => ?_)
      · refine z_iconst dX12_readsLine_118 (by decide) ?_
        refine z_iconst dX12_readsLine_119 (by decide) ?_
        refine z_callV mlX12_493 dX12_readsLine_120 (sh_M hE) (av := [_, _]) rfl rfl (Nat.le_of_ble_eq_true rfl) (x_mustT _ hE hB1 _ 2 (Or.inr hd1)) (Nat.le_refl _) (Nat.le_refl _) (Nat.le_refl _) (Nat.le_refl _) ?_
        rintro _ _ ⟨rfl, rfl⟩
        refine z_aload_n dX12_readsLine_123 rfl ?_
        refine z_gIv f_wrong rfl flX12_487 dX12_readsLine_124 (sh_M hE) rfl hw1 ?_
        refine z_if_le (tgt := 134) dX12_readsLine_127 rfl (fun h => absurd h (by omega)) (fun h127 => ?_)
        refine z_iconst dX12_readsLine_130 (by decide) ?_
        refine z_goto (tgt := 138) dX12_readsLine_131 rfl ?_
        refine z_istore dX12_readsLine_138 (Nat.le_of_ble_eq_true rfl) ?_
        refine z_aload_n dX12_readsLine_140 rfl ?_
        refine z_iload dX12_readsLine_141 rfl ?_
        try dsimp only [zs0, zsI, zsP, zsN, zsJ, zsS, zst2, Nat.reduceAdd]
        refine z_if_lt (tgt := 150) dX12_readsLine_143 rfl (fun h143 => ?_) (fun h => absurd (by decide) h)
        refine z_iconst dX12_readsLine_150 (by decide) ?_
        refine z_iconst dX12_readsLine_151 (by decide) ?_
        refine z_callV mlX12_493 dX12_readsLine_152 (sh_M hE) (av := [_, _]) rfl rfl (Nat.le_of_ble_eq_true rfl) (x_mustT _ hE hB1 _ 3 (Or.inr hd1)) (Nat.le_refl _) (Nat.le_refl _) (Nat.le_refl _) (Nat.le_refl _) ?_
        rintro _ _ ⟨rfl, rfl⟩
        refine z_aload_n dX12_readsLine_155 rfl ?_
        refine z_aload_n dX12_readsLine_156 rfl ?_
        refine z_gIv f_wrong rfl flX12_487 dX12_readsLine_157 (sh_M hE) rfl hw1 ?_
        refine z_if_gt (tgt := 188) dX12_readsLine_160 rfl (fun h160 => ?_) (fun h => absurd (by omega) h)
        refine z_iconst dX12_readsLine_188 (by decide) ?_
        refine z_goto (tgt := 193) dX12_readsLine_189 rfl ?_
        refine z_iconst dX12_readsLine_193 (by decide) ?_
        refine z_callV mlX12_493 dX12_readsLine_194 (sh_M hE) (av := [_, _]) rfl rfl (Nat.le_of_ble_eq_true rfl) (x_mustT _ hE hB1 _ 4 (Or.inr hd1)) (Nat.le_refl _) (Nat.le_refl _) (Nat.le_refl _) (Nat.le_refl _) ?_
        rintro _ _ ⟨rfl, rfl⟩
        refine z_aload_n dX12_readsLine_197 rfl ?_
        refine z_gIv f_wrong rfl flX12_487 dX12_readsLine_198 (sh_M hE) rfl hw1 ?_
        refine z_if_le (tgt := 205) dX12_readsLine_201 rfl (fun h => absurd h (by omega)) (fun h201 => ?_)
        refine z_vret dX12_readsLine_204 rfl rfl ?_
        have eA : pLin (mK m) (m a_c) (m aM f_letters) (m a_toldCodes) (m aM f_wide) p = (6, p, m a_toldCodes, m aM f_wide, p) := by unfold pLin; rw [if_neg (not_not_intro g1), if_neg (not_not_intro i1), if_pos (by omega)]
        rw [eA]
        refine ⟨rfl, ?_⟩
        exact ⟨z1, hw1, fun _ => ha1, fun h => absurd (show (6 : Int) = 0 from h) (by first | exact kMis_ne | decide)⟩
      · refine z_iconst dX12_readsLine_114 (by decide) ?_
        refine z_goto (tgt := 119) dX12_readsLine_115 rfl ?_
        refine z_iconst dX12_readsLine_119 (by decide) ?_
        refine z_callV mlX12_493 dX12_readsLine_120 (sh_M hE) (av := [_, _]) rfl rfl (Nat.le_of_ble_eq_true rfl) (x_mustT _ hE hB1 _ 2 (Or.inr hd1)) (Nat.le_refl _) (Nat.le_refl _) (Nat.le_refl _) (Nat.le_refl _) ?_
        rintro _ _ ⟨rfl, rfl⟩
        refine z_aload_n dX12_readsLine_123 rfl ?_
        refine z_gIv f_wrong rfl flX12_487 dX12_readsLine_124 (sh_M hE) rfl hw1 ?_
        refine z_if_le (tgt := 134) dX12_readsLine_127 rfl (fun h => absurd h (by omega)) (fun h127 => ?_)
        refine z_iconst dX12_readsLine_130 (by decide) ?_
        refine z_goto (tgt := 138) dX12_readsLine_131 rfl ?_
        refine z_istore dX12_readsLine_138 (Nat.le_of_ble_eq_true rfl) ?_
        refine z_aload_n dX12_readsLine_140 rfl ?_
        refine z_iload dX12_readsLine_141 rfl ?_
        try dsimp only [zs0, zsI, zsP, zsN, zsJ, zsS, zst2, Nat.reduceAdd]
        refine z_if_lt (tgt := 150) dX12_readsLine_143 rfl (fun h143 => ?_) (fun h => absurd (by decide) h)
        refine z_iconst dX12_readsLine_150 (by decide) ?_
        refine z_iconst dX12_readsLine_151 (by decide) ?_
        refine z_callV mlX12_493 dX12_readsLine_152 (sh_M hE) (av := [_, _]) rfl rfl (Nat.le_of_ble_eq_true rfl) (x_mustT _ hE hB1 _ 3 (Or.inr hd1)) (Nat.le_refl _) (Nat.le_refl _) (Nat.le_refl _) (Nat.le_refl _) ?_
        rintro _ _ ⟨rfl, rfl⟩
        refine z_aload_n dX12_readsLine_155 rfl ?_
        refine z_aload_n dX12_readsLine_156 rfl ?_
        refine z_gIv f_wrong rfl flX12_487 dX12_readsLine_157 (sh_M hE) rfl hw1 ?_
        refine z_if_gt (tgt := 188) dX12_readsLine_160 rfl (fun h160 => ?_) (fun h => absurd (by omega) h)
        refine z_iconst dX12_readsLine_188 (by decide) ?_
        refine z_goto (tgt := 193) dX12_readsLine_189 rfl ?_
        refine z_iconst dX12_readsLine_193 (by decide) ?_
        refine z_callV mlX12_493 dX12_readsLine_194 (sh_M hE) (av := [_, _]) rfl rfl (Nat.le_of_ble_eq_true rfl) (x_mustT _ hE hB1 _ 4 (Or.inr hd1)) (Nat.le_refl _) (Nat.le_refl _) (Nat.le_refl _) (Nat.le_refl _) ?_
        rintro _ _ ⟨rfl, rfl⟩
        refine z_aload_n dX12_readsLine_197 rfl ?_
        refine z_gIv f_wrong rfl flX12_487 dX12_readsLine_198 (sh_M hE) rfl hw1 ?_
        refine z_if_le (tgt := 205) dX12_readsLine_201 rfl (fun h => absurd h (by omega)) (fun h201 => ?_)
        refine z_vret dX12_readsLine_204 rfl rfl ?_
        have eA : pLin (mK m) (m a_c) (m aM f_letters) (m a_toldCodes) (m aM f_wide) p = (6, p, m a_toldCodes, m aM f_wide, p) := by unfold pLin; rw [if_neg (not_not_intro g1), if_neg (not_not_intro i1), if_pos (by omega)]
        rw [eA]
        refine ⟨rfl, ?_⟩
        exact ⟨z1, hw1, fun _ => ha1, fun h => absurd (show (6 : Int) = 0 from h) (by first | exact kMis_ne | decide)⟩
    · refine z_iconst dX12_readsLine_24 (by decide) ?_
      refine z_goto (tgt := 29) dX12_readsLine_25 rfl ?_
      refine z_bipush dX12_readsLine_29 rfl (by decide) ?_
      refine z_callV mlX12_493 dX12_readsLine_31 (sh_M hE) (av := [_, _]) rfl rfl (Nat.le_of_ble_eq_true rfl) (x_mustT _ hE hB0 1 6 (Or.inl (by decide))) (Nat.le_refl _) (Nat.le_refl _) (Nat.le_refl _) (Nat.le_refl _) ?_
      rintro _ _ ⟨rfl, rfl⟩
      refine z_aload_n dX12_readsLine_34 rfl ?_
      refine z_gIv f_number rfl flX12_481 dX12_readsLine_35 (sh_M hE) rfl (show m aM f_number = kN (mK m) p by have h := ht0.2.2.2.2.2.2 (by rw [hK0]; exact g1); rw [hK0] at h; exact h) ?_
      refine z_ist 1 dX12_readsLine_38 rfl (Nat.le_of_ble_eq_true rfl) ?_
      refine z_aload_n dX12_readsLine_39 rfl ?_
      refine z_gIv f_wrong rfl flX12_487 dX12_readsLine_40 (sh_M hE) rfl hw0 ?_
      try dsimp only [zs0, zsI, zsP, zsN, zsJ, zsS, zst2, Nat.reduceAdd]
      refine z_if_ne (tgt := 50) dX12_readsLine_43 rfl (fun h => absurd h (by omega)) (fun h43 => ?_)
      refine z_aload_n dX12_readsLine_46 rfl ?_
      refine z_callV mlX12_497 dX12_readsLine_47 (sh_M hE) (av := _) rfl rfl (Nat.le_of_ble_eq_true rfl) (x_reads _ hE hB0 hw0 p ht0 (by rw [hn0]; exact kSo_lt hok (by rw [g1]; decide))) (Nat.le_refl _) (Nat.le_refl _) (Nat.le_refl _) (Nat.le_refl _) ?_
      rintro _ m1 ⟨rfl, f1, t1⟩
      have hB1 := mB_fr hB0 (zfr_sub f1 (by decide))
      have hK1 : mK m1 = mK m := (mK_fr f1 (by decide)).trans hK0
      have hw1 : m1 aM f_wrong = 0 := (zfr_at f1 (by decide)).trans hw0
      have z1 : zfr fTl m m1 := zfr_tr z0 (zfr_sub f1 (by decide))
      have hn1 : m1 aM f_end = m aM f_end := (zfr_at f1 (by decide)).trans hn0
      have hm1 : ptM m1 := hB1.1
      have ha_c1 : m1 a_c = m a_c := (zfr_cell f1 (by decide)).trans ha_c0
      have ha_toldCodes1 : m1 a_toldCodes = m a_toldCodes := (zfr_cell f1 (by decide)).trans ha_toldCodes0
      have hletters1 : m1 aM f_letters = m aM f_letters := (zfr_at f1 (by decide)).trans hletters0
      have hwide1 : m1 aM f_wide = m aM f_wide := (zfr_at f1 (by decide)).trans hwide0
      rw [hK0] at t1
      obtain ⟨p1, e1⟩ : ∃ x, x = kR (mK m) p := ⟨_, rfl⟩
      rw [← e1] at t1
      have ht1 := t1
      refine z_aload_n dX12_readsLine_50 rfl ?_
      refine z_bipush dX12_readsLine_51 rfl (by decide) ?_
      refine z_callV mlX12_520 dX12_readsLine_53 (sh_M hE) (av := [_]) rfl rfl (Nat.le_of_ble_eq_true rfl) (by have h := x_isSign (d + 3) hE hB1 hw1 p1 ht1 62 (by decide) (by decide); rw [hK1] at h; exact h) (Nat.le_refl _) (Nat.le_refl _) (Nat.le_refl _) (Nat.le_refl _) ?_
      rintro _ _ ⟨rfl, rfl⟩
      refine z_ist 2 dX12_readsLine_56 rfl (Nat.le_of_ble_eq_true rfl) ?_
      refine z_aload_n dX12_readsLine_57 rfl ?_
      refine z_iload_n dX12_readsLine_58 rfl ?_
      try dsimp only [zs0, zsI, zsP, zsN, zsJ, zsS, zst2, Nat.reduceAdd]
      refine z_ifz_ne (tgt := 71) dX12_readsLine_59 rfl (fun h59 => ?_) (fun h59 => ?_)
      · refine z_iconst dX12_readsLine_71 (by decide) ?_
        refine z_goto (tgt := 76) dX12_readsLine_72 rfl ?_
        refine z_callV mlX12_506 dX12_readsLine_76 (sh_M hE) (av := [_]) rfl rfl (Nat.le_of_ble_eq_true rfl) (x_takesT _ hE hB1 hw1 p1 ht1 (by rw [hn1]; exact kSo_lt hok (by rw [h59.1]; decide))) (Nat.le_refl _) (Nat.le_refl _) (Nat.le_refl _) (Nat.le_refl _) ?_
        rintro _ m2 ⟨rfl, f2, t2⟩
        have hB2 := mB_fr hB1 (zfr_sub f2 (by decide))
        have hK2 : mK m2 = mK m := (mK_fr f2 (by decide)).trans hK1
        have hw2 : m2 aM f_wrong = 0 := (zfr_at f2 (by decide)).trans hw1
        have z2 : zfr fTl m m2 := zfr_tr z1 (zfr_sub f2 (by decide))
        have hn2 : m2 aM f_end = m aM f_end := (zfr_at f2 (by decide)).trans hn1
        have hm2 : ptM m2 := hB2.1
        have ha_c2 : m2 a_c = m a_c := (zfr_cell f2 (by decide)).trans ha_c1
        have ha_toldCodes2 : m2 a_toldCodes = m a_toldCodes := (zfr_cell f2 (by decide)).trans ha_toldCodes1
        have hletters2 : m2 aM f_letters = m aM f_letters := (zfr_at f2 (by decide)).trans hletters1
        have hwide2 : m2 aM f_wide = m aM f_wide := (zfr_at f2 (by decide)).trans hwide1
        rw [hK1] at t2
        obtain ⟨p2, e2⟩ : ∃ x, x = kR (mK m) p1 := ⟨_, rfl⟩
        rw [← e2] at t2
        have ht2 := t2
        refine z_aload_n dX12_readsLine_79 rfl ?_
        refine z_aload_n dX12_readsLine_80 rfl ?_
        refine z_gP 0 rfl (r := a_c) flX12_7 dX12_readsLine_81 (sh_M hE) rfl (pt_c hm2) (by decide) ?_
        refine z_iconst dX12_readsLine_84 (by decide) ?_
        refine z_ialv dX12_readsLine_85 (sh_c hE) (by omega) (by omega) (congrFun ha_c2 2) ?_
        refine z_callV mlX12_542 dX12_readsLine_86 (sh_M hE) (av := [_]) rfl rfl (Nat.le_of_ble_eq_true rfl) (by have h := v_needs (d + 2) hE hB2 hw2 p2 ht2 (m a_c 2); rw [hK2] at h; exact h) (Nat.le_refl _) (Nat.le_refl _) (Nat.le_refl _) (Nat.le_refl _) ?_
        rintro _ m3 ⟨rfl, (⟨g3, i3, rfl⟩ | ⟨g3, i3, b3⟩ | ⟨g3, b3⟩)⟩
        · have kr86 := kN_rg g3
          refine z_aload_n dX12_readsLine_89 rfl ?_
          refine z_gIv f_number rfl flX12_481 dX12_readsLine_90 (sh_M hE) rfl (show m2 aM f_number = kN (mK m) p2 by have h := ht2.2.2.2.2.2.2 (by rw [hK2]; exact g3); rw [hK2] at h; exact h) ?_
          refine z_ist 3 dX12_readsLine_93 rfl (Nat.le_of_ble_eq_true rfl) ?_
          refine z_aload_n dX12_readsLine_94 rfl ?_
          refine z_gIv f_wrong rfl flX12_487 dX12_readsLine_95 (sh_M hE) rfl hw2 ?_
          try dsimp only [zs0, zsI, zsP, zsN, zsJ, zsS, zst2, Nat.reduceAdd]
          refine z_if_ne (tgt := 105) dX12_readsLine_98 rfl (fun h => absurd h (by omega)) (fun h98 => ?_)
          refine z_aload_n dX12_readsLine_101 rfl ?_
          refine z_callV mlX12_497 dX12_readsLine_102 (sh_M hE) (av := _) rfl rfl (Nat.le_of_ble_eq_true rfl) (x_reads _ hE hB2 hw2 p2 ht2 (by rw [hn2]; exact kSo_lt hok (by rw [g3]; decide))) (Nat.le_refl _) (Nat.le_refl _) (Nat.le_refl _) (Nat.le_refl _) ?_
          rintro _ m3 ⟨rfl, f3, t3⟩
          have hB3 := mB_fr hB2 (zfr_sub f3 (by decide))
          have hK3 : mK m3 = mK m := (mK_fr f3 (by decide)).trans hK2
          have hw3 : m3 aM f_wrong = 0 := (zfr_at f3 (by decide)).trans hw2
          have z3 : zfr fTl m m3 := zfr_tr z2 (zfr_sub f3 (by decide))
          have hn3 : m3 aM f_end = m aM f_end := (zfr_at f3 (by decide)).trans hn2
          have hm3 : ptM m3 := hB3.1
          have ha_c3 : m3 a_c = m a_c := (zfr_cell f3 (by decide)).trans ha_c2
          have ha_toldCodes3 : m3 a_toldCodes = m a_toldCodes := (zfr_cell f3 (by decide)).trans ha_toldCodes2
          have hletters3 : m3 aM f_letters = m aM f_letters := (zfr_at f3 (by decide)).trans hletters2
          have hwide3 : m3 aM f_wide = m aM f_wide := (zfr_at f3 (by decide)).trans hwide2
          rw [hK2] at t3
          obtain ⟨p3, e3⟩ : ∃ x, x = kR (mK m) p2 := ⟨_, rfl⟩
          rw [← e3] at t3
          have ht3 := t3
          refine z_aload_n dX12_readsLine_105 rfl ?_
          refine z_aload_n dX12_readsLine_106 rfl ?_
          refine z_gIv f_sort rfl flX12_471 dX12_readsLine_107 (sh_M hE) rfl (show m3 aM f_sort = kSo (mK m) p3 by rw [← hK3]; exact ht3.2.2.2.1) ?_
          refine z_iconst dX12_readsLine_110 (by decide) ?_
          refine z_icmp_ne (tgt := 118) dX12_readsLine_111 rfl (fun h111 => ?_) (fun h111 => ?_)
          · refine z_iconst dX12_readsLine_118 (by decide) ?_
            refine z_iconst dX12_readsLine_119 (by decide) ?_
            refine z_callV mlX12_493 dX12_readsLine_120 (sh_M hE) (av := [_, _]) rfl rfl (Nat.le_of_ble_eq_true rfl) (by have h := x_must2 (d + 3) hE hB3 hw3 p3 ht3; rw [hK3] at h; exact h) (Nat.le_refl _) (Nat.le_refl _) (Nat.le_refl _) (Nat.le_refl _) ?_
            rintro _ m4 ⟨rfl, b4⟩
            have hB4 : mB m4 := b4 ▸ mB_bad hB3
            have hw4 : m4 aM f_wrong = kMis (mK m) p3 := b4 ▸ mBad_w
            have ha4 : m4 aM f_wrongAt = p3 := b4 ▸ mBad_a
            have z4 : zfr fTl m m4 := b4 ▸ zfr_uj (zfr_uj z3 (by decide)) (by decide)
            have hd4 : 0 < m4 aM f_wrong := by rw [hw4]; first | exact kMis_pos | decide
            have hm4 : ptM m4 := hB4.1
            have ha_c4 : m4 a_c = m a_c := (b4 ▸ (zu_fn (by decide)).trans (zu_fn (by decide)) : m4 a_c = m3 a_c).trans ha_c3
            have ha_toldCodes4 : m4 a_toldCodes = m a_toldCodes := (b4 ▸ (zu_fn (by decide)).trans (zu_fn (by decide)) : m4 a_toldCodes = m3 a_toldCodes).trans ha_toldCodes3
            have hletters4 : m4 aM f_letters = m aM f_letters := (b4 ▸ (zu_j (by decide)).trans (zu_j (by decide)) : m4 aM f_letters = m3 aM f_letters).trans hletters3
            have hwide4 : m4 aM f_wide = m aM f_wide := (b4 ▸ (zu_j (by decide)).trans (zu_j (by decide)) : m4 aM f_wide = m3 aM f_wide).trans hwide3
            refine z_aload_n dX12_readsLine_123 rfl ?_
            refine z_gIv f_wrong rfl flX12_487 dX12_readsLine_124 (sh_M hE) rfl hw4 ?_
            refine z_if_le (tgt := 134) dX12_readsLine_127 rfl (fun h => absurd h (by omega)) (fun h127 => ?_)
            refine z_iconst dX12_readsLine_130 (by decide) ?_
            refine z_goto (tgt := 138) dX12_readsLine_131 rfl ?_
            refine z_istore dX12_readsLine_138 (Nat.le_of_ble_eq_true rfl) ?_
            refine z_aload_n dX12_readsLine_140 rfl ?_
            refine z_iload dX12_readsLine_141 rfl ?_
            try dsimp only [zs0, zsI, zsP, zsN, zsJ, zsS, zst2, Nat.reduceAdd]
            refine z_if_lt (tgt := 150) dX12_readsLine_143 rfl (fun h143 => ?_) (fun h => absurd (by decide) h)
            refine z_iconst dX12_readsLine_150 (by decide) ?_
            refine z_iconst dX12_readsLine_151 (by decide) ?_
            refine z_callV mlX12_493 dX12_readsLine_152 (sh_M hE) (av := [_, _]) rfl rfl (Nat.le_of_ble_eq_true rfl) (x_mustT _ hE hB4 _ 3 (Or.inr hd4)) (Nat.le_refl _) (Nat.le_refl _) (Nat.le_refl _) (Nat.le_refl _) ?_
            rintro _ _ ⟨rfl, rfl⟩
            refine z_aload_n dX12_readsLine_155 rfl ?_
            refine z_aload_n dX12_readsLine_156 rfl ?_
            refine z_gIv f_wrong rfl flX12_487 dX12_readsLine_157 (sh_M hE) rfl hw4 ?_
            refine z_if_gt (tgt := 188) dX12_readsLine_160 rfl (fun h160 => ?_) (fun h => absurd (by omega) h)
            refine z_iconst dX12_readsLine_188 (by decide) ?_
            refine z_goto (tgt := 193) dX12_readsLine_189 rfl ?_
            refine z_iconst dX12_readsLine_193 (by decide) ?_
            refine z_callV mlX12_493 dX12_readsLine_194 (sh_M hE) (av := [_, _]) rfl rfl (Nat.le_of_ble_eq_true rfl) (x_mustT _ hE hB4 _ 4 (Or.inr hd4)) (Nat.le_refl _) (Nat.le_refl _) (Nat.le_refl _) (Nat.le_refl _) ?_
            rintro _ _ ⟨rfl, rfl⟩
            refine z_aload_n dX12_readsLine_197 rfl ?_
            refine z_gIv f_wrong rfl flX12_487 dX12_readsLine_198 (sh_M hE) rfl hw4 ?_
            refine z_if_le (tgt := 205) dX12_readsLine_201 rfl (fun h => absurd h (by omega)) (fun h201 => ?_)
            refine z_vret dX12_readsLine_204 rfl rfl ?_
            have eA : pLin (mK m) (m a_c) (m aM f_letters) (m a_toldCodes) (m aM f_wide) p = (kMis (mK m) p3, p3, m a_toldCodes, m aM f_wide, p) := by unfold pLin; rw [if_neg (not_not_intro g1), if_neg (not_not_intro i1), if_neg (by omega), ← e1, if_neg (not_not_intro (Or.inl h59)), ← e2, if_neg (not_not_intro g3), if_neg (not_not_intro i3), ← e3, if_pos h111]
            rw [eA]
            refine ⟨rfl, ?_⟩
            exact ⟨z4, hw4, fun _ => ha4, fun h => absurd (show (kMis (mK m) p3 : Int) = 0 from h) (by first | exact kMis_ne | decide)⟩
          · refine z_iconst dX12_readsLine_114 (by decide) ?_
            refine z_goto (tgt := 119) dX12_readsLine_115 rfl ?_
            refine z_iconst dX12_readsLine_119 (by decide) ?_
            refine z_callV mlX12_493 dX12_readsLine_120 (sh_M hE) (av := [_, _]) rfl rfl (Nat.le_of_ble_eq_true rfl) (x_mustT _ hE hB3 1 2 (Or.inl (by decide))) (Nat.le_refl _) (Nat.le_refl _) (Nat.le_refl _) (Nat.le_refl _) ?_
            rintro _ _ ⟨rfl, rfl⟩
            refine z_aload_n dX12_readsLine_123 rfl ?_
            refine z_gIv f_wrong rfl flX12_487 dX12_readsLine_124 (sh_M hE) rfl hw3 ?_
            refine z_if_le (tgt := 134) dX12_readsLine_127 rfl (fun h127 => ?_) (fun h => absurd (by omega) h)
            refine z_aload_n dX12_readsLine_134 rfl ?_
            refine z_callV mlX12_554 dX12_readsLine_135 (sh_M hE) (av := _) rfl rfl (Nat.le_of_ble_eq_true rfl) (by have h := x_sortHere (d + 3) hE hB3 hw3 p3 ht3 (by rw [hK3]; omega) (by rw [ha_c3]; exact hwf); rw [hK3, ha_c3] at h; exact h) (Nat.le_refl _) (Nat.le_refl _) (Nat.le_refl _) (Nat.le_refl _) ?_
            rintro _ _ ⟨rfl, rfl⟩
            have hsr := kSrt_rg (K := mK m) (p := p3) hwf
            refine z_istore dX12_readsLine_138 (Nat.le_of_ble_eq_true rfl) ?_
            refine z_aload_n dX12_readsLine_140 rfl ?_
            refine z_iload dX12_readsLine_141 rfl ?_
            try dsimp only [zs0, zsI, zsP, zsN, zsJ, zsS, zst2, Nat.reduceAdd]
            refine z_if_lt (tgt := 150) dX12_readsLine_143 rfl (fun h143 => ?_) (fun h143 => ?_)
            · refine z_iconst dX12_readsLine_150 (by decide) ?_
              refine z_iconst dX12_readsLine_151 (by decide) ?_
              refine z_callV mlX12_493 dX12_readsLine_152 (sh_M hE) (av := [_, _]) rfl rfl (Nat.le_of_ble_eq_true rfl) (x_mustK _ hE hB3 hw3 p3 ht3 3 (by decide)) (Nat.le_refl _) (Nat.le_refl _) (Nat.le_refl _) (Nat.le_refl _) ?_
              rintro _ m4 ⟨rfl, b4⟩
              have hB4 : mB m4 := b4 ▸ mB_bad hB3
              have hw4 : m4 aM f_wrong = 3 := b4 ▸ mBad_w
              have ha4 : m4 aM f_wrongAt = p3 := b4 ▸ mBad_a
              have z4 : zfr fTl m m4 := b4 ▸ zfr_uj (zfr_uj z3 (by decide)) (by decide)
              have hd4 : 0 < m4 aM f_wrong := by rw [hw4]; first | exact kMis_pos | decide
              have hm4 : ptM m4 := hB4.1
              have ha_c4 : m4 a_c = m a_c := (b4 ▸ (zu_fn (by decide)).trans (zu_fn (by decide)) : m4 a_c = m3 a_c).trans ha_c3
              have ha_toldCodes4 : m4 a_toldCodes = m a_toldCodes := (b4 ▸ (zu_fn (by decide)).trans (zu_fn (by decide)) : m4 a_toldCodes = m3 a_toldCodes).trans ha_toldCodes3
              have hletters4 : m4 aM f_letters = m aM f_letters := (b4 ▸ (zu_j (by decide)).trans (zu_j (by decide)) : m4 aM f_letters = m3 aM f_letters).trans hletters3
              have hwide4 : m4 aM f_wide = m aM f_wide := (b4 ▸ (zu_j (by decide)).trans (zu_j (by decide)) : m4 aM f_wide = m3 aM f_wide).trans hwide3
              refine z_aload_n dX12_readsLine_155 rfl ?_
              refine z_aload_n dX12_readsLine_156 rfl ?_
              refine z_gIv f_wrong rfl flX12_487 dX12_readsLine_157 (sh_M hE) rfl hw4 ?_
              refine z_if_gt (tgt := 188) dX12_readsLine_160 rfl (fun h160 => ?_) (fun h => absurd (by omega) h)
              refine z_iconst dX12_readsLine_188 (by decide) ?_
              refine z_goto (tgt := 193) dX12_readsLine_189 rfl ?_
              refine z_iconst dX12_readsLine_193 (by decide) ?_
              refine z_callV mlX12_493 dX12_readsLine_194 (sh_M hE) (av := [_, _]) rfl rfl (Nat.le_of_ble_eq_true rfl) (x_mustT _ hE hB4 _ 4 (Or.inr hd4)) (Nat.le_refl _) (Nat.le_refl _) (Nat.le_refl _) (Nat.le_refl _) ?_
              rintro _ _ ⟨rfl, rfl⟩
              refine z_aload_n dX12_readsLine_197 rfl ?_
              refine z_gIv f_wrong rfl flX12_487 dX12_readsLine_198 (sh_M hE) rfl hw4 ?_
              refine z_if_le (tgt := 205) dX12_readsLine_201 rfl (fun h => absurd h (by omega)) (fun h201 => ?_)
              refine z_vret dX12_readsLine_204 rfl rfl ?_
              have eA : pLin (mK m) (m a_c) (m aM f_letters) (m a_toldCodes) (m aM f_wide) p = (3, p3, m a_toldCodes, m aM f_wide, p) := by unfold pLin; rw [if_neg (not_not_intro g1), if_neg (not_not_intro i1), if_neg (by omega), ← e1, if_neg (not_not_intro (Or.inl h59)), ← e2, if_neg (not_not_intro g3), if_neg (not_not_intro i3), ← e3, if_neg (not_not_intro (Decidable.not_not.mp h111)), if_pos (by omega)]
              rw [eA]
              refine ⟨rfl, ?_⟩
              exact ⟨z4, hw4, fun _ => ha4, fun h => absurd (show (3 : Int) = 0 from h) (by first | exact kMis_ne | decide)⟩
            · refine z_iconst dX12_readsLine_146 (by decide) ?_
              refine z_goto (tgt := 151) dX12_readsLine_147 rfl ?_
              refine z_iconst dX12_readsLine_151 (by decide) ?_
              refine z_callV mlX12_493 dX12_readsLine_152 (sh_M hE) (av := [_, _]) rfl rfl (Nat.le_of_ble_eq_true rfl) (x_mustT _ hE hB3 1 3 (Or.inl (by decide))) (Nat.le_refl _) (Nat.le_refl _) (Nat.le_refl _) (Nat.le_refl _) ?_
              rintro _ _ ⟨rfl, rfl⟩
              refine z_aload_n dX12_readsLine_155 rfl ?_
              refine z_aload_n dX12_readsLine_156 rfl ?_
              refine z_gIv f_wrong rfl flX12_487 dX12_readsLine_157 (sh_M hE) rfl hw3 ?_
              refine z_if_gt (tgt := 188) dX12_readsLine_160 rfl (fun h => absurd h (by omega)) (fun h160 => ?_)
              refine z_iload dX12_readsLine_163 rfl ?_
              refine z_bipush dX12_readsLine_165 rfl (by decide) ?_
              refine z_icmp_ge (tgt := 183) dX12_readsLine_167 rfl (fun h167 => ?_) (fun h167 => ?_)
              · refine z_iconst dX12_readsLine_183 (by decide) ?_
                refine z_iload_n dX12_readsLine_184 rfl ?_
                refine z_icmp_ne (tgt := 192) dX12_readsLine_185 rfl (fun h185 => ?_) (fun h185 => ?_)
                · refine z_iconst dX12_readsLine_192 (by decide) ?_
                  refine z_iconst dX12_readsLine_193 (by decide) ?_
                  refine z_callV mlX12_493 dX12_readsLine_194 (sh_M hE) (av := [_, _]) rfl rfl (Nat.le_of_ble_eq_true rfl) (x_mustK _ hE hB3 hw3 p3 ht3 4 (by decide)) (Nat.le_refl _) (Nat.le_refl _) (Nat.le_refl _) (Nat.le_refl _) ?_
                  rintro _ m4 ⟨rfl, b4⟩
                  have hB4 : mB m4 := b4 ▸ mB_bad hB3
                  have hw4 : m4 aM f_wrong = 4 := b4 ▸ mBad_w
                  have ha4 : m4 aM f_wrongAt = p3 := b4 ▸ mBad_a
                  have z4 : zfr fTl m m4 := b4 ▸ zfr_uj (zfr_uj z3 (by decide)) (by decide)
                  have hd4 : 0 < m4 aM f_wrong := by rw [hw4]; first | exact kMis_pos | decide
                  have hm4 : ptM m4 := hB4.1
                  have ha_c4 : m4 a_c = m a_c := (b4 ▸ (zu_fn (by decide)).trans (zu_fn (by decide)) : m4 a_c = m3 a_c).trans ha_c3
                  have ha_toldCodes4 : m4 a_toldCodes = m a_toldCodes := (b4 ▸ (zu_fn (by decide)).trans (zu_fn (by decide)) : m4 a_toldCodes = m3 a_toldCodes).trans ha_toldCodes3
                  have hletters4 : m4 aM f_letters = m aM f_letters := (b4 ▸ (zu_j (by decide)).trans (zu_j (by decide)) : m4 aM f_letters = m3 aM f_letters).trans hletters3
                  have hwide4 : m4 aM f_wide = m aM f_wide := (b4 ▸ (zu_j (by decide)).trans (zu_j (by decide)) : m4 aM f_wide = m3 aM f_wide).trans hwide3
                  refine z_aload_n dX12_readsLine_197 rfl ?_
                  refine z_gIv f_wrong rfl flX12_487 dX12_readsLine_198 (sh_M hE) rfl hw4 ?_
                  refine z_if_le (tgt := 205) dX12_readsLine_201 rfl (fun h => absurd h (by omega)) (fun h201 => ?_)
                  refine z_vret dX12_readsLine_204 rfl rfl ?_
                  have eA : pLin (mK m) (m a_c) (m aM f_letters) (m a_toldCodes) (m aM f_wide) p = (4, p3, m a_toldCodes, m aM f_wide, p) := by unfold pLin; rw [if_neg (not_not_intro g1), if_neg (not_not_intro i1), if_neg (by omega), ← e1, if_neg (not_not_intro (Or.inl h59)), ← e2, if_neg (not_not_intro g3), if_neg (not_not_intro i3), ← e3, if_neg (not_not_intro (Decidable.not_not.mp h111)), if_neg (by omega), if_pos (by rw [zb_f (fun h => absurd h.1 (by omega))]; exact h185)]
                  rw [eA]
                  refine ⟨rfl, ?_⟩
                  exact ⟨z4, hw4, fun _ => ha4, fun h => absurd (show (4 : Int) = 0 from h) (by first | exact kMis_ne | decide)⟩
                · refine z_iconst dX12_readsLine_188 (by decide) ?_
                  refine z_goto (tgt := 193) dX12_readsLine_189 rfl ?_
                  refine z_iconst dX12_readsLine_193 (by decide) ?_
                  refine z_callV mlX12_493 dX12_readsLine_194 (sh_M hE) (av := [_, _]) rfl rfl (Nat.le_of_ble_eq_true rfl) (x_mustT _ hE hB3 1 4 (Or.inl (by decide))) (Nat.le_refl _) (Nat.le_refl _) (Nat.le_refl _) (Nat.le_refl _) ?_
                  rintro _ _ ⟨rfl, rfl⟩
                  refine z_aload_n dX12_readsLine_197 rfl ?_
                  refine z_gIv f_wrong rfl flX12_487 dX12_readsLine_198 (sh_M hE) rfl hw3 ?_
                  refine z_if_le (tgt := 205) dX12_readsLine_201 rfl (fun h201 => ?_) (fun h => absurd (by omega) h)
                  refine z_aload_n dX12_readsLine_205 rfl ?_
                  refine z_gP 53 rfl (r := a_toldCodes) flX12_108 dX12_readsLine_206 (sh_M hE) rfl (pt_toldCodes hm3) (by decide) ?_
                  refine z_aload_n dX12_readsLine_209 rfl ?_
                  refine z_gIv f_wide rfl flX12_545 dX12_readsLine_210 (sh_M hE) rfl hwide3 ?_
                  refine z_iload_n dX12_readsLine_213 rfl ?_
                  refine z_iload_n dX12_readsLine_214 rfl ?_
                  refine z_icmp_le (tgt := 242) dX12_readsLine_215 rfl (fun h215 => ?_) (fun h215 => ?_)
                  · refine z_bipush dX12_readsLine_242 rfl (by decide) ?_
                    refine z_iload_n dX12_readsLine_244 rfl ?_
                    refine z_mul dX12_readsLine_245 (by omega) ?_
                    refine z_bipush dX12_readsLine_246 rfl (by decide) ?_
                    refine z_iload_n dX12_readsLine_248 rfl ?_
                    refine z_mul dX12_readsLine_249 (by omega) ?_
                    refine z_add dX12_readsLine_250 (by omega) ?_
                    refine z_iload dX12_readsLine_251 rfl ?_
                    refine z_add dX12_readsLine_253 (by omega) ?_
                    refine z_iast dX12_readsLine_254 (sh_toldCodes hE) (by omega) (by omega) ?_
                    refine z_aload_n dX12_readsLine_255 rfl ?_
                    refine z_dup dX12_readsLine_256 rfl ?_
                    refine z_gIv f_wide rfl flX12_545 dX12_readsLine_257 (sh_M hE) rfl (Eq.trans (zu_a (by decide)) hwide3) ?_
                    refine z_iconst dX12_readsLine_260 (by decide) ?_
                    refine z_add dX12_readsLine_261 (by omega) ?_
                    refine z_pI f_wide rfl (fpX12_545 _) dX12_readsLine_262 (sh_M hE) rfl ?_
                    have ecd : 100 * kN (mK m) p + 10 * kN (mK m) p2 + (kSrt (mK m) (m a_c) p3) = kCd (m a_c) (kN (mK m) p) (kN (mK m) p2) (kSrt (mK m) (m a_c) p3) := by unfold kCd; rw [if_neg (fun h => absurd h.1 (by omega))]
                    rw [ecd]
                    generalize em4 : zu (zu m3 a_toldCodes (m aM f_wide) (kCd (m a_c) (kN (mK m) p) (kN (mK m) p2) (kSrt (mK m) (m a_c) p3))) aM f_wide (m aM f_wide + 1) = m4
                    have f4 : zfr fTl m3 m4 := by rw [← em4]; exact zfr_uj (zfr_ua zfr_rf (by decide)) (by decide)
                    have f4' : zfr [(a_toldCodes, none), (aM, some f_wide)] m3 m4 := by rw [← em4]; exact zfr_uj (zfr_ua zfr_rf (by decide)) (by decide)
                    have hB4 := mB_fr hB3 (zfr_sub f4 (by decide))
                    have hm4 : ptM m4 := hB4.1
                    have hK4 : mK m4 = mK m := (mK_fr f4' (by decide)).trans hK3
                    have hw4 : m4 aM f_wrong = 0 := (zfr_at f4' (by decide)).trans hw3
                    have z4 : zfr fTl m m4 := zfr_tr z3 f4
                    have hn4 : m4 aM f_end = m aM f_end := (zfr_at f4' (by decide)).trans hn3
                    have ht4 : mTk m4 p3 := mTk_K ht3 (mK_fr f4' (by decide)) (zfr_at f4' (by decide)) (zfr_at f4' (by decide)) (zfr_at f4' (by decide)) (zfr_at f4' (by decide)) (zfr_at f4' (by decide)) (zfr_at f4' (by decide))
                    have gw4 : m4 aM f_wide = m aM f_wide + 1 := by rw [← em4]; exact zu_s
                    have gm4 : m4 a_toldCodes = eU (m a_toldCodes) (m aM f_wide) (kCd (m a_c) (kN (mK m) p) (kN (mK m) p2) (kSrt (mK m) (m a_c) p3)) := by rw [← em4, zu_fn (by decide)]; exact eU_t ha_toldCodes3
                    refine z_aload_n dX12_readsLine_265 rfl ?_
                    refine z_callV mlX12_497 dX12_readsLine_266 (sh_M hE) (av := _) rfl rfl (Nat.le_of_ble_eq_true rfl) (x_reads _ hE hB4 hw4 p3 ht4 (by rw [hn4]; exact kSo_lt hok (by omega))) (Nat.le_refl _) (Nat.le_refl _) (Nat.le_refl _) (Nat.le_refl _) ?_
                    rintro _ m5 ⟨rfl, f5, t5⟩
                    have hB5 := mB_fr hB4 (zfr_sub f5 (by decide))
                    have hK5 : mK m5 = mK m := (mK_fr f5 (by decide)).trans hK4
                    have hw5 : m5 aM f_wrong = 0 := (zfr_at f5 (by decide)).trans hw4
                    have z5 : zfr fTl m m5 := zfr_tr z4 (zfr_sub f5 (by decide))
                    have hn5 : m5 aM f_end = m aM f_end := (zfr_at f5 (by decide)).trans hn4
                    have hm5 : ptM m5 := hB5.1
                    rw [hK4] at t5
                    obtain ⟨p5, e5⟩ : ∃ x, x = kR (mK m) p3 := ⟨_, rfl⟩
                    rw [← e5] at t5
                    have ht5 := t5
                    refine z_aload_n dX12_readsLine_269 rfl ?_
                    refine z_aload_n dX12_readsLine_270 rfl ?_
                    refine z_bipush dX12_readsLine_271 rfl (by decide) ?_
                    refine z_callV mlX12_520 dX12_readsLine_273 (sh_M hE) (av := [_]) rfl rfl (Nat.le_of_ble_eq_true rfl) (by have h := x_isSign (d + 3) hE hB5 hw5 p5 ht5 59 (by decide) (by decide); rw [hK5] at h; exact h) (Nat.le_refl _) (Nat.le_refl _) (Nat.le_refl _) (Nat.le_refl _) ?_
                    rintro _ _ ⟨rfl, rfl⟩
                    by_cases y273 : kSn (mK m) p5 59
                    · rw [zb_t y273]
                      refine z_callV mlX12_506 dX12_readsLine_276 (sh_M hE) (av := [_]) rfl rfl (Nat.le_of_ble_eq_true rfl) (x_takesT _ hE hB5 hw5 p5 ht5 (by rw [hn5]; exact kSo_lt hok (by rw [y273.1]; decide))) (Nat.le_refl _) (Nat.le_refl _) (Nat.le_refl _) (Nat.le_refl _) ?_
                      rintro _ m6 ⟨rfl, f6, t6⟩
                      have hB6 := mB_fr hB5 (zfr_sub f6 (by decide))
                      have hK6 : mK m6 = mK m := (mK_fr f6 (by decide)).trans hK5
                      have hw6 : m6 aM f_wrong = 0 := (zfr_at f6 (by decide)).trans hw5
                      have z6 : zfr fTl m m6 := zfr_tr z5 (zfr_sub f6 (by decide))
                      have hn6 : m6 aM f_end = m aM f_end := (zfr_at f6 (by decide)).trans hn5
                      have hm6 : ptM m6 := hB6.1
                      rw [hK5] at t6
                      obtain ⟨p6, e6⟩ : ∃ x, x = kR (mK m) p5 := ⟨_, rfl⟩
                      rw [← e6] at t6
                      have ht6 := t6
                      refine z_vret dX12_readsLine_279 rfl rfl ?_
                      have eA : pLin (mK m) (m a_c) (m aM f_letters) (m a_toldCodes) (m aM f_wide) p = (0, 0, eU (m a_toldCodes) (m aM f_wide) (kCd (m a_c) (kN (mK m) p) (kN (mK m) p2) (kSrt (mK m) (m a_c) p3)), m aM f_wide + 1, p6) := by unfold pLin; rw [if_neg (not_not_intro g1), if_neg (not_not_intro i1), if_neg (by omega), ← e1, if_neg (not_not_intro (Or.inl h59)), ← e2, if_neg (not_not_intro g3), if_neg (not_not_intro i3), ← e3, if_neg (not_not_intro (Decidable.not_not.mp h111)), if_neg (by omega), if_neg (not_not_intro (by rw [zb_f (fun h => absurd h.1 (by omega))]; exact Decidable.not_not.mp h185)), ← e5, if_neg (not_not_intro y273), ← e6]
                      rw [eA]
                      refine ⟨rfl, ?_⟩
                      exact ⟨z6, hw6, fun h => absurd rfl h, fun _ => ⟨(zfr_cell f6 (by decide)).trans ((zfr_cell f5 (by decide)).trans gm4), (zfr_at f6 (by decide)).trans ((zfr_at f5 (by decide)).trans gw4), ht6⟩⟩
                    · rw [zb_f y273]
                      refine z_callV mlX12_506 dX12_readsLine_276 (sh_M hE) (av := [_]) rfl rfl (Nat.le_of_ble_eq_true rfl) (by have h := x_takesF (d) hE hB5 hw5 p5 ht5; rw [hK5] at h; exact h) (Nat.le_refl _) (Nat.le_refl _) (Nat.le_refl _) (Nat.le_refl _) ?_
                      rintro _ m6 ⟨rfl, b6⟩
                      have hB6 : mB m6 := b6 ▸ mB_bad hB5
                      have hw6 : m6 aM f_wrong = kMis (mK m) p5 := b6 ▸ mBad_w
                      have ha6 : m6 aM f_wrongAt = p5 := b6 ▸ mBad_a
                      have z6 : zfr fTl m m6 := b6 ▸ zfr_uj (zfr_uj z5 (by decide)) (by decide)
                      have hd6 : 0 < m6 aM f_wrong := by rw [hw6]; first | exact kMis_pos | decide
                      have hm6 : ptM m6 := hB6.1
                      refine z_vret dX12_readsLine_279 rfl rfl ?_
                      have eA : pLin (mK m) (m a_c) (m aM f_letters) (m a_toldCodes) (m aM f_wide) p = (kMis (mK m) p5, p5, m a_toldCodes, m aM f_wide, p) := by unfold pLin; rw [if_neg (not_not_intro g1), if_neg (not_not_intro i1), if_neg (by omega), ← e1, if_neg (not_not_intro (Or.inl h59)), ← e2, if_neg (not_not_intro g3), if_neg (not_not_intro i3), ← e3, if_neg (not_not_intro (Decidable.not_not.mp h111)), if_neg (by omega), if_neg (not_not_intro (by rw [zb_f (fun h => absurd h.1 (by omega))]; exact Decidable.not_not.mp h185)), ← e5, if_pos y273]
                      rw [eA]
                      refine ⟨rfl, ?_⟩
                      exact ⟨z6, hw6, fun _ => ha6, fun h => absurd (show (kMis (mK m) p5 : Int) = 0 from h) (by first | exact kMis_ne | decide)⟩
                  · refine z_aload_n dX12_readsLine_218 rfl ?_
                    refine z_iload dX12_readsLine_219 rfl ?_
                    refine z_callV mlX12_206 dX12_readsLine_221 (sh_M hE) (av := [_]) rfl rfl (Nat.le_of_ble_eq_true rfl) (by have h := r_isRealSort (d + 2) hE hm3 (kSrt (mK m) (m a_c) p3) (by omega) (by omega); rw [ha_c3] at h; exact h) (Nat.le_refl _) (Nat.le_refl _) (Nat.le_refl _) (Nat.le_refl _) ?_
                    rintro _ _ ⟨rfl, rfl⟩
                    refine z_ifz_eq (tgt := 242) dX12_readsLine_224 rfl (fun h224 => ?_) (fun h224 => ?_)
                    · refine z_bipush dX12_readsLine_242 rfl (by decide) ?_
                      refine z_iload_n dX12_readsLine_244 rfl ?_
                      refine z_mul dX12_readsLine_245 (by omega) ?_
                      refine z_bipush dX12_readsLine_246 rfl (by decide) ?_
                      refine z_iload_n dX12_readsLine_248 rfl ?_
                      refine z_mul dX12_readsLine_249 (by omega) ?_
                      refine z_add dX12_readsLine_250 (by omega) ?_
                      refine z_iload dX12_readsLine_251 rfl ?_
                      refine z_add dX12_readsLine_253 (by omega) ?_
                      refine z_iast dX12_readsLine_254 (sh_toldCodes hE) (by omega) (by omega) ?_
                      refine z_aload_n dX12_readsLine_255 rfl ?_
                      refine z_dup dX12_readsLine_256 rfl ?_
                      refine z_gIv f_wide rfl flX12_545 dX12_readsLine_257 (sh_M hE) rfl (Eq.trans (zu_a (by decide)) hwide3) ?_
                      refine z_iconst dX12_readsLine_260 (by decide) ?_
                      refine z_add dX12_readsLine_261 (by omega) ?_
                      refine z_pI f_wide rfl (fpX12_545 _) dX12_readsLine_262 (sh_M hE) rfl ?_
                      have ecd : 100 * kN (mK m) p + 10 * kN (mK m) p2 + (kSrt (mK m) (m a_c) p3) = kCd (m a_c) (kN (mK m) p) (kN (mK m) p2) (kSrt (mK m) (m a_c) p3) := by unfold kCd; rw [if_neg (fun h => h224 h.2)]
                      rw [ecd]
                      generalize em4 : zu (zu m3 a_toldCodes (m aM f_wide) (kCd (m a_c) (kN (mK m) p) (kN (mK m) p2) (kSrt (mK m) (m a_c) p3))) aM f_wide (m aM f_wide + 1) = m4
                      have f4 : zfr fTl m3 m4 := by rw [← em4]; exact zfr_uj (zfr_ua zfr_rf (by decide)) (by decide)
                      have f4' : zfr [(a_toldCodes, none), (aM, some f_wide)] m3 m4 := by rw [← em4]; exact zfr_uj (zfr_ua zfr_rf (by decide)) (by decide)
                      have hB4 := mB_fr hB3 (zfr_sub f4 (by decide))
                      have hm4 : ptM m4 := hB4.1
                      have hK4 : mK m4 = mK m := (mK_fr f4' (by decide)).trans hK3
                      have hw4 : m4 aM f_wrong = 0 := (zfr_at f4' (by decide)).trans hw3
                      have z4 : zfr fTl m m4 := zfr_tr z3 f4
                      have hn4 : m4 aM f_end = m aM f_end := (zfr_at f4' (by decide)).trans hn3
                      have ht4 : mTk m4 p3 := mTk_K ht3 (mK_fr f4' (by decide)) (zfr_at f4' (by decide)) (zfr_at f4' (by decide)) (zfr_at f4' (by decide)) (zfr_at f4' (by decide)) (zfr_at f4' (by decide)) (zfr_at f4' (by decide))
                      have gw4 : m4 aM f_wide = m aM f_wide + 1 := by rw [← em4]; exact zu_s
                      have gm4 : m4 a_toldCodes = eU (m a_toldCodes) (m aM f_wide) (kCd (m a_c) (kN (mK m) p) (kN (mK m) p2) (kSrt (mK m) (m a_c) p3)) := by rw [← em4, zu_fn (by decide)]; exact eU_t ha_toldCodes3
                      refine z_aload_n dX12_readsLine_265 rfl ?_
                      refine z_callV mlX12_497 dX12_readsLine_266 (sh_M hE) (av := _) rfl rfl (Nat.le_of_ble_eq_true rfl) (x_reads _ hE hB4 hw4 p3 ht4 (by rw [hn4]; exact kSo_lt hok (by omega))) (Nat.le_refl _) (Nat.le_refl _) (Nat.le_refl _) (Nat.le_refl _) ?_
                      rintro _ m5 ⟨rfl, f5, t5⟩
                      have hB5 := mB_fr hB4 (zfr_sub f5 (by decide))
                      have hK5 : mK m5 = mK m := (mK_fr f5 (by decide)).trans hK4
                      have hw5 : m5 aM f_wrong = 0 := (zfr_at f5 (by decide)).trans hw4
                      have z5 : zfr fTl m m5 := zfr_tr z4 (zfr_sub f5 (by decide))
                      have hn5 : m5 aM f_end = m aM f_end := (zfr_at f5 (by decide)).trans hn4
                      have hm5 : ptM m5 := hB5.1
                      rw [hK4] at t5
                      obtain ⟨p5, e5⟩ : ∃ x, x = kR (mK m) p3 := ⟨_, rfl⟩
                      rw [← e5] at t5
                      have ht5 := t5
                      refine z_aload_n dX12_readsLine_269 rfl ?_
                      refine z_aload_n dX12_readsLine_270 rfl ?_
                      refine z_bipush dX12_readsLine_271 rfl (by decide) ?_
                      refine z_callV mlX12_520 dX12_readsLine_273 (sh_M hE) (av := [_]) rfl rfl (Nat.le_of_ble_eq_true rfl) (by have h := x_isSign (d + 3) hE hB5 hw5 p5 ht5 59 (by decide) (by decide); rw [hK5] at h; exact h) (Nat.le_refl _) (Nat.le_refl _) (Nat.le_refl _) (Nat.le_refl _) ?_
                      rintro _ _ ⟨rfl, rfl⟩
                      by_cases y273 : kSn (mK m) p5 59
                      · rw [zb_t y273]
                        refine z_callV mlX12_506 dX12_readsLine_276 (sh_M hE) (av := [_]) rfl rfl (Nat.le_of_ble_eq_true rfl) (x_takesT _ hE hB5 hw5 p5 ht5 (by rw [hn5]; exact kSo_lt hok (by rw [y273.1]; decide))) (Nat.le_refl _) (Nat.le_refl _) (Nat.le_refl _) (Nat.le_refl _) ?_
                        rintro _ m6 ⟨rfl, f6, t6⟩
                        have hB6 := mB_fr hB5 (zfr_sub f6 (by decide))
                        have hK6 : mK m6 = mK m := (mK_fr f6 (by decide)).trans hK5
                        have hw6 : m6 aM f_wrong = 0 := (zfr_at f6 (by decide)).trans hw5
                        have z6 : zfr fTl m m6 := zfr_tr z5 (zfr_sub f6 (by decide))
                        have hn6 : m6 aM f_end = m aM f_end := (zfr_at f6 (by decide)).trans hn5
                        have hm6 : ptM m6 := hB6.1
                        rw [hK5] at t6
                        obtain ⟨p6, e6⟩ : ∃ x, x = kR (mK m) p5 := ⟨_, rfl⟩
                        rw [← e6] at t6
                        have ht6 := t6
                        refine z_vret dX12_readsLine_279 rfl rfl ?_
                        have eA : pLin (mK m) (m a_c) (m aM f_letters) (m a_toldCodes) (m aM f_wide) p = (0, 0, eU (m a_toldCodes) (m aM f_wide) (kCd (m a_c) (kN (mK m) p) (kN (mK m) p2) (kSrt (mK m) (m a_c) p3)), m aM f_wide + 1, p6) := by unfold pLin; rw [if_neg (not_not_intro g1), if_neg (not_not_intro i1), if_neg (by omega), ← e1, if_neg (not_not_intro (Or.inl h59)), ← e2, if_neg (not_not_intro g3), if_neg (not_not_intro i3), ← e3, if_neg (not_not_intro (Decidable.not_not.mp h111)), if_neg (by omega), if_neg (not_not_intro (by rw [zb_f (fun h => absurd h.1 (by omega))]; exact Decidable.not_not.mp h185)), ← e5, if_neg (not_not_intro y273), ← e6]
                        rw [eA]
                        refine ⟨rfl, ?_⟩
                        exact ⟨z6, hw6, fun h => absurd rfl h, fun _ => ⟨(zfr_cell f6 (by decide)).trans ((zfr_cell f5 (by decide)).trans gm4), (zfr_at f6 (by decide)).trans ((zfr_at f5 (by decide)).trans gw4), ht6⟩⟩
                      · rw [zb_f y273]
                        refine z_callV mlX12_506 dX12_readsLine_276 (sh_M hE) (av := [_]) rfl rfl (Nat.le_of_ble_eq_true rfl) (by have h := x_takesF (d) hE hB5 hw5 p5 ht5; rw [hK5] at h; exact h) (Nat.le_refl _) (Nat.le_refl _) (Nat.le_refl _) (Nat.le_refl _) ?_
                        rintro _ m6 ⟨rfl, b6⟩
                        have hB6 : mB m6 := b6 ▸ mB_bad hB5
                        have hw6 : m6 aM f_wrong = kMis (mK m) p5 := b6 ▸ mBad_w
                        have ha6 : m6 aM f_wrongAt = p5 := b6 ▸ mBad_a
                        have z6 : zfr fTl m m6 := b6 ▸ zfr_uj (zfr_uj z5 (by decide)) (by decide)
                        have hd6 : 0 < m6 aM f_wrong := by rw [hw6]; first | exact kMis_pos | decide
                        have hm6 : ptM m6 := hB6.1
                        refine z_vret dX12_readsLine_279 rfl rfl ?_
                        have eA : pLin (mK m) (m a_c) (m aM f_letters) (m a_toldCodes) (m aM f_wide) p = (kMis (mK m) p5, p5, m a_toldCodes, m aM f_wide, p) := by unfold pLin; rw [if_neg (not_not_intro g1), if_neg (not_not_intro i1), if_neg (by omega), ← e1, if_neg (not_not_intro (Or.inl h59)), ← e2, if_neg (not_not_intro g3), if_neg (not_not_intro i3), ← e3, if_neg (not_not_intro (Decidable.not_not.mp h111)), if_neg (by omega), if_neg (not_not_intro (by rw [zb_f (fun h => absurd h.1 (by omega))]; exact Decidable.not_not.mp h185)), ← e5, if_pos y273]
                        rw [eA]
                        refine ⟨rfl, ?_⟩
                        exact ⟨z6, hw6, fun _ => ha6, fun h => absurd (show (kMis (mK m) p5 : Int) = 0 from h) (by first | exact kMis_ne | decide)⟩
                    · refine z_bipush dX12_readsLine_227 rfl (by decide) ?_
                      refine z_iload_n dX12_readsLine_229 rfl ?_
                      refine z_mul dX12_readsLine_230 (by omega) ?_
                      refine z_bipush dX12_readsLine_231 rfl (by decide) ?_
                      refine z_iload_n dX12_readsLine_233 rfl ?_
                      refine z_mul dX12_readsLine_234 (by omega) ?_
                      refine z_add dX12_readsLine_235 (by omega) ?_
                      refine z_iload dX12_readsLine_236 rfl ?_
                      refine z_add dX12_readsLine_238 (by omega) ?_
                      refine z_goto (tgt := 254) dX12_readsLine_239 rfl ?_
                      refine z_iast dX12_readsLine_254 (sh_toldCodes hE) (by omega) (by omega) ?_
                      refine z_aload_n dX12_readsLine_255 rfl ?_
                      refine z_dup dX12_readsLine_256 rfl ?_
                      refine z_gIv f_wide rfl flX12_545 dX12_readsLine_257 (sh_M hE) rfl (Eq.trans (zu_a (by decide)) hwide3) ?_
                      refine z_iconst dX12_readsLine_260 (by decide) ?_
                      refine z_add dX12_readsLine_261 (by omega) ?_
                      refine z_pI f_wide rfl (fpX12_545 _) dX12_readsLine_262 (sh_M hE) rfl ?_
                      have ecd : 100 * kN (mK m) p2 + 10 * kN (mK m) p + (kSrt (mK m) (m a_c) p3) = kCd (m a_c) (kN (mK m) p) (kN (mK m) p2) (kSrt (mK m) (m a_c) p3) := by unfold kCd; rw [if_pos ⟨by omega, h224⟩]
                      rw [ecd]
                      generalize em4 : zu (zu m3 a_toldCodes (m aM f_wide) (kCd (m a_c) (kN (mK m) p) (kN (mK m) p2) (kSrt (mK m) (m a_c) p3))) aM f_wide (m aM f_wide + 1) = m4
                      have f4 : zfr fTl m3 m4 := by rw [← em4]; exact zfr_uj (zfr_ua zfr_rf (by decide)) (by decide)
                      have f4' : zfr [(a_toldCodes, none), (aM, some f_wide)] m3 m4 := by rw [← em4]; exact zfr_uj (zfr_ua zfr_rf (by decide)) (by decide)
                      have hB4 := mB_fr hB3 (zfr_sub f4 (by decide))
                      have hm4 : ptM m4 := hB4.1
                      have hK4 : mK m4 = mK m := (mK_fr f4' (by decide)).trans hK3
                      have hw4 : m4 aM f_wrong = 0 := (zfr_at f4' (by decide)).trans hw3
                      have z4 : zfr fTl m m4 := zfr_tr z3 f4
                      have hn4 : m4 aM f_end = m aM f_end := (zfr_at f4' (by decide)).trans hn3
                      have ht4 : mTk m4 p3 := mTk_K ht3 (mK_fr f4' (by decide)) (zfr_at f4' (by decide)) (zfr_at f4' (by decide)) (zfr_at f4' (by decide)) (zfr_at f4' (by decide)) (zfr_at f4' (by decide)) (zfr_at f4' (by decide))
                      have gw4 : m4 aM f_wide = m aM f_wide + 1 := by rw [← em4]; exact zu_s
                      have gm4 : m4 a_toldCodes = eU (m a_toldCodes) (m aM f_wide) (kCd (m a_c) (kN (mK m) p) (kN (mK m) p2) (kSrt (mK m) (m a_c) p3)) := by rw [← em4, zu_fn (by decide)]; exact eU_t ha_toldCodes3
                      refine z_aload_n dX12_readsLine_265 rfl ?_
                      refine z_callV mlX12_497 dX12_readsLine_266 (sh_M hE) (av := _) rfl rfl (Nat.le_of_ble_eq_true rfl) (x_reads _ hE hB4 hw4 p3 ht4 (by rw [hn4]; exact kSo_lt hok (by omega))) (Nat.le_refl _) (Nat.le_refl _) (Nat.le_refl _) (Nat.le_refl _) ?_
                      rintro _ m5 ⟨rfl, f5, t5⟩
                      have hB5 := mB_fr hB4 (zfr_sub f5 (by decide))
                      have hK5 : mK m5 = mK m := (mK_fr f5 (by decide)).trans hK4
                      have hw5 : m5 aM f_wrong = 0 := (zfr_at f5 (by decide)).trans hw4
                      have z5 : zfr fTl m m5 := zfr_tr z4 (zfr_sub f5 (by decide))
                      have hn5 : m5 aM f_end = m aM f_end := (zfr_at f5 (by decide)).trans hn4
                      have hm5 : ptM m5 := hB5.1
                      rw [hK4] at t5
                      obtain ⟨p5, e5⟩ : ∃ x, x = kR (mK m) p3 := ⟨_, rfl⟩
                      rw [← e5] at t5
                      have ht5 := t5
                      refine z_aload_n dX12_readsLine_269 rfl ?_
                      refine z_aload_n dX12_readsLine_270 rfl ?_
                      refine z_bipush dX12_readsLine_271 rfl (by decide) ?_
                      refine z_callV mlX12_520 dX12_readsLine_273 (sh_M hE) (av := [_]) rfl rfl (Nat.le_of_ble_eq_true rfl) (by have h := x_isSign (d + 3) hE hB5 hw5 p5 ht5 59 (by decide) (by decide); rw [hK5] at h; exact h) (Nat.le_refl _) (Nat.le_refl _) (Nat.le_refl _) (Nat.le_refl _) ?_
                      rintro _ _ ⟨rfl, rfl⟩
                      by_cases y273 : kSn (mK m) p5 59
                      · rw [zb_t y273]
                        refine z_callV mlX12_506 dX12_readsLine_276 (sh_M hE) (av := [_]) rfl rfl (Nat.le_of_ble_eq_true rfl) (x_takesT _ hE hB5 hw5 p5 ht5 (by rw [hn5]; exact kSo_lt hok (by rw [y273.1]; decide))) (Nat.le_refl _) (Nat.le_refl _) (Nat.le_refl _) (Nat.le_refl _) ?_
                        rintro _ m6 ⟨rfl, f6, t6⟩
                        have hB6 := mB_fr hB5 (zfr_sub f6 (by decide))
                        have hK6 : mK m6 = mK m := (mK_fr f6 (by decide)).trans hK5
                        have hw6 : m6 aM f_wrong = 0 := (zfr_at f6 (by decide)).trans hw5
                        have z6 : zfr fTl m m6 := zfr_tr z5 (zfr_sub f6 (by decide))
                        have hn6 : m6 aM f_end = m aM f_end := (zfr_at f6 (by decide)).trans hn5
                        have hm6 : ptM m6 := hB6.1
                        rw [hK5] at t6
                        obtain ⟨p6, e6⟩ : ∃ x, x = kR (mK m) p5 := ⟨_, rfl⟩
                        rw [← e6] at t6
                        have ht6 := t6
                        refine z_vret dX12_readsLine_279 rfl rfl ?_
                        have eA : pLin (mK m) (m a_c) (m aM f_letters) (m a_toldCodes) (m aM f_wide) p = (0, 0, eU (m a_toldCodes) (m aM f_wide) (kCd (m a_c) (kN (mK m) p) (kN (mK m) p2) (kSrt (mK m) (m a_c) p3)), m aM f_wide + 1, p6) := by unfold pLin; rw [if_neg (not_not_intro g1), if_neg (not_not_intro i1), if_neg (by omega), ← e1, if_neg (not_not_intro (Or.inl h59)), ← e2, if_neg (not_not_intro g3), if_neg (not_not_intro i3), ← e3, if_neg (not_not_intro (Decidable.not_not.mp h111)), if_neg (by omega), if_neg (not_not_intro (by rw [zb_f (fun h => absurd h.1 (by omega))]; exact Decidable.not_not.mp h185)), ← e5, if_neg (not_not_intro y273), ← e6]
                        rw [eA]
                        refine ⟨rfl, ?_⟩
                        exact ⟨z6, hw6, fun h => absurd rfl h, fun _ => ⟨(zfr_cell f6 (by decide)).trans ((zfr_cell f5 (by decide)).trans gm4), (zfr_at f6 (by decide)).trans ((zfr_at f5 (by decide)).trans gw4), ht6⟩⟩
                      · rw [zb_f y273]
                        refine z_callV mlX12_506 dX12_readsLine_276 (sh_M hE) (av := [_]) rfl rfl (Nat.le_of_ble_eq_true rfl) (by have h := x_takesF (d) hE hB5 hw5 p5 ht5; rw [hK5] at h; exact h) (Nat.le_refl _) (Nat.le_refl _) (Nat.le_refl _) (Nat.le_refl _) ?_
                        rintro _ m6 ⟨rfl, b6⟩
                        have hB6 : mB m6 := b6 ▸ mB_bad hB5
                        have hw6 : m6 aM f_wrong = kMis (mK m) p5 := b6 ▸ mBad_w
                        have ha6 : m6 aM f_wrongAt = p5 := b6 ▸ mBad_a
                        have z6 : zfr fTl m m6 := b6 ▸ zfr_uj (zfr_uj z5 (by decide)) (by decide)
                        have hd6 : 0 < m6 aM f_wrong := by rw [hw6]; first | exact kMis_pos | decide
                        have hm6 : ptM m6 := hB6.1
                        refine z_vret dX12_readsLine_279 rfl rfl ?_
                        have eA : pLin (mK m) (m a_c) (m aM f_letters) (m a_toldCodes) (m aM f_wide) p = (kMis (mK m) p5, p5, m a_toldCodes, m aM f_wide, p) := by unfold pLin; rw [if_neg (not_not_intro g1), if_neg (not_not_intro i1), if_neg (by omega), ← e1, if_neg (not_not_intro (Or.inl h59)), ← e2, if_neg (not_not_intro g3), if_neg (not_not_intro i3), ← e3, if_neg (not_not_intro (Decidable.not_not.mp h111)), if_neg (by omega), if_neg (not_not_intro (by rw [zb_f (fun h => absurd h.1 (by omega))]; exact Decidable.not_not.mp h185)), ← e5, if_pos y273]
                        rw [eA]
                        refine ⟨rfl, ?_⟩
                        exact ⟨z6, hw6, fun _ => ha6, fun h => absurd (show (kMis (mK m) p5 : Int) = 0 from h) (by first | exact kMis_ne | decide)⟩
              · refine z_aload_n dX12_readsLine_170 rfl ?_
                refine z_iload dX12_readsLine_171 rfl ?_
                refine z_callV mlX12_148 dX12_readsLine_173 (sh_M hE) (av := [_]) rfl rfl (Nat.le_of_ble_eq_true rfl) (by have h := r_isPair (d + 3) hE hm3 (kSrt (mK m) (m a_c) p3) (by omega) (by omega); rw [ha_c3] at h; exact h) (Nat.le_refl _) (Nat.le_refl _) (Nat.le_refl _) (Nat.le_refl _) ?_
                rintro _ _ ⟨rfl, rfl⟩
                refine z_ifz_eq (tgt := 183) dX12_readsLine_176 rfl (fun h176 => ?_) (fun h176 => ?_)
                · refine z_iconst dX12_readsLine_183 (by decide) ?_
                  refine z_iload_n dX12_readsLine_184 rfl ?_
                  refine z_icmp_ne (tgt := 192) dX12_readsLine_185 rfl (fun h185 => ?_) (fun h185 => ?_)
                  · refine z_iconst dX12_readsLine_192 (by decide) ?_
                    refine z_iconst dX12_readsLine_193 (by decide) ?_
                    refine z_callV mlX12_493 dX12_readsLine_194 (sh_M hE) (av := [_, _]) rfl rfl (Nat.le_of_ble_eq_true rfl) (x_mustK _ hE hB3 hw3 p3 ht3 4 (by decide)) (Nat.le_refl _) (Nat.le_refl _) (Nat.le_refl _) (Nat.le_refl _) ?_
                    rintro _ m4 ⟨rfl, b4⟩
                    have hB4 : mB m4 := b4 ▸ mB_bad hB3
                    have hw4 : m4 aM f_wrong = 4 := b4 ▸ mBad_w
                    have ha4 : m4 aM f_wrongAt = p3 := b4 ▸ mBad_a
                    have z4 : zfr fTl m m4 := b4 ▸ zfr_uj (zfr_uj z3 (by decide)) (by decide)
                    have hd4 : 0 < m4 aM f_wrong := by rw [hw4]; first | exact kMis_pos | decide
                    have hm4 : ptM m4 := hB4.1
                    have ha_c4 : m4 a_c = m a_c := (b4 ▸ (zu_fn (by decide)).trans (zu_fn (by decide)) : m4 a_c = m3 a_c).trans ha_c3
                    have ha_toldCodes4 : m4 a_toldCodes = m a_toldCodes := (b4 ▸ (zu_fn (by decide)).trans (zu_fn (by decide)) : m4 a_toldCodes = m3 a_toldCodes).trans ha_toldCodes3
                    have hletters4 : m4 aM f_letters = m aM f_letters := (b4 ▸ (zu_j (by decide)).trans (zu_j (by decide)) : m4 aM f_letters = m3 aM f_letters).trans hletters3
                    have hwide4 : m4 aM f_wide = m aM f_wide := (b4 ▸ (zu_j (by decide)).trans (zu_j (by decide)) : m4 aM f_wide = m3 aM f_wide).trans hwide3
                    refine z_aload_n dX12_readsLine_197 rfl ?_
                    refine z_gIv f_wrong rfl flX12_487 dX12_readsLine_198 (sh_M hE) rfl hw4 ?_
                    refine z_if_le (tgt := 205) dX12_readsLine_201 rfl (fun h => absurd h (by omega)) (fun h201 => ?_)
                    refine z_vret dX12_readsLine_204 rfl rfl ?_
                    have eA : pLin (mK m) (m a_c) (m aM f_letters) (m a_toldCodes) (m aM f_wide) p = (4, p3, m a_toldCodes, m aM f_wide, p) := by unfold pLin; rw [if_neg (not_not_intro g1), if_neg (not_not_intro i1), if_neg (by omega), ← e1, if_neg (not_not_intro (Or.inl h59)), ← e2, if_neg (not_not_intro g3), if_neg (not_not_intro i3), ← e3, if_neg (not_not_intro (Decidable.not_not.mp h111)), if_neg (by omega), if_pos (by rw [zb_f (fun h => h176 h.2)]; exact h185)]
                    rw [eA]
                    refine ⟨rfl, ?_⟩
                    exact ⟨z4, hw4, fun _ => ha4, fun h => absurd (show (4 : Int) = 0 from h) (by first | exact kMis_ne | decide)⟩
                  · refine z_iconst dX12_readsLine_188 (by decide) ?_
                    refine z_goto (tgt := 193) dX12_readsLine_189 rfl ?_
                    refine z_iconst dX12_readsLine_193 (by decide) ?_
                    refine z_callV mlX12_493 dX12_readsLine_194 (sh_M hE) (av := [_, _]) rfl rfl (Nat.le_of_ble_eq_true rfl) (x_mustT _ hE hB3 1 4 (Or.inl (by decide))) (Nat.le_refl _) (Nat.le_refl _) (Nat.le_refl _) (Nat.le_refl _) ?_
                    rintro _ _ ⟨rfl, rfl⟩
                    refine z_aload_n dX12_readsLine_197 rfl ?_
                    refine z_gIv f_wrong rfl flX12_487 dX12_readsLine_198 (sh_M hE) rfl hw3 ?_
                    refine z_if_le (tgt := 205) dX12_readsLine_201 rfl (fun h201 => ?_) (fun h => absurd (by omega) h)
                    refine z_aload_n dX12_readsLine_205 rfl ?_
                    refine z_gP 53 rfl (r := a_toldCodes) flX12_108 dX12_readsLine_206 (sh_M hE) rfl (pt_toldCodes hm3) (by decide) ?_
                    refine z_aload_n dX12_readsLine_209 rfl ?_
                    refine z_gIv f_wide rfl flX12_545 dX12_readsLine_210 (sh_M hE) rfl hwide3 ?_
                    refine z_iload_n dX12_readsLine_213 rfl ?_
                    refine z_iload_n dX12_readsLine_214 rfl ?_
                    refine z_icmp_le (tgt := 242) dX12_readsLine_215 rfl (fun h215 => ?_) (fun h215 => ?_)
                    · refine z_bipush dX12_readsLine_242 rfl (by decide) ?_
                      refine z_iload_n dX12_readsLine_244 rfl ?_
                      refine z_mul dX12_readsLine_245 (by omega) ?_
                      refine z_bipush dX12_readsLine_246 rfl (by decide) ?_
                      refine z_iload_n dX12_readsLine_248 rfl ?_
                      refine z_mul dX12_readsLine_249 (by omega) ?_
                      refine z_add dX12_readsLine_250 (by omega) ?_
                      refine z_iload dX12_readsLine_251 rfl ?_
                      refine z_add dX12_readsLine_253 (by omega) ?_
                      refine z_iast dX12_readsLine_254 (sh_toldCodes hE) (by omega) (by omega) ?_
                      refine z_aload_n dX12_readsLine_255 rfl ?_
                      refine z_dup dX12_readsLine_256 rfl ?_
                      refine z_gIv f_wide rfl flX12_545 dX12_readsLine_257 (sh_M hE) rfl (Eq.trans (zu_a (by decide)) hwide3) ?_
                      refine z_iconst dX12_readsLine_260 (by decide) ?_
                      refine z_add dX12_readsLine_261 (by omega) ?_
                      refine z_pI f_wide rfl (fpX12_545 _) dX12_readsLine_262 (sh_M hE) rfl ?_
                      have ecd : 100 * kN (mK m) p + 10 * kN (mK m) p2 + (kSrt (mK m) (m a_c) p3) = kCd (m a_c) (kN (mK m) p) (kN (mK m) p2) (kSrt (mK m) (m a_c) p3) := by unfold kCd; rw [if_neg (fun h => absurd h.1 (by omega))]
                      rw [ecd]
                      generalize em4 : zu (zu m3 a_toldCodes (m aM f_wide) (kCd (m a_c) (kN (mK m) p) (kN (mK m) p2) (kSrt (mK m) (m a_c) p3))) aM f_wide (m aM f_wide + 1) = m4
                      have f4 : zfr fTl m3 m4 := by rw [← em4]; exact zfr_uj (zfr_ua zfr_rf (by decide)) (by decide)
                      have f4' : zfr [(a_toldCodes, none), (aM, some f_wide)] m3 m4 := by rw [← em4]; exact zfr_uj (zfr_ua zfr_rf (by decide)) (by decide)
                      have hB4 := mB_fr hB3 (zfr_sub f4 (by decide))
                      have hm4 : ptM m4 := hB4.1
                      have hK4 : mK m4 = mK m := (mK_fr f4' (by decide)).trans hK3
                      have hw4 : m4 aM f_wrong = 0 := (zfr_at f4' (by decide)).trans hw3
                      have z4 : zfr fTl m m4 := zfr_tr z3 f4
                      have hn4 : m4 aM f_end = m aM f_end := (zfr_at f4' (by decide)).trans hn3
                      have ht4 : mTk m4 p3 := mTk_K ht3 (mK_fr f4' (by decide)) (zfr_at f4' (by decide)) (zfr_at f4' (by decide)) (zfr_at f4' (by decide)) (zfr_at f4' (by decide)) (zfr_at f4' (by decide)) (zfr_at f4' (by decide))
                      have gw4 : m4 aM f_wide = m aM f_wide + 1 := by rw [← em4]; exact zu_s
                      have gm4 : m4 a_toldCodes = eU (m a_toldCodes) (m aM f_wide) (kCd (m a_c) (kN (mK m) p) (kN (mK m) p2) (kSrt (mK m) (m a_c) p3)) := by rw [← em4, zu_fn (by decide)]; exact eU_t ha_toldCodes3
                      refine z_aload_n dX12_readsLine_265 rfl ?_
                      refine z_callV mlX12_497 dX12_readsLine_266 (sh_M hE) (av := _) rfl rfl (Nat.le_of_ble_eq_true rfl) (x_reads _ hE hB4 hw4 p3 ht4 (by rw [hn4]; exact kSo_lt hok (by omega))) (Nat.le_refl _) (Nat.le_refl _) (Nat.le_refl _) (Nat.le_refl _) ?_
                      rintro _ m5 ⟨rfl, f5, t5⟩
                      have hB5 := mB_fr hB4 (zfr_sub f5 (by decide))
                      have hK5 : mK m5 = mK m := (mK_fr f5 (by decide)).trans hK4
                      have hw5 : m5 aM f_wrong = 0 := (zfr_at f5 (by decide)).trans hw4
                      have z5 : zfr fTl m m5 := zfr_tr z4 (zfr_sub f5 (by decide))
                      have hn5 : m5 aM f_end = m aM f_end := (zfr_at f5 (by decide)).trans hn4
                      have hm5 : ptM m5 := hB5.1
                      rw [hK4] at t5
                      obtain ⟨p5, e5⟩ : ∃ x, x = kR (mK m) p3 := ⟨_, rfl⟩
                      rw [← e5] at t5
                      have ht5 := t5
                      refine z_aload_n dX12_readsLine_269 rfl ?_
                      refine z_aload_n dX12_readsLine_270 rfl ?_
                      refine z_bipush dX12_readsLine_271 rfl (by decide) ?_
                      refine z_callV mlX12_520 dX12_readsLine_273 (sh_M hE) (av := [_]) rfl rfl (Nat.le_of_ble_eq_true rfl) (by have h := x_isSign (d + 3) hE hB5 hw5 p5 ht5 59 (by decide) (by decide); rw [hK5] at h; exact h) (Nat.le_refl _) (Nat.le_refl _) (Nat.le_refl _) (Nat.le_refl _) ?_
                      rintro _ _ ⟨rfl, rfl⟩
                      by_cases y273 : kSn (mK m) p5 59
                      · rw [zb_t y273]
                        refine z_callV mlX12_506 dX12_readsLine_276 (sh_M hE) (av := [_]) rfl rfl (Nat.le_of_ble_eq_true rfl) (x_takesT _ hE hB5 hw5 p5 ht5 (by rw [hn5]; exact kSo_lt hok (by rw [y273.1]; decide))) (Nat.le_refl _) (Nat.le_refl _) (Nat.le_refl _) (Nat.le_refl _) ?_
                        rintro _ m6 ⟨rfl, f6, t6⟩
                        have hB6 := mB_fr hB5 (zfr_sub f6 (by decide))
                        have hK6 : mK m6 = mK m := (mK_fr f6 (by decide)).trans hK5
                        have hw6 : m6 aM f_wrong = 0 := (zfr_at f6 (by decide)).trans hw5
                        have z6 : zfr fTl m m6 := zfr_tr z5 (zfr_sub f6 (by decide))
                        have hn6 : m6 aM f_end = m aM f_end := (zfr_at f6 (by decide)).trans hn5
                        have hm6 : ptM m6 := hB6.1
                        rw [hK5] at t6
                        obtain ⟨p6, e6⟩ : ∃ x, x = kR (mK m) p5 := ⟨_, rfl⟩
                        rw [← e6] at t6
                        have ht6 := t6
                        refine z_vret dX12_readsLine_279 rfl rfl ?_
                        have eA : pLin (mK m) (m a_c) (m aM f_letters) (m a_toldCodes) (m aM f_wide) p = (0, 0, eU (m a_toldCodes) (m aM f_wide) (kCd (m a_c) (kN (mK m) p) (kN (mK m) p2) (kSrt (mK m) (m a_c) p3)), m aM f_wide + 1, p6) := by unfold pLin; rw [if_neg (not_not_intro g1), if_neg (not_not_intro i1), if_neg (by omega), ← e1, if_neg (not_not_intro (Or.inl h59)), ← e2, if_neg (not_not_intro g3), if_neg (not_not_intro i3), ← e3, if_neg (not_not_intro (Decidable.not_not.mp h111)), if_neg (by omega), if_neg (not_not_intro (by rw [zb_f (fun h => h176 h.2)]; exact Decidable.not_not.mp h185)), ← e5, if_neg (not_not_intro y273), ← e6]
                        rw [eA]
                        refine ⟨rfl, ?_⟩
                        exact ⟨z6, hw6, fun h => absurd rfl h, fun _ => ⟨(zfr_cell f6 (by decide)).trans ((zfr_cell f5 (by decide)).trans gm4), (zfr_at f6 (by decide)).trans ((zfr_at f5 (by decide)).trans gw4), ht6⟩⟩
                      · rw [zb_f y273]
                        refine z_callV mlX12_506 dX12_readsLine_276 (sh_M hE) (av := [_]) rfl rfl (Nat.le_of_ble_eq_true rfl) (by have h := x_takesF (d) hE hB5 hw5 p5 ht5; rw [hK5] at h; exact h) (Nat.le_refl _) (Nat.le_refl _) (Nat.le_refl _) (Nat.le_refl _) ?_
                        rintro _ m6 ⟨rfl, b6⟩
                        have hB6 : mB m6 := b6 ▸ mB_bad hB5
                        have hw6 : m6 aM f_wrong = kMis (mK m) p5 := b6 ▸ mBad_w
                        have ha6 : m6 aM f_wrongAt = p5 := b6 ▸ mBad_a
                        have z6 : zfr fTl m m6 := b6 ▸ zfr_uj (zfr_uj z5 (by decide)) (by decide)
                        have hd6 : 0 < m6 aM f_wrong := by rw [hw6]; first | exact kMis_pos | decide
                        have hm6 : ptM m6 := hB6.1
                        refine z_vret dX12_readsLine_279 rfl rfl ?_
                        have eA : pLin (mK m) (m a_c) (m aM f_letters) (m a_toldCodes) (m aM f_wide) p = (kMis (mK m) p5, p5, m a_toldCodes, m aM f_wide, p) := by unfold pLin; rw [if_neg (not_not_intro g1), if_neg (not_not_intro i1), if_neg (by omega), ← e1, if_neg (not_not_intro (Or.inl h59)), ← e2, if_neg (not_not_intro g3), if_neg (not_not_intro i3), ← e3, if_neg (not_not_intro (Decidable.not_not.mp h111)), if_neg (by omega), if_neg (not_not_intro (by rw [zb_f (fun h => h176 h.2)]; exact Decidable.not_not.mp h185)), ← e5, if_pos y273]
                        rw [eA]
                        refine ⟨rfl, ?_⟩
                        exact ⟨z6, hw6, fun _ => ha6, fun h => absurd (show (kMis (mK m) p5 : Int) = 0 from h) (by first | exact kMis_ne | decide)⟩
                    · refine z_aload_n dX12_readsLine_218 rfl ?_
                      refine z_iload dX12_readsLine_219 rfl ?_
                      refine z_callV mlX12_206 dX12_readsLine_221 (sh_M hE) (av := [_]) rfl rfl (Nat.le_of_ble_eq_true rfl) (by have h := r_isRealSort (d + 2) hE hm3 (kSrt (mK m) (m a_c) p3) (by omega) (by omega); rw [ha_c3] at h; exact h) (Nat.le_refl _) (Nat.le_refl _) (Nat.le_refl _) (Nat.le_refl _) ?_
                      rintro _ _ ⟨rfl, rfl⟩
                      refine z_ifz_eq (tgt := 242) dX12_readsLine_224 rfl (fun h224 => ?_) (fun h224 => ?_)
                      · refine z_bipush dX12_readsLine_242 rfl (by decide) ?_
                        refine z_iload_n dX12_readsLine_244 rfl ?_
                        refine z_mul dX12_readsLine_245 (by omega) ?_
                        refine z_bipush dX12_readsLine_246 rfl (by decide) ?_
                        refine z_iload_n dX12_readsLine_248 rfl ?_
                        refine z_mul dX12_readsLine_249 (by omega) ?_
                        refine z_add dX12_readsLine_250 (by omega) ?_
                        refine z_iload dX12_readsLine_251 rfl ?_
                        refine z_add dX12_readsLine_253 (by omega) ?_
                        refine z_iast dX12_readsLine_254 (sh_toldCodes hE) (by omega) (by omega) ?_
                        refine z_aload_n dX12_readsLine_255 rfl ?_
                        refine z_dup dX12_readsLine_256 rfl ?_
                        refine z_gIv f_wide rfl flX12_545 dX12_readsLine_257 (sh_M hE) rfl (Eq.trans (zu_a (by decide)) hwide3) ?_
                        refine z_iconst dX12_readsLine_260 (by decide) ?_
                        refine z_add dX12_readsLine_261 (by omega) ?_
                        refine z_pI f_wide rfl (fpX12_545 _) dX12_readsLine_262 (sh_M hE) rfl ?_
                        have ecd : 100 * kN (mK m) p + 10 * kN (mK m) p2 + (kSrt (mK m) (m a_c) p3) = kCd (m a_c) (kN (mK m) p) (kN (mK m) p2) (kSrt (mK m) (m a_c) p3) := by unfold kCd; rw [if_neg (fun h => h224 h.2)]
                        rw [ecd]
                        generalize em4 : zu (zu m3 a_toldCodes (m aM f_wide) (kCd (m a_c) (kN (mK m) p) (kN (mK m) p2) (kSrt (mK m) (m a_c) p3))) aM f_wide (m aM f_wide + 1) = m4
                        have f4 : zfr fTl m3 m4 := by rw [← em4]; exact zfr_uj (zfr_ua zfr_rf (by decide)) (by decide)
                        have f4' : zfr [(a_toldCodes, none), (aM, some f_wide)] m3 m4 := by rw [← em4]; exact zfr_uj (zfr_ua zfr_rf (by decide)) (by decide)
                        have hB4 := mB_fr hB3 (zfr_sub f4 (by decide))
                        have hm4 : ptM m4 := hB4.1
                        have hK4 : mK m4 = mK m := (mK_fr f4' (by decide)).trans hK3
                        have hw4 : m4 aM f_wrong = 0 := (zfr_at f4' (by decide)).trans hw3
                        have z4 : zfr fTl m m4 := zfr_tr z3 f4
                        have hn4 : m4 aM f_end = m aM f_end := (zfr_at f4' (by decide)).trans hn3
                        have ht4 : mTk m4 p3 := mTk_K ht3 (mK_fr f4' (by decide)) (zfr_at f4' (by decide)) (zfr_at f4' (by decide)) (zfr_at f4' (by decide)) (zfr_at f4' (by decide)) (zfr_at f4' (by decide)) (zfr_at f4' (by decide))
                        have gw4 : m4 aM f_wide = m aM f_wide + 1 := by rw [← em4]; exact zu_s
                        have gm4 : m4 a_toldCodes = eU (m a_toldCodes) (m aM f_wide) (kCd (m a_c) (kN (mK m) p) (kN (mK m) p2) (kSrt (mK m) (m a_c) p3)) := by rw [← em4, zu_fn (by decide)]; exact eU_t ha_toldCodes3
                        refine z_aload_n dX12_readsLine_265 rfl ?_
                        refine z_callV mlX12_497 dX12_readsLine_266 (sh_M hE) (av := _) rfl rfl (Nat.le_of_ble_eq_true rfl) (x_reads _ hE hB4 hw4 p3 ht4 (by rw [hn4]; exact kSo_lt hok (by omega))) (Nat.le_refl _) (Nat.le_refl _) (Nat.le_refl _) (Nat.le_refl _) ?_
                        rintro _ m5 ⟨rfl, f5, t5⟩
                        have hB5 := mB_fr hB4 (zfr_sub f5 (by decide))
                        have hK5 : mK m5 = mK m := (mK_fr f5 (by decide)).trans hK4
                        have hw5 : m5 aM f_wrong = 0 := (zfr_at f5 (by decide)).trans hw4
                        have z5 : zfr fTl m m5 := zfr_tr z4 (zfr_sub f5 (by decide))
                        have hn5 : m5 aM f_end = m aM f_end := (zfr_at f5 (by decide)).trans hn4
                        have hm5 : ptM m5 := hB5.1
                        rw [hK4] at t5
                        obtain ⟨p5, e5⟩ : ∃ x, x = kR (mK m) p3 := ⟨_, rfl⟩
                        rw [← e5] at t5
                        have ht5 := t5
                        refine z_aload_n dX12_readsLine_269 rfl ?_
                        refine z_aload_n dX12_readsLine_270 rfl ?_
                        refine z_bipush dX12_readsLine_271 rfl (by decide) ?_
                        refine z_callV mlX12_520 dX12_readsLine_273 (sh_M hE) (av := [_]) rfl rfl (Nat.le_of_ble_eq_true rfl) (by have h := x_isSign (d + 3) hE hB5 hw5 p5 ht5 59 (by decide) (by decide); rw [hK5] at h; exact h) (Nat.le_refl _) (Nat.le_refl _) (Nat.le_refl _) (Nat.le_refl _) ?_
                        rintro _ _ ⟨rfl, rfl⟩
                        by_cases y273 : kSn (mK m) p5 59
                        · rw [zb_t y273]
                          refine z_callV mlX12_506 dX12_readsLine_276 (sh_M hE) (av := [_]) rfl rfl (Nat.le_of_ble_eq_true rfl) (x_takesT _ hE hB5 hw5 p5 ht5 (by rw [hn5]; exact kSo_lt hok (by rw [y273.1]; decide))) (Nat.le_refl _) (Nat.le_refl _) (Nat.le_refl _) (Nat.le_refl _) ?_
                          rintro _ m6 ⟨rfl, f6, t6⟩
                          have hB6 := mB_fr hB5 (zfr_sub f6 (by decide))
                          have hK6 : mK m6 = mK m := (mK_fr f6 (by decide)).trans hK5
                          have hw6 : m6 aM f_wrong = 0 := (zfr_at f6 (by decide)).trans hw5
                          have z6 : zfr fTl m m6 := zfr_tr z5 (zfr_sub f6 (by decide))
                          have hn6 : m6 aM f_end = m aM f_end := (zfr_at f6 (by decide)).trans hn5
                          have hm6 : ptM m6 := hB6.1
                          rw [hK5] at t6
                          obtain ⟨p6, e6⟩ : ∃ x, x = kR (mK m) p5 := ⟨_, rfl⟩
                          rw [← e6] at t6
                          have ht6 := t6
                          refine z_vret dX12_readsLine_279 rfl rfl ?_
                          have eA : pLin (mK m) (m a_c) (m aM f_letters) (m a_toldCodes) (m aM f_wide) p = (0, 0, eU (m a_toldCodes) (m aM f_wide) (kCd (m a_c) (kN (mK m) p) (kN (mK m) p2) (kSrt (mK m) (m a_c) p3)), m aM f_wide + 1, p6) := by unfold pLin; rw [if_neg (not_not_intro g1), if_neg (not_not_intro i1), if_neg (by omega), ← e1, if_neg (not_not_intro (Or.inl h59)), ← e2, if_neg (not_not_intro g3), if_neg (not_not_intro i3), ← e3, if_neg (not_not_intro (Decidable.not_not.mp h111)), if_neg (by omega), if_neg (not_not_intro (by rw [zb_f (fun h => h176 h.2)]; exact Decidable.not_not.mp h185)), ← e5, if_neg (not_not_intro y273), ← e6]
                          rw [eA]
                          refine ⟨rfl, ?_⟩
                          exact ⟨z6, hw6, fun h => absurd rfl h, fun _ => ⟨(zfr_cell f6 (by decide)).trans ((zfr_cell f5 (by decide)).trans gm4), (zfr_at f6 (by decide)).trans ((zfr_at f5 (by decide)).trans gw4), ht6⟩⟩
                        · rw [zb_f y273]
                          refine z_callV mlX12_506 dX12_readsLine_276 (sh_M hE) (av := [_]) rfl rfl (Nat.le_of_ble_eq_true rfl) (by have h := x_takesF (d) hE hB5 hw5 p5 ht5; rw [hK5] at h; exact h) (Nat.le_refl _) (Nat.le_refl _) (Nat.le_refl _) (Nat.le_refl _) ?_
                          rintro _ m6 ⟨rfl, b6⟩
                          have hB6 : mB m6 := b6 ▸ mB_bad hB5
                          have hw6 : m6 aM f_wrong = kMis (mK m) p5 := b6 ▸ mBad_w
                          have ha6 : m6 aM f_wrongAt = p5 := b6 ▸ mBad_a
                          have z6 : zfr fTl m m6 := b6 ▸ zfr_uj (zfr_uj z5 (by decide)) (by decide)
                          have hd6 : 0 < m6 aM f_wrong := by rw [hw6]; first | exact kMis_pos | decide
                          have hm6 : ptM m6 := hB6.1
                          refine z_vret dX12_readsLine_279 rfl rfl ?_
                          have eA : pLin (mK m) (m a_c) (m aM f_letters) (m a_toldCodes) (m aM f_wide) p = (kMis (mK m) p5, p5, m a_toldCodes, m aM f_wide, p) := by unfold pLin; rw [if_neg (not_not_intro g1), if_neg (not_not_intro i1), if_neg (by omega), ← e1, if_neg (not_not_intro (Or.inl h59)), ← e2, if_neg (not_not_intro g3), if_neg (not_not_intro i3), ← e3, if_neg (not_not_intro (Decidable.not_not.mp h111)), if_neg (by omega), if_neg (not_not_intro (by rw [zb_f (fun h => h176 h.2)]; exact Decidable.not_not.mp h185)), ← e5, if_pos y273]
                          rw [eA]
                          refine ⟨rfl, ?_⟩
                          exact ⟨z6, hw6, fun _ => ha6, fun h => absurd (show (kMis (mK m) p5 : Int) = 0 from h) (by first | exact kMis_ne | decide)⟩
                      · refine z_bipush dX12_readsLine_227 rfl (by decide) ?_
                        refine z_iload_n dX12_readsLine_229 rfl ?_
                        refine z_mul dX12_readsLine_230 (by omega) ?_
                        refine z_bipush dX12_readsLine_231 rfl (by decide) ?_
                        refine z_iload_n dX12_readsLine_233 rfl ?_
                        refine z_mul dX12_readsLine_234 (by omega) ?_
                        refine z_add dX12_readsLine_235 (by omega) ?_
                        refine z_iload dX12_readsLine_236 rfl ?_
                        refine z_add dX12_readsLine_238 (by omega) ?_
                        refine z_goto (tgt := 254) dX12_readsLine_239 rfl ?_
                        refine z_iast dX12_readsLine_254 (sh_toldCodes hE) (by omega) (by omega) ?_
                        refine z_aload_n dX12_readsLine_255 rfl ?_
                        refine z_dup dX12_readsLine_256 rfl ?_
                        refine z_gIv f_wide rfl flX12_545 dX12_readsLine_257 (sh_M hE) rfl (Eq.trans (zu_a (by decide)) hwide3) ?_
                        refine z_iconst dX12_readsLine_260 (by decide) ?_
                        refine z_add dX12_readsLine_261 (by omega) ?_
                        refine z_pI f_wide rfl (fpX12_545 _) dX12_readsLine_262 (sh_M hE) rfl ?_
                        have ecd : 100 * kN (mK m) p2 + 10 * kN (mK m) p + (kSrt (mK m) (m a_c) p3) = kCd (m a_c) (kN (mK m) p) (kN (mK m) p2) (kSrt (mK m) (m a_c) p3) := by unfold kCd; rw [if_pos ⟨by omega, h224⟩]
                        rw [ecd]
                        generalize em4 : zu (zu m3 a_toldCodes (m aM f_wide) (kCd (m a_c) (kN (mK m) p) (kN (mK m) p2) (kSrt (mK m) (m a_c) p3))) aM f_wide (m aM f_wide + 1) = m4
                        have f4 : zfr fTl m3 m4 := by rw [← em4]; exact zfr_uj (zfr_ua zfr_rf (by decide)) (by decide)
                        have f4' : zfr [(a_toldCodes, none), (aM, some f_wide)] m3 m4 := by rw [← em4]; exact zfr_uj (zfr_ua zfr_rf (by decide)) (by decide)
                        have hB4 := mB_fr hB3 (zfr_sub f4 (by decide))
                        have hm4 : ptM m4 := hB4.1
                        have hK4 : mK m4 = mK m := (mK_fr f4' (by decide)).trans hK3
                        have hw4 : m4 aM f_wrong = 0 := (zfr_at f4' (by decide)).trans hw3
                        have z4 : zfr fTl m m4 := zfr_tr z3 f4
                        have hn4 : m4 aM f_end = m aM f_end := (zfr_at f4' (by decide)).trans hn3
                        have ht4 : mTk m4 p3 := mTk_K ht3 (mK_fr f4' (by decide)) (zfr_at f4' (by decide)) (zfr_at f4' (by decide)) (zfr_at f4' (by decide)) (zfr_at f4' (by decide)) (zfr_at f4' (by decide)) (zfr_at f4' (by decide))
                        have gw4 : m4 aM f_wide = m aM f_wide + 1 := by rw [← em4]; exact zu_s
                        have gm4 : m4 a_toldCodes = eU (m a_toldCodes) (m aM f_wide) (kCd (m a_c) (kN (mK m) p) (kN (mK m) p2) (kSrt (mK m) (m a_c) p3)) := by rw [← em4, zu_fn (by decide)]; exact eU_t ha_toldCodes3
                        refine z_aload_n dX12_readsLine_265 rfl ?_
                        refine z_callV mlX12_497 dX12_readsLine_266 (sh_M hE) (av := _) rfl rfl (Nat.le_of_ble_eq_true rfl) (x_reads _ hE hB4 hw4 p3 ht4 (by rw [hn4]; exact kSo_lt hok (by omega))) (Nat.le_refl _) (Nat.le_refl _) (Nat.le_refl _) (Nat.le_refl _) ?_
                        rintro _ m5 ⟨rfl, f5, t5⟩
                        have hB5 := mB_fr hB4 (zfr_sub f5 (by decide))
                        have hK5 : mK m5 = mK m := (mK_fr f5 (by decide)).trans hK4
                        have hw5 : m5 aM f_wrong = 0 := (zfr_at f5 (by decide)).trans hw4
                        have z5 : zfr fTl m m5 := zfr_tr z4 (zfr_sub f5 (by decide))
                        have hn5 : m5 aM f_end = m aM f_end := (zfr_at f5 (by decide)).trans hn4
                        have hm5 : ptM m5 := hB5.1
                        rw [hK4] at t5
                        obtain ⟨p5, e5⟩ : ∃ x, x = kR (mK m) p3 := ⟨_, rfl⟩
                        rw [← e5] at t5
                        have ht5 := t5
                        refine z_aload_n dX12_readsLine_269 rfl ?_
                        refine z_aload_n dX12_readsLine_270 rfl ?_
                        refine z_bipush dX12_readsLine_271 rfl (by decide) ?_
                        refine z_callV mlX12_520 dX12_readsLine_273 (sh_M hE) (av := [_]) rfl rfl (Nat.le_of_ble_eq_true rfl) (by have h := x_isSign (d + 3) hE hB5 hw5 p5 ht5 59 (by decide) (by decide); rw [hK5] at h; exact h) (Nat.le_refl _) (Nat.le_refl _) (Nat.le_refl _) (Nat.le_refl _) ?_
                        rintro _ _ ⟨rfl, rfl⟩
                        by_cases y273 : kSn (mK m) p5 59
                        · rw [zb_t y273]
                          refine z_callV mlX12_506 dX12_readsLine_276 (sh_M hE) (av := [_]) rfl rfl (Nat.le_of_ble_eq_true rfl) (x_takesT _ hE hB5 hw5 p5 ht5 (by rw [hn5]; exact kSo_lt hok (by rw [y273.1]; decide))) (Nat.le_refl _) (Nat.le_refl _) (Nat.le_refl _) (Nat.le_refl _) ?_
                          rintro _ m6 ⟨rfl, f6, t6⟩
                          have hB6 := mB_fr hB5 (zfr_sub f6 (by decide))
                          have hK6 : mK m6 = mK m := (mK_fr f6 (by decide)).trans hK5
                          have hw6 : m6 aM f_wrong = 0 := (zfr_at f6 (by decide)).trans hw5
                          have z6 : zfr fTl m m6 := zfr_tr z5 (zfr_sub f6 (by decide))
                          have hn6 : m6 aM f_end = m aM f_end := (zfr_at f6 (by decide)).trans hn5
                          have hm6 : ptM m6 := hB6.1
                          rw [hK5] at t6
                          obtain ⟨p6, e6⟩ : ∃ x, x = kR (mK m) p5 := ⟨_, rfl⟩
                          rw [← e6] at t6
                          have ht6 := t6
                          refine z_vret dX12_readsLine_279 rfl rfl ?_
                          have eA : pLin (mK m) (m a_c) (m aM f_letters) (m a_toldCodes) (m aM f_wide) p = (0, 0, eU (m a_toldCodes) (m aM f_wide) (kCd (m a_c) (kN (mK m) p) (kN (mK m) p2) (kSrt (mK m) (m a_c) p3)), m aM f_wide + 1, p6) := by unfold pLin; rw [if_neg (not_not_intro g1), if_neg (not_not_intro i1), if_neg (by omega), ← e1, if_neg (not_not_intro (Or.inl h59)), ← e2, if_neg (not_not_intro g3), if_neg (not_not_intro i3), ← e3, if_neg (not_not_intro (Decidable.not_not.mp h111)), if_neg (by omega), if_neg (not_not_intro (by rw [zb_f (fun h => h176 h.2)]; exact Decidable.not_not.mp h185)), ← e5, if_neg (not_not_intro y273), ← e6]
                          rw [eA]
                          refine ⟨rfl, ?_⟩
                          exact ⟨z6, hw6, fun h => absurd rfl h, fun _ => ⟨(zfr_cell f6 (by decide)).trans ((zfr_cell f5 (by decide)).trans gm4), (zfr_at f6 (by decide)).trans ((zfr_at f5 (by decide)).trans gw4), ht6⟩⟩
                        · rw [zb_f y273]
                          refine z_callV mlX12_506 dX12_readsLine_276 (sh_M hE) (av := [_]) rfl rfl (Nat.le_of_ble_eq_true rfl) (by have h := x_takesF (d) hE hB5 hw5 p5 ht5; rw [hK5] at h; exact h) (Nat.le_refl _) (Nat.le_refl _) (Nat.le_refl _) (Nat.le_refl _) ?_
                          rintro _ m6 ⟨rfl, b6⟩
                          have hB6 : mB m6 := b6 ▸ mB_bad hB5
                          have hw6 : m6 aM f_wrong = kMis (mK m) p5 := b6 ▸ mBad_w
                          have ha6 : m6 aM f_wrongAt = p5 := b6 ▸ mBad_a
                          have z6 : zfr fTl m m6 := b6 ▸ zfr_uj (zfr_uj z5 (by decide)) (by decide)
                          have hd6 : 0 < m6 aM f_wrong := by rw [hw6]; first | exact kMis_pos | decide
                          have hm6 : ptM m6 := hB6.1
                          refine z_vret dX12_readsLine_279 rfl rfl ?_
                          have eA : pLin (mK m) (m a_c) (m aM f_letters) (m a_toldCodes) (m aM f_wide) p = (kMis (mK m) p5, p5, m a_toldCodes, m aM f_wide, p) := by unfold pLin; rw [if_neg (not_not_intro g1), if_neg (not_not_intro i1), if_neg (by omega), ← e1, if_neg (not_not_intro (Or.inl h59)), ← e2, if_neg (not_not_intro g3), if_neg (not_not_intro i3), ← e3, if_neg (not_not_intro (Decidable.not_not.mp h111)), if_neg (by omega), if_neg (not_not_intro (by rw [zb_f (fun h => h176 h.2)]; exact Decidable.not_not.mp h185)), ← e5, if_pos y273]
                          rw [eA]
                          refine ⟨rfl, ?_⟩
                          exact ⟨z6, hw6, fun _ => ha6, fun h => absurd (show (kMis (mK m) p5 : Int) = 0 from h) (by first | exact kMis_ne | decide)⟩
                · refine z_iconst dX12_readsLine_179 (by decide) ?_
                  refine z_goto (tgt := 184) dX12_readsLine_180 rfl ?_
                  refine z_iload_n dX12_readsLine_184 rfl ?_
                  refine z_icmp_ne (tgt := 192) dX12_readsLine_185 rfl (fun h185 => ?_) (fun h185 => ?_)
                  · refine z_iconst dX12_readsLine_192 (by decide) ?_
                    refine z_iconst dX12_readsLine_193 (by decide) ?_
                    refine z_callV mlX12_493 dX12_readsLine_194 (sh_M hE) (av := [_, _]) rfl rfl (Nat.le_of_ble_eq_true rfl) (x_mustK _ hE hB3 hw3 p3 ht3 4 (by decide)) (Nat.le_refl _) (Nat.le_refl _) (Nat.le_refl _) (Nat.le_refl _) ?_
                    rintro _ m4 ⟨rfl, b4⟩
                    have hB4 : mB m4 := b4 ▸ mB_bad hB3
                    have hw4 : m4 aM f_wrong = 4 := b4 ▸ mBad_w
                    have ha4 : m4 aM f_wrongAt = p3 := b4 ▸ mBad_a
                    have z4 : zfr fTl m m4 := b4 ▸ zfr_uj (zfr_uj z3 (by decide)) (by decide)
                    have hd4 : 0 < m4 aM f_wrong := by rw [hw4]; first | exact kMis_pos | decide
                    have hm4 : ptM m4 := hB4.1
                    have ha_c4 : m4 a_c = m a_c := (b4 ▸ (zu_fn (by decide)).trans (zu_fn (by decide)) : m4 a_c = m3 a_c).trans ha_c3
                    have ha_toldCodes4 : m4 a_toldCodes = m a_toldCodes := (b4 ▸ (zu_fn (by decide)).trans (zu_fn (by decide)) : m4 a_toldCodes = m3 a_toldCodes).trans ha_toldCodes3
                    have hletters4 : m4 aM f_letters = m aM f_letters := (b4 ▸ (zu_j (by decide)).trans (zu_j (by decide)) : m4 aM f_letters = m3 aM f_letters).trans hletters3
                    have hwide4 : m4 aM f_wide = m aM f_wide := (b4 ▸ (zu_j (by decide)).trans (zu_j (by decide)) : m4 aM f_wide = m3 aM f_wide).trans hwide3
                    refine z_aload_n dX12_readsLine_197 rfl ?_
                    refine z_gIv f_wrong rfl flX12_487 dX12_readsLine_198 (sh_M hE) rfl hw4 ?_
                    refine z_if_le (tgt := 205) dX12_readsLine_201 rfl (fun h => absurd h (by omega)) (fun h201 => ?_)
                    refine z_vret dX12_readsLine_204 rfl rfl ?_
                    have eA : pLin (mK m) (m a_c) (m aM f_letters) (m a_toldCodes) (m aM f_wide) p = (4, p3, m a_toldCodes, m aM f_wide, p) := by unfold pLin; rw [if_neg (not_not_intro g1), if_neg (not_not_intro i1), if_neg (by omega), ← e1, if_neg (not_not_intro (Or.inl h59)), ← e2, if_neg (not_not_intro g3), if_neg (not_not_intro i3), ← e3, if_neg (not_not_intro (Decidable.not_not.mp h111)), if_neg (by omega), if_pos (by rw [zb_t ⟨by omega, h176⟩]; exact h185)]
                    rw [eA]
                    refine ⟨rfl, ?_⟩
                    exact ⟨z4, hw4, fun _ => ha4, fun h => absurd (show (4 : Int) = 0 from h) (by first | exact kMis_ne | decide)⟩
                  · refine z_iconst dX12_readsLine_188 (by decide) ?_
                    refine z_goto (tgt := 193) dX12_readsLine_189 rfl ?_
                    refine z_iconst dX12_readsLine_193 (by decide) ?_
                    refine z_callV mlX12_493 dX12_readsLine_194 (sh_M hE) (av := [_, _]) rfl rfl (Nat.le_of_ble_eq_true rfl) (x_mustT _ hE hB3 1 4 (Or.inl (by decide))) (Nat.le_refl _) (Nat.le_refl _) (Nat.le_refl _) (Nat.le_refl _) ?_
                    rintro _ _ ⟨rfl, rfl⟩
                    refine z_aload_n dX12_readsLine_197 rfl ?_
                    refine z_gIv f_wrong rfl flX12_487 dX12_readsLine_198 (sh_M hE) rfl hw3 ?_
                    refine z_if_le (tgt := 205) dX12_readsLine_201 rfl (fun h201 => ?_) (fun h => absurd (by omega) h)
                    refine z_aload_n dX12_readsLine_205 rfl ?_
                    refine z_gP 53 rfl (r := a_toldCodes) flX12_108 dX12_readsLine_206 (sh_M hE) rfl (pt_toldCodes hm3) (by decide) ?_
                    refine z_aload_n dX12_readsLine_209 rfl ?_
                    refine z_gIv f_wide rfl flX12_545 dX12_readsLine_210 (sh_M hE) rfl hwide3 ?_
                    refine z_iload_n dX12_readsLine_213 rfl ?_
                    refine z_iload_n dX12_readsLine_214 rfl ?_
                    refine z_icmp_le (tgt := 242) dX12_readsLine_215 rfl (fun h215 => ?_) (fun h215 => ?_)
                    · refine z_bipush dX12_readsLine_242 rfl (by decide) ?_
                      refine z_iload_n dX12_readsLine_244 rfl ?_
                      refine z_mul dX12_readsLine_245 (by omega) ?_
                      refine z_bipush dX12_readsLine_246 rfl (by decide) ?_
                      refine z_iload_n dX12_readsLine_248 rfl ?_
                      refine z_mul dX12_readsLine_249 (by omega) ?_
                      refine z_add dX12_readsLine_250 (by omega) ?_
                      refine z_iload dX12_readsLine_251 rfl ?_
                      refine z_add dX12_readsLine_253 (by omega) ?_
                      refine z_iast dX12_readsLine_254 (sh_toldCodes hE) (by omega) (by omega) ?_
                      refine z_aload_n dX12_readsLine_255 rfl ?_
                      refine z_dup dX12_readsLine_256 rfl ?_
                      refine z_gIv f_wide rfl flX12_545 dX12_readsLine_257 (sh_M hE) rfl (Eq.trans (zu_a (by decide)) hwide3) ?_
                      refine z_iconst dX12_readsLine_260 (by decide) ?_
                      refine z_add dX12_readsLine_261 (by omega) ?_
                      refine z_pI f_wide rfl (fpX12_545 _) dX12_readsLine_262 (sh_M hE) rfl ?_
                      have ecd : 100 * kN (mK m) p + 10 * kN (mK m) p2 + (kSrt (mK m) (m a_c) p3) = kCd (m a_c) (kN (mK m) p) (kN (mK m) p2) (kSrt (mK m) (m a_c) p3) := by unfold kCd; rw [if_neg (fun h => absurd h.1 (by omega))]
                      rw [ecd]
                      generalize em4 : zu (zu m3 a_toldCodes (m aM f_wide) (kCd (m a_c) (kN (mK m) p) (kN (mK m) p2) (kSrt (mK m) (m a_c) p3))) aM f_wide (m aM f_wide + 1) = m4
                      have f4 : zfr fTl m3 m4 := by rw [← em4]; exact zfr_uj (zfr_ua zfr_rf (by decide)) (by decide)
                      have f4' : zfr [(a_toldCodes, none), (aM, some f_wide)] m3 m4 := by rw [← em4]; exact zfr_uj (zfr_ua zfr_rf (by decide)) (by decide)
                      have hB4 := mB_fr hB3 (zfr_sub f4 (by decide))
                      have hm4 : ptM m4 := hB4.1
                      have hK4 : mK m4 = mK m := (mK_fr f4' (by decide)).trans hK3
                      have hw4 : m4 aM f_wrong = 0 := (zfr_at f4' (by decide)).trans hw3
                      have z4 : zfr fTl m m4 := zfr_tr z3 f4
                      have hn4 : m4 aM f_end = m aM f_end := (zfr_at f4' (by decide)).trans hn3
                      have ht4 : mTk m4 p3 := mTk_K ht3 (mK_fr f4' (by decide)) (zfr_at f4' (by decide)) (zfr_at f4' (by decide)) (zfr_at f4' (by decide)) (zfr_at f4' (by decide)) (zfr_at f4' (by decide)) (zfr_at f4' (by decide))
                      have gw4 : m4 aM f_wide = m aM f_wide + 1 := by rw [← em4]; exact zu_s
                      have gm4 : m4 a_toldCodes = eU (m a_toldCodes) (m aM f_wide) (kCd (m a_c) (kN (mK m) p) (kN (mK m) p2) (kSrt (mK m) (m a_c) p3)) := by rw [← em4, zu_fn (by decide)]; exact eU_t ha_toldCodes3
                      refine z_aload_n dX12_readsLine_265 rfl ?_
                      refine z_callV mlX12_497 dX12_readsLine_266 (sh_M hE) (av := _) rfl rfl (Nat.le_of_ble_eq_true rfl) (x_reads _ hE hB4 hw4 p3 ht4 (by rw [hn4]; exact kSo_lt hok (by omega))) (Nat.le_refl _) (Nat.le_refl _) (Nat.le_refl _) (Nat.le_refl _) ?_
                      rintro _ m5 ⟨rfl, f5, t5⟩
                      have hB5 := mB_fr hB4 (zfr_sub f5 (by decide))
                      have hK5 : mK m5 = mK m := (mK_fr f5 (by decide)).trans hK4
                      have hw5 : m5 aM f_wrong = 0 := (zfr_at f5 (by decide)).trans hw4
                      have z5 : zfr fTl m m5 := zfr_tr z4 (zfr_sub f5 (by decide))
                      have hn5 : m5 aM f_end = m aM f_end := (zfr_at f5 (by decide)).trans hn4
                      have hm5 : ptM m5 := hB5.1
                      rw [hK4] at t5
                      obtain ⟨p5, e5⟩ : ∃ x, x = kR (mK m) p3 := ⟨_, rfl⟩
                      rw [← e5] at t5
                      have ht5 := t5
                      refine z_aload_n dX12_readsLine_269 rfl ?_
                      refine z_aload_n dX12_readsLine_270 rfl ?_
                      refine z_bipush dX12_readsLine_271 rfl (by decide) ?_
                      refine z_callV mlX12_520 dX12_readsLine_273 (sh_M hE) (av := [_]) rfl rfl (Nat.le_of_ble_eq_true rfl) (by have h := x_isSign (d + 3) hE hB5 hw5 p5 ht5 59 (by decide) (by decide); rw [hK5] at h; exact h) (Nat.le_refl _) (Nat.le_refl _) (Nat.le_refl _) (Nat.le_refl _) ?_
                      rintro _ _ ⟨rfl, rfl⟩
                      by_cases y273 : kSn (mK m) p5 59
                      · rw [zb_t y273]
                        refine z_callV mlX12_506 dX12_readsLine_276 (sh_M hE) (av := [_]) rfl rfl (Nat.le_of_ble_eq_true rfl) (x_takesT _ hE hB5 hw5 p5 ht5 (by rw [hn5]; exact kSo_lt hok (by rw [y273.1]; decide))) (Nat.le_refl _) (Nat.le_refl _) (Nat.le_refl _) (Nat.le_refl _) ?_
                        rintro _ m6 ⟨rfl, f6, t6⟩
                        have hB6 := mB_fr hB5 (zfr_sub f6 (by decide))
                        have hK6 : mK m6 = mK m := (mK_fr f6 (by decide)).trans hK5
                        have hw6 : m6 aM f_wrong = 0 := (zfr_at f6 (by decide)).trans hw5
                        have z6 : zfr fTl m m6 := zfr_tr z5 (zfr_sub f6 (by decide))
                        have hn6 : m6 aM f_end = m aM f_end := (zfr_at f6 (by decide)).trans hn5
                        have hm6 : ptM m6 := hB6.1
                        rw [hK5] at t6
                        obtain ⟨p6, e6⟩ : ∃ x, x = kR (mK m) p5 := ⟨_, rfl⟩
                        rw [← e6] at t6
                        have ht6 := t6
                        refine z_vret dX12_readsLine_279 rfl rfl ?_
                        have eA : pLin (mK m) (m a_c) (m aM f_letters) (m a_toldCodes) (m aM f_wide) p = (0, 0, eU (m a_toldCodes) (m aM f_wide) (kCd (m a_c) (kN (mK m) p) (kN (mK m) p2) (kSrt (mK m) (m a_c) p3)), m aM f_wide + 1, p6) := by unfold pLin; rw [if_neg (not_not_intro g1), if_neg (not_not_intro i1), if_neg (by omega), ← e1, if_neg (not_not_intro (Or.inl h59)), ← e2, if_neg (not_not_intro g3), if_neg (not_not_intro i3), ← e3, if_neg (not_not_intro (Decidable.not_not.mp h111)), if_neg (by omega), if_neg (not_not_intro (by rw [zb_t ⟨by omega, h176⟩]; exact Decidable.not_not.mp h185)), ← e5, if_neg (not_not_intro y273), ← e6]
                        rw [eA]
                        refine ⟨rfl, ?_⟩
                        exact ⟨z6, hw6, fun h => absurd rfl h, fun _ => ⟨(zfr_cell f6 (by decide)).trans ((zfr_cell f5 (by decide)).trans gm4), (zfr_at f6 (by decide)).trans ((zfr_at f5 (by decide)).trans gw4), ht6⟩⟩
                      · rw [zb_f y273]
                        refine z_callV mlX12_506 dX12_readsLine_276 (sh_M hE) (av := [_]) rfl rfl (Nat.le_of_ble_eq_true rfl) (by have h := x_takesF (d) hE hB5 hw5 p5 ht5; rw [hK5] at h; exact h) (Nat.le_refl _) (Nat.le_refl _) (Nat.le_refl _) (Nat.le_refl _) ?_
                        rintro _ m6 ⟨rfl, b6⟩
                        have hB6 : mB m6 := b6 ▸ mB_bad hB5
                        have hw6 : m6 aM f_wrong = kMis (mK m) p5 := b6 ▸ mBad_w
                        have ha6 : m6 aM f_wrongAt = p5 := b6 ▸ mBad_a
                        have z6 : zfr fTl m m6 := b6 ▸ zfr_uj (zfr_uj z5 (by decide)) (by decide)
                        have hd6 : 0 < m6 aM f_wrong := by rw [hw6]; first | exact kMis_pos | decide
                        have hm6 : ptM m6 := hB6.1
                        refine z_vret dX12_readsLine_279 rfl rfl ?_
                        have eA : pLin (mK m) (m a_c) (m aM f_letters) (m a_toldCodes) (m aM f_wide) p = (kMis (mK m) p5, p5, m a_toldCodes, m aM f_wide, p) := by unfold pLin; rw [if_neg (not_not_intro g1), if_neg (not_not_intro i1), if_neg (by omega), ← e1, if_neg (not_not_intro (Or.inl h59)), ← e2, if_neg (not_not_intro g3), if_neg (not_not_intro i3), ← e3, if_neg (not_not_intro (Decidable.not_not.mp h111)), if_neg (by omega), if_neg (not_not_intro (by rw [zb_t ⟨by omega, h176⟩]; exact Decidable.not_not.mp h185)), ← e5, if_pos y273]
                        rw [eA]
                        refine ⟨rfl, ?_⟩
                        exact ⟨z6, hw6, fun _ => ha6, fun h => absurd (show (kMis (mK m) p5 : Int) = 0 from h) (by first | exact kMis_ne | decide)⟩
                    · refine z_aload_n dX12_readsLine_218 rfl ?_
                      refine z_iload dX12_readsLine_219 rfl ?_
                      refine z_callV mlX12_206 dX12_readsLine_221 (sh_M hE) (av := [_]) rfl rfl (Nat.le_of_ble_eq_true rfl) (by have h := r_isRealSort (d + 2) hE hm3 (kSrt (mK m) (m a_c) p3) (by omega) (by omega); rw [ha_c3] at h; exact h) (Nat.le_refl _) (Nat.le_refl _) (Nat.le_refl _) (Nat.le_refl _) ?_
                      rintro _ _ ⟨rfl, rfl⟩
                      refine z_ifz_eq (tgt := 242) dX12_readsLine_224 rfl (fun h224 => ?_) (fun h224 => ?_)
                      · refine z_bipush dX12_readsLine_242 rfl (by decide) ?_
                        refine z_iload_n dX12_readsLine_244 rfl ?_
                        refine z_mul dX12_readsLine_245 (by omega) ?_
                        refine z_bipush dX12_readsLine_246 rfl (by decide) ?_
                        refine z_iload_n dX12_readsLine_248 rfl ?_
                        refine z_mul dX12_readsLine_249 (by omega) ?_
                        refine z_add dX12_readsLine_250 (by omega) ?_
                        refine z_iload dX12_readsLine_251 rfl ?_
                        refine z_add dX12_readsLine_253 (by omega) ?_
                        refine z_iast dX12_readsLine_254 (sh_toldCodes hE) (by omega) (by omega) ?_
                        refine z_aload_n dX12_readsLine_255 rfl ?_
                        refine z_dup dX12_readsLine_256 rfl ?_
                        refine z_gIv f_wide rfl flX12_545 dX12_readsLine_257 (sh_M hE) rfl (Eq.trans (zu_a (by decide)) hwide3) ?_
                        refine z_iconst dX12_readsLine_260 (by decide) ?_
                        refine z_add dX12_readsLine_261 (by omega) ?_
                        refine z_pI f_wide rfl (fpX12_545 _) dX12_readsLine_262 (sh_M hE) rfl ?_
                        have ecd : 100 * kN (mK m) p + 10 * kN (mK m) p2 + (kSrt (mK m) (m a_c) p3) = kCd (m a_c) (kN (mK m) p) (kN (mK m) p2) (kSrt (mK m) (m a_c) p3) := by unfold kCd; rw [if_neg (fun h => h224 h.2)]
                        rw [ecd]
                        generalize em4 : zu (zu m3 a_toldCodes (m aM f_wide) (kCd (m a_c) (kN (mK m) p) (kN (mK m) p2) (kSrt (mK m) (m a_c) p3))) aM f_wide (m aM f_wide + 1) = m4
                        have f4 : zfr fTl m3 m4 := by rw [← em4]; exact zfr_uj (zfr_ua zfr_rf (by decide)) (by decide)
                        have f4' : zfr [(a_toldCodes, none), (aM, some f_wide)] m3 m4 := by rw [← em4]; exact zfr_uj (zfr_ua zfr_rf (by decide)) (by decide)
                        have hB4 := mB_fr hB3 (zfr_sub f4 (by decide))
                        have hm4 : ptM m4 := hB4.1
                        have hK4 : mK m4 = mK m := (mK_fr f4' (by decide)).trans hK3
                        have hw4 : m4 aM f_wrong = 0 := (zfr_at f4' (by decide)).trans hw3
                        have z4 : zfr fTl m m4 := zfr_tr z3 f4
                        have hn4 : m4 aM f_end = m aM f_end := (zfr_at f4' (by decide)).trans hn3
                        have ht4 : mTk m4 p3 := mTk_K ht3 (mK_fr f4' (by decide)) (zfr_at f4' (by decide)) (zfr_at f4' (by decide)) (zfr_at f4' (by decide)) (zfr_at f4' (by decide)) (zfr_at f4' (by decide)) (zfr_at f4' (by decide))
                        have gw4 : m4 aM f_wide = m aM f_wide + 1 := by rw [← em4]; exact zu_s
                        have gm4 : m4 a_toldCodes = eU (m a_toldCodes) (m aM f_wide) (kCd (m a_c) (kN (mK m) p) (kN (mK m) p2) (kSrt (mK m) (m a_c) p3)) := by rw [← em4, zu_fn (by decide)]; exact eU_t ha_toldCodes3
                        refine z_aload_n dX12_readsLine_265 rfl ?_
                        refine z_callV mlX12_497 dX12_readsLine_266 (sh_M hE) (av := _) rfl rfl (Nat.le_of_ble_eq_true rfl) (x_reads _ hE hB4 hw4 p3 ht4 (by rw [hn4]; exact kSo_lt hok (by omega))) (Nat.le_refl _) (Nat.le_refl _) (Nat.le_refl _) (Nat.le_refl _) ?_
                        rintro _ m5 ⟨rfl, f5, t5⟩
                        have hB5 := mB_fr hB4 (zfr_sub f5 (by decide))
                        have hK5 : mK m5 = mK m := (mK_fr f5 (by decide)).trans hK4
                        have hw5 : m5 aM f_wrong = 0 := (zfr_at f5 (by decide)).trans hw4
                        have z5 : zfr fTl m m5 := zfr_tr z4 (zfr_sub f5 (by decide))
                        have hn5 : m5 aM f_end = m aM f_end := (zfr_at f5 (by decide)).trans hn4
                        have hm5 : ptM m5 := hB5.1
                        rw [hK4] at t5
                        obtain ⟨p5, e5⟩ : ∃ x, x = kR (mK m) p3 := ⟨_, rfl⟩
                        rw [← e5] at t5
                        have ht5 := t5
                        refine z_aload_n dX12_readsLine_269 rfl ?_
                        refine z_aload_n dX12_readsLine_270 rfl ?_
                        refine z_bipush dX12_readsLine_271 rfl (by decide) ?_
                        refine z_callV mlX12_520 dX12_readsLine_273 (sh_M hE) (av := [_]) rfl rfl (Nat.le_of_ble_eq_true rfl) (by have h := x_isSign (d + 3) hE hB5 hw5 p5 ht5 59 (by decide) (by decide); rw [hK5] at h; exact h) (Nat.le_refl _) (Nat.le_refl _) (Nat.le_refl _) (Nat.le_refl _) ?_
                        rintro _ _ ⟨rfl, rfl⟩
                        by_cases y273 : kSn (mK m) p5 59
                        · rw [zb_t y273]
                          refine z_callV mlX12_506 dX12_readsLine_276 (sh_M hE) (av := [_]) rfl rfl (Nat.le_of_ble_eq_true rfl) (x_takesT _ hE hB5 hw5 p5 ht5 (by rw [hn5]; exact kSo_lt hok (by rw [y273.1]; decide))) (Nat.le_refl _) (Nat.le_refl _) (Nat.le_refl _) (Nat.le_refl _) ?_
                          rintro _ m6 ⟨rfl, f6, t6⟩
                          have hB6 := mB_fr hB5 (zfr_sub f6 (by decide))
                          have hK6 : mK m6 = mK m := (mK_fr f6 (by decide)).trans hK5
                          have hw6 : m6 aM f_wrong = 0 := (zfr_at f6 (by decide)).trans hw5
                          have z6 : zfr fTl m m6 := zfr_tr z5 (zfr_sub f6 (by decide))
                          have hn6 : m6 aM f_end = m aM f_end := (zfr_at f6 (by decide)).trans hn5
                          have hm6 : ptM m6 := hB6.1
                          rw [hK5] at t6
                          obtain ⟨p6, e6⟩ : ∃ x, x = kR (mK m) p5 := ⟨_, rfl⟩
                          rw [← e6] at t6
                          have ht6 := t6
                          refine z_vret dX12_readsLine_279 rfl rfl ?_
                          have eA : pLin (mK m) (m a_c) (m aM f_letters) (m a_toldCodes) (m aM f_wide) p = (0, 0, eU (m a_toldCodes) (m aM f_wide) (kCd (m a_c) (kN (mK m) p) (kN (mK m) p2) (kSrt (mK m) (m a_c) p3)), m aM f_wide + 1, p6) := by unfold pLin; rw [if_neg (not_not_intro g1), if_neg (not_not_intro i1), if_neg (by omega), ← e1, if_neg (not_not_intro (Or.inl h59)), ← e2, if_neg (not_not_intro g3), if_neg (not_not_intro i3), ← e3, if_neg (not_not_intro (Decidable.not_not.mp h111)), if_neg (by omega), if_neg (not_not_intro (by rw [zb_t ⟨by omega, h176⟩]; exact Decidable.not_not.mp h185)), ← e5, if_neg (not_not_intro y273), ← e6]
                          rw [eA]
                          refine ⟨rfl, ?_⟩
                          exact ⟨z6, hw6, fun h => absurd rfl h, fun _ => ⟨(zfr_cell f6 (by decide)).trans ((zfr_cell f5 (by decide)).trans gm4), (zfr_at f6 (by decide)).trans ((zfr_at f5 (by decide)).trans gw4), ht6⟩⟩
                        · rw [zb_f y273]
                          refine z_callV mlX12_506 dX12_readsLine_276 (sh_M hE) (av := [_]) rfl rfl (Nat.le_of_ble_eq_true rfl) (by have h := x_takesF (d) hE hB5 hw5 p5 ht5; rw [hK5] at h; exact h) (Nat.le_refl _) (Nat.le_refl _) (Nat.le_refl _) (Nat.le_refl _) ?_
                          rintro _ m6 ⟨rfl, b6⟩
                          have hB6 : mB m6 := b6 ▸ mB_bad hB5
                          have hw6 : m6 aM f_wrong = kMis (mK m) p5 := b6 ▸ mBad_w
                          have ha6 : m6 aM f_wrongAt = p5 := b6 ▸ mBad_a
                          have z6 : zfr fTl m m6 := b6 ▸ zfr_uj (zfr_uj z5 (by decide)) (by decide)
                          have hd6 : 0 < m6 aM f_wrong := by rw [hw6]; first | exact kMis_pos | decide
                          have hm6 : ptM m6 := hB6.1
                          refine z_vret dX12_readsLine_279 rfl rfl ?_
                          have eA : pLin (mK m) (m a_c) (m aM f_letters) (m a_toldCodes) (m aM f_wide) p = (kMis (mK m) p5, p5, m a_toldCodes, m aM f_wide, p) := by unfold pLin; rw [if_neg (not_not_intro g1), if_neg (not_not_intro i1), if_neg (by omega), ← e1, if_neg (not_not_intro (Or.inl h59)), ← e2, if_neg (not_not_intro g3), if_neg (not_not_intro i3), ← e3, if_neg (not_not_intro (Decidable.not_not.mp h111)), if_neg (by omega), if_neg (not_not_intro (by rw [zb_t ⟨by omega, h176⟩]; exact Decidable.not_not.mp h185)), ← e5, if_pos y273]
                          rw [eA]
                          refine ⟨rfl, ?_⟩
                          exact ⟨z6, hw6, fun _ => ha6, fun h => absurd (show (kMis (mK m) p5 : Int) = 0 from h) (by first | exact kMis_ne | decide)⟩
                      · refine z_bipush dX12_readsLine_227 rfl (by decide) ?_
                        refine z_iload_n dX12_readsLine_229 rfl ?_
                        refine z_mul dX12_readsLine_230 (by omega) ?_
                        refine z_bipush dX12_readsLine_231 rfl (by decide) ?_
                        refine z_iload_n dX12_readsLine_233 rfl ?_
                        refine z_mul dX12_readsLine_234 (by omega) ?_
                        refine z_add dX12_readsLine_235 (by omega) ?_
                        refine z_iload dX12_readsLine_236 rfl ?_
                        refine z_add dX12_readsLine_238 (by omega) ?_
                        refine z_goto (tgt := 254) dX12_readsLine_239 rfl ?_
                        refine z_iast dX12_readsLine_254 (sh_toldCodes hE) (by omega) (by omega) ?_
                        refine z_aload_n dX12_readsLine_255 rfl ?_
                        refine z_dup dX12_readsLine_256 rfl ?_
                        refine z_gIv f_wide rfl flX12_545 dX12_readsLine_257 (sh_M hE) rfl (Eq.trans (zu_a (by decide)) hwide3) ?_
                        refine z_iconst dX12_readsLine_260 (by decide) ?_
                        refine z_add dX12_readsLine_261 (by omega) ?_
                        refine z_pI f_wide rfl (fpX12_545 _) dX12_readsLine_262 (sh_M hE) rfl ?_
                        have ecd : 100 * kN (mK m) p2 + 10 * kN (mK m) p + (kSrt (mK m) (m a_c) p3) = kCd (m a_c) (kN (mK m) p) (kN (mK m) p2) (kSrt (mK m) (m a_c) p3) := by unfold kCd; rw [if_pos ⟨by omega, h224⟩]
                        rw [ecd]
                        generalize em4 : zu (zu m3 a_toldCodes (m aM f_wide) (kCd (m a_c) (kN (mK m) p) (kN (mK m) p2) (kSrt (mK m) (m a_c) p3))) aM f_wide (m aM f_wide + 1) = m4
                        have f4 : zfr fTl m3 m4 := by rw [← em4]; exact zfr_uj (zfr_ua zfr_rf (by decide)) (by decide)
                        have f4' : zfr [(a_toldCodes, none), (aM, some f_wide)] m3 m4 := by rw [← em4]; exact zfr_uj (zfr_ua zfr_rf (by decide)) (by decide)
                        have hB4 := mB_fr hB3 (zfr_sub f4 (by decide))
                        have hm4 : ptM m4 := hB4.1
                        have hK4 : mK m4 = mK m := (mK_fr f4' (by decide)).trans hK3
                        have hw4 : m4 aM f_wrong = 0 := (zfr_at f4' (by decide)).trans hw3
                        have z4 : zfr fTl m m4 := zfr_tr z3 f4
                        have hn4 : m4 aM f_end = m aM f_end := (zfr_at f4' (by decide)).trans hn3
                        have ht4 : mTk m4 p3 := mTk_K ht3 (mK_fr f4' (by decide)) (zfr_at f4' (by decide)) (zfr_at f4' (by decide)) (zfr_at f4' (by decide)) (zfr_at f4' (by decide)) (zfr_at f4' (by decide)) (zfr_at f4' (by decide))
                        have gw4 : m4 aM f_wide = m aM f_wide + 1 := by rw [← em4]; exact zu_s
                        have gm4 : m4 a_toldCodes = eU (m a_toldCodes) (m aM f_wide) (kCd (m a_c) (kN (mK m) p) (kN (mK m) p2) (kSrt (mK m) (m a_c) p3)) := by rw [← em4, zu_fn (by decide)]; exact eU_t ha_toldCodes3
                        refine z_aload_n dX12_readsLine_265 rfl ?_
                        refine z_callV mlX12_497 dX12_readsLine_266 (sh_M hE) (av := _) rfl rfl (Nat.le_of_ble_eq_true rfl) (x_reads _ hE hB4 hw4 p3 ht4 (by rw [hn4]; exact kSo_lt hok (by omega))) (Nat.le_refl _) (Nat.le_refl _) (Nat.le_refl _) (Nat.le_refl _) ?_
                        rintro _ m5 ⟨rfl, f5, t5⟩
                        have hB5 := mB_fr hB4 (zfr_sub f5 (by decide))
                        have hK5 : mK m5 = mK m := (mK_fr f5 (by decide)).trans hK4
                        have hw5 : m5 aM f_wrong = 0 := (zfr_at f5 (by decide)).trans hw4
                        have z5 : zfr fTl m m5 := zfr_tr z4 (zfr_sub f5 (by decide))
                        have hn5 : m5 aM f_end = m aM f_end := (zfr_at f5 (by decide)).trans hn4
                        have hm5 : ptM m5 := hB5.1
                        rw [hK4] at t5
                        obtain ⟨p5, e5⟩ : ∃ x, x = kR (mK m) p3 := ⟨_, rfl⟩
                        rw [← e5] at t5
                        have ht5 := t5
                        refine z_aload_n dX12_readsLine_269 rfl ?_
                        refine z_aload_n dX12_readsLine_270 rfl ?_
                        refine z_bipush dX12_readsLine_271 rfl (by decide) ?_
                        refine z_callV mlX12_520 dX12_readsLine_273 (sh_M hE) (av := [_]) rfl rfl (Nat.le_of_ble_eq_true rfl) (by have h := x_isSign (d + 3) hE hB5 hw5 p5 ht5 59 (by decide) (by decide); rw [hK5] at h; exact h) (Nat.le_refl _) (Nat.le_refl _) (Nat.le_refl _) (Nat.le_refl _) ?_
                        rintro _ _ ⟨rfl, rfl⟩
                        by_cases y273 : kSn (mK m) p5 59
                        · rw [zb_t y273]
                          refine z_callV mlX12_506 dX12_readsLine_276 (sh_M hE) (av := [_]) rfl rfl (Nat.le_of_ble_eq_true rfl) (x_takesT _ hE hB5 hw5 p5 ht5 (by rw [hn5]; exact kSo_lt hok (by rw [y273.1]; decide))) (Nat.le_refl _) (Nat.le_refl _) (Nat.le_refl _) (Nat.le_refl _) ?_
                          rintro _ m6 ⟨rfl, f6, t6⟩
                          have hB6 := mB_fr hB5 (zfr_sub f6 (by decide))
                          have hK6 : mK m6 = mK m := (mK_fr f6 (by decide)).trans hK5
                          have hw6 : m6 aM f_wrong = 0 := (zfr_at f6 (by decide)).trans hw5
                          have z6 : zfr fTl m m6 := zfr_tr z5 (zfr_sub f6 (by decide))
                          have hn6 : m6 aM f_end = m aM f_end := (zfr_at f6 (by decide)).trans hn5
                          have hm6 : ptM m6 := hB6.1
                          rw [hK5] at t6
                          obtain ⟨p6, e6⟩ : ∃ x, x = kR (mK m) p5 := ⟨_, rfl⟩
                          rw [← e6] at t6
                          have ht6 := t6
                          refine z_vret dX12_readsLine_279 rfl rfl ?_
                          have eA : pLin (mK m) (m a_c) (m aM f_letters) (m a_toldCodes) (m aM f_wide) p = (0, 0, eU (m a_toldCodes) (m aM f_wide) (kCd (m a_c) (kN (mK m) p) (kN (mK m) p2) (kSrt (mK m) (m a_c) p3)), m aM f_wide + 1, p6) := by unfold pLin; rw [if_neg (not_not_intro g1), if_neg (not_not_intro i1), if_neg (by omega), ← e1, if_neg (not_not_intro (Or.inl h59)), ← e2, if_neg (not_not_intro g3), if_neg (not_not_intro i3), ← e3, if_neg (not_not_intro (Decidable.not_not.mp h111)), if_neg (by omega), if_neg (not_not_intro (by rw [zb_t ⟨by omega, h176⟩]; exact Decidable.not_not.mp h185)), ← e5, if_neg (not_not_intro y273), ← e6]
                          rw [eA]
                          refine ⟨rfl, ?_⟩
                          exact ⟨z6, hw6, fun h => absurd rfl h, fun _ => ⟨(zfr_cell f6 (by decide)).trans ((zfr_cell f5 (by decide)).trans gm4), (zfr_at f6 (by decide)).trans ((zfr_at f5 (by decide)).trans gw4), ht6⟩⟩
                        · rw [zb_f y273]
                          refine z_callV mlX12_506 dX12_readsLine_276 (sh_M hE) (av := [_]) rfl rfl (Nat.le_of_ble_eq_true rfl) (by have h := x_takesF (d) hE hB5 hw5 p5 ht5; rw [hK5] at h; exact h) (Nat.le_refl _) (Nat.le_refl _) (Nat.le_refl _) (Nat.le_refl _) ?_
                          rintro _ m6 ⟨rfl, b6⟩
                          have hB6 : mB m6 := b6 ▸ mB_bad hB5
                          have hw6 : m6 aM f_wrong = kMis (mK m) p5 := b6 ▸ mBad_w
                          have ha6 : m6 aM f_wrongAt = p5 := b6 ▸ mBad_a
                          have z6 : zfr fTl m m6 := b6 ▸ zfr_uj (zfr_uj z5 (by decide)) (by decide)
                          have hd6 : 0 < m6 aM f_wrong := by rw [hw6]; first | exact kMis_pos | decide
                          have hm6 : ptM m6 := hB6.1
                          refine z_vret dX12_readsLine_279 rfl rfl ?_
                          have eA : pLin (mK m) (m a_c) (m aM f_letters) (m a_toldCodes) (m aM f_wide) p = (kMis (mK m) p5, p5, m a_toldCodes, m aM f_wide, p) := by unfold pLin; rw [if_neg (not_not_intro g1), if_neg (not_not_intro i1), if_neg (by omega), ← e1, if_neg (not_not_intro (Or.inl h59)), ← e2, if_neg (not_not_intro g3), if_neg (not_not_intro i3), ← e3, if_neg (not_not_intro (Decidable.not_not.mp h111)), if_neg (by omega), if_neg (not_not_intro (by rw [zb_t ⟨by omega, h176⟩]; exact Decidable.not_not.mp h185)), ← e5, if_pos y273]
                          rw [eA]
                          refine ⟨rfl, ?_⟩
                          exact ⟨z6, hw6, fun _ => ha6, fun h => absurd (show (kMis (mK m) p5 : Int) = 0 from h) (by first | exact kMis_ne | decide)⟩
        · have hB3 : mB m3 := b3 ▸ mB_bad hB2
          have hw3 : m3 aM f_wrong = 3 := b3 ▸ mBad_w
          have ha3 : m3 aM f_wrongAt = p2 := b3 ▸ mBad_a
          have z3 : zfr fTl m m3 := b3 ▸ zfr_uj (zfr_uj z2 (by decide)) (by decide)
          have hd3 : 0 < m3 aM f_wrong := by rw [hw3]; first | exact kMis_pos | decide
          have hm3 : ptM m3 := hB3.1
          have ha_c3 : m3 a_c = m a_c := (b3 ▸ (zu_fn (by decide)).trans (zu_fn (by decide)) : m3 a_c = m2 a_c).trans ha_c2
          have ha_toldCodes3 : m3 a_toldCodes = m a_toldCodes := (b3 ▸ (zu_fn (by decide)).trans (zu_fn (by decide)) : m3 a_toldCodes = m2 a_toldCodes).trans ha_toldCodes2
          have hletters3 : m3 aM f_letters = m aM f_letters := (b3 ▸ (zu_j (by decide)).trans (zu_j (by decide)) : m3 aM f_letters = m2 aM f_letters).trans hletters2
          have hwide3 : m3 aM f_wide = m aM f_wide := (b3 ▸ (zu_j (by decide)).trans (zu_j (by decide)) : m3 aM f_wide = m2 aM f_wide).trans hwide2
          refine z_aload_n dX12_readsLine_89 rfl ?_
          refine z_gI f_number rfl flX12_481 dX12_readsLine_90 (sh_M hE) rfl ?_
          refine z_ist 3 dX12_readsLine_93 rfl (Nat.le_of_ble_eq_true rfl) ?_
          refine z_aload_n dX12_readsLine_94 rfl ?_
          refine z_gIv f_wrong rfl flX12_487 dX12_readsLine_95 (sh_M hE) rfl hw3 ?_
          try dsimp only [zs0, zsI, zsP, zsN, zsJ, zsS, zst2, Nat.reduceAdd]
          refine z_if_ne (tgt := 105) dX12_readsLine_98 rfl (fun h98 => ?_) (fun h => absurd (by omega) h)
          refine z_aload_n dX12_readsLine_105 rfl ?_
          refine z_aload_n dX12_readsLine_106 rfl ?_
          refine z_gI f_sort rfl flX12_471 dX12_readsLine_107 (sh_M hE) rfl ?_
          refine z_iconst dX12_readsLine_110 (by decide) ?_
          refine z_icmp_ne (tgt := 118) dX12_readsLine_111 rfl (fun h111 => ?_) (fun h111 => ?_)
          · refine z_iconst dX12_readsLine_118 (by decide) ?_
            refine z_iconst dX12_readsLine_119 (by decide) ?_
            refine z_callV mlX12_493 dX12_readsLine_120 (sh_M hE) (av := [_, _]) rfl rfl (Nat.le_of_ble_eq_true rfl) (x_mustT _ hE hB3 _ 2 (Or.inr hd3)) (Nat.le_refl _) (Nat.le_refl _) (Nat.le_refl _) (Nat.le_refl _) ?_
            rintro _ _ ⟨rfl, rfl⟩
            refine z_aload_n dX12_readsLine_123 rfl ?_
            refine z_gIv f_wrong rfl flX12_487 dX12_readsLine_124 (sh_M hE) rfl hw3 ?_
            refine z_if_le (tgt := 134) dX12_readsLine_127 rfl (fun h => absurd h (by omega)) (fun h127 => ?_)
            refine z_iconst dX12_readsLine_130 (by decide) ?_
            refine z_goto (tgt := 138) dX12_readsLine_131 rfl ?_
            refine z_istore dX12_readsLine_138 (Nat.le_of_ble_eq_true rfl) ?_
            refine z_aload_n dX12_readsLine_140 rfl ?_
            refine z_iload dX12_readsLine_141 rfl ?_
            try dsimp only [zs0, zsI, zsP, zsN, zsJ, zsS, zst2, Nat.reduceAdd]
            refine z_if_lt (tgt := 150) dX12_readsLine_143 rfl (fun h143 => ?_) (fun h => absurd (by decide) h)
            refine z_iconst dX12_readsLine_150 (by decide) ?_
            refine z_iconst dX12_readsLine_151 (by decide) ?_
            refine z_callV mlX12_493 dX12_readsLine_152 (sh_M hE) (av := [_, _]) rfl rfl (Nat.le_of_ble_eq_true rfl) (x_mustT _ hE hB3 _ 3 (Or.inr hd3)) (Nat.le_refl _) (Nat.le_refl _) (Nat.le_refl _) (Nat.le_refl _) ?_
            rintro _ _ ⟨rfl, rfl⟩
            refine z_aload_n dX12_readsLine_155 rfl ?_
            refine z_aload_n dX12_readsLine_156 rfl ?_
            refine z_gIv f_wrong rfl flX12_487 dX12_readsLine_157 (sh_M hE) rfl hw3 ?_
            refine z_if_gt (tgt := 188) dX12_readsLine_160 rfl (fun h160 => ?_) (fun h => absurd (by omega) h)
            refine z_iconst dX12_readsLine_188 (by decide) ?_
            refine z_goto (tgt := 193) dX12_readsLine_189 rfl ?_
            refine z_iconst dX12_readsLine_193 (by decide) ?_
            refine z_callV mlX12_493 dX12_readsLine_194 (sh_M hE) (av := [_, _]) rfl rfl (Nat.le_of_ble_eq_true rfl) (x_mustT _ hE hB3 _ 4 (Or.inr hd3)) (Nat.le_refl _) (Nat.le_refl _) (Nat.le_refl _) (Nat.le_refl _) ?_
            rintro _ _ ⟨rfl, rfl⟩
            refine z_aload_n dX12_readsLine_197 rfl ?_
            refine z_gIv f_wrong rfl flX12_487 dX12_readsLine_198 (sh_M hE) rfl hw3 ?_
            refine z_if_le (tgt := 205) dX12_readsLine_201 rfl (fun h => absurd h (by omega)) (fun h201 => ?_)
            refine z_vret dX12_readsLine_204 rfl rfl ?_
            have eA : pLin (mK m) (m a_c) (m aM f_letters) (m a_toldCodes) (m aM f_wide) p = (3, p2, m a_toldCodes, m aM f_wide, p) := by unfold pLin; rw [if_neg (not_not_intro g1), if_neg (not_not_intro i1), if_neg (by omega), ← e1, if_neg (not_not_intro (Or.inl h59)), ← e2, if_neg (not_not_intro g3), if_pos i3]
            rw [eA]
            refine ⟨rfl, ?_⟩
            exact ⟨z3, hw3, fun _ => ha3, fun h => absurd (show (3 : Int) = 0 from h) (by first | exact kMis_ne | decide)⟩
          · refine z_iconst dX12_readsLine_114 (by decide) ?_
            refine z_goto (tgt := 119) dX12_readsLine_115 rfl ?_
            refine z_iconst dX12_readsLine_119 (by decide) ?_
            refine z_callV mlX12_493 dX12_readsLine_120 (sh_M hE) (av := [_, _]) rfl rfl (Nat.le_of_ble_eq_true rfl) (x_mustT _ hE hB3 _ 2 (Or.inr hd3)) (Nat.le_refl _) (Nat.le_refl _) (Nat.le_refl _) (Nat.le_refl _) ?_
            rintro _ _ ⟨rfl, rfl⟩
            refine z_aload_n dX12_readsLine_123 rfl ?_
            refine z_gIv f_wrong rfl flX12_487 dX12_readsLine_124 (sh_M hE) rfl hw3 ?_
            refine z_if_le (tgt := 134) dX12_readsLine_127 rfl (fun h => absurd h (by omega)) (fun h127 => ?_)
            refine z_iconst dX12_readsLine_130 (by decide) ?_
            refine z_goto (tgt := 138) dX12_readsLine_131 rfl ?_
            refine z_istore dX12_readsLine_138 (Nat.le_of_ble_eq_true rfl) ?_
            refine z_aload_n dX12_readsLine_140 rfl ?_
            refine z_iload dX12_readsLine_141 rfl ?_
            try dsimp only [zs0, zsI, zsP, zsN, zsJ, zsS, zst2, Nat.reduceAdd]
            refine z_if_lt (tgt := 150) dX12_readsLine_143 rfl (fun h143 => ?_) (fun h => absurd (by decide) h)
            refine z_iconst dX12_readsLine_150 (by decide) ?_
            refine z_iconst dX12_readsLine_151 (by decide) ?_
            refine z_callV mlX12_493 dX12_readsLine_152 (sh_M hE) (av := [_, _]) rfl rfl (Nat.le_of_ble_eq_true rfl) (x_mustT _ hE hB3 _ 3 (Or.inr hd3)) (Nat.le_refl _) (Nat.le_refl _) (Nat.le_refl _) (Nat.le_refl _) ?_
            rintro _ _ ⟨rfl, rfl⟩
            refine z_aload_n dX12_readsLine_155 rfl ?_
            refine z_aload_n dX12_readsLine_156 rfl ?_
            refine z_gIv f_wrong rfl flX12_487 dX12_readsLine_157 (sh_M hE) rfl hw3 ?_
            refine z_if_gt (tgt := 188) dX12_readsLine_160 rfl (fun h160 => ?_) (fun h => absurd (by omega) h)
            refine z_iconst dX12_readsLine_188 (by decide) ?_
            refine z_goto (tgt := 193) dX12_readsLine_189 rfl ?_
            refine z_iconst dX12_readsLine_193 (by decide) ?_
            refine z_callV mlX12_493 dX12_readsLine_194 (sh_M hE) (av := [_, _]) rfl rfl (Nat.le_of_ble_eq_true rfl) (x_mustT _ hE hB3 _ 4 (Or.inr hd3)) (Nat.le_refl _) (Nat.le_refl _) (Nat.le_refl _) (Nat.le_refl _) ?_
            rintro _ _ ⟨rfl, rfl⟩
            refine z_aload_n dX12_readsLine_197 rfl ?_
            refine z_gIv f_wrong rfl flX12_487 dX12_readsLine_198 (sh_M hE) rfl hw3 ?_
            refine z_if_le (tgt := 205) dX12_readsLine_201 rfl (fun h => absurd h (by omega)) (fun h201 => ?_)
            refine z_vret dX12_readsLine_204 rfl rfl ?_
            have eA : pLin (mK m) (m a_c) (m aM f_letters) (m a_toldCodes) (m aM f_wide) p = (3, p2, m a_toldCodes, m aM f_wide, p) := by unfold pLin; rw [if_neg (not_not_intro g1), if_neg (not_not_intro i1), if_neg (by omega), ← e1, if_neg (not_not_intro (Or.inl h59)), ← e2, if_neg (not_not_intro g3), if_pos i3]
            rw [eA]
            refine ⟨rfl, ?_⟩
            exact ⟨z3, hw3, fun _ => ha3, fun h => absurd (show (3 : Int) = 0 from h) (by first | exact kMis_ne | decide)⟩
        · have hB3 : mB m3 := b3 ▸ mB_bad hB2
          have hw3 : m3 aM f_wrong = kMis (mK m) p2 := b3 ▸ mBad_w
          have ha3 : m3 aM f_wrongAt = p2 := b3 ▸ mBad_a
          have z3 : zfr fTl m m3 := b3 ▸ zfr_uj (zfr_uj z2 (by decide)) (by decide)
          have hd3 : 0 < m3 aM f_wrong := by rw [hw3]; first | exact kMis_pos | decide
          have hm3 : ptM m3 := hB3.1
          have ha_c3 : m3 a_c = m a_c := (b3 ▸ (zu_fn (by decide)).trans (zu_fn (by decide)) : m3 a_c = m2 a_c).trans ha_c2
          have ha_toldCodes3 : m3 a_toldCodes = m a_toldCodes := (b3 ▸ (zu_fn (by decide)).trans (zu_fn (by decide)) : m3 a_toldCodes = m2 a_toldCodes).trans ha_toldCodes2
          have hletters3 : m3 aM f_letters = m aM f_letters := (b3 ▸ (zu_j (by decide)).trans (zu_j (by decide)) : m3 aM f_letters = m2 aM f_letters).trans hletters2
          have hwide3 : m3 aM f_wide = m aM f_wide := (b3 ▸ (zu_j (by decide)).trans (zu_j (by decide)) : m3 aM f_wide = m2 aM f_wide).trans hwide2
          refine z_aload_n dX12_readsLine_89 rfl ?_
          refine z_gI f_number rfl flX12_481 dX12_readsLine_90 (sh_M hE) rfl ?_
          refine z_ist 3 dX12_readsLine_93 rfl (Nat.le_of_ble_eq_true rfl) ?_
          refine z_aload_n dX12_readsLine_94 rfl ?_
          refine z_gIv f_wrong rfl flX12_487 dX12_readsLine_95 (sh_M hE) rfl hw3 ?_
          try dsimp only [zs0, zsI, zsP, zsN, zsJ, zsS, zst2, Nat.reduceAdd]
          refine z_if_ne (tgt := 105) dX12_readsLine_98 rfl (fun h98 => ?_) (fun h => absurd (by omega) h)
          refine z_aload_n dX12_readsLine_105 rfl ?_
          refine z_aload_n dX12_readsLine_106 rfl ?_
          refine z_gI f_sort rfl flX12_471 dX12_readsLine_107 (sh_M hE) rfl ?_
          refine z_iconst dX12_readsLine_110 (by decide) ?_
          refine z_icmp_ne (tgt := 118) dX12_readsLine_111 rfl (fun h111 => ?_) (fun h111 => ?_)
          · refine z_iconst dX12_readsLine_118 (by decide) ?_
            refine z_iconst dX12_readsLine_119 (by decide) ?_
            refine z_callV mlX12_493 dX12_readsLine_120 (sh_M hE) (av := [_, _]) rfl rfl (Nat.le_of_ble_eq_true rfl) (x_mustT _ hE hB3 _ 2 (Or.inr hd3)) (Nat.le_refl _) (Nat.le_refl _) (Nat.le_refl _) (Nat.le_refl _) ?_
            rintro _ _ ⟨rfl, rfl⟩
            refine z_aload_n dX12_readsLine_123 rfl ?_
            refine z_gIv f_wrong rfl flX12_487 dX12_readsLine_124 (sh_M hE) rfl hw3 ?_
            refine z_if_le (tgt := 134) dX12_readsLine_127 rfl (fun h => absurd h (by omega)) (fun h127 => ?_)
            refine z_iconst dX12_readsLine_130 (by decide) ?_
            refine z_goto (tgt := 138) dX12_readsLine_131 rfl ?_
            refine z_istore dX12_readsLine_138 (Nat.le_of_ble_eq_true rfl) ?_
            refine z_aload_n dX12_readsLine_140 rfl ?_
            refine z_iload dX12_readsLine_141 rfl ?_
            try dsimp only [zs0, zsI, zsP, zsN, zsJ, zsS, zst2, Nat.reduceAdd]
            refine z_if_lt (tgt := 150) dX12_readsLine_143 rfl (fun h143 => ?_) (fun h => absurd (by decide) h)
            refine z_iconst dX12_readsLine_150 (by decide) ?_
            refine z_iconst dX12_readsLine_151 (by decide) ?_
            refine z_callV mlX12_493 dX12_readsLine_152 (sh_M hE) (av := [_, _]) rfl rfl (Nat.le_of_ble_eq_true rfl) (x_mustT _ hE hB3 _ 3 (Or.inr hd3)) (Nat.le_refl _) (Nat.le_refl _) (Nat.le_refl _) (Nat.le_refl _) ?_
            rintro _ _ ⟨rfl, rfl⟩
            refine z_aload_n dX12_readsLine_155 rfl ?_
            refine z_aload_n dX12_readsLine_156 rfl ?_
            refine z_gIv f_wrong rfl flX12_487 dX12_readsLine_157 (sh_M hE) rfl hw3 ?_
            refine z_if_gt (tgt := 188) dX12_readsLine_160 rfl (fun h160 => ?_) (fun h => absurd (by omega) h)
            refine z_iconst dX12_readsLine_188 (by decide) ?_
            refine z_goto (tgt := 193) dX12_readsLine_189 rfl ?_
            refine z_iconst dX12_readsLine_193 (by decide) ?_
            refine z_callV mlX12_493 dX12_readsLine_194 (sh_M hE) (av := [_, _]) rfl rfl (Nat.le_of_ble_eq_true rfl) (x_mustT _ hE hB3 _ 4 (Or.inr hd3)) (Nat.le_refl _) (Nat.le_refl _) (Nat.le_refl _) (Nat.le_refl _) ?_
            rintro _ _ ⟨rfl, rfl⟩
            refine z_aload_n dX12_readsLine_197 rfl ?_
            refine z_gIv f_wrong rfl flX12_487 dX12_readsLine_198 (sh_M hE) rfl hw3 ?_
            refine z_if_le (tgt := 205) dX12_readsLine_201 rfl (fun h => absurd h (by omega)) (fun h201 => ?_)
            refine z_vret dX12_readsLine_204 rfl rfl ?_
            have eA : pLin (mK m) (m a_c) (m aM f_letters) (m a_toldCodes) (m aM f_wide) p = (kMis (mK m) p2, p2, m a_toldCodes, m aM f_wide, p) := by unfold pLin; rw [if_neg (not_not_intro g1), if_neg (not_not_intro i1), if_neg (by omega), ← e1, if_neg (not_not_intro (Or.inl h59)), ← e2, if_pos g3]
            rw [eA]
            refine ⟨rfl, ?_⟩
            exact ⟨z3, hw3, fun _ => ha3, fun h => absurd (show (kMis (mK m) p2 : Int) = 0 from h) (by first | exact kMis_ne | decide)⟩
          · refine z_iconst dX12_readsLine_114 (by decide) ?_
            refine z_goto (tgt := 119) dX12_readsLine_115 rfl ?_
            refine z_iconst dX12_readsLine_119 (by decide) ?_
            refine z_callV mlX12_493 dX12_readsLine_120 (sh_M hE) (av := [_, _]) rfl rfl (Nat.le_of_ble_eq_true rfl) (x_mustT _ hE hB3 _ 2 (Or.inr hd3)) (Nat.le_refl _) (Nat.le_refl _) (Nat.le_refl _) (Nat.le_refl _) ?_
            rintro _ _ ⟨rfl, rfl⟩
            refine z_aload_n dX12_readsLine_123 rfl ?_
            refine z_gIv f_wrong rfl flX12_487 dX12_readsLine_124 (sh_M hE) rfl hw3 ?_
            refine z_if_le (tgt := 134) dX12_readsLine_127 rfl (fun h => absurd h (by omega)) (fun h127 => ?_)
            refine z_iconst dX12_readsLine_130 (by decide) ?_
            refine z_goto (tgt := 138) dX12_readsLine_131 rfl ?_
            refine z_istore dX12_readsLine_138 (Nat.le_of_ble_eq_true rfl) ?_
            refine z_aload_n dX12_readsLine_140 rfl ?_
            refine z_iload dX12_readsLine_141 rfl ?_
            try dsimp only [zs0, zsI, zsP, zsN, zsJ, zsS, zst2, Nat.reduceAdd]
            refine z_if_lt (tgt := 150) dX12_readsLine_143 rfl (fun h143 => ?_) (fun h => absurd (by decide) h)
            refine z_iconst dX12_readsLine_150 (by decide) ?_
            refine z_iconst dX12_readsLine_151 (by decide) ?_
            refine z_callV mlX12_493 dX12_readsLine_152 (sh_M hE) (av := [_, _]) rfl rfl (Nat.le_of_ble_eq_true rfl) (x_mustT _ hE hB3 _ 3 (Or.inr hd3)) (Nat.le_refl _) (Nat.le_refl _) (Nat.le_refl _) (Nat.le_refl _) ?_
            rintro _ _ ⟨rfl, rfl⟩
            refine z_aload_n dX12_readsLine_155 rfl ?_
            refine z_aload_n dX12_readsLine_156 rfl ?_
            refine z_gIv f_wrong rfl flX12_487 dX12_readsLine_157 (sh_M hE) rfl hw3 ?_
            refine z_if_gt (tgt := 188) dX12_readsLine_160 rfl (fun h160 => ?_) (fun h => absurd (by omega) h)
            refine z_iconst dX12_readsLine_188 (by decide) ?_
            refine z_goto (tgt := 193) dX12_readsLine_189 rfl ?_
            refine z_iconst dX12_readsLine_193 (by decide) ?_
            refine z_callV mlX12_493 dX12_readsLine_194 (sh_M hE) (av := [_, _]) rfl rfl (Nat.le_of_ble_eq_true rfl) (x_mustT _ hE hB3 _ 4 (Or.inr hd3)) (Nat.le_refl _) (Nat.le_refl _) (Nat.le_refl _) (Nat.le_refl _) ?_
            rintro _ _ ⟨rfl, rfl⟩
            refine z_aload_n dX12_readsLine_197 rfl ?_
            refine z_gIv f_wrong rfl flX12_487 dX12_readsLine_198 (sh_M hE) rfl hw3 ?_
            refine z_if_le (tgt := 205) dX12_readsLine_201 rfl (fun h => absurd h (by omega)) (fun h201 => ?_)
            refine z_vret dX12_readsLine_204 rfl rfl ?_
            have eA : pLin (mK m) (m a_c) (m aM f_letters) (m a_toldCodes) (m aM f_wide) p = (kMis (mK m) p2, p2, m a_toldCodes, m aM f_wide, p) := by unfold pLin; rw [if_neg (not_not_intro g1), if_neg (not_not_intro i1), if_neg (by omega), ← e1, if_neg (not_not_intro (Or.inl h59)), ← e2, if_pos g3]
            rw [eA]
            refine ⟨rfl, ?_⟩
            exact ⟨z3, hw3, fun _ => ha3, fun h => absurd (show (kMis (mK m) p2 : Int) = 0 from h) (by first | exact kMis_ne | decide)⟩
      · refine z_aload_n dX12_readsLine_62 rfl ?_
        refine z_bipush dX12_readsLine_63 rfl (by decide) ?_
        refine z_callV mlX12_520 dX12_readsLine_65 (sh_M hE) (av := [_]) rfl rfl (Nat.le_of_ble_eq_true rfl) (by have h := x_isSign (d + 3) hE hB1 hw1 p1 ht1 45 (by decide) (by decide); rw [hK1] at h; exact h) (Nat.le_refl _) (Nat.le_refl _) (Nat.le_refl _) (Nat.le_refl _) ?_
        rintro _ _ ⟨rfl, rfl⟩
        refine z_ifz_eq (tgt := 75) dX12_readsLine_68 rfl (fun h68 => ?_) (fun h68 => ?_)
        · refine z_iconst dX12_readsLine_75 (by decide) ?_
          refine z_callV mlX12_506 dX12_readsLine_76 (sh_M hE) (av := [_]) rfl rfl (Nat.le_of_ble_eq_true rfl) (by have h := x_takesF (d) hE hB1 hw1 p1 ht1; rw [hK1] at h; exact h) (Nat.le_refl _) (Nat.le_refl _) (Nat.le_refl _) (Nat.le_refl _) ?_
          rintro _ m2 ⟨rfl, b2⟩
          have hB2 : mB m2 := b2 ▸ mB_bad hB1
          have hw2 : m2 aM f_wrong = kMis (mK m) p1 := b2 ▸ mBad_w
          have ha2 : m2 aM f_wrongAt = p1 := b2 ▸ mBad_a
          have z2 : zfr fTl m m2 := b2 ▸ zfr_uj (zfr_uj z1 (by decide)) (by decide)
          have hd2 : 0 < m2 aM f_wrong := by rw [hw2]; first | exact kMis_pos | decide
          have hm2 : ptM m2 := hB2.1
          have ha_c2 : m2 a_c = m a_c := (b2 ▸ (zu_fn (by decide)).trans (zu_fn (by decide)) : m2 a_c = m1 a_c).trans ha_c1
          have ha_toldCodes2 : m2 a_toldCodes = m a_toldCodes := (b2 ▸ (zu_fn (by decide)).trans (zu_fn (by decide)) : m2 a_toldCodes = m1 a_toldCodes).trans ha_toldCodes1
          have hletters2 : m2 aM f_letters = m aM f_letters := (b2 ▸ (zu_j (by decide)).trans (zu_j (by decide)) : m2 aM f_letters = m1 aM f_letters).trans hletters1
          have hwide2 : m2 aM f_wide = m aM f_wide := (b2 ▸ (zu_j (by decide)).trans (zu_j (by decide)) : m2 aM f_wide = m1 aM f_wide).trans hwide1
          refine z_aload_n dX12_readsLine_79 rfl ?_
          refine z_aload_n dX12_readsLine_80 rfl ?_
          refine z_gP 0 rfl (r := a_c) flX12_7 dX12_readsLine_81 (sh_M hE) rfl (pt_c hm2) (by decide) ?_
          refine z_iconst dX12_readsLine_84 (by decide) ?_
          refine z_ialv dX12_readsLine_85 (sh_c hE) (by omega) (by omega) (congrFun ha_c2 2) ?_
          refine z_callV mlX12_542 dX12_readsLine_86 (sh_M hE) (av := [_]) rfl rfl (Nat.le_of_ble_eq_true rfl) (y_needs _ hE hB2 hd2 _) (Nat.le_refl _) (Nat.le_refl _) (Nat.le_refl _) (Nat.le_refl _) ?_
          rintro _ _ ⟨rfl, rfl⟩
          refine z_aload_n dX12_readsLine_89 rfl ?_
          refine z_gI f_number rfl flX12_481 dX12_readsLine_90 (sh_M hE) rfl ?_
          refine z_ist 3 dX12_readsLine_93 rfl (Nat.le_of_ble_eq_true rfl) ?_
          refine z_aload_n dX12_readsLine_94 rfl ?_
          refine z_gIv f_wrong rfl flX12_487 dX12_readsLine_95 (sh_M hE) rfl hw2 ?_
          try dsimp only [zs0, zsI, zsP, zsN, zsJ, zsS, zst2, Nat.reduceAdd]
          refine z_if_ne (tgt := 105) dX12_readsLine_98 rfl (fun h98 => ?_) (fun h => absurd (by omega) h)
          refine z_aload_n dX12_readsLine_105 rfl ?_
          refine z_aload_n dX12_readsLine_106 rfl ?_
          refine z_gI f_sort rfl flX12_471 dX12_readsLine_107 (sh_M hE) rfl ?_
          refine z_iconst dX12_readsLine_110 (by decide) ?_
          refine z_icmp_ne (tgt := 118) dX12_readsLine_111 rfl (fun h111 => ?_) (fun h111 => ?_)
          · refine z_iconst dX12_readsLine_118 (by decide) ?_
            refine z_iconst dX12_readsLine_119 (by decide) ?_
            refine z_callV mlX12_493 dX12_readsLine_120 (sh_M hE) (av := [_, _]) rfl rfl (Nat.le_of_ble_eq_true rfl) (x_mustT _ hE hB2 _ 2 (Or.inr hd2)) (Nat.le_refl _) (Nat.le_refl _) (Nat.le_refl _) (Nat.le_refl _) ?_
            rintro _ _ ⟨rfl, rfl⟩
            refine z_aload_n dX12_readsLine_123 rfl ?_
            refine z_gIv f_wrong rfl flX12_487 dX12_readsLine_124 (sh_M hE) rfl hw2 ?_
            refine z_if_le (tgt := 134) dX12_readsLine_127 rfl (fun h => absurd h (by omega)) (fun h127 => ?_)
            refine z_iconst dX12_readsLine_130 (by decide) ?_
            refine z_goto (tgt := 138) dX12_readsLine_131 rfl ?_
            refine z_istore dX12_readsLine_138 (Nat.le_of_ble_eq_true rfl) ?_
            refine z_aload_n dX12_readsLine_140 rfl ?_
            refine z_iload dX12_readsLine_141 rfl ?_
            try dsimp only [zs0, zsI, zsP, zsN, zsJ, zsS, zst2, Nat.reduceAdd]
            refine z_if_lt (tgt := 150) dX12_readsLine_143 rfl (fun h143 => ?_) (fun h => absurd (by decide) h)
            refine z_iconst dX12_readsLine_150 (by decide) ?_
            refine z_iconst dX12_readsLine_151 (by decide) ?_
            refine z_callV mlX12_493 dX12_readsLine_152 (sh_M hE) (av := [_, _]) rfl rfl (Nat.le_of_ble_eq_true rfl) (x_mustT _ hE hB2 _ 3 (Or.inr hd2)) (Nat.le_refl _) (Nat.le_refl _) (Nat.le_refl _) (Nat.le_refl _) ?_
            rintro _ _ ⟨rfl, rfl⟩
            refine z_aload_n dX12_readsLine_155 rfl ?_
            refine z_aload_n dX12_readsLine_156 rfl ?_
            refine z_gIv f_wrong rfl flX12_487 dX12_readsLine_157 (sh_M hE) rfl hw2 ?_
            refine z_if_gt (tgt := 188) dX12_readsLine_160 rfl (fun h160 => ?_) (fun h => absurd (by omega) h)
            refine z_iconst dX12_readsLine_188 (by decide) ?_
            refine z_goto (tgt := 193) dX12_readsLine_189 rfl ?_
            refine z_iconst dX12_readsLine_193 (by decide) ?_
            refine z_callV mlX12_493 dX12_readsLine_194 (sh_M hE) (av := [_, _]) rfl rfl (Nat.le_of_ble_eq_true rfl) (x_mustT _ hE hB2 _ 4 (Or.inr hd2)) (Nat.le_refl _) (Nat.le_refl _) (Nat.le_refl _) (Nat.le_refl _) ?_
            rintro _ _ ⟨rfl, rfl⟩
            refine z_aload_n dX12_readsLine_197 rfl ?_
            refine z_gIv f_wrong rfl flX12_487 dX12_readsLine_198 (sh_M hE) rfl hw2 ?_
            refine z_if_le (tgt := 205) dX12_readsLine_201 rfl (fun h => absurd h (by omega)) (fun h201 => ?_)
            refine z_vret dX12_readsLine_204 rfl rfl ?_
            have eA : pLin (mK m) (m a_c) (m aM f_letters) (m a_toldCodes) (m aM f_wide) p = (kMis (mK m) p1, p1, m a_toldCodes, m aM f_wide, p) := by unfold pLin; rw [if_neg (not_not_intro g1), if_neg (not_not_intro i1), if_neg (by omega), ← e1, if_pos (by rintro (h | h); exact h59 h; exact h68 h)]
            rw [eA]
            refine ⟨rfl, ?_⟩
            exact ⟨z2, hw2, fun _ => ha2, fun h => absurd (show (kMis (mK m) p1 : Int) = 0 from h) (by first | exact kMis_ne | decide)⟩
          · refine z_iconst dX12_readsLine_114 (by decide) ?_
            refine z_goto (tgt := 119) dX12_readsLine_115 rfl ?_
            refine z_iconst dX12_readsLine_119 (by decide) ?_
            refine z_callV mlX12_493 dX12_readsLine_120 (sh_M hE) (av := [_, _]) rfl rfl (Nat.le_of_ble_eq_true rfl) (x_mustT _ hE hB2 _ 2 (Or.inr hd2)) (Nat.le_refl _) (Nat.le_refl _) (Nat.le_refl _) (Nat.le_refl _) ?_
            rintro _ _ ⟨rfl, rfl⟩
            refine z_aload_n dX12_readsLine_123 rfl ?_
            refine z_gIv f_wrong rfl flX12_487 dX12_readsLine_124 (sh_M hE) rfl hw2 ?_
            refine z_if_le (tgt := 134) dX12_readsLine_127 rfl (fun h => absurd h (by omega)) (fun h127 => ?_)
            refine z_iconst dX12_readsLine_130 (by decide) ?_
            refine z_goto (tgt := 138) dX12_readsLine_131 rfl ?_
            refine z_istore dX12_readsLine_138 (Nat.le_of_ble_eq_true rfl) ?_
            refine z_aload_n dX12_readsLine_140 rfl ?_
            refine z_iload dX12_readsLine_141 rfl ?_
            try dsimp only [zs0, zsI, zsP, zsN, zsJ, zsS, zst2, Nat.reduceAdd]
            refine z_if_lt (tgt := 150) dX12_readsLine_143 rfl (fun h143 => ?_) (fun h => absurd (by decide) h)
            refine z_iconst dX12_readsLine_150 (by decide) ?_
            refine z_iconst dX12_readsLine_151 (by decide) ?_
            refine z_callV mlX12_493 dX12_readsLine_152 (sh_M hE) (av := [_, _]) rfl rfl (Nat.le_of_ble_eq_true rfl) (x_mustT _ hE hB2 _ 3 (Or.inr hd2)) (Nat.le_refl _) (Nat.le_refl _) (Nat.le_refl _) (Nat.le_refl _) ?_
            rintro _ _ ⟨rfl, rfl⟩
            refine z_aload_n dX12_readsLine_155 rfl ?_
            refine z_aload_n dX12_readsLine_156 rfl ?_
            refine z_gIv f_wrong rfl flX12_487 dX12_readsLine_157 (sh_M hE) rfl hw2 ?_
            refine z_if_gt (tgt := 188) dX12_readsLine_160 rfl (fun h160 => ?_) (fun h => absurd (by omega) h)
            refine z_iconst dX12_readsLine_188 (by decide) ?_
            refine z_goto (tgt := 193) dX12_readsLine_189 rfl ?_
            refine z_iconst dX12_readsLine_193 (by decide) ?_
            refine z_callV mlX12_493 dX12_readsLine_194 (sh_M hE) (av := [_, _]) rfl rfl (Nat.le_of_ble_eq_true rfl) (x_mustT _ hE hB2 _ 4 (Or.inr hd2)) (Nat.le_refl _) (Nat.le_refl _) (Nat.le_refl _) (Nat.le_refl _) ?_
            rintro _ _ ⟨rfl, rfl⟩
            refine z_aload_n dX12_readsLine_197 rfl ?_
            refine z_gIv f_wrong rfl flX12_487 dX12_readsLine_198 (sh_M hE) rfl hw2 ?_
            refine z_if_le (tgt := 205) dX12_readsLine_201 rfl (fun h => absurd h (by omega)) (fun h201 => ?_)
            refine z_vret dX12_readsLine_204 rfl rfl ?_
            have eA : pLin (mK m) (m a_c) (m aM f_letters) (m a_toldCodes) (m aM f_wide) p = (kMis (mK m) p1, p1, m a_toldCodes, m aM f_wide, p) := by unfold pLin; rw [if_neg (not_not_intro g1), if_neg (not_not_intro i1), if_neg (by omega), ← e1, if_pos (by rintro (h | h); exact h59 h; exact h68 h)]
            rw [eA]
            refine ⟨rfl, ?_⟩
            exact ⟨z2, hw2, fun _ => ha2, fun h => absurd (show (kMis (mK m) p1 : Int) = 0 from h) (by first | exact kMis_ne | decide)⟩
        · refine z_iconst dX12_readsLine_71 (by decide) ?_
          refine z_goto (tgt := 76) dX12_readsLine_72 rfl ?_
          refine z_callV mlX12_506 dX12_readsLine_76 (sh_M hE) (av := [_]) rfl rfl (Nat.le_of_ble_eq_true rfl) (x_takesT _ hE hB1 hw1 p1 ht1 (by rw [hn1]; exact kSo_lt hok (by rw [h68.1]; decide))) (Nat.le_refl _) (Nat.le_refl _) (Nat.le_refl _) (Nat.le_refl _) ?_
          rintro _ m2 ⟨rfl, f2, t2⟩
          have hB2 := mB_fr hB1 (zfr_sub f2 (by decide))
          have hK2 : mK m2 = mK m := (mK_fr f2 (by decide)).trans hK1
          have hw2 : m2 aM f_wrong = 0 := (zfr_at f2 (by decide)).trans hw1
          have z2 : zfr fTl m m2 := zfr_tr z1 (zfr_sub f2 (by decide))
          have hn2 : m2 aM f_end = m aM f_end := (zfr_at f2 (by decide)).trans hn1
          have hm2 : ptM m2 := hB2.1
          have ha_c2 : m2 a_c = m a_c := (zfr_cell f2 (by decide)).trans ha_c1
          have ha_toldCodes2 : m2 a_toldCodes = m a_toldCodes := (zfr_cell f2 (by decide)).trans ha_toldCodes1
          have hletters2 : m2 aM f_letters = m aM f_letters := (zfr_at f2 (by decide)).trans hletters1
          have hwide2 : m2 aM f_wide = m aM f_wide := (zfr_at f2 (by decide)).trans hwide1
          rw [hK1] at t2
          obtain ⟨p2, e2⟩ : ∃ x, x = kR (mK m) p1 := ⟨_, rfl⟩
          rw [← e2] at t2
          have ht2 := t2
          refine z_aload_n dX12_readsLine_79 rfl ?_
          refine z_aload_n dX12_readsLine_80 rfl ?_
          refine z_gP 0 rfl (r := a_c) flX12_7 dX12_readsLine_81 (sh_M hE) rfl (pt_c hm2) (by decide) ?_
          refine z_iconst dX12_readsLine_84 (by decide) ?_
          refine z_ialv dX12_readsLine_85 (sh_c hE) (by omega) (by omega) (congrFun ha_c2 2) ?_
          refine z_callV mlX12_542 dX12_readsLine_86 (sh_M hE) (av := [_]) rfl rfl (Nat.le_of_ble_eq_true rfl) (by have h := v_needs (d + 2) hE hB2 hw2 p2 ht2 (m a_c 2); rw [hK2] at h; exact h) (Nat.le_refl _) (Nat.le_refl _) (Nat.le_refl _) (Nat.le_refl _) ?_
          rintro _ m3 ⟨rfl, (⟨g3, i3, rfl⟩ | ⟨g3, i3, b3⟩ | ⟨g3, b3⟩)⟩
          · have kr86 := kN_rg g3
            refine z_aload_n dX12_readsLine_89 rfl ?_
            refine z_gIv f_number rfl flX12_481 dX12_readsLine_90 (sh_M hE) rfl (show m2 aM f_number = kN (mK m) p2 by have h := ht2.2.2.2.2.2.2 (by rw [hK2]; exact g3); rw [hK2] at h; exact h) ?_
            refine z_ist 3 dX12_readsLine_93 rfl (Nat.le_of_ble_eq_true rfl) ?_
            refine z_aload_n dX12_readsLine_94 rfl ?_
            refine z_gIv f_wrong rfl flX12_487 dX12_readsLine_95 (sh_M hE) rfl hw2 ?_
            try dsimp only [zs0, zsI, zsP, zsN, zsJ, zsS, zst2, Nat.reduceAdd]
            refine z_if_ne (tgt := 105) dX12_readsLine_98 rfl (fun h => absurd h (by omega)) (fun h98 => ?_)
            refine z_aload_n dX12_readsLine_101 rfl ?_
            refine z_callV mlX12_497 dX12_readsLine_102 (sh_M hE) (av := _) rfl rfl (Nat.le_of_ble_eq_true rfl) (x_reads _ hE hB2 hw2 p2 ht2 (by rw [hn2]; exact kSo_lt hok (by rw [g3]; decide))) (Nat.le_refl _) (Nat.le_refl _) (Nat.le_refl _) (Nat.le_refl _) ?_
            rintro _ m3 ⟨rfl, f3, t3⟩
            have hB3 := mB_fr hB2 (zfr_sub f3 (by decide))
            have hK3 : mK m3 = mK m := (mK_fr f3 (by decide)).trans hK2
            have hw3 : m3 aM f_wrong = 0 := (zfr_at f3 (by decide)).trans hw2
            have z3 : zfr fTl m m3 := zfr_tr z2 (zfr_sub f3 (by decide))
            have hn3 : m3 aM f_end = m aM f_end := (zfr_at f3 (by decide)).trans hn2
            have hm3 : ptM m3 := hB3.1
            have ha_c3 : m3 a_c = m a_c := (zfr_cell f3 (by decide)).trans ha_c2
            have ha_toldCodes3 : m3 a_toldCodes = m a_toldCodes := (zfr_cell f3 (by decide)).trans ha_toldCodes2
            have hletters3 : m3 aM f_letters = m aM f_letters := (zfr_at f3 (by decide)).trans hletters2
            have hwide3 : m3 aM f_wide = m aM f_wide := (zfr_at f3 (by decide)).trans hwide2
            rw [hK2] at t3
            obtain ⟨p3, e3⟩ : ∃ x, x = kR (mK m) p2 := ⟨_, rfl⟩
            rw [← e3] at t3
            have ht3 := t3
            refine z_aload_n dX12_readsLine_105 rfl ?_
            refine z_aload_n dX12_readsLine_106 rfl ?_
            refine z_gIv f_sort rfl flX12_471 dX12_readsLine_107 (sh_M hE) rfl (show m3 aM f_sort = kSo (mK m) p3 by rw [← hK3]; exact ht3.2.2.2.1) ?_
            refine z_iconst dX12_readsLine_110 (by decide) ?_
            refine z_icmp_ne (tgt := 118) dX12_readsLine_111 rfl (fun h111 => ?_) (fun h111 => ?_)
            · refine z_iconst dX12_readsLine_118 (by decide) ?_
              refine z_iconst dX12_readsLine_119 (by decide) ?_
              refine z_callV mlX12_493 dX12_readsLine_120 (sh_M hE) (av := [_, _]) rfl rfl (Nat.le_of_ble_eq_true rfl) (by have h := x_must2 (d + 3) hE hB3 hw3 p3 ht3; rw [hK3] at h; exact h) (Nat.le_refl _) (Nat.le_refl _) (Nat.le_refl _) (Nat.le_refl _) ?_
              rintro _ m4 ⟨rfl, b4⟩
              have hB4 : mB m4 := b4 ▸ mB_bad hB3
              have hw4 : m4 aM f_wrong = kMis (mK m) p3 := b4 ▸ mBad_w
              have ha4 : m4 aM f_wrongAt = p3 := b4 ▸ mBad_a
              have z4 : zfr fTl m m4 := b4 ▸ zfr_uj (zfr_uj z3 (by decide)) (by decide)
              have hd4 : 0 < m4 aM f_wrong := by rw [hw4]; first | exact kMis_pos | decide
              have hm4 : ptM m4 := hB4.1
              have ha_c4 : m4 a_c = m a_c := (b4 ▸ (zu_fn (by decide)).trans (zu_fn (by decide)) : m4 a_c = m3 a_c).trans ha_c3
              have ha_toldCodes4 : m4 a_toldCodes = m a_toldCodes := (b4 ▸ (zu_fn (by decide)).trans (zu_fn (by decide)) : m4 a_toldCodes = m3 a_toldCodes).trans ha_toldCodes3
              have hletters4 : m4 aM f_letters = m aM f_letters := (b4 ▸ (zu_j (by decide)).trans (zu_j (by decide)) : m4 aM f_letters = m3 aM f_letters).trans hletters3
              have hwide4 : m4 aM f_wide = m aM f_wide := (b4 ▸ (zu_j (by decide)).trans (zu_j (by decide)) : m4 aM f_wide = m3 aM f_wide).trans hwide3
              refine z_aload_n dX12_readsLine_123 rfl ?_
              refine z_gIv f_wrong rfl flX12_487 dX12_readsLine_124 (sh_M hE) rfl hw4 ?_
              refine z_if_le (tgt := 134) dX12_readsLine_127 rfl (fun h => absurd h (by omega)) (fun h127 => ?_)
              refine z_iconst dX12_readsLine_130 (by decide) ?_
              refine z_goto (tgt := 138) dX12_readsLine_131 rfl ?_
              refine z_istore dX12_readsLine_138 (Nat.le_of_ble_eq_true rfl) ?_
              refine z_aload_n dX12_readsLine_140 rfl ?_
              refine z_iload dX12_readsLine_141 rfl ?_
              try dsimp only [zs0, zsI, zsP, zsN, zsJ, zsS, zst2, Nat.reduceAdd]
              refine z_if_lt (tgt := 150) dX12_readsLine_143 rfl (fun h143 => ?_) (fun h => absurd (by decide) h)
              refine z_iconst dX12_readsLine_150 (by decide) ?_
              refine z_iconst dX12_readsLine_151 (by decide) ?_
              refine z_callV mlX12_493 dX12_readsLine_152 (sh_M hE) (av := [_, _]) rfl rfl (Nat.le_of_ble_eq_true rfl) (x_mustT _ hE hB4 _ 3 (Or.inr hd4)) (Nat.le_refl _) (Nat.le_refl _) (Nat.le_refl _) (Nat.le_refl _) ?_
              rintro _ _ ⟨rfl, rfl⟩
              refine z_aload_n dX12_readsLine_155 rfl ?_
              refine z_aload_n dX12_readsLine_156 rfl ?_
              refine z_gIv f_wrong rfl flX12_487 dX12_readsLine_157 (sh_M hE) rfl hw4 ?_
              refine z_if_gt (tgt := 188) dX12_readsLine_160 rfl (fun h160 => ?_) (fun h => absurd (by omega) h)
              refine z_iconst dX12_readsLine_188 (by decide) ?_
              refine z_goto (tgt := 193) dX12_readsLine_189 rfl ?_
              refine z_iconst dX12_readsLine_193 (by decide) ?_
              refine z_callV mlX12_493 dX12_readsLine_194 (sh_M hE) (av := [_, _]) rfl rfl (Nat.le_of_ble_eq_true rfl) (x_mustT _ hE hB4 _ 4 (Or.inr hd4)) (Nat.le_refl _) (Nat.le_refl _) (Nat.le_refl _) (Nat.le_refl _) ?_
              rintro _ _ ⟨rfl, rfl⟩
              refine z_aload_n dX12_readsLine_197 rfl ?_
              refine z_gIv f_wrong rfl flX12_487 dX12_readsLine_198 (sh_M hE) rfl hw4 ?_
              refine z_if_le (tgt := 205) dX12_readsLine_201 rfl (fun h => absurd h (by omega)) (fun h201 => ?_)
              refine z_vret dX12_readsLine_204 rfl rfl ?_
              have eA : pLin (mK m) (m a_c) (m aM f_letters) (m a_toldCodes) (m aM f_wide) p = (kMis (mK m) p3, p3, m a_toldCodes, m aM f_wide, p) := by unfold pLin; rw [if_neg (not_not_intro g1), if_neg (not_not_intro i1), if_neg (by omega), ← e1, if_neg (not_not_intro (Or.inr h68)), ← e2, if_neg (not_not_intro g3), if_neg (not_not_intro i3), ← e3, if_pos h111]
              rw [eA]
              refine ⟨rfl, ?_⟩
              exact ⟨z4, hw4, fun _ => ha4, fun h => absurd (show (kMis (mK m) p3 : Int) = 0 from h) (by first | exact kMis_ne | decide)⟩
            · refine z_iconst dX12_readsLine_114 (by decide) ?_
              refine z_goto (tgt := 119) dX12_readsLine_115 rfl ?_
              refine z_iconst dX12_readsLine_119 (by decide) ?_
              refine z_callV mlX12_493 dX12_readsLine_120 (sh_M hE) (av := [_, _]) rfl rfl (Nat.le_of_ble_eq_true rfl) (x_mustT _ hE hB3 1 2 (Or.inl (by decide))) (Nat.le_refl _) (Nat.le_refl _) (Nat.le_refl _) (Nat.le_refl _) ?_
              rintro _ _ ⟨rfl, rfl⟩
              refine z_aload_n dX12_readsLine_123 rfl ?_
              refine z_gIv f_wrong rfl flX12_487 dX12_readsLine_124 (sh_M hE) rfl hw3 ?_
              refine z_if_le (tgt := 134) dX12_readsLine_127 rfl (fun h127 => ?_) (fun h => absurd (by omega) h)
              refine z_aload_n dX12_readsLine_134 rfl ?_
              refine z_callV mlX12_554 dX12_readsLine_135 (sh_M hE) (av := _) rfl rfl (Nat.le_of_ble_eq_true rfl) (by have h := x_sortHere (d + 3) hE hB3 hw3 p3 ht3 (by rw [hK3]; omega) (by rw [ha_c3]; exact hwf); rw [hK3, ha_c3] at h; exact h) (Nat.le_refl _) (Nat.le_refl _) (Nat.le_refl _) (Nat.le_refl _) ?_
              rintro _ _ ⟨rfl, rfl⟩
              have hsr := kSrt_rg (K := mK m) (p := p3) hwf
              refine z_istore dX12_readsLine_138 (Nat.le_of_ble_eq_true rfl) ?_
              refine z_aload_n dX12_readsLine_140 rfl ?_
              refine z_iload dX12_readsLine_141 rfl ?_
              try dsimp only [zs0, zsI, zsP, zsN, zsJ, zsS, zst2, Nat.reduceAdd]
              refine z_if_lt (tgt := 150) dX12_readsLine_143 rfl (fun h143 => ?_) (fun h143 => ?_)
              · refine z_iconst dX12_readsLine_150 (by decide) ?_
                refine z_iconst dX12_readsLine_151 (by decide) ?_
                refine z_callV mlX12_493 dX12_readsLine_152 (sh_M hE) (av := [_, _]) rfl rfl (Nat.le_of_ble_eq_true rfl) (x_mustK _ hE hB3 hw3 p3 ht3 3 (by decide)) (Nat.le_refl _) (Nat.le_refl _) (Nat.le_refl _) (Nat.le_refl _) ?_
                rintro _ m4 ⟨rfl, b4⟩
                have hB4 : mB m4 := b4 ▸ mB_bad hB3
                have hw4 : m4 aM f_wrong = 3 := b4 ▸ mBad_w
                have ha4 : m4 aM f_wrongAt = p3 := b4 ▸ mBad_a
                have z4 : zfr fTl m m4 := b4 ▸ zfr_uj (zfr_uj z3 (by decide)) (by decide)
                have hd4 : 0 < m4 aM f_wrong := by rw [hw4]; first | exact kMis_pos | decide
                have hm4 : ptM m4 := hB4.1
                have ha_c4 : m4 a_c = m a_c := (b4 ▸ (zu_fn (by decide)).trans (zu_fn (by decide)) : m4 a_c = m3 a_c).trans ha_c3
                have ha_toldCodes4 : m4 a_toldCodes = m a_toldCodes := (b4 ▸ (zu_fn (by decide)).trans (zu_fn (by decide)) : m4 a_toldCodes = m3 a_toldCodes).trans ha_toldCodes3
                have hletters4 : m4 aM f_letters = m aM f_letters := (b4 ▸ (zu_j (by decide)).trans (zu_j (by decide)) : m4 aM f_letters = m3 aM f_letters).trans hletters3
                have hwide4 : m4 aM f_wide = m aM f_wide := (b4 ▸ (zu_j (by decide)).trans (zu_j (by decide)) : m4 aM f_wide = m3 aM f_wide).trans hwide3
                refine z_aload_n dX12_readsLine_155 rfl ?_
                refine z_aload_n dX12_readsLine_156 rfl ?_
                refine z_gIv f_wrong rfl flX12_487 dX12_readsLine_157 (sh_M hE) rfl hw4 ?_
                refine z_if_gt (tgt := 188) dX12_readsLine_160 rfl (fun h160 => ?_) (fun h => absurd (by omega) h)
                refine z_iconst dX12_readsLine_188 (by decide) ?_
                refine z_goto (tgt := 193) dX12_readsLine_189 rfl ?_
                refine z_iconst dX12_readsLine_193 (by decide) ?_
                refine z_callV mlX12_493 dX12_readsLine_194 (sh_M hE) (av := [_, _]) rfl rfl (Nat.le_of_ble_eq_true rfl) (x_mustT _ hE hB4 _ 4 (Or.inr hd4)) (Nat.le_refl _) (Nat.le_refl _) (Nat.le_refl _) (Nat.le_refl _) ?_
                rintro _ _ ⟨rfl, rfl⟩
                refine z_aload_n dX12_readsLine_197 rfl ?_
                refine z_gIv f_wrong rfl flX12_487 dX12_readsLine_198 (sh_M hE) rfl hw4 ?_
                refine z_if_le (tgt := 205) dX12_readsLine_201 rfl (fun h => absurd h (by omega)) (fun h201 => ?_)
                refine z_vret dX12_readsLine_204 rfl rfl ?_
                have eA : pLin (mK m) (m a_c) (m aM f_letters) (m a_toldCodes) (m aM f_wide) p = (3, p3, m a_toldCodes, m aM f_wide, p) := by unfold pLin; rw [if_neg (not_not_intro g1), if_neg (not_not_intro i1), if_neg (by omega), ← e1, if_neg (not_not_intro (Or.inr h68)), ← e2, if_neg (not_not_intro g3), if_neg (not_not_intro i3), ← e3, if_neg (not_not_intro (Decidable.not_not.mp h111)), if_pos (by omega)]
                rw [eA]
                refine ⟨rfl, ?_⟩
                exact ⟨z4, hw4, fun _ => ha4, fun h => absurd (show (3 : Int) = 0 from h) (by first | exact kMis_ne | decide)⟩
              · refine z_iconst dX12_readsLine_146 (by decide) ?_
                refine z_goto (tgt := 151) dX12_readsLine_147 rfl ?_
                refine z_iconst dX12_readsLine_151 (by decide) ?_
                refine z_callV mlX12_493 dX12_readsLine_152 (sh_M hE) (av := [_, _]) rfl rfl (Nat.le_of_ble_eq_true rfl) (x_mustT _ hE hB3 1 3 (Or.inl (by decide))) (Nat.le_refl _) (Nat.le_refl _) (Nat.le_refl _) (Nat.le_refl _) ?_
                rintro _ _ ⟨rfl, rfl⟩
                refine z_aload_n dX12_readsLine_155 rfl ?_
                refine z_aload_n dX12_readsLine_156 rfl ?_
                refine z_gIv f_wrong rfl flX12_487 dX12_readsLine_157 (sh_M hE) rfl hw3 ?_
                refine z_if_gt (tgt := 188) dX12_readsLine_160 rfl (fun h => absurd h (by omega)) (fun h160 => ?_)
                refine z_iload dX12_readsLine_163 rfl ?_
                refine z_bipush dX12_readsLine_165 rfl (by decide) ?_
                refine z_icmp_ge (tgt := 183) dX12_readsLine_167 rfl (fun h167 => ?_) (fun h167 => ?_)
                · refine z_iconst dX12_readsLine_183 (by decide) ?_
                  refine z_iload_n dX12_readsLine_184 rfl ?_
                  refine z_icmp_ne (tgt := 192) dX12_readsLine_185 rfl (fun h185 => ?_) (fun h185 => ?_)
                  · refine z_iconst dX12_readsLine_192 (by decide) ?_
                    refine z_iconst dX12_readsLine_193 (by decide) ?_
                    refine z_callV mlX12_493 dX12_readsLine_194 (sh_M hE) (av := [_, _]) rfl rfl (Nat.le_of_ble_eq_true rfl) (x_mustK _ hE hB3 hw3 p3 ht3 4 (by decide)) (Nat.le_refl _) (Nat.le_refl _) (Nat.le_refl _) (Nat.le_refl _) ?_
                    rintro _ m4 ⟨rfl, b4⟩
                    have hB4 : mB m4 := b4 ▸ mB_bad hB3
                    have hw4 : m4 aM f_wrong = 4 := b4 ▸ mBad_w
                    have ha4 : m4 aM f_wrongAt = p3 := b4 ▸ mBad_a
                    have z4 : zfr fTl m m4 := b4 ▸ zfr_uj (zfr_uj z3 (by decide)) (by decide)
                    have hd4 : 0 < m4 aM f_wrong := by rw [hw4]; first | exact kMis_pos | decide
                    have hm4 : ptM m4 := hB4.1
                    have ha_c4 : m4 a_c = m a_c := (b4 ▸ (zu_fn (by decide)).trans (zu_fn (by decide)) : m4 a_c = m3 a_c).trans ha_c3
                    have ha_toldCodes4 : m4 a_toldCodes = m a_toldCodes := (b4 ▸ (zu_fn (by decide)).trans (zu_fn (by decide)) : m4 a_toldCodes = m3 a_toldCodes).trans ha_toldCodes3
                    have hletters4 : m4 aM f_letters = m aM f_letters := (b4 ▸ (zu_j (by decide)).trans (zu_j (by decide)) : m4 aM f_letters = m3 aM f_letters).trans hletters3
                    have hwide4 : m4 aM f_wide = m aM f_wide := (b4 ▸ (zu_j (by decide)).trans (zu_j (by decide)) : m4 aM f_wide = m3 aM f_wide).trans hwide3
                    refine z_aload_n dX12_readsLine_197 rfl ?_
                    refine z_gIv f_wrong rfl flX12_487 dX12_readsLine_198 (sh_M hE) rfl hw4 ?_
                    refine z_if_le (tgt := 205) dX12_readsLine_201 rfl (fun h => absurd h (by omega)) (fun h201 => ?_)
                    refine z_vret dX12_readsLine_204 rfl rfl ?_
                    have eA : pLin (mK m) (m a_c) (m aM f_letters) (m a_toldCodes) (m aM f_wide) p = (4, p3, m a_toldCodes, m aM f_wide, p) := by unfold pLin; rw [if_neg (not_not_intro g1), if_neg (not_not_intro i1), if_neg (by omega), ← e1, if_neg (not_not_intro (Or.inr h68)), ← e2, if_neg (not_not_intro g3), if_neg (not_not_intro i3), ← e3, if_neg (not_not_intro (Decidable.not_not.mp h111)), if_neg (by omega), if_pos (by rw [zb_f (fun h => absurd h.1 (by omega))]; exact h185)]
                    rw [eA]
                    refine ⟨rfl, ?_⟩
                    exact ⟨z4, hw4, fun _ => ha4, fun h => absurd (show (4 : Int) = 0 from h) (by first | exact kMis_ne | decide)⟩
                  · refine z_iconst dX12_readsLine_188 (by decide) ?_
                    refine z_goto (tgt := 193) dX12_readsLine_189 rfl ?_
                    refine z_iconst dX12_readsLine_193 (by decide) ?_
                    refine z_callV mlX12_493 dX12_readsLine_194 (sh_M hE) (av := [_, _]) rfl rfl (Nat.le_of_ble_eq_true rfl) (x_mustT _ hE hB3 1 4 (Or.inl (by decide))) (Nat.le_refl _) (Nat.le_refl _) (Nat.le_refl _) (Nat.le_refl _) ?_
                    rintro _ _ ⟨rfl, rfl⟩
                    refine z_aload_n dX12_readsLine_197 rfl ?_
                    refine z_gIv f_wrong rfl flX12_487 dX12_readsLine_198 (sh_M hE) rfl hw3 ?_
                    refine z_if_le (tgt := 205) dX12_readsLine_201 rfl (fun h201 => ?_) (fun h => absurd (by omega) h)
                    refine z_aload_n dX12_readsLine_205 rfl ?_
                    refine z_gP 53 rfl (r := a_toldCodes) flX12_108 dX12_readsLine_206 (sh_M hE) rfl (pt_toldCodes hm3) (by decide) ?_
                    refine z_aload_n dX12_readsLine_209 rfl ?_
                    refine z_gIv f_wide rfl flX12_545 dX12_readsLine_210 (sh_M hE) rfl hwide3 ?_
                    refine z_iload_n dX12_readsLine_213 rfl ?_
                    refine z_iload_n dX12_readsLine_214 rfl ?_
                    refine z_icmp_le (tgt := 242) dX12_readsLine_215 rfl (fun h215 => ?_) (fun h215 => ?_)
                    · refine z_bipush dX12_readsLine_242 rfl (by decide) ?_
                      refine z_iload_n dX12_readsLine_244 rfl ?_
                      refine z_mul dX12_readsLine_245 (by omega) ?_
                      refine z_bipush dX12_readsLine_246 rfl (by decide) ?_
                      refine z_iload_n dX12_readsLine_248 rfl ?_
                      refine z_mul dX12_readsLine_249 (by omega) ?_
                      refine z_add dX12_readsLine_250 (by omega) ?_
                      refine z_iload dX12_readsLine_251 rfl ?_
                      refine z_add dX12_readsLine_253 (by omega) ?_
                      refine z_iast dX12_readsLine_254 (sh_toldCodes hE) (by omega) (by omega) ?_
                      refine z_aload_n dX12_readsLine_255 rfl ?_
                      refine z_dup dX12_readsLine_256 rfl ?_
                      refine z_gIv f_wide rfl flX12_545 dX12_readsLine_257 (sh_M hE) rfl (Eq.trans (zu_a (by decide)) hwide3) ?_
                      refine z_iconst dX12_readsLine_260 (by decide) ?_
                      refine z_add dX12_readsLine_261 (by omega) ?_
                      refine z_pI f_wide rfl (fpX12_545 _) dX12_readsLine_262 (sh_M hE) rfl ?_
                      have ecd : 100 * kN (mK m) p + 10 * kN (mK m) p2 + (kSrt (mK m) (m a_c) p3) = kCd (m a_c) (kN (mK m) p) (kN (mK m) p2) (kSrt (mK m) (m a_c) p3) := by unfold kCd; rw [if_neg (fun h => absurd h.1 (by omega))]
                      rw [ecd]
                      generalize em4 : zu (zu m3 a_toldCodes (m aM f_wide) (kCd (m a_c) (kN (mK m) p) (kN (mK m) p2) (kSrt (mK m) (m a_c) p3))) aM f_wide (m aM f_wide + 1) = m4
                      have f4 : zfr fTl m3 m4 := by rw [← em4]; exact zfr_uj (zfr_ua zfr_rf (by decide)) (by decide)
                      have f4' : zfr [(a_toldCodes, none), (aM, some f_wide)] m3 m4 := by rw [← em4]; exact zfr_uj (zfr_ua zfr_rf (by decide)) (by decide)
                      have hB4 := mB_fr hB3 (zfr_sub f4 (by decide))
                      have hm4 : ptM m4 := hB4.1
                      have hK4 : mK m4 = mK m := (mK_fr f4' (by decide)).trans hK3
                      have hw4 : m4 aM f_wrong = 0 := (zfr_at f4' (by decide)).trans hw3
                      have z4 : zfr fTl m m4 := zfr_tr z3 f4
                      have hn4 : m4 aM f_end = m aM f_end := (zfr_at f4' (by decide)).trans hn3
                      have ht4 : mTk m4 p3 := mTk_K ht3 (mK_fr f4' (by decide)) (zfr_at f4' (by decide)) (zfr_at f4' (by decide)) (zfr_at f4' (by decide)) (zfr_at f4' (by decide)) (zfr_at f4' (by decide)) (zfr_at f4' (by decide))
                      have gw4 : m4 aM f_wide = m aM f_wide + 1 := by rw [← em4]; exact zu_s
                      have gm4 : m4 a_toldCodes = eU (m a_toldCodes) (m aM f_wide) (kCd (m a_c) (kN (mK m) p) (kN (mK m) p2) (kSrt (mK m) (m a_c) p3)) := by rw [← em4, zu_fn (by decide)]; exact eU_t ha_toldCodes3
                      refine z_aload_n dX12_readsLine_265 rfl ?_
                      refine z_callV mlX12_497 dX12_readsLine_266 (sh_M hE) (av := _) rfl rfl (Nat.le_of_ble_eq_true rfl) (x_reads _ hE hB4 hw4 p3 ht4 (by rw [hn4]; exact kSo_lt hok (by omega))) (Nat.le_refl _) (Nat.le_refl _) (Nat.le_refl _) (Nat.le_refl _) ?_
                      rintro _ m5 ⟨rfl, f5, t5⟩
                      have hB5 := mB_fr hB4 (zfr_sub f5 (by decide))
                      have hK5 : mK m5 = mK m := (mK_fr f5 (by decide)).trans hK4
                      have hw5 : m5 aM f_wrong = 0 := (zfr_at f5 (by decide)).trans hw4
                      have z5 : zfr fTl m m5 := zfr_tr z4 (zfr_sub f5 (by decide))
                      have hn5 : m5 aM f_end = m aM f_end := (zfr_at f5 (by decide)).trans hn4
                      have hm5 : ptM m5 := hB5.1
                      rw [hK4] at t5
                      obtain ⟨p5, e5⟩ : ∃ x, x = kR (mK m) p3 := ⟨_, rfl⟩
                      rw [← e5] at t5
                      have ht5 := t5
                      refine z_aload_n dX12_readsLine_269 rfl ?_
                      refine z_aload_n dX12_readsLine_270 rfl ?_
                      refine z_bipush dX12_readsLine_271 rfl (by decide) ?_
                      refine z_callV mlX12_520 dX12_readsLine_273 (sh_M hE) (av := [_]) rfl rfl (Nat.le_of_ble_eq_true rfl) (by have h := x_isSign (d + 3) hE hB5 hw5 p5 ht5 59 (by decide) (by decide); rw [hK5] at h; exact h) (Nat.le_refl _) (Nat.le_refl _) (Nat.le_refl _) (Nat.le_refl _) ?_
                      rintro _ _ ⟨rfl, rfl⟩
                      by_cases y273 : kSn (mK m) p5 59
                      · rw [zb_t y273]
                        refine z_callV mlX12_506 dX12_readsLine_276 (sh_M hE) (av := [_]) rfl rfl (Nat.le_of_ble_eq_true rfl) (x_takesT _ hE hB5 hw5 p5 ht5 (by rw [hn5]; exact kSo_lt hok (by rw [y273.1]; decide))) (Nat.le_refl _) (Nat.le_refl _) (Nat.le_refl _) (Nat.le_refl _) ?_
                        rintro _ m6 ⟨rfl, f6, t6⟩
                        have hB6 := mB_fr hB5 (zfr_sub f6 (by decide))
                        have hK6 : mK m6 = mK m := (mK_fr f6 (by decide)).trans hK5
                        have hw6 : m6 aM f_wrong = 0 := (zfr_at f6 (by decide)).trans hw5
                        have z6 : zfr fTl m m6 := zfr_tr z5 (zfr_sub f6 (by decide))
                        have hn6 : m6 aM f_end = m aM f_end := (zfr_at f6 (by decide)).trans hn5
                        have hm6 : ptM m6 := hB6.1
                        rw [hK5] at t6
                        obtain ⟨p6, e6⟩ : ∃ x, x = kR (mK m) p5 := ⟨_, rfl⟩
                        rw [← e6] at t6
                        have ht6 := t6
                        refine z_vret dX12_readsLine_279 rfl rfl ?_
                        have eA : pLin (mK m) (m a_c) (m aM f_letters) (m a_toldCodes) (m aM f_wide) p = (0, 0, eU (m a_toldCodes) (m aM f_wide) (kCd (m a_c) (kN (mK m) p) (kN (mK m) p2) (kSrt (mK m) (m a_c) p3)), m aM f_wide + 1, p6) := by unfold pLin; rw [if_neg (not_not_intro g1), if_neg (not_not_intro i1), if_neg (by omega), ← e1, if_neg (not_not_intro (Or.inr h68)), ← e2, if_neg (not_not_intro g3), if_neg (not_not_intro i3), ← e3, if_neg (not_not_intro (Decidable.not_not.mp h111)), if_neg (by omega), if_neg (not_not_intro (by rw [zb_f (fun h => absurd h.1 (by omega))]; exact Decidable.not_not.mp h185)), ← e5, if_neg (not_not_intro y273), ← e6]
                        rw [eA]
                        refine ⟨rfl, ?_⟩
                        exact ⟨z6, hw6, fun h => absurd rfl h, fun _ => ⟨(zfr_cell f6 (by decide)).trans ((zfr_cell f5 (by decide)).trans gm4), (zfr_at f6 (by decide)).trans ((zfr_at f5 (by decide)).trans gw4), ht6⟩⟩
                      · rw [zb_f y273]
                        refine z_callV mlX12_506 dX12_readsLine_276 (sh_M hE) (av := [_]) rfl rfl (Nat.le_of_ble_eq_true rfl) (by have h := x_takesF (d) hE hB5 hw5 p5 ht5; rw [hK5] at h; exact h) (Nat.le_refl _) (Nat.le_refl _) (Nat.le_refl _) (Nat.le_refl _) ?_
                        rintro _ m6 ⟨rfl, b6⟩
                        have hB6 : mB m6 := b6 ▸ mB_bad hB5
                        have hw6 : m6 aM f_wrong = kMis (mK m) p5 := b6 ▸ mBad_w
                        have ha6 : m6 aM f_wrongAt = p5 := b6 ▸ mBad_a
                        have z6 : zfr fTl m m6 := b6 ▸ zfr_uj (zfr_uj z5 (by decide)) (by decide)
                        have hd6 : 0 < m6 aM f_wrong := by rw [hw6]; first | exact kMis_pos | decide
                        have hm6 : ptM m6 := hB6.1
                        refine z_vret dX12_readsLine_279 rfl rfl ?_
                        have eA : pLin (mK m) (m a_c) (m aM f_letters) (m a_toldCodes) (m aM f_wide) p = (kMis (mK m) p5, p5, m a_toldCodes, m aM f_wide, p) := by unfold pLin; rw [if_neg (not_not_intro g1), if_neg (not_not_intro i1), if_neg (by omega), ← e1, if_neg (not_not_intro (Or.inr h68)), ← e2, if_neg (not_not_intro g3), if_neg (not_not_intro i3), ← e3, if_neg (not_not_intro (Decidable.not_not.mp h111)), if_neg (by omega), if_neg (not_not_intro (by rw [zb_f (fun h => absurd h.1 (by omega))]; exact Decidable.not_not.mp h185)), ← e5, if_pos y273]
                        rw [eA]
                        refine ⟨rfl, ?_⟩
                        exact ⟨z6, hw6, fun _ => ha6, fun h => absurd (show (kMis (mK m) p5 : Int) = 0 from h) (by first | exact kMis_ne | decide)⟩
                    · refine z_aload_n dX12_readsLine_218 rfl ?_
                      refine z_iload dX12_readsLine_219 rfl ?_
                      refine z_callV mlX12_206 dX12_readsLine_221 (sh_M hE) (av := [_]) rfl rfl (Nat.le_of_ble_eq_true rfl) (by have h := r_isRealSort (d + 2) hE hm3 (kSrt (mK m) (m a_c) p3) (by omega) (by omega); rw [ha_c3] at h; exact h) (Nat.le_refl _) (Nat.le_refl _) (Nat.le_refl _) (Nat.le_refl _) ?_
                      rintro _ _ ⟨rfl, rfl⟩
                      refine z_ifz_eq (tgt := 242) dX12_readsLine_224 rfl (fun h224 => ?_) (fun h224 => ?_)
                      · refine z_bipush dX12_readsLine_242 rfl (by decide) ?_
                        refine z_iload_n dX12_readsLine_244 rfl ?_
                        refine z_mul dX12_readsLine_245 (by omega) ?_
                        refine z_bipush dX12_readsLine_246 rfl (by decide) ?_
                        refine z_iload_n dX12_readsLine_248 rfl ?_
                        refine z_mul dX12_readsLine_249 (by omega) ?_
                        refine z_add dX12_readsLine_250 (by omega) ?_
                        refine z_iload dX12_readsLine_251 rfl ?_
                        refine z_add dX12_readsLine_253 (by omega) ?_
                        refine z_iast dX12_readsLine_254 (sh_toldCodes hE) (by omega) (by omega) ?_
                        refine z_aload_n dX12_readsLine_255 rfl ?_
                        refine z_dup dX12_readsLine_256 rfl ?_
                        refine z_gIv f_wide rfl flX12_545 dX12_readsLine_257 (sh_M hE) rfl (Eq.trans (zu_a (by decide)) hwide3) ?_
                        refine z_iconst dX12_readsLine_260 (by decide) ?_
                        refine z_add dX12_readsLine_261 (by omega) ?_
                        refine z_pI f_wide rfl (fpX12_545 _) dX12_readsLine_262 (sh_M hE) rfl ?_
                        have ecd : 100 * kN (mK m) p + 10 * kN (mK m) p2 + (kSrt (mK m) (m a_c) p3) = kCd (m a_c) (kN (mK m) p) (kN (mK m) p2) (kSrt (mK m) (m a_c) p3) := by unfold kCd; rw [if_neg (fun h => h224 h.2)]
                        rw [ecd]
                        generalize em4 : zu (zu m3 a_toldCodes (m aM f_wide) (kCd (m a_c) (kN (mK m) p) (kN (mK m) p2) (kSrt (mK m) (m a_c) p3))) aM f_wide (m aM f_wide + 1) = m4
                        have f4 : zfr fTl m3 m4 := by rw [← em4]; exact zfr_uj (zfr_ua zfr_rf (by decide)) (by decide)
                        have f4' : zfr [(a_toldCodes, none), (aM, some f_wide)] m3 m4 := by rw [← em4]; exact zfr_uj (zfr_ua zfr_rf (by decide)) (by decide)
                        have hB4 := mB_fr hB3 (zfr_sub f4 (by decide))
                        have hm4 : ptM m4 := hB4.1
                        have hK4 : mK m4 = mK m := (mK_fr f4' (by decide)).trans hK3
                        have hw4 : m4 aM f_wrong = 0 := (zfr_at f4' (by decide)).trans hw3
                        have z4 : zfr fTl m m4 := zfr_tr z3 f4
                        have hn4 : m4 aM f_end = m aM f_end := (zfr_at f4' (by decide)).trans hn3
                        have ht4 : mTk m4 p3 := mTk_K ht3 (mK_fr f4' (by decide)) (zfr_at f4' (by decide)) (zfr_at f4' (by decide)) (zfr_at f4' (by decide)) (zfr_at f4' (by decide)) (zfr_at f4' (by decide)) (zfr_at f4' (by decide))
                        have gw4 : m4 aM f_wide = m aM f_wide + 1 := by rw [← em4]; exact zu_s
                        have gm4 : m4 a_toldCodes = eU (m a_toldCodes) (m aM f_wide) (kCd (m a_c) (kN (mK m) p) (kN (mK m) p2) (kSrt (mK m) (m a_c) p3)) := by rw [← em4, zu_fn (by decide)]; exact eU_t ha_toldCodes3
                        refine z_aload_n dX12_readsLine_265 rfl ?_
                        refine z_callV mlX12_497 dX12_readsLine_266 (sh_M hE) (av := _) rfl rfl (Nat.le_of_ble_eq_true rfl) (x_reads _ hE hB4 hw4 p3 ht4 (by rw [hn4]; exact kSo_lt hok (by omega))) (Nat.le_refl _) (Nat.le_refl _) (Nat.le_refl _) (Nat.le_refl _) ?_
                        rintro _ m5 ⟨rfl, f5, t5⟩
                        have hB5 := mB_fr hB4 (zfr_sub f5 (by decide))
                        have hK5 : mK m5 = mK m := (mK_fr f5 (by decide)).trans hK4
                        have hw5 : m5 aM f_wrong = 0 := (zfr_at f5 (by decide)).trans hw4
                        have z5 : zfr fTl m m5 := zfr_tr z4 (zfr_sub f5 (by decide))
                        have hn5 : m5 aM f_end = m aM f_end := (zfr_at f5 (by decide)).trans hn4
                        have hm5 : ptM m5 := hB5.1
                        rw [hK4] at t5
                        obtain ⟨p5, e5⟩ : ∃ x, x = kR (mK m) p3 := ⟨_, rfl⟩
                        rw [← e5] at t5
                        have ht5 := t5
                        refine z_aload_n dX12_readsLine_269 rfl ?_
                        refine z_aload_n dX12_readsLine_270 rfl ?_
                        refine z_bipush dX12_readsLine_271 rfl (by decide) ?_
                        refine z_callV mlX12_520 dX12_readsLine_273 (sh_M hE) (av := [_]) rfl rfl (Nat.le_of_ble_eq_true rfl) (by have h := x_isSign (d + 3) hE hB5 hw5 p5 ht5 59 (by decide) (by decide); rw [hK5] at h; exact h) (Nat.le_refl _) (Nat.le_refl _) (Nat.le_refl _) (Nat.le_refl _) ?_
                        rintro _ _ ⟨rfl, rfl⟩
                        by_cases y273 : kSn (mK m) p5 59
                        · rw [zb_t y273]
                          refine z_callV mlX12_506 dX12_readsLine_276 (sh_M hE) (av := [_]) rfl rfl (Nat.le_of_ble_eq_true rfl) (x_takesT _ hE hB5 hw5 p5 ht5 (by rw [hn5]; exact kSo_lt hok (by rw [y273.1]; decide))) (Nat.le_refl _) (Nat.le_refl _) (Nat.le_refl _) (Nat.le_refl _) ?_
                          rintro _ m6 ⟨rfl, f6, t6⟩
                          have hB6 := mB_fr hB5 (zfr_sub f6 (by decide))
                          have hK6 : mK m6 = mK m := (mK_fr f6 (by decide)).trans hK5
                          have hw6 : m6 aM f_wrong = 0 := (zfr_at f6 (by decide)).trans hw5
                          have z6 : zfr fTl m m6 := zfr_tr z5 (zfr_sub f6 (by decide))
                          have hn6 : m6 aM f_end = m aM f_end := (zfr_at f6 (by decide)).trans hn5
                          have hm6 : ptM m6 := hB6.1
                          rw [hK5] at t6
                          obtain ⟨p6, e6⟩ : ∃ x, x = kR (mK m) p5 := ⟨_, rfl⟩
                          rw [← e6] at t6
                          have ht6 := t6
                          refine z_vret dX12_readsLine_279 rfl rfl ?_
                          have eA : pLin (mK m) (m a_c) (m aM f_letters) (m a_toldCodes) (m aM f_wide) p = (0, 0, eU (m a_toldCodes) (m aM f_wide) (kCd (m a_c) (kN (mK m) p) (kN (mK m) p2) (kSrt (mK m) (m a_c) p3)), m aM f_wide + 1, p6) := by unfold pLin; rw [if_neg (not_not_intro g1), if_neg (not_not_intro i1), if_neg (by omega), ← e1, if_neg (not_not_intro (Or.inr h68)), ← e2, if_neg (not_not_intro g3), if_neg (not_not_intro i3), ← e3, if_neg (not_not_intro (Decidable.not_not.mp h111)), if_neg (by omega), if_neg (not_not_intro (by rw [zb_f (fun h => absurd h.1 (by omega))]; exact Decidable.not_not.mp h185)), ← e5, if_neg (not_not_intro y273), ← e6]
                          rw [eA]
                          refine ⟨rfl, ?_⟩
                          exact ⟨z6, hw6, fun h => absurd rfl h, fun _ => ⟨(zfr_cell f6 (by decide)).trans ((zfr_cell f5 (by decide)).trans gm4), (zfr_at f6 (by decide)).trans ((zfr_at f5 (by decide)).trans gw4), ht6⟩⟩
                        · rw [zb_f y273]
                          refine z_callV mlX12_506 dX12_readsLine_276 (sh_M hE) (av := [_]) rfl rfl (Nat.le_of_ble_eq_true rfl) (by have h := x_takesF (d) hE hB5 hw5 p5 ht5; rw [hK5] at h; exact h) (Nat.le_refl _) (Nat.le_refl _) (Nat.le_refl _) (Nat.le_refl _) ?_
                          rintro _ m6 ⟨rfl, b6⟩
                          have hB6 : mB m6 := b6 ▸ mB_bad hB5
                          have hw6 : m6 aM f_wrong = kMis (mK m) p5 := b6 ▸ mBad_w
                          have ha6 : m6 aM f_wrongAt = p5 := b6 ▸ mBad_a
                          have z6 : zfr fTl m m6 := b6 ▸ zfr_uj (zfr_uj z5 (by decide)) (by decide)
                          have hd6 : 0 < m6 aM f_wrong := by rw [hw6]; first | exact kMis_pos | decide
                          have hm6 : ptM m6 := hB6.1
                          refine z_vret dX12_readsLine_279 rfl rfl ?_
                          have eA : pLin (mK m) (m a_c) (m aM f_letters) (m a_toldCodes) (m aM f_wide) p = (kMis (mK m) p5, p5, m a_toldCodes, m aM f_wide, p) := by unfold pLin; rw [if_neg (not_not_intro g1), if_neg (not_not_intro i1), if_neg (by omega), ← e1, if_neg (not_not_intro (Or.inr h68)), ← e2, if_neg (not_not_intro g3), if_neg (not_not_intro i3), ← e3, if_neg (not_not_intro (Decidable.not_not.mp h111)), if_neg (by omega), if_neg (not_not_intro (by rw [zb_f (fun h => absurd h.1 (by omega))]; exact Decidable.not_not.mp h185)), ← e5, if_pos y273]
                          rw [eA]
                          refine ⟨rfl, ?_⟩
                          exact ⟨z6, hw6, fun _ => ha6, fun h => absurd (show (kMis (mK m) p5 : Int) = 0 from h) (by first | exact kMis_ne | decide)⟩
                      · refine z_bipush dX12_readsLine_227 rfl (by decide) ?_
                        refine z_iload_n dX12_readsLine_229 rfl ?_
                        refine z_mul dX12_readsLine_230 (by omega) ?_
                        refine z_bipush dX12_readsLine_231 rfl (by decide) ?_
                        refine z_iload_n dX12_readsLine_233 rfl ?_
                        refine z_mul dX12_readsLine_234 (by omega) ?_
                        refine z_add dX12_readsLine_235 (by omega) ?_
                        refine z_iload dX12_readsLine_236 rfl ?_
                        refine z_add dX12_readsLine_238 (by omega) ?_
                        refine z_goto (tgt := 254) dX12_readsLine_239 rfl ?_
                        refine z_iast dX12_readsLine_254 (sh_toldCodes hE) (by omega) (by omega) ?_
                        refine z_aload_n dX12_readsLine_255 rfl ?_
                        refine z_dup dX12_readsLine_256 rfl ?_
                        refine z_gIv f_wide rfl flX12_545 dX12_readsLine_257 (sh_M hE) rfl (Eq.trans (zu_a (by decide)) hwide3) ?_
                        refine z_iconst dX12_readsLine_260 (by decide) ?_
                        refine z_add dX12_readsLine_261 (by omega) ?_
                        refine z_pI f_wide rfl (fpX12_545 _) dX12_readsLine_262 (sh_M hE) rfl ?_
                        have ecd : 100 * kN (mK m) p2 + 10 * kN (mK m) p + (kSrt (mK m) (m a_c) p3) = kCd (m a_c) (kN (mK m) p) (kN (mK m) p2) (kSrt (mK m) (m a_c) p3) := by unfold kCd; rw [if_pos ⟨by omega, h224⟩]
                        rw [ecd]
                        generalize em4 : zu (zu m3 a_toldCodes (m aM f_wide) (kCd (m a_c) (kN (mK m) p) (kN (mK m) p2) (kSrt (mK m) (m a_c) p3))) aM f_wide (m aM f_wide + 1) = m4
                        have f4 : zfr fTl m3 m4 := by rw [← em4]; exact zfr_uj (zfr_ua zfr_rf (by decide)) (by decide)
                        have f4' : zfr [(a_toldCodes, none), (aM, some f_wide)] m3 m4 := by rw [← em4]; exact zfr_uj (zfr_ua zfr_rf (by decide)) (by decide)
                        have hB4 := mB_fr hB3 (zfr_sub f4 (by decide))
                        have hm4 : ptM m4 := hB4.1
                        have hK4 : mK m4 = mK m := (mK_fr f4' (by decide)).trans hK3
                        have hw4 : m4 aM f_wrong = 0 := (zfr_at f4' (by decide)).trans hw3
                        have z4 : zfr fTl m m4 := zfr_tr z3 f4
                        have hn4 : m4 aM f_end = m aM f_end := (zfr_at f4' (by decide)).trans hn3
                        have ht4 : mTk m4 p3 := mTk_K ht3 (mK_fr f4' (by decide)) (zfr_at f4' (by decide)) (zfr_at f4' (by decide)) (zfr_at f4' (by decide)) (zfr_at f4' (by decide)) (zfr_at f4' (by decide)) (zfr_at f4' (by decide))
                        have gw4 : m4 aM f_wide = m aM f_wide + 1 := by rw [← em4]; exact zu_s
                        have gm4 : m4 a_toldCodes = eU (m a_toldCodes) (m aM f_wide) (kCd (m a_c) (kN (mK m) p) (kN (mK m) p2) (kSrt (mK m) (m a_c) p3)) := by rw [← em4, zu_fn (by decide)]; exact eU_t ha_toldCodes3
                        refine z_aload_n dX12_readsLine_265 rfl ?_
                        refine z_callV mlX12_497 dX12_readsLine_266 (sh_M hE) (av := _) rfl rfl (Nat.le_of_ble_eq_true rfl) (x_reads _ hE hB4 hw4 p3 ht4 (by rw [hn4]; exact kSo_lt hok (by omega))) (Nat.le_refl _) (Nat.le_refl _) (Nat.le_refl _) (Nat.le_refl _) ?_
                        rintro _ m5 ⟨rfl, f5, t5⟩
                        have hB5 := mB_fr hB4 (zfr_sub f5 (by decide))
                        have hK5 : mK m5 = mK m := (mK_fr f5 (by decide)).trans hK4
                        have hw5 : m5 aM f_wrong = 0 := (zfr_at f5 (by decide)).trans hw4
                        have z5 : zfr fTl m m5 := zfr_tr z4 (zfr_sub f5 (by decide))
                        have hn5 : m5 aM f_end = m aM f_end := (zfr_at f5 (by decide)).trans hn4
                        have hm5 : ptM m5 := hB5.1
                        rw [hK4] at t5
                        obtain ⟨p5, e5⟩ : ∃ x, x = kR (mK m) p3 := ⟨_, rfl⟩
                        rw [← e5] at t5
                        have ht5 := t5
                        refine z_aload_n dX12_readsLine_269 rfl ?_
                        refine z_aload_n dX12_readsLine_270 rfl ?_
                        refine z_bipush dX12_readsLine_271 rfl (by decide) ?_
                        refine z_callV mlX12_520 dX12_readsLine_273 (sh_M hE) (av := [_]) rfl rfl (Nat.le_of_ble_eq_true rfl) (by have h := x_isSign (d + 3) hE hB5 hw5 p5 ht5 59 (by decide) (by decide); rw [hK5] at h; exact h) (Nat.le_refl _) (Nat.le_refl _) (Nat.le_refl _) (Nat.le_refl _) ?_
                        rintro _ _ ⟨rfl, rfl⟩
                        by_cases y273 : kSn (mK m) p5 59
                        · rw [zb_t y273]
                          refine z_callV mlX12_506 dX12_readsLine_276 (sh_M hE) (av := [_]) rfl rfl (Nat.le_of_ble_eq_true rfl) (x_takesT _ hE hB5 hw5 p5 ht5 (by rw [hn5]; exact kSo_lt hok (by rw [y273.1]; decide))) (Nat.le_refl _) (Nat.le_refl _) (Nat.le_refl _) (Nat.le_refl _) ?_
                          rintro _ m6 ⟨rfl, f6, t6⟩
                          have hB6 := mB_fr hB5 (zfr_sub f6 (by decide))
                          have hK6 : mK m6 = mK m := (mK_fr f6 (by decide)).trans hK5
                          have hw6 : m6 aM f_wrong = 0 := (zfr_at f6 (by decide)).trans hw5
                          have z6 : zfr fTl m m6 := zfr_tr z5 (zfr_sub f6 (by decide))
                          have hn6 : m6 aM f_end = m aM f_end := (zfr_at f6 (by decide)).trans hn5
                          have hm6 : ptM m6 := hB6.1
                          rw [hK5] at t6
                          obtain ⟨p6, e6⟩ : ∃ x, x = kR (mK m) p5 := ⟨_, rfl⟩
                          rw [← e6] at t6
                          have ht6 := t6
                          refine z_vret dX12_readsLine_279 rfl rfl ?_
                          have eA : pLin (mK m) (m a_c) (m aM f_letters) (m a_toldCodes) (m aM f_wide) p = (0, 0, eU (m a_toldCodes) (m aM f_wide) (kCd (m a_c) (kN (mK m) p) (kN (mK m) p2) (kSrt (mK m) (m a_c) p3)), m aM f_wide + 1, p6) := by unfold pLin; rw [if_neg (not_not_intro g1), if_neg (not_not_intro i1), if_neg (by omega), ← e1, if_neg (not_not_intro (Or.inr h68)), ← e2, if_neg (not_not_intro g3), if_neg (not_not_intro i3), ← e3, if_neg (not_not_intro (Decidable.not_not.mp h111)), if_neg (by omega), if_neg (not_not_intro (by rw [zb_f (fun h => absurd h.1 (by omega))]; exact Decidable.not_not.mp h185)), ← e5, if_neg (not_not_intro y273), ← e6]
                          rw [eA]
                          refine ⟨rfl, ?_⟩
                          exact ⟨z6, hw6, fun h => absurd rfl h, fun _ => ⟨(zfr_cell f6 (by decide)).trans ((zfr_cell f5 (by decide)).trans gm4), (zfr_at f6 (by decide)).trans ((zfr_at f5 (by decide)).trans gw4), ht6⟩⟩
                        · rw [zb_f y273]
                          refine z_callV mlX12_506 dX12_readsLine_276 (sh_M hE) (av := [_]) rfl rfl (Nat.le_of_ble_eq_true rfl) (by have h := x_takesF (d) hE hB5 hw5 p5 ht5; rw [hK5] at h; exact h) (Nat.le_refl _) (Nat.le_refl _) (Nat.le_refl _) (Nat.le_refl _) ?_
                          rintro _ m6 ⟨rfl, b6⟩
                          have hB6 : mB m6 := b6 ▸ mB_bad hB5
                          have hw6 : m6 aM f_wrong = kMis (mK m) p5 := b6 ▸ mBad_w
                          have ha6 : m6 aM f_wrongAt = p5 := b6 ▸ mBad_a
                          have z6 : zfr fTl m m6 := b6 ▸ zfr_uj (zfr_uj z5 (by decide)) (by decide)
                          have hd6 : 0 < m6 aM f_wrong := by rw [hw6]; first | exact kMis_pos | decide
                          have hm6 : ptM m6 := hB6.1
                          refine z_vret dX12_readsLine_279 rfl rfl ?_
                          have eA : pLin (mK m) (m a_c) (m aM f_letters) (m a_toldCodes) (m aM f_wide) p = (kMis (mK m) p5, p5, m a_toldCodes, m aM f_wide, p) := by unfold pLin; rw [if_neg (not_not_intro g1), if_neg (not_not_intro i1), if_neg (by omega), ← e1, if_neg (not_not_intro (Or.inr h68)), ← e2, if_neg (not_not_intro g3), if_neg (not_not_intro i3), ← e3, if_neg (not_not_intro (Decidable.not_not.mp h111)), if_neg (by omega), if_neg (not_not_intro (by rw [zb_f (fun h => absurd h.1 (by omega))]; exact Decidable.not_not.mp h185)), ← e5, if_pos y273]
                          rw [eA]
                          refine ⟨rfl, ?_⟩
                          exact ⟨z6, hw6, fun _ => ha6, fun h => absurd (show (kMis (mK m) p5 : Int) = 0 from h) (by first | exact kMis_ne | decide)⟩
                · refine z_aload_n dX12_readsLine_170 rfl ?_
                  refine z_iload dX12_readsLine_171 rfl ?_
                  refine z_callV mlX12_148 dX12_readsLine_173 (sh_M hE) (av := [_]) rfl rfl (Nat.le_of_ble_eq_true rfl) (by have h := r_isPair (d + 3) hE hm3 (kSrt (mK m) (m a_c) p3) (by omega) (by omega); rw [ha_c3] at h; exact h) (Nat.le_refl _) (Nat.le_refl _) (Nat.le_refl _) (Nat.le_refl _) ?_
                  rintro _ _ ⟨rfl, rfl⟩
                  refine z_ifz_eq (tgt := 183) dX12_readsLine_176 rfl (fun h176 => ?_) (fun h176 => ?_)
                  · refine z_iconst dX12_readsLine_183 (by decide) ?_
                    refine z_iload_n dX12_readsLine_184 rfl ?_
                    refine z_icmp_ne (tgt := 192) dX12_readsLine_185 rfl (fun h185 => ?_) (fun h185 => ?_)
                    · refine z_iconst dX12_readsLine_192 (by decide) ?_
                      refine z_iconst dX12_readsLine_193 (by decide) ?_
                      refine z_callV mlX12_493 dX12_readsLine_194 (sh_M hE) (av := [_, _]) rfl rfl (Nat.le_of_ble_eq_true rfl) (x_mustK _ hE hB3 hw3 p3 ht3 4 (by decide)) (Nat.le_refl _) (Nat.le_refl _) (Nat.le_refl _) (Nat.le_refl _) ?_
                      rintro _ m4 ⟨rfl, b4⟩
                      have hB4 : mB m4 := b4 ▸ mB_bad hB3
                      have hw4 : m4 aM f_wrong = 4 := b4 ▸ mBad_w
                      have ha4 : m4 aM f_wrongAt = p3 := b4 ▸ mBad_a
                      have z4 : zfr fTl m m4 := b4 ▸ zfr_uj (zfr_uj z3 (by decide)) (by decide)
                      have hd4 : 0 < m4 aM f_wrong := by rw [hw4]; first | exact kMis_pos | decide
                      have hm4 : ptM m4 := hB4.1
                      have ha_c4 : m4 a_c = m a_c := (b4 ▸ (zu_fn (by decide)).trans (zu_fn (by decide)) : m4 a_c = m3 a_c).trans ha_c3
                      have ha_toldCodes4 : m4 a_toldCodes = m a_toldCodes := (b4 ▸ (zu_fn (by decide)).trans (zu_fn (by decide)) : m4 a_toldCodes = m3 a_toldCodes).trans ha_toldCodes3
                      have hletters4 : m4 aM f_letters = m aM f_letters := (b4 ▸ (zu_j (by decide)).trans (zu_j (by decide)) : m4 aM f_letters = m3 aM f_letters).trans hletters3
                      have hwide4 : m4 aM f_wide = m aM f_wide := (b4 ▸ (zu_j (by decide)).trans (zu_j (by decide)) : m4 aM f_wide = m3 aM f_wide).trans hwide3
                      refine z_aload_n dX12_readsLine_197 rfl ?_
                      refine z_gIv f_wrong rfl flX12_487 dX12_readsLine_198 (sh_M hE) rfl hw4 ?_
                      refine z_if_le (tgt := 205) dX12_readsLine_201 rfl (fun h => absurd h (by omega)) (fun h201 => ?_)
                      refine z_vret dX12_readsLine_204 rfl rfl ?_
                      have eA : pLin (mK m) (m a_c) (m aM f_letters) (m a_toldCodes) (m aM f_wide) p = (4, p3, m a_toldCodes, m aM f_wide, p) := by unfold pLin; rw [if_neg (not_not_intro g1), if_neg (not_not_intro i1), if_neg (by omega), ← e1, if_neg (not_not_intro (Or.inr h68)), ← e2, if_neg (not_not_intro g3), if_neg (not_not_intro i3), ← e3, if_neg (not_not_intro (Decidable.not_not.mp h111)), if_neg (by omega), if_pos (by rw [zb_f (fun h => h176 h.2)]; exact h185)]
                      rw [eA]
                      refine ⟨rfl, ?_⟩
                      exact ⟨z4, hw4, fun _ => ha4, fun h => absurd (show (4 : Int) = 0 from h) (by first | exact kMis_ne | decide)⟩
                    · refine z_iconst dX12_readsLine_188 (by decide) ?_
                      refine z_goto (tgt := 193) dX12_readsLine_189 rfl ?_
                      refine z_iconst dX12_readsLine_193 (by decide) ?_
                      refine z_callV mlX12_493 dX12_readsLine_194 (sh_M hE) (av := [_, _]) rfl rfl (Nat.le_of_ble_eq_true rfl) (x_mustT _ hE hB3 1 4 (Or.inl (by decide))) (Nat.le_refl _) (Nat.le_refl _) (Nat.le_refl _) (Nat.le_refl _) ?_
                      rintro _ _ ⟨rfl, rfl⟩
                      refine z_aload_n dX12_readsLine_197 rfl ?_
                      refine z_gIv f_wrong rfl flX12_487 dX12_readsLine_198 (sh_M hE) rfl hw3 ?_
                      refine z_if_le (tgt := 205) dX12_readsLine_201 rfl (fun h201 => ?_) (fun h => absurd (by omega) h)
                      refine z_aload_n dX12_readsLine_205 rfl ?_
                      refine z_gP 53 rfl (r := a_toldCodes) flX12_108 dX12_readsLine_206 (sh_M hE) rfl (pt_toldCodes hm3) (by decide) ?_
                      refine z_aload_n dX12_readsLine_209 rfl ?_
                      refine z_gIv f_wide rfl flX12_545 dX12_readsLine_210 (sh_M hE) rfl hwide3 ?_
                      refine z_iload_n dX12_readsLine_213 rfl ?_
                      refine z_iload_n dX12_readsLine_214 rfl ?_
                      refine z_icmp_le (tgt := 242) dX12_readsLine_215 rfl (fun h215 => ?_) (fun h215 => ?_)
                      · refine z_bipush dX12_readsLine_242 rfl (by decide) ?_
                        refine z_iload_n dX12_readsLine_244 rfl ?_
                        refine z_mul dX12_readsLine_245 (by omega) ?_
                        refine z_bipush dX12_readsLine_246 rfl (by decide) ?_
                        refine z_iload_n dX12_readsLine_248 rfl ?_
                        refine z_mul dX12_readsLine_249 (by omega) ?_
                        refine z_add dX12_readsLine_250 (by omega) ?_
                        refine z_iload dX12_readsLine_251 rfl ?_
                        refine z_add dX12_readsLine_253 (by omega) ?_
                        refine z_iast dX12_readsLine_254 (sh_toldCodes hE) (by omega) (by omega) ?_
                        refine z_aload_n dX12_readsLine_255 rfl ?_
                        refine z_dup dX12_readsLine_256 rfl ?_
                        refine z_gIv f_wide rfl flX12_545 dX12_readsLine_257 (sh_M hE) rfl (Eq.trans (zu_a (by decide)) hwide3) ?_
                        refine z_iconst dX12_readsLine_260 (by decide) ?_
                        refine z_add dX12_readsLine_261 (by omega) ?_
                        refine z_pI f_wide rfl (fpX12_545 _) dX12_readsLine_262 (sh_M hE) rfl ?_
                        have ecd : 100 * kN (mK m) p + 10 * kN (mK m) p2 + (kSrt (mK m) (m a_c) p3) = kCd (m a_c) (kN (mK m) p) (kN (mK m) p2) (kSrt (mK m) (m a_c) p3) := by unfold kCd; rw [if_neg (fun h => absurd h.1 (by omega))]
                        rw [ecd]
                        generalize em4 : zu (zu m3 a_toldCodes (m aM f_wide) (kCd (m a_c) (kN (mK m) p) (kN (mK m) p2) (kSrt (mK m) (m a_c) p3))) aM f_wide (m aM f_wide + 1) = m4
                        have f4 : zfr fTl m3 m4 := by rw [← em4]; exact zfr_uj (zfr_ua zfr_rf (by decide)) (by decide)
                        have f4' : zfr [(a_toldCodes, none), (aM, some f_wide)] m3 m4 := by rw [← em4]; exact zfr_uj (zfr_ua zfr_rf (by decide)) (by decide)
                        have hB4 := mB_fr hB3 (zfr_sub f4 (by decide))
                        have hm4 : ptM m4 := hB4.1
                        have hK4 : mK m4 = mK m := (mK_fr f4' (by decide)).trans hK3
                        have hw4 : m4 aM f_wrong = 0 := (zfr_at f4' (by decide)).trans hw3
                        have z4 : zfr fTl m m4 := zfr_tr z3 f4
                        have hn4 : m4 aM f_end = m aM f_end := (zfr_at f4' (by decide)).trans hn3
                        have ht4 : mTk m4 p3 := mTk_K ht3 (mK_fr f4' (by decide)) (zfr_at f4' (by decide)) (zfr_at f4' (by decide)) (zfr_at f4' (by decide)) (zfr_at f4' (by decide)) (zfr_at f4' (by decide)) (zfr_at f4' (by decide))
                        have gw4 : m4 aM f_wide = m aM f_wide + 1 := by rw [← em4]; exact zu_s
                        have gm4 : m4 a_toldCodes = eU (m a_toldCodes) (m aM f_wide) (kCd (m a_c) (kN (mK m) p) (kN (mK m) p2) (kSrt (mK m) (m a_c) p3)) := by rw [← em4, zu_fn (by decide)]; exact eU_t ha_toldCodes3
                        refine z_aload_n dX12_readsLine_265 rfl ?_
                        refine z_callV mlX12_497 dX12_readsLine_266 (sh_M hE) (av := _) rfl rfl (Nat.le_of_ble_eq_true rfl) (x_reads _ hE hB4 hw4 p3 ht4 (by rw [hn4]; exact kSo_lt hok (by omega))) (Nat.le_refl _) (Nat.le_refl _) (Nat.le_refl _) (Nat.le_refl _) ?_
                        rintro _ m5 ⟨rfl, f5, t5⟩
                        have hB5 := mB_fr hB4 (zfr_sub f5 (by decide))
                        have hK5 : mK m5 = mK m := (mK_fr f5 (by decide)).trans hK4
                        have hw5 : m5 aM f_wrong = 0 := (zfr_at f5 (by decide)).trans hw4
                        have z5 : zfr fTl m m5 := zfr_tr z4 (zfr_sub f5 (by decide))
                        have hn5 : m5 aM f_end = m aM f_end := (zfr_at f5 (by decide)).trans hn4
                        have hm5 : ptM m5 := hB5.1
                        rw [hK4] at t5
                        obtain ⟨p5, e5⟩ : ∃ x, x = kR (mK m) p3 := ⟨_, rfl⟩
                        rw [← e5] at t5
                        have ht5 := t5
                        refine z_aload_n dX12_readsLine_269 rfl ?_
                        refine z_aload_n dX12_readsLine_270 rfl ?_
                        refine z_bipush dX12_readsLine_271 rfl (by decide) ?_
                        refine z_callV mlX12_520 dX12_readsLine_273 (sh_M hE) (av := [_]) rfl rfl (Nat.le_of_ble_eq_true rfl) (by have h := x_isSign (d + 3) hE hB5 hw5 p5 ht5 59 (by decide) (by decide); rw [hK5] at h; exact h) (Nat.le_refl _) (Nat.le_refl _) (Nat.le_refl _) (Nat.le_refl _) ?_
                        rintro _ _ ⟨rfl, rfl⟩
                        by_cases y273 : kSn (mK m) p5 59
                        · rw [zb_t y273]
                          refine z_callV mlX12_506 dX12_readsLine_276 (sh_M hE) (av := [_]) rfl rfl (Nat.le_of_ble_eq_true rfl) (x_takesT _ hE hB5 hw5 p5 ht5 (by rw [hn5]; exact kSo_lt hok (by rw [y273.1]; decide))) (Nat.le_refl _) (Nat.le_refl _) (Nat.le_refl _) (Nat.le_refl _) ?_
                          rintro _ m6 ⟨rfl, f6, t6⟩
                          have hB6 := mB_fr hB5 (zfr_sub f6 (by decide))
                          have hK6 : mK m6 = mK m := (mK_fr f6 (by decide)).trans hK5
                          have hw6 : m6 aM f_wrong = 0 := (zfr_at f6 (by decide)).trans hw5
                          have z6 : zfr fTl m m6 := zfr_tr z5 (zfr_sub f6 (by decide))
                          have hn6 : m6 aM f_end = m aM f_end := (zfr_at f6 (by decide)).trans hn5
                          have hm6 : ptM m6 := hB6.1
                          rw [hK5] at t6
                          obtain ⟨p6, e6⟩ : ∃ x, x = kR (mK m) p5 := ⟨_, rfl⟩
                          rw [← e6] at t6
                          have ht6 := t6
                          refine z_vret dX12_readsLine_279 rfl rfl ?_
                          have eA : pLin (mK m) (m a_c) (m aM f_letters) (m a_toldCodes) (m aM f_wide) p = (0, 0, eU (m a_toldCodes) (m aM f_wide) (kCd (m a_c) (kN (mK m) p) (kN (mK m) p2) (kSrt (mK m) (m a_c) p3)), m aM f_wide + 1, p6) := by unfold pLin; rw [if_neg (not_not_intro g1), if_neg (not_not_intro i1), if_neg (by omega), ← e1, if_neg (not_not_intro (Or.inr h68)), ← e2, if_neg (not_not_intro g3), if_neg (not_not_intro i3), ← e3, if_neg (not_not_intro (Decidable.not_not.mp h111)), if_neg (by omega), if_neg (not_not_intro (by rw [zb_f (fun h => h176 h.2)]; exact Decidable.not_not.mp h185)), ← e5, if_neg (not_not_intro y273), ← e6]
                          rw [eA]
                          refine ⟨rfl, ?_⟩
                          exact ⟨z6, hw6, fun h => absurd rfl h, fun _ => ⟨(zfr_cell f6 (by decide)).trans ((zfr_cell f5 (by decide)).trans gm4), (zfr_at f6 (by decide)).trans ((zfr_at f5 (by decide)).trans gw4), ht6⟩⟩
                        · rw [zb_f y273]
                          refine z_callV mlX12_506 dX12_readsLine_276 (sh_M hE) (av := [_]) rfl rfl (Nat.le_of_ble_eq_true rfl) (by have h := x_takesF (d) hE hB5 hw5 p5 ht5; rw [hK5] at h; exact h) (Nat.le_refl _) (Nat.le_refl _) (Nat.le_refl _) (Nat.le_refl _) ?_
                          rintro _ m6 ⟨rfl, b6⟩
                          have hB6 : mB m6 := b6 ▸ mB_bad hB5
                          have hw6 : m6 aM f_wrong = kMis (mK m) p5 := b6 ▸ mBad_w
                          have ha6 : m6 aM f_wrongAt = p5 := b6 ▸ mBad_a
                          have z6 : zfr fTl m m6 := b6 ▸ zfr_uj (zfr_uj z5 (by decide)) (by decide)
                          have hd6 : 0 < m6 aM f_wrong := by rw [hw6]; first | exact kMis_pos | decide
                          have hm6 : ptM m6 := hB6.1
                          refine z_vret dX12_readsLine_279 rfl rfl ?_
                          have eA : pLin (mK m) (m a_c) (m aM f_letters) (m a_toldCodes) (m aM f_wide) p = (kMis (mK m) p5, p5, m a_toldCodes, m aM f_wide, p) := by unfold pLin; rw [if_neg (not_not_intro g1), if_neg (not_not_intro i1), if_neg (by omega), ← e1, if_neg (not_not_intro (Or.inr h68)), ← e2, if_neg (not_not_intro g3), if_neg (not_not_intro i3), ← e3, if_neg (not_not_intro (Decidable.not_not.mp h111)), if_neg (by omega), if_neg (not_not_intro (by rw [zb_f (fun h => h176 h.2)]; exact Decidable.not_not.mp h185)), ← e5, if_pos y273]
                          rw [eA]
                          refine ⟨rfl, ?_⟩
                          exact ⟨z6, hw6, fun _ => ha6, fun h => absurd (show (kMis (mK m) p5 : Int) = 0 from h) (by first | exact kMis_ne | decide)⟩
                      · refine z_aload_n dX12_readsLine_218 rfl ?_
                        refine z_iload dX12_readsLine_219 rfl ?_
                        refine z_callV mlX12_206 dX12_readsLine_221 (sh_M hE) (av := [_]) rfl rfl (Nat.le_of_ble_eq_true rfl) (by have h := r_isRealSort (d + 2) hE hm3 (kSrt (mK m) (m a_c) p3) (by omega) (by omega); rw [ha_c3] at h; exact h) (Nat.le_refl _) (Nat.le_refl _) (Nat.le_refl _) (Nat.le_refl _) ?_
                        rintro _ _ ⟨rfl, rfl⟩
                        refine z_ifz_eq (tgt := 242) dX12_readsLine_224 rfl (fun h224 => ?_) (fun h224 => ?_)
                        · refine z_bipush dX12_readsLine_242 rfl (by decide) ?_
                          refine z_iload_n dX12_readsLine_244 rfl ?_
                          refine z_mul dX12_readsLine_245 (by omega) ?_
                          refine z_bipush dX12_readsLine_246 rfl (by decide) ?_
                          refine z_iload_n dX12_readsLine_248 rfl ?_
                          refine z_mul dX12_readsLine_249 (by omega) ?_
                          refine z_add dX12_readsLine_250 (by omega) ?_
                          refine z_iload dX12_readsLine_251 rfl ?_
                          refine z_add dX12_readsLine_253 (by omega) ?_
                          refine z_iast dX12_readsLine_254 (sh_toldCodes hE) (by omega) (by omega) ?_
                          refine z_aload_n dX12_readsLine_255 rfl ?_
                          refine z_dup dX12_readsLine_256 rfl ?_
                          refine z_gIv f_wide rfl flX12_545 dX12_readsLine_257 (sh_M hE) rfl (Eq.trans (zu_a (by decide)) hwide3) ?_
                          refine z_iconst dX12_readsLine_260 (by decide) ?_
                          refine z_add dX12_readsLine_261 (by omega) ?_
                          refine z_pI f_wide rfl (fpX12_545 _) dX12_readsLine_262 (sh_M hE) rfl ?_
                          have ecd : 100 * kN (mK m) p + 10 * kN (mK m) p2 + (kSrt (mK m) (m a_c) p3) = kCd (m a_c) (kN (mK m) p) (kN (mK m) p2) (kSrt (mK m) (m a_c) p3) := by unfold kCd; rw [if_neg (fun h => h224 h.2)]
                          rw [ecd]
                          generalize em4 : zu (zu m3 a_toldCodes (m aM f_wide) (kCd (m a_c) (kN (mK m) p) (kN (mK m) p2) (kSrt (mK m) (m a_c) p3))) aM f_wide (m aM f_wide + 1) = m4
                          have f4 : zfr fTl m3 m4 := by rw [← em4]; exact zfr_uj (zfr_ua zfr_rf (by decide)) (by decide)
                          have f4' : zfr [(a_toldCodes, none), (aM, some f_wide)] m3 m4 := by rw [← em4]; exact zfr_uj (zfr_ua zfr_rf (by decide)) (by decide)
                          have hB4 := mB_fr hB3 (zfr_sub f4 (by decide))
                          have hm4 : ptM m4 := hB4.1
                          have hK4 : mK m4 = mK m := (mK_fr f4' (by decide)).trans hK3
                          have hw4 : m4 aM f_wrong = 0 := (zfr_at f4' (by decide)).trans hw3
                          have z4 : zfr fTl m m4 := zfr_tr z3 f4
                          have hn4 : m4 aM f_end = m aM f_end := (zfr_at f4' (by decide)).trans hn3
                          have ht4 : mTk m4 p3 := mTk_K ht3 (mK_fr f4' (by decide)) (zfr_at f4' (by decide)) (zfr_at f4' (by decide)) (zfr_at f4' (by decide)) (zfr_at f4' (by decide)) (zfr_at f4' (by decide)) (zfr_at f4' (by decide))
                          have gw4 : m4 aM f_wide = m aM f_wide + 1 := by rw [← em4]; exact zu_s
                          have gm4 : m4 a_toldCodes = eU (m a_toldCodes) (m aM f_wide) (kCd (m a_c) (kN (mK m) p) (kN (mK m) p2) (kSrt (mK m) (m a_c) p3)) := by rw [← em4, zu_fn (by decide)]; exact eU_t ha_toldCodes3
                          refine z_aload_n dX12_readsLine_265 rfl ?_
                          refine z_callV mlX12_497 dX12_readsLine_266 (sh_M hE) (av := _) rfl rfl (Nat.le_of_ble_eq_true rfl) (x_reads _ hE hB4 hw4 p3 ht4 (by rw [hn4]; exact kSo_lt hok (by omega))) (Nat.le_refl _) (Nat.le_refl _) (Nat.le_refl _) (Nat.le_refl _) ?_
                          rintro _ m5 ⟨rfl, f5, t5⟩
                          have hB5 := mB_fr hB4 (zfr_sub f5 (by decide))
                          have hK5 : mK m5 = mK m := (mK_fr f5 (by decide)).trans hK4
                          have hw5 : m5 aM f_wrong = 0 := (zfr_at f5 (by decide)).trans hw4
                          have z5 : zfr fTl m m5 := zfr_tr z4 (zfr_sub f5 (by decide))
                          have hn5 : m5 aM f_end = m aM f_end := (zfr_at f5 (by decide)).trans hn4
                          have hm5 : ptM m5 := hB5.1
                          rw [hK4] at t5
                          obtain ⟨p5, e5⟩ : ∃ x, x = kR (mK m) p3 := ⟨_, rfl⟩
                          rw [← e5] at t5
                          have ht5 := t5
                          refine z_aload_n dX12_readsLine_269 rfl ?_
                          refine z_aload_n dX12_readsLine_270 rfl ?_
                          refine z_bipush dX12_readsLine_271 rfl (by decide) ?_
                          refine z_callV mlX12_520 dX12_readsLine_273 (sh_M hE) (av := [_]) rfl rfl (Nat.le_of_ble_eq_true rfl) (by have h := x_isSign (d + 3) hE hB5 hw5 p5 ht5 59 (by decide) (by decide); rw [hK5] at h; exact h) (Nat.le_refl _) (Nat.le_refl _) (Nat.le_refl _) (Nat.le_refl _) ?_
                          rintro _ _ ⟨rfl, rfl⟩
                          by_cases y273 : kSn (mK m) p5 59
                          · rw [zb_t y273]
                            refine z_callV mlX12_506 dX12_readsLine_276 (sh_M hE) (av := [_]) rfl rfl (Nat.le_of_ble_eq_true rfl) (x_takesT _ hE hB5 hw5 p5 ht5 (by rw [hn5]; exact kSo_lt hok (by rw [y273.1]; decide))) (Nat.le_refl _) (Nat.le_refl _) (Nat.le_refl _) (Nat.le_refl _) ?_
                            rintro _ m6 ⟨rfl, f6, t6⟩
                            have hB6 := mB_fr hB5 (zfr_sub f6 (by decide))
                            have hK6 : mK m6 = mK m := (mK_fr f6 (by decide)).trans hK5
                            have hw6 : m6 aM f_wrong = 0 := (zfr_at f6 (by decide)).trans hw5
                            have z6 : zfr fTl m m6 := zfr_tr z5 (zfr_sub f6 (by decide))
                            have hn6 : m6 aM f_end = m aM f_end := (zfr_at f6 (by decide)).trans hn5
                            have hm6 : ptM m6 := hB6.1
                            rw [hK5] at t6
                            obtain ⟨p6, e6⟩ : ∃ x, x = kR (mK m) p5 := ⟨_, rfl⟩
                            rw [← e6] at t6
                            have ht6 := t6
                            refine z_vret dX12_readsLine_279 rfl rfl ?_
                            have eA : pLin (mK m) (m a_c) (m aM f_letters) (m a_toldCodes) (m aM f_wide) p = (0, 0, eU (m a_toldCodes) (m aM f_wide) (kCd (m a_c) (kN (mK m) p) (kN (mK m) p2) (kSrt (mK m) (m a_c) p3)), m aM f_wide + 1, p6) := by unfold pLin; rw [if_neg (not_not_intro g1), if_neg (not_not_intro i1), if_neg (by omega), ← e1, if_neg (not_not_intro (Or.inr h68)), ← e2, if_neg (not_not_intro g3), if_neg (not_not_intro i3), ← e3, if_neg (not_not_intro (Decidable.not_not.mp h111)), if_neg (by omega), if_neg (not_not_intro (by rw [zb_f (fun h => h176 h.2)]; exact Decidable.not_not.mp h185)), ← e5, if_neg (not_not_intro y273), ← e6]
                            rw [eA]
                            refine ⟨rfl, ?_⟩
                            exact ⟨z6, hw6, fun h => absurd rfl h, fun _ => ⟨(zfr_cell f6 (by decide)).trans ((zfr_cell f5 (by decide)).trans gm4), (zfr_at f6 (by decide)).trans ((zfr_at f5 (by decide)).trans gw4), ht6⟩⟩
                          · rw [zb_f y273]
                            refine z_callV mlX12_506 dX12_readsLine_276 (sh_M hE) (av := [_]) rfl rfl (Nat.le_of_ble_eq_true rfl) (by have h := x_takesF (d) hE hB5 hw5 p5 ht5; rw [hK5] at h; exact h) (Nat.le_refl _) (Nat.le_refl _) (Nat.le_refl _) (Nat.le_refl _) ?_
                            rintro _ m6 ⟨rfl, b6⟩
                            have hB6 : mB m6 := b6 ▸ mB_bad hB5
                            have hw6 : m6 aM f_wrong = kMis (mK m) p5 := b6 ▸ mBad_w
                            have ha6 : m6 aM f_wrongAt = p5 := b6 ▸ mBad_a
                            have z6 : zfr fTl m m6 := b6 ▸ zfr_uj (zfr_uj z5 (by decide)) (by decide)
                            have hd6 : 0 < m6 aM f_wrong := by rw [hw6]; first | exact kMis_pos | decide
                            have hm6 : ptM m6 := hB6.1
                            refine z_vret dX12_readsLine_279 rfl rfl ?_
                            have eA : pLin (mK m) (m a_c) (m aM f_letters) (m a_toldCodes) (m aM f_wide) p = (kMis (mK m) p5, p5, m a_toldCodes, m aM f_wide, p) := by unfold pLin; rw [if_neg (not_not_intro g1), if_neg (not_not_intro i1), if_neg (by omega), ← e1, if_neg (not_not_intro (Or.inr h68)), ← e2, if_neg (not_not_intro g3), if_neg (not_not_intro i3), ← e3, if_neg (not_not_intro (Decidable.not_not.mp h111)), if_neg (by omega), if_neg (not_not_intro (by rw [zb_f (fun h => h176 h.2)]; exact Decidable.not_not.mp h185)), ← e5, if_pos y273]
                            rw [eA]
                            refine ⟨rfl, ?_⟩
                            exact ⟨z6, hw6, fun _ => ha6, fun h => absurd (show (kMis (mK m) p5 : Int) = 0 from h) (by first | exact kMis_ne | decide)⟩
                        · refine z_bipush dX12_readsLine_227 rfl (by decide) ?_
                          refine z_iload_n dX12_readsLine_229 rfl ?_
                          refine z_mul dX12_readsLine_230 (by omega) ?_
                          refine z_bipush dX12_readsLine_231 rfl (by decide) ?_
                          refine z_iload_n dX12_readsLine_233 rfl ?_
                          refine z_mul dX12_readsLine_234 (by omega) ?_
                          refine z_add dX12_readsLine_235 (by omega) ?_
                          refine z_iload dX12_readsLine_236 rfl ?_
                          refine z_add dX12_readsLine_238 (by omega) ?_
                          refine z_goto (tgt := 254) dX12_readsLine_239 rfl ?_
                          refine z_iast dX12_readsLine_254 (sh_toldCodes hE) (by omega) (by omega) ?_
                          refine z_aload_n dX12_readsLine_255 rfl ?_
                          refine z_dup dX12_readsLine_256 rfl ?_
                          refine z_gIv f_wide rfl flX12_545 dX12_readsLine_257 (sh_M hE) rfl (Eq.trans (zu_a (by decide)) hwide3) ?_
                          refine z_iconst dX12_readsLine_260 (by decide) ?_
                          refine z_add dX12_readsLine_261 (by omega) ?_
                          refine z_pI f_wide rfl (fpX12_545 _) dX12_readsLine_262 (sh_M hE) rfl ?_
                          have ecd : 100 * kN (mK m) p2 + 10 * kN (mK m) p + (kSrt (mK m) (m a_c) p3) = kCd (m a_c) (kN (mK m) p) (kN (mK m) p2) (kSrt (mK m) (m a_c) p3) := by unfold kCd; rw [if_pos ⟨by omega, h224⟩]
                          rw [ecd]
                          generalize em4 : zu (zu m3 a_toldCodes (m aM f_wide) (kCd (m a_c) (kN (mK m) p) (kN (mK m) p2) (kSrt (mK m) (m a_c) p3))) aM f_wide (m aM f_wide + 1) = m4
                          have f4 : zfr fTl m3 m4 := by rw [← em4]; exact zfr_uj (zfr_ua zfr_rf (by decide)) (by decide)
                          have f4' : zfr [(a_toldCodes, none), (aM, some f_wide)] m3 m4 := by rw [← em4]; exact zfr_uj (zfr_ua zfr_rf (by decide)) (by decide)
                          have hB4 := mB_fr hB3 (zfr_sub f4 (by decide))
                          have hm4 : ptM m4 := hB4.1
                          have hK4 : mK m4 = mK m := (mK_fr f4' (by decide)).trans hK3
                          have hw4 : m4 aM f_wrong = 0 := (zfr_at f4' (by decide)).trans hw3
                          have z4 : zfr fTl m m4 := zfr_tr z3 f4
                          have hn4 : m4 aM f_end = m aM f_end := (zfr_at f4' (by decide)).trans hn3
                          have ht4 : mTk m4 p3 := mTk_K ht3 (mK_fr f4' (by decide)) (zfr_at f4' (by decide)) (zfr_at f4' (by decide)) (zfr_at f4' (by decide)) (zfr_at f4' (by decide)) (zfr_at f4' (by decide)) (zfr_at f4' (by decide))
                          have gw4 : m4 aM f_wide = m aM f_wide + 1 := by rw [← em4]; exact zu_s
                          have gm4 : m4 a_toldCodes = eU (m a_toldCodes) (m aM f_wide) (kCd (m a_c) (kN (mK m) p) (kN (mK m) p2) (kSrt (mK m) (m a_c) p3)) := by rw [← em4, zu_fn (by decide)]; exact eU_t ha_toldCodes3
                          refine z_aload_n dX12_readsLine_265 rfl ?_
                          refine z_callV mlX12_497 dX12_readsLine_266 (sh_M hE) (av := _) rfl rfl (Nat.le_of_ble_eq_true rfl) (x_reads _ hE hB4 hw4 p3 ht4 (by rw [hn4]; exact kSo_lt hok (by omega))) (Nat.le_refl _) (Nat.le_refl _) (Nat.le_refl _) (Nat.le_refl _) ?_
                          rintro _ m5 ⟨rfl, f5, t5⟩
                          have hB5 := mB_fr hB4 (zfr_sub f5 (by decide))
                          have hK5 : mK m5 = mK m := (mK_fr f5 (by decide)).trans hK4
                          have hw5 : m5 aM f_wrong = 0 := (zfr_at f5 (by decide)).trans hw4
                          have z5 : zfr fTl m m5 := zfr_tr z4 (zfr_sub f5 (by decide))
                          have hn5 : m5 aM f_end = m aM f_end := (zfr_at f5 (by decide)).trans hn4
                          have hm5 : ptM m5 := hB5.1
                          rw [hK4] at t5
                          obtain ⟨p5, e5⟩ : ∃ x, x = kR (mK m) p3 := ⟨_, rfl⟩
                          rw [← e5] at t5
                          have ht5 := t5
                          refine z_aload_n dX12_readsLine_269 rfl ?_
                          refine z_aload_n dX12_readsLine_270 rfl ?_
                          refine z_bipush dX12_readsLine_271 rfl (by decide) ?_
                          refine z_callV mlX12_520 dX12_readsLine_273 (sh_M hE) (av := [_]) rfl rfl (Nat.le_of_ble_eq_true rfl) (by have h := x_isSign (d + 3) hE hB5 hw5 p5 ht5 59 (by decide) (by decide); rw [hK5] at h; exact h) (Nat.le_refl _) (Nat.le_refl _) (Nat.le_refl _) (Nat.le_refl _) ?_
                          rintro _ _ ⟨rfl, rfl⟩
                          by_cases y273 : kSn (mK m) p5 59
                          · rw [zb_t y273]
                            refine z_callV mlX12_506 dX12_readsLine_276 (sh_M hE) (av := [_]) rfl rfl (Nat.le_of_ble_eq_true rfl) (x_takesT _ hE hB5 hw5 p5 ht5 (by rw [hn5]; exact kSo_lt hok (by rw [y273.1]; decide))) (Nat.le_refl _) (Nat.le_refl _) (Nat.le_refl _) (Nat.le_refl _) ?_
                            rintro _ m6 ⟨rfl, f6, t6⟩
                            have hB6 := mB_fr hB5 (zfr_sub f6 (by decide))
                            have hK6 : mK m6 = mK m := (mK_fr f6 (by decide)).trans hK5
                            have hw6 : m6 aM f_wrong = 0 := (zfr_at f6 (by decide)).trans hw5
                            have z6 : zfr fTl m m6 := zfr_tr z5 (zfr_sub f6 (by decide))
                            have hn6 : m6 aM f_end = m aM f_end := (zfr_at f6 (by decide)).trans hn5
                            have hm6 : ptM m6 := hB6.1
                            rw [hK5] at t6
                            obtain ⟨p6, e6⟩ : ∃ x, x = kR (mK m) p5 := ⟨_, rfl⟩
                            rw [← e6] at t6
                            have ht6 := t6
                            refine z_vret dX12_readsLine_279 rfl rfl ?_
                            have eA : pLin (mK m) (m a_c) (m aM f_letters) (m a_toldCodes) (m aM f_wide) p = (0, 0, eU (m a_toldCodes) (m aM f_wide) (kCd (m a_c) (kN (mK m) p) (kN (mK m) p2) (kSrt (mK m) (m a_c) p3)), m aM f_wide + 1, p6) := by unfold pLin; rw [if_neg (not_not_intro g1), if_neg (not_not_intro i1), if_neg (by omega), ← e1, if_neg (not_not_intro (Or.inr h68)), ← e2, if_neg (not_not_intro g3), if_neg (not_not_intro i3), ← e3, if_neg (not_not_intro (Decidable.not_not.mp h111)), if_neg (by omega), if_neg (not_not_intro (by rw [zb_f (fun h => h176 h.2)]; exact Decidable.not_not.mp h185)), ← e5, if_neg (not_not_intro y273), ← e6]
                            rw [eA]
                            refine ⟨rfl, ?_⟩
                            exact ⟨z6, hw6, fun h => absurd rfl h, fun _ => ⟨(zfr_cell f6 (by decide)).trans ((zfr_cell f5 (by decide)).trans gm4), (zfr_at f6 (by decide)).trans ((zfr_at f5 (by decide)).trans gw4), ht6⟩⟩
                          · rw [zb_f y273]
                            refine z_callV mlX12_506 dX12_readsLine_276 (sh_M hE) (av := [_]) rfl rfl (Nat.le_of_ble_eq_true rfl) (by have h := x_takesF (d) hE hB5 hw5 p5 ht5; rw [hK5] at h; exact h) (Nat.le_refl _) (Nat.le_refl _) (Nat.le_refl _) (Nat.le_refl _) ?_
                            rintro _ m6 ⟨rfl, b6⟩
                            have hB6 : mB m6 := b6 ▸ mB_bad hB5
                            have hw6 : m6 aM f_wrong = kMis (mK m) p5 := b6 ▸ mBad_w
                            have ha6 : m6 aM f_wrongAt = p5 := b6 ▸ mBad_a
                            have z6 : zfr fTl m m6 := b6 ▸ zfr_uj (zfr_uj z5 (by decide)) (by decide)
                            have hd6 : 0 < m6 aM f_wrong := by rw [hw6]; first | exact kMis_pos | decide
                            have hm6 : ptM m6 := hB6.1
                            refine z_vret dX12_readsLine_279 rfl rfl ?_
                            have eA : pLin (mK m) (m a_c) (m aM f_letters) (m a_toldCodes) (m aM f_wide) p = (kMis (mK m) p5, p5, m a_toldCodes, m aM f_wide, p) := by unfold pLin; rw [if_neg (not_not_intro g1), if_neg (not_not_intro i1), if_neg (by omega), ← e1, if_neg (not_not_intro (Or.inr h68)), ← e2, if_neg (not_not_intro g3), if_neg (not_not_intro i3), ← e3, if_neg (not_not_intro (Decidable.not_not.mp h111)), if_neg (by omega), if_neg (not_not_intro (by rw [zb_f (fun h => h176 h.2)]; exact Decidable.not_not.mp h185)), ← e5, if_pos y273]
                            rw [eA]
                            refine ⟨rfl, ?_⟩
                            exact ⟨z6, hw6, fun _ => ha6, fun h => absurd (show (kMis (mK m) p5 : Int) = 0 from h) (by first | exact kMis_ne | decide)⟩
                  · refine z_iconst dX12_readsLine_179 (by decide) ?_
                    refine z_goto (tgt := 184) dX12_readsLine_180 rfl ?_
                    refine z_iload_n dX12_readsLine_184 rfl ?_
                    refine z_icmp_ne (tgt := 192) dX12_readsLine_185 rfl (fun h185 => ?_) (fun h185 => ?_)
                    · refine z_iconst dX12_readsLine_192 (by decide) ?_
                      refine z_iconst dX12_readsLine_193 (by decide) ?_
                      refine z_callV mlX12_493 dX12_readsLine_194 (sh_M hE) (av := [_, _]) rfl rfl (Nat.le_of_ble_eq_true rfl) (x_mustK _ hE hB3 hw3 p3 ht3 4 (by decide)) (Nat.le_refl _) (Nat.le_refl _) (Nat.le_refl _) (Nat.le_refl _) ?_
                      rintro _ m4 ⟨rfl, b4⟩
                      have hB4 : mB m4 := b4 ▸ mB_bad hB3
                      have hw4 : m4 aM f_wrong = 4 := b4 ▸ mBad_w
                      have ha4 : m4 aM f_wrongAt = p3 := b4 ▸ mBad_a
                      have z4 : zfr fTl m m4 := b4 ▸ zfr_uj (zfr_uj z3 (by decide)) (by decide)
                      have hd4 : 0 < m4 aM f_wrong := by rw [hw4]; first | exact kMis_pos | decide
                      have hm4 : ptM m4 := hB4.1
                      have ha_c4 : m4 a_c = m a_c := (b4 ▸ (zu_fn (by decide)).trans (zu_fn (by decide)) : m4 a_c = m3 a_c).trans ha_c3
                      have ha_toldCodes4 : m4 a_toldCodes = m a_toldCodes := (b4 ▸ (zu_fn (by decide)).trans (zu_fn (by decide)) : m4 a_toldCodes = m3 a_toldCodes).trans ha_toldCodes3
                      have hletters4 : m4 aM f_letters = m aM f_letters := (b4 ▸ (zu_j (by decide)).trans (zu_j (by decide)) : m4 aM f_letters = m3 aM f_letters).trans hletters3
                      have hwide4 : m4 aM f_wide = m aM f_wide := (b4 ▸ (zu_j (by decide)).trans (zu_j (by decide)) : m4 aM f_wide = m3 aM f_wide).trans hwide3
                      refine z_aload_n dX12_readsLine_197 rfl ?_
                      refine z_gIv f_wrong rfl flX12_487 dX12_readsLine_198 (sh_M hE) rfl hw4 ?_
                      refine z_if_le (tgt := 205) dX12_readsLine_201 rfl (fun h => absurd h (by omega)) (fun h201 => ?_)
                      refine z_vret dX12_readsLine_204 rfl rfl ?_
                      have eA : pLin (mK m) (m a_c) (m aM f_letters) (m a_toldCodes) (m aM f_wide) p = (4, p3, m a_toldCodes, m aM f_wide, p) := by unfold pLin; rw [if_neg (not_not_intro g1), if_neg (not_not_intro i1), if_neg (by omega), ← e1, if_neg (not_not_intro (Or.inr h68)), ← e2, if_neg (not_not_intro g3), if_neg (not_not_intro i3), ← e3, if_neg (not_not_intro (Decidable.not_not.mp h111)), if_neg (by omega), if_pos (by rw [zb_t ⟨by omega, h176⟩]; exact h185)]
                      rw [eA]
                      refine ⟨rfl, ?_⟩
                      exact ⟨z4, hw4, fun _ => ha4, fun h => absurd (show (4 : Int) = 0 from h) (by first | exact kMis_ne | decide)⟩
                    · refine z_iconst dX12_readsLine_188 (by decide) ?_
                      refine z_goto (tgt := 193) dX12_readsLine_189 rfl ?_
                      refine z_iconst dX12_readsLine_193 (by decide) ?_
                      refine z_callV mlX12_493 dX12_readsLine_194 (sh_M hE) (av := [_, _]) rfl rfl (Nat.le_of_ble_eq_true rfl) (x_mustT _ hE hB3 1 4 (Or.inl (by decide))) (Nat.le_refl _) (Nat.le_refl _) (Nat.le_refl _) (Nat.le_refl _) ?_
                      rintro _ _ ⟨rfl, rfl⟩
                      refine z_aload_n dX12_readsLine_197 rfl ?_
                      refine z_gIv f_wrong rfl flX12_487 dX12_readsLine_198 (sh_M hE) rfl hw3 ?_
                      refine z_if_le (tgt := 205) dX12_readsLine_201 rfl (fun h201 => ?_) (fun h => absurd (by omega) h)
                      refine z_aload_n dX12_readsLine_205 rfl ?_
                      refine z_gP 53 rfl (r := a_toldCodes) flX12_108 dX12_readsLine_206 (sh_M hE) rfl (pt_toldCodes hm3) (by decide) ?_
                      refine z_aload_n dX12_readsLine_209 rfl ?_
                      refine z_gIv f_wide rfl flX12_545 dX12_readsLine_210 (sh_M hE) rfl hwide3 ?_
                      refine z_iload_n dX12_readsLine_213 rfl ?_
                      refine z_iload_n dX12_readsLine_214 rfl ?_
                      refine z_icmp_le (tgt := 242) dX12_readsLine_215 rfl (fun h215 => ?_) (fun h215 => ?_)
                      · refine z_bipush dX12_readsLine_242 rfl (by decide) ?_
                        refine z_iload_n dX12_readsLine_244 rfl ?_
                        refine z_mul dX12_readsLine_245 (by omega) ?_
                        refine z_bipush dX12_readsLine_246 rfl (by decide) ?_
                        refine z_iload_n dX12_readsLine_248 rfl ?_
                        refine z_mul dX12_readsLine_249 (by omega) ?_
                        refine z_add dX12_readsLine_250 (by omega) ?_
                        refine z_iload dX12_readsLine_251 rfl ?_
                        refine z_add dX12_readsLine_253 (by omega) ?_
                        refine z_iast dX12_readsLine_254 (sh_toldCodes hE) (by omega) (by omega) ?_
                        refine z_aload_n dX12_readsLine_255 rfl ?_
                        refine z_dup dX12_readsLine_256 rfl ?_
                        refine z_gIv f_wide rfl flX12_545 dX12_readsLine_257 (sh_M hE) rfl (Eq.trans (zu_a (by decide)) hwide3) ?_
                        refine z_iconst dX12_readsLine_260 (by decide) ?_
                        refine z_add dX12_readsLine_261 (by omega) ?_
                        refine z_pI f_wide rfl (fpX12_545 _) dX12_readsLine_262 (sh_M hE) rfl ?_
                        have ecd : 100 * kN (mK m) p + 10 * kN (mK m) p2 + (kSrt (mK m) (m a_c) p3) = kCd (m a_c) (kN (mK m) p) (kN (mK m) p2) (kSrt (mK m) (m a_c) p3) := by unfold kCd; rw [if_neg (fun h => absurd h.1 (by omega))]
                        rw [ecd]
                        generalize em4 : zu (zu m3 a_toldCodes (m aM f_wide) (kCd (m a_c) (kN (mK m) p) (kN (mK m) p2) (kSrt (mK m) (m a_c) p3))) aM f_wide (m aM f_wide + 1) = m4
                        have f4 : zfr fTl m3 m4 := by rw [← em4]; exact zfr_uj (zfr_ua zfr_rf (by decide)) (by decide)
                        have f4' : zfr [(a_toldCodes, none), (aM, some f_wide)] m3 m4 := by rw [← em4]; exact zfr_uj (zfr_ua zfr_rf (by decide)) (by decide)
                        have hB4 := mB_fr hB3 (zfr_sub f4 (by decide))
                        have hm4 : ptM m4 := hB4.1
                        have hK4 : mK m4 = mK m := (mK_fr f4' (by decide)).trans hK3
                        have hw4 : m4 aM f_wrong = 0 := (zfr_at f4' (by decide)).trans hw3
                        have z4 : zfr fTl m m4 := zfr_tr z3 f4
                        have hn4 : m4 aM f_end = m aM f_end := (zfr_at f4' (by decide)).trans hn3
                        have ht4 : mTk m4 p3 := mTk_K ht3 (mK_fr f4' (by decide)) (zfr_at f4' (by decide)) (zfr_at f4' (by decide)) (zfr_at f4' (by decide)) (zfr_at f4' (by decide)) (zfr_at f4' (by decide)) (zfr_at f4' (by decide))
                        have gw4 : m4 aM f_wide = m aM f_wide + 1 := by rw [← em4]; exact zu_s
                        have gm4 : m4 a_toldCodes = eU (m a_toldCodes) (m aM f_wide) (kCd (m a_c) (kN (mK m) p) (kN (mK m) p2) (kSrt (mK m) (m a_c) p3)) := by rw [← em4, zu_fn (by decide)]; exact eU_t ha_toldCodes3
                        refine z_aload_n dX12_readsLine_265 rfl ?_
                        refine z_callV mlX12_497 dX12_readsLine_266 (sh_M hE) (av := _) rfl rfl (Nat.le_of_ble_eq_true rfl) (x_reads _ hE hB4 hw4 p3 ht4 (by rw [hn4]; exact kSo_lt hok (by omega))) (Nat.le_refl _) (Nat.le_refl _) (Nat.le_refl _) (Nat.le_refl _) ?_
                        rintro _ m5 ⟨rfl, f5, t5⟩
                        have hB5 := mB_fr hB4 (zfr_sub f5 (by decide))
                        have hK5 : mK m5 = mK m := (mK_fr f5 (by decide)).trans hK4
                        have hw5 : m5 aM f_wrong = 0 := (zfr_at f5 (by decide)).trans hw4
                        have z5 : zfr fTl m m5 := zfr_tr z4 (zfr_sub f5 (by decide))
                        have hn5 : m5 aM f_end = m aM f_end := (zfr_at f5 (by decide)).trans hn4
                        have hm5 : ptM m5 := hB5.1
                        rw [hK4] at t5
                        obtain ⟨p5, e5⟩ : ∃ x, x = kR (mK m) p3 := ⟨_, rfl⟩
                        rw [← e5] at t5
                        have ht5 := t5
                        refine z_aload_n dX12_readsLine_269 rfl ?_
                        refine z_aload_n dX12_readsLine_270 rfl ?_
                        refine z_bipush dX12_readsLine_271 rfl (by decide) ?_
                        refine z_callV mlX12_520 dX12_readsLine_273 (sh_M hE) (av := [_]) rfl rfl (Nat.le_of_ble_eq_true rfl) (by have h := x_isSign (d + 3) hE hB5 hw5 p5 ht5 59 (by decide) (by decide); rw [hK5] at h; exact h) (Nat.le_refl _) (Nat.le_refl _) (Nat.le_refl _) (Nat.le_refl _) ?_
                        rintro _ _ ⟨rfl, rfl⟩
                        by_cases y273 : kSn (mK m) p5 59
                        · rw [zb_t y273]
                          refine z_callV mlX12_506 dX12_readsLine_276 (sh_M hE) (av := [_]) rfl rfl (Nat.le_of_ble_eq_true rfl) (x_takesT _ hE hB5 hw5 p5 ht5 (by rw [hn5]; exact kSo_lt hok (by rw [y273.1]; decide))) (Nat.le_refl _) (Nat.le_refl _) (Nat.le_refl _) (Nat.le_refl _) ?_
                          rintro _ m6 ⟨rfl, f6, t6⟩
                          have hB6 := mB_fr hB5 (zfr_sub f6 (by decide))
                          have hK6 : mK m6 = mK m := (mK_fr f6 (by decide)).trans hK5
                          have hw6 : m6 aM f_wrong = 0 := (zfr_at f6 (by decide)).trans hw5
                          have z6 : zfr fTl m m6 := zfr_tr z5 (zfr_sub f6 (by decide))
                          have hn6 : m6 aM f_end = m aM f_end := (zfr_at f6 (by decide)).trans hn5
                          have hm6 : ptM m6 := hB6.1
                          rw [hK5] at t6
                          obtain ⟨p6, e6⟩ : ∃ x, x = kR (mK m) p5 := ⟨_, rfl⟩
                          rw [← e6] at t6
                          have ht6 := t6
                          refine z_vret dX12_readsLine_279 rfl rfl ?_
                          have eA : pLin (mK m) (m a_c) (m aM f_letters) (m a_toldCodes) (m aM f_wide) p = (0, 0, eU (m a_toldCodes) (m aM f_wide) (kCd (m a_c) (kN (mK m) p) (kN (mK m) p2) (kSrt (mK m) (m a_c) p3)), m aM f_wide + 1, p6) := by unfold pLin; rw [if_neg (not_not_intro g1), if_neg (not_not_intro i1), if_neg (by omega), ← e1, if_neg (not_not_intro (Or.inr h68)), ← e2, if_neg (not_not_intro g3), if_neg (not_not_intro i3), ← e3, if_neg (not_not_intro (Decidable.not_not.mp h111)), if_neg (by omega), if_neg (not_not_intro (by rw [zb_t ⟨by omega, h176⟩]; exact Decidable.not_not.mp h185)), ← e5, if_neg (not_not_intro y273), ← e6]
                          rw [eA]
                          refine ⟨rfl, ?_⟩
                          exact ⟨z6, hw6, fun h => absurd rfl h, fun _ => ⟨(zfr_cell f6 (by decide)).trans ((zfr_cell f5 (by decide)).trans gm4), (zfr_at f6 (by decide)).trans ((zfr_at f5 (by decide)).trans gw4), ht6⟩⟩
                        · rw [zb_f y273]
                          refine z_callV mlX12_506 dX12_readsLine_276 (sh_M hE) (av := [_]) rfl rfl (Nat.le_of_ble_eq_true rfl) (by have h := x_takesF (d) hE hB5 hw5 p5 ht5; rw [hK5] at h; exact h) (Nat.le_refl _) (Nat.le_refl _) (Nat.le_refl _) (Nat.le_refl _) ?_
                          rintro _ m6 ⟨rfl, b6⟩
                          have hB6 : mB m6 := b6 ▸ mB_bad hB5
                          have hw6 : m6 aM f_wrong = kMis (mK m) p5 := b6 ▸ mBad_w
                          have ha6 : m6 aM f_wrongAt = p5 := b6 ▸ mBad_a
                          have z6 : zfr fTl m m6 := b6 ▸ zfr_uj (zfr_uj z5 (by decide)) (by decide)
                          have hd6 : 0 < m6 aM f_wrong := by rw [hw6]; first | exact kMis_pos | decide
                          have hm6 : ptM m6 := hB6.1
                          refine z_vret dX12_readsLine_279 rfl rfl ?_
                          have eA : pLin (mK m) (m a_c) (m aM f_letters) (m a_toldCodes) (m aM f_wide) p = (kMis (mK m) p5, p5, m a_toldCodes, m aM f_wide, p) := by unfold pLin; rw [if_neg (not_not_intro g1), if_neg (not_not_intro i1), if_neg (by omega), ← e1, if_neg (not_not_intro (Or.inr h68)), ← e2, if_neg (not_not_intro g3), if_neg (not_not_intro i3), ← e3, if_neg (not_not_intro (Decidable.not_not.mp h111)), if_neg (by omega), if_neg (not_not_intro (by rw [zb_t ⟨by omega, h176⟩]; exact Decidable.not_not.mp h185)), ← e5, if_pos y273]
                          rw [eA]
                          refine ⟨rfl, ?_⟩
                          exact ⟨z6, hw6, fun _ => ha6, fun h => absurd (show (kMis (mK m) p5 : Int) = 0 from h) (by first | exact kMis_ne | decide)⟩
                      · refine z_aload_n dX12_readsLine_218 rfl ?_
                        refine z_iload dX12_readsLine_219 rfl ?_
                        refine z_callV mlX12_206 dX12_readsLine_221 (sh_M hE) (av := [_]) rfl rfl (Nat.le_of_ble_eq_true rfl) (by have h := r_isRealSort (d + 2) hE hm3 (kSrt (mK m) (m a_c) p3) (by omega) (by omega); rw [ha_c3] at h; exact h) (Nat.le_refl _) (Nat.le_refl _) (Nat.le_refl _) (Nat.le_refl _) ?_
                        rintro _ _ ⟨rfl, rfl⟩
                        refine z_ifz_eq (tgt := 242) dX12_readsLine_224 rfl (fun h224 => ?_) (fun h224 => ?_)
                        · refine z_bipush dX12_readsLine_242 rfl (by decide) ?_
                          refine z_iload_n dX12_readsLine_244 rfl ?_
                          refine z_mul dX12_readsLine_245 (by omega) ?_
                          refine z_bipush dX12_readsLine_246 rfl (by decide) ?_
                          refine z_iload_n dX12_readsLine_248 rfl ?_
                          refine z_mul dX12_readsLine_249 (by omega) ?_
                          refine z_add dX12_readsLine_250 (by omega) ?_
                          refine z_iload dX12_readsLine_251 rfl ?_
                          refine z_add dX12_readsLine_253 (by omega) ?_
                          refine z_iast dX12_readsLine_254 (sh_toldCodes hE) (by omega) (by omega) ?_
                          refine z_aload_n dX12_readsLine_255 rfl ?_
                          refine z_dup dX12_readsLine_256 rfl ?_
                          refine z_gIv f_wide rfl flX12_545 dX12_readsLine_257 (sh_M hE) rfl (Eq.trans (zu_a (by decide)) hwide3) ?_
                          refine z_iconst dX12_readsLine_260 (by decide) ?_
                          refine z_add dX12_readsLine_261 (by omega) ?_
                          refine z_pI f_wide rfl (fpX12_545 _) dX12_readsLine_262 (sh_M hE) rfl ?_
                          have ecd : 100 * kN (mK m) p + 10 * kN (mK m) p2 + (kSrt (mK m) (m a_c) p3) = kCd (m a_c) (kN (mK m) p) (kN (mK m) p2) (kSrt (mK m) (m a_c) p3) := by unfold kCd; rw [if_neg (fun h => h224 h.2)]
                          rw [ecd]
                          generalize em4 : zu (zu m3 a_toldCodes (m aM f_wide) (kCd (m a_c) (kN (mK m) p) (kN (mK m) p2) (kSrt (mK m) (m a_c) p3))) aM f_wide (m aM f_wide + 1) = m4
                          have f4 : zfr fTl m3 m4 := by rw [← em4]; exact zfr_uj (zfr_ua zfr_rf (by decide)) (by decide)
                          have f4' : zfr [(a_toldCodes, none), (aM, some f_wide)] m3 m4 := by rw [← em4]; exact zfr_uj (zfr_ua zfr_rf (by decide)) (by decide)
                          have hB4 := mB_fr hB3 (zfr_sub f4 (by decide))
                          have hm4 : ptM m4 := hB4.1
                          have hK4 : mK m4 = mK m := (mK_fr f4' (by decide)).trans hK3
                          have hw4 : m4 aM f_wrong = 0 := (zfr_at f4' (by decide)).trans hw3
                          have z4 : zfr fTl m m4 := zfr_tr z3 f4
                          have hn4 : m4 aM f_end = m aM f_end := (zfr_at f4' (by decide)).trans hn3
                          have ht4 : mTk m4 p3 := mTk_K ht3 (mK_fr f4' (by decide)) (zfr_at f4' (by decide)) (zfr_at f4' (by decide)) (zfr_at f4' (by decide)) (zfr_at f4' (by decide)) (zfr_at f4' (by decide)) (zfr_at f4' (by decide))
                          have gw4 : m4 aM f_wide = m aM f_wide + 1 := by rw [← em4]; exact zu_s
                          have gm4 : m4 a_toldCodes = eU (m a_toldCodes) (m aM f_wide) (kCd (m a_c) (kN (mK m) p) (kN (mK m) p2) (kSrt (mK m) (m a_c) p3)) := by rw [← em4, zu_fn (by decide)]; exact eU_t ha_toldCodes3
                          refine z_aload_n dX12_readsLine_265 rfl ?_
                          refine z_callV mlX12_497 dX12_readsLine_266 (sh_M hE) (av := _) rfl rfl (Nat.le_of_ble_eq_true rfl) (x_reads _ hE hB4 hw4 p3 ht4 (by rw [hn4]; exact kSo_lt hok (by omega))) (Nat.le_refl _) (Nat.le_refl _) (Nat.le_refl _) (Nat.le_refl _) ?_
                          rintro _ m5 ⟨rfl, f5, t5⟩
                          have hB5 := mB_fr hB4 (zfr_sub f5 (by decide))
                          have hK5 : mK m5 = mK m := (mK_fr f5 (by decide)).trans hK4
                          have hw5 : m5 aM f_wrong = 0 := (zfr_at f5 (by decide)).trans hw4
                          have z5 : zfr fTl m m5 := zfr_tr z4 (zfr_sub f5 (by decide))
                          have hn5 : m5 aM f_end = m aM f_end := (zfr_at f5 (by decide)).trans hn4
                          have hm5 : ptM m5 := hB5.1
                          rw [hK4] at t5
                          obtain ⟨p5, e5⟩ : ∃ x, x = kR (mK m) p3 := ⟨_, rfl⟩
                          rw [← e5] at t5
                          have ht5 := t5
                          refine z_aload_n dX12_readsLine_269 rfl ?_
                          refine z_aload_n dX12_readsLine_270 rfl ?_
                          refine z_bipush dX12_readsLine_271 rfl (by decide) ?_
                          refine z_callV mlX12_520 dX12_readsLine_273 (sh_M hE) (av := [_]) rfl rfl (Nat.le_of_ble_eq_true rfl) (by have h := x_isSign (d + 3) hE hB5 hw5 p5 ht5 59 (by decide) (by decide); rw [hK5] at h; exact h) (Nat.le_refl _) (Nat.le_refl _) (Nat.le_refl _) (Nat.le_refl _) ?_
                          rintro _ _ ⟨rfl, rfl⟩
                          by_cases y273 : kSn (mK m) p5 59
                          · rw [zb_t y273]
                            refine z_callV mlX12_506 dX12_readsLine_276 (sh_M hE) (av := [_]) rfl rfl (Nat.le_of_ble_eq_true rfl) (x_takesT _ hE hB5 hw5 p5 ht5 (by rw [hn5]; exact kSo_lt hok (by rw [y273.1]; decide))) (Nat.le_refl _) (Nat.le_refl _) (Nat.le_refl _) (Nat.le_refl _) ?_
                            rintro _ m6 ⟨rfl, f6, t6⟩
                            have hB6 := mB_fr hB5 (zfr_sub f6 (by decide))
                            have hK6 : mK m6 = mK m := (mK_fr f6 (by decide)).trans hK5
                            have hw6 : m6 aM f_wrong = 0 := (zfr_at f6 (by decide)).trans hw5
                            have z6 : zfr fTl m m6 := zfr_tr z5 (zfr_sub f6 (by decide))
                            have hn6 : m6 aM f_end = m aM f_end := (zfr_at f6 (by decide)).trans hn5
                            have hm6 : ptM m6 := hB6.1
                            rw [hK5] at t6
                            obtain ⟨p6, e6⟩ : ∃ x, x = kR (mK m) p5 := ⟨_, rfl⟩
                            rw [← e6] at t6
                            have ht6 := t6
                            refine z_vret dX12_readsLine_279 rfl rfl ?_
                            have eA : pLin (mK m) (m a_c) (m aM f_letters) (m a_toldCodes) (m aM f_wide) p = (0, 0, eU (m a_toldCodes) (m aM f_wide) (kCd (m a_c) (kN (mK m) p) (kN (mK m) p2) (kSrt (mK m) (m a_c) p3)), m aM f_wide + 1, p6) := by unfold pLin; rw [if_neg (not_not_intro g1), if_neg (not_not_intro i1), if_neg (by omega), ← e1, if_neg (not_not_intro (Or.inr h68)), ← e2, if_neg (not_not_intro g3), if_neg (not_not_intro i3), ← e3, if_neg (not_not_intro (Decidable.not_not.mp h111)), if_neg (by omega), if_neg (not_not_intro (by rw [zb_t ⟨by omega, h176⟩]; exact Decidable.not_not.mp h185)), ← e5, if_neg (not_not_intro y273), ← e6]
                            rw [eA]
                            refine ⟨rfl, ?_⟩
                            exact ⟨z6, hw6, fun h => absurd rfl h, fun _ => ⟨(zfr_cell f6 (by decide)).trans ((zfr_cell f5 (by decide)).trans gm4), (zfr_at f6 (by decide)).trans ((zfr_at f5 (by decide)).trans gw4), ht6⟩⟩
                          · rw [zb_f y273]
                            refine z_callV mlX12_506 dX12_readsLine_276 (sh_M hE) (av := [_]) rfl rfl (Nat.le_of_ble_eq_true rfl) (by have h := x_takesF (d) hE hB5 hw5 p5 ht5; rw [hK5] at h; exact h) (Nat.le_refl _) (Nat.le_refl _) (Nat.le_refl _) (Nat.le_refl _) ?_
                            rintro _ m6 ⟨rfl, b6⟩
                            have hB6 : mB m6 := b6 ▸ mB_bad hB5
                            have hw6 : m6 aM f_wrong = kMis (mK m) p5 := b6 ▸ mBad_w
                            have ha6 : m6 aM f_wrongAt = p5 := b6 ▸ mBad_a
                            have z6 : zfr fTl m m6 := b6 ▸ zfr_uj (zfr_uj z5 (by decide)) (by decide)
                            have hd6 : 0 < m6 aM f_wrong := by rw [hw6]; first | exact kMis_pos | decide
                            have hm6 : ptM m6 := hB6.1
                            refine z_vret dX12_readsLine_279 rfl rfl ?_
                            have eA : pLin (mK m) (m a_c) (m aM f_letters) (m a_toldCodes) (m aM f_wide) p = (kMis (mK m) p5, p5, m a_toldCodes, m aM f_wide, p) := by unfold pLin; rw [if_neg (not_not_intro g1), if_neg (not_not_intro i1), if_neg (by omega), ← e1, if_neg (not_not_intro (Or.inr h68)), ← e2, if_neg (not_not_intro g3), if_neg (not_not_intro i3), ← e3, if_neg (not_not_intro (Decidable.not_not.mp h111)), if_neg (by omega), if_neg (not_not_intro (by rw [zb_t ⟨by omega, h176⟩]; exact Decidable.not_not.mp h185)), ← e5, if_pos y273]
                            rw [eA]
                            refine ⟨rfl, ?_⟩
                            exact ⟨z6, hw6, fun _ => ha6, fun h => absurd (show (kMis (mK m) p5 : Int) = 0 from h) (by first | exact kMis_ne | decide)⟩
                        · refine z_bipush dX12_readsLine_227 rfl (by decide) ?_
                          refine z_iload_n dX12_readsLine_229 rfl ?_
                          refine z_mul dX12_readsLine_230 (by omega) ?_
                          refine z_bipush dX12_readsLine_231 rfl (by decide) ?_
                          refine z_iload_n dX12_readsLine_233 rfl ?_
                          refine z_mul dX12_readsLine_234 (by omega) ?_
                          refine z_add dX12_readsLine_235 (by omega) ?_
                          refine z_iload dX12_readsLine_236 rfl ?_
                          refine z_add dX12_readsLine_238 (by omega) ?_
                          refine z_goto (tgt := 254) dX12_readsLine_239 rfl ?_
                          refine z_iast dX12_readsLine_254 (sh_toldCodes hE) (by omega) (by omega) ?_
                          refine z_aload_n dX12_readsLine_255 rfl ?_
                          refine z_dup dX12_readsLine_256 rfl ?_
                          refine z_gIv f_wide rfl flX12_545 dX12_readsLine_257 (sh_M hE) rfl (Eq.trans (zu_a (by decide)) hwide3) ?_
                          refine z_iconst dX12_readsLine_260 (by decide) ?_
                          refine z_add dX12_readsLine_261 (by omega) ?_
                          refine z_pI f_wide rfl (fpX12_545 _) dX12_readsLine_262 (sh_M hE) rfl ?_
                          have ecd : 100 * kN (mK m) p2 + 10 * kN (mK m) p + (kSrt (mK m) (m a_c) p3) = kCd (m a_c) (kN (mK m) p) (kN (mK m) p2) (kSrt (mK m) (m a_c) p3) := by unfold kCd; rw [if_pos ⟨by omega, h224⟩]
                          rw [ecd]
                          generalize em4 : zu (zu m3 a_toldCodes (m aM f_wide) (kCd (m a_c) (kN (mK m) p) (kN (mK m) p2) (kSrt (mK m) (m a_c) p3))) aM f_wide (m aM f_wide + 1) = m4
                          have f4 : zfr fTl m3 m4 := by rw [← em4]; exact zfr_uj (zfr_ua zfr_rf (by decide)) (by decide)
                          have f4' : zfr [(a_toldCodes, none), (aM, some f_wide)] m3 m4 := by rw [← em4]; exact zfr_uj (zfr_ua zfr_rf (by decide)) (by decide)
                          have hB4 := mB_fr hB3 (zfr_sub f4 (by decide))
                          have hm4 : ptM m4 := hB4.1
                          have hK4 : mK m4 = mK m := (mK_fr f4' (by decide)).trans hK3
                          have hw4 : m4 aM f_wrong = 0 := (zfr_at f4' (by decide)).trans hw3
                          have z4 : zfr fTl m m4 := zfr_tr z3 f4
                          have hn4 : m4 aM f_end = m aM f_end := (zfr_at f4' (by decide)).trans hn3
                          have ht4 : mTk m4 p3 := mTk_K ht3 (mK_fr f4' (by decide)) (zfr_at f4' (by decide)) (zfr_at f4' (by decide)) (zfr_at f4' (by decide)) (zfr_at f4' (by decide)) (zfr_at f4' (by decide)) (zfr_at f4' (by decide))
                          have gw4 : m4 aM f_wide = m aM f_wide + 1 := by rw [← em4]; exact zu_s
                          have gm4 : m4 a_toldCodes = eU (m a_toldCodes) (m aM f_wide) (kCd (m a_c) (kN (mK m) p) (kN (mK m) p2) (kSrt (mK m) (m a_c) p3)) := by rw [← em4, zu_fn (by decide)]; exact eU_t ha_toldCodes3
                          refine z_aload_n dX12_readsLine_265 rfl ?_
                          refine z_callV mlX12_497 dX12_readsLine_266 (sh_M hE) (av := _) rfl rfl (Nat.le_of_ble_eq_true rfl) (x_reads _ hE hB4 hw4 p3 ht4 (by rw [hn4]; exact kSo_lt hok (by omega))) (Nat.le_refl _) (Nat.le_refl _) (Nat.le_refl _) (Nat.le_refl _) ?_
                          rintro _ m5 ⟨rfl, f5, t5⟩
                          have hB5 := mB_fr hB4 (zfr_sub f5 (by decide))
                          have hK5 : mK m5 = mK m := (mK_fr f5 (by decide)).trans hK4
                          have hw5 : m5 aM f_wrong = 0 := (zfr_at f5 (by decide)).trans hw4
                          have z5 : zfr fTl m m5 := zfr_tr z4 (zfr_sub f5 (by decide))
                          have hn5 : m5 aM f_end = m aM f_end := (zfr_at f5 (by decide)).trans hn4
                          have hm5 : ptM m5 := hB5.1
                          rw [hK4] at t5
                          obtain ⟨p5, e5⟩ : ∃ x, x = kR (mK m) p3 := ⟨_, rfl⟩
                          rw [← e5] at t5
                          have ht5 := t5
                          refine z_aload_n dX12_readsLine_269 rfl ?_
                          refine z_aload_n dX12_readsLine_270 rfl ?_
                          refine z_bipush dX12_readsLine_271 rfl (by decide) ?_
                          refine z_callV mlX12_520 dX12_readsLine_273 (sh_M hE) (av := [_]) rfl rfl (Nat.le_of_ble_eq_true rfl) (by have h := x_isSign (d + 3) hE hB5 hw5 p5 ht5 59 (by decide) (by decide); rw [hK5] at h; exact h) (Nat.le_refl _) (Nat.le_refl _) (Nat.le_refl _) (Nat.le_refl _) ?_
                          rintro _ _ ⟨rfl, rfl⟩
                          by_cases y273 : kSn (mK m) p5 59
                          · rw [zb_t y273]
                            refine z_callV mlX12_506 dX12_readsLine_276 (sh_M hE) (av := [_]) rfl rfl (Nat.le_of_ble_eq_true rfl) (x_takesT _ hE hB5 hw5 p5 ht5 (by rw [hn5]; exact kSo_lt hok (by rw [y273.1]; decide))) (Nat.le_refl _) (Nat.le_refl _) (Nat.le_refl _) (Nat.le_refl _) ?_
                            rintro _ m6 ⟨rfl, f6, t6⟩
                            have hB6 := mB_fr hB5 (zfr_sub f6 (by decide))
                            have hK6 : mK m6 = mK m := (mK_fr f6 (by decide)).trans hK5
                            have hw6 : m6 aM f_wrong = 0 := (zfr_at f6 (by decide)).trans hw5
                            have z6 : zfr fTl m m6 := zfr_tr z5 (zfr_sub f6 (by decide))
                            have hn6 : m6 aM f_end = m aM f_end := (zfr_at f6 (by decide)).trans hn5
                            have hm6 : ptM m6 := hB6.1
                            rw [hK5] at t6
                            obtain ⟨p6, e6⟩ : ∃ x, x = kR (mK m) p5 := ⟨_, rfl⟩
                            rw [← e6] at t6
                            have ht6 := t6
                            refine z_vret dX12_readsLine_279 rfl rfl ?_
                            have eA : pLin (mK m) (m a_c) (m aM f_letters) (m a_toldCodes) (m aM f_wide) p = (0, 0, eU (m a_toldCodes) (m aM f_wide) (kCd (m a_c) (kN (mK m) p) (kN (mK m) p2) (kSrt (mK m) (m a_c) p3)), m aM f_wide + 1, p6) := by unfold pLin; rw [if_neg (not_not_intro g1), if_neg (not_not_intro i1), if_neg (by omega), ← e1, if_neg (not_not_intro (Or.inr h68)), ← e2, if_neg (not_not_intro g3), if_neg (not_not_intro i3), ← e3, if_neg (not_not_intro (Decidable.not_not.mp h111)), if_neg (by omega), if_neg (not_not_intro (by rw [zb_t ⟨by omega, h176⟩]; exact Decidable.not_not.mp h185)), ← e5, if_neg (not_not_intro y273), ← e6]
                            rw [eA]
                            refine ⟨rfl, ?_⟩
                            exact ⟨z6, hw6, fun h => absurd rfl h, fun _ => ⟨(zfr_cell f6 (by decide)).trans ((zfr_cell f5 (by decide)).trans gm4), (zfr_at f6 (by decide)).trans ((zfr_at f5 (by decide)).trans gw4), ht6⟩⟩
                          · rw [zb_f y273]
                            refine z_callV mlX12_506 dX12_readsLine_276 (sh_M hE) (av := [_]) rfl rfl (Nat.le_of_ble_eq_true rfl) (by have h := x_takesF (d) hE hB5 hw5 p5 ht5; rw [hK5] at h; exact h) (Nat.le_refl _) (Nat.le_refl _) (Nat.le_refl _) (Nat.le_refl _) ?_
                            rintro _ m6 ⟨rfl, b6⟩
                            have hB6 : mB m6 := b6 ▸ mB_bad hB5
                            have hw6 : m6 aM f_wrong = kMis (mK m) p5 := b6 ▸ mBad_w
                            have ha6 : m6 aM f_wrongAt = p5 := b6 ▸ mBad_a
                            have z6 : zfr fTl m m6 := b6 ▸ zfr_uj (zfr_uj z5 (by decide)) (by decide)
                            have hd6 : 0 < m6 aM f_wrong := by rw [hw6]; first | exact kMis_pos | decide
                            have hm6 : ptM m6 := hB6.1
                            refine z_vret dX12_readsLine_279 rfl rfl ?_
                            have eA : pLin (mK m) (m a_c) (m aM f_letters) (m a_toldCodes) (m aM f_wide) p = (kMis (mK m) p5, p5, m a_toldCodes, m aM f_wide, p) := by unfold pLin; rw [if_neg (not_not_intro g1), if_neg (not_not_intro i1), if_neg (by omega), ← e1, if_neg (not_not_intro (Or.inr h68)), ← e2, if_neg (not_not_intro g3), if_neg (not_not_intro i3), ← e3, if_neg (not_not_intro (Decidable.not_not.mp h111)), if_neg (by omega), if_neg (not_not_intro (by rw [zb_t ⟨by omega, h176⟩]; exact Decidable.not_not.mp h185)), ← e5, if_pos y273]
                            rw [eA]
                            refine ⟨rfl, ?_⟩
                            exact ⟨z6, hw6, fun _ => ha6, fun h => absurd (show (kMis (mK m) p5 : Int) = 0 from h) (by first | exact kMis_ne | decide)⟩
          · have hB3 : mB m3 := b3 ▸ mB_bad hB2
            have hw3 : m3 aM f_wrong = 3 := b3 ▸ mBad_w
            have ha3 : m3 aM f_wrongAt = p2 := b3 ▸ mBad_a
            have z3 : zfr fTl m m3 := b3 ▸ zfr_uj (zfr_uj z2 (by decide)) (by decide)
            have hd3 : 0 < m3 aM f_wrong := by rw [hw3]; first | exact kMis_pos | decide
            have hm3 : ptM m3 := hB3.1
            have ha_c3 : m3 a_c = m a_c := (b3 ▸ (zu_fn (by decide)).trans (zu_fn (by decide)) : m3 a_c = m2 a_c).trans ha_c2
            have ha_toldCodes3 : m3 a_toldCodes = m a_toldCodes := (b3 ▸ (zu_fn (by decide)).trans (zu_fn (by decide)) : m3 a_toldCodes = m2 a_toldCodes).trans ha_toldCodes2
            have hletters3 : m3 aM f_letters = m aM f_letters := (b3 ▸ (zu_j (by decide)).trans (zu_j (by decide)) : m3 aM f_letters = m2 aM f_letters).trans hletters2
            have hwide3 : m3 aM f_wide = m aM f_wide := (b3 ▸ (zu_j (by decide)).trans (zu_j (by decide)) : m3 aM f_wide = m2 aM f_wide).trans hwide2
            refine z_aload_n dX12_readsLine_89 rfl ?_
            refine z_gI f_number rfl flX12_481 dX12_readsLine_90 (sh_M hE) rfl ?_
            refine z_ist 3 dX12_readsLine_93 rfl (Nat.le_of_ble_eq_true rfl) ?_
            refine z_aload_n dX12_readsLine_94 rfl ?_
            refine z_gIv f_wrong rfl flX12_487 dX12_readsLine_95 (sh_M hE) rfl hw3 ?_
            try dsimp only [zs0, zsI, zsP, zsN, zsJ, zsS, zst2, Nat.reduceAdd]
            refine z_if_ne (tgt := 105) dX12_readsLine_98 rfl (fun h98 => ?_) (fun h => absurd (by omega) h)
            refine z_aload_n dX12_readsLine_105 rfl ?_
            refine z_aload_n dX12_readsLine_106 rfl ?_
            refine z_gI f_sort rfl flX12_471 dX12_readsLine_107 (sh_M hE) rfl ?_
            refine z_iconst dX12_readsLine_110 (by decide) ?_
            refine z_icmp_ne (tgt := 118) dX12_readsLine_111 rfl (fun h111 => ?_) (fun h111 => ?_)
            · refine z_iconst dX12_readsLine_118 (by decide) ?_
              refine z_iconst dX12_readsLine_119 (by decide) ?_
              refine z_callV mlX12_493 dX12_readsLine_120 (sh_M hE) (av := [_, _]) rfl rfl (Nat.le_of_ble_eq_true rfl) (x_mustT _ hE hB3 _ 2 (Or.inr hd3)) (Nat.le_refl _) (Nat.le_refl _) (Nat.le_refl _) (Nat.le_refl _) ?_
              rintro _ _ ⟨rfl, rfl⟩
              refine z_aload_n dX12_readsLine_123 rfl ?_
              refine z_gIv f_wrong rfl flX12_487 dX12_readsLine_124 (sh_M hE) rfl hw3 ?_
              refine z_if_le (tgt := 134) dX12_readsLine_127 rfl (fun h => absurd h (by omega)) (fun h127 => ?_)
              refine z_iconst dX12_readsLine_130 (by decide) ?_
              refine z_goto (tgt := 138) dX12_readsLine_131 rfl ?_
              refine z_istore dX12_readsLine_138 (Nat.le_of_ble_eq_true rfl) ?_
              refine z_aload_n dX12_readsLine_140 rfl ?_
              refine z_iload dX12_readsLine_141 rfl ?_
              try dsimp only [zs0, zsI, zsP, zsN, zsJ, zsS, zst2, Nat.reduceAdd]
              refine z_if_lt (tgt := 150) dX12_readsLine_143 rfl (fun h143 => ?_) (fun h => absurd (by decide) h)
              refine z_iconst dX12_readsLine_150 (by decide) ?_
              refine z_iconst dX12_readsLine_151 (by decide) ?_
              refine z_callV mlX12_493 dX12_readsLine_152 (sh_M hE) (av := [_, _]) rfl rfl (Nat.le_of_ble_eq_true rfl) (x_mustT _ hE hB3 _ 3 (Or.inr hd3)) (Nat.le_refl _) (Nat.le_refl _) (Nat.le_refl _) (Nat.le_refl _) ?_
              rintro _ _ ⟨rfl, rfl⟩
              refine z_aload_n dX12_readsLine_155 rfl ?_
              refine z_aload_n dX12_readsLine_156 rfl ?_
              refine z_gIv f_wrong rfl flX12_487 dX12_readsLine_157 (sh_M hE) rfl hw3 ?_
              refine z_if_gt (tgt := 188) dX12_readsLine_160 rfl (fun h160 => ?_) (fun h => absurd (by omega) h)
              refine z_iconst dX12_readsLine_188 (by decide) ?_
              refine z_goto (tgt := 193) dX12_readsLine_189 rfl ?_
              refine z_iconst dX12_readsLine_193 (by decide) ?_
              refine z_callV mlX12_493 dX12_readsLine_194 (sh_M hE) (av := [_, _]) rfl rfl (Nat.le_of_ble_eq_true rfl) (x_mustT _ hE hB3 _ 4 (Or.inr hd3)) (Nat.le_refl _) (Nat.le_refl _) (Nat.le_refl _) (Nat.le_refl _) ?_
              rintro _ _ ⟨rfl, rfl⟩
              refine z_aload_n dX12_readsLine_197 rfl ?_
              refine z_gIv f_wrong rfl flX12_487 dX12_readsLine_198 (sh_M hE) rfl hw3 ?_
              refine z_if_le (tgt := 205) dX12_readsLine_201 rfl (fun h => absurd h (by omega)) (fun h201 => ?_)
              refine z_vret dX12_readsLine_204 rfl rfl ?_
              have eA : pLin (mK m) (m a_c) (m aM f_letters) (m a_toldCodes) (m aM f_wide) p = (3, p2, m a_toldCodes, m aM f_wide, p) := by unfold pLin; rw [if_neg (not_not_intro g1), if_neg (not_not_intro i1), if_neg (by omega), ← e1, if_neg (not_not_intro (Or.inr h68)), ← e2, if_neg (not_not_intro g3), if_pos i3]
              rw [eA]
              refine ⟨rfl, ?_⟩
              exact ⟨z3, hw3, fun _ => ha3, fun h => absurd (show (3 : Int) = 0 from h) (by first | exact kMis_ne | decide)⟩
            · refine z_iconst dX12_readsLine_114 (by decide) ?_
              refine z_goto (tgt := 119) dX12_readsLine_115 rfl ?_
              refine z_iconst dX12_readsLine_119 (by decide) ?_
              refine z_callV mlX12_493 dX12_readsLine_120 (sh_M hE) (av := [_, _]) rfl rfl (Nat.le_of_ble_eq_true rfl) (x_mustT _ hE hB3 _ 2 (Or.inr hd3)) (Nat.le_refl _) (Nat.le_refl _) (Nat.le_refl _) (Nat.le_refl _) ?_
              rintro _ _ ⟨rfl, rfl⟩
              refine z_aload_n dX12_readsLine_123 rfl ?_
              refine z_gIv f_wrong rfl flX12_487 dX12_readsLine_124 (sh_M hE) rfl hw3 ?_
              refine z_if_le (tgt := 134) dX12_readsLine_127 rfl (fun h => absurd h (by omega)) (fun h127 => ?_)
              refine z_iconst dX12_readsLine_130 (by decide) ?_
              refine z_goto (tgt := 138) dX12_readsLine_131 rfl ?_
              refine z_istore dX12_readsLine_138 (Nat.le_of_ble_eq_true rfl) ?_
              refine z_aload_n dX12_readsLine_140 rfl ?_
              refine z_iload dX12_readsLine_141 rfl ?_
              try dsimp only [zs0, zsI, zsP, zsN, zsJ, zsS, zst2, Nat.reduceAdd]
              refine z_if_lt (tgt := 150) dX12_readsLine_143 rfl (fun h143 => ?_) (fun h => absurd (by decide) h)
              refine z_iconst dX12_readsLine_150 (by decide) ?_
              refine z_iconst dX12_readsLine_151 (by decide) ?_
              refine z_callV mlX12_493 dX12_readsLine_152 (sh_M hE) (av := [_, _]) rfl rfl (Nat.le_of_ble_eq_true rfl) (x_mustT _ hE hB3 _ 3 (Or.inr hd3)) (Nat.le_refl _) (Nat.le_refl _) (Nat.le_refl _) (Nat.le_refl _) ?_
              rintro _ _ ⟨rfl, rfl⟩
              refine z_aload_n dX12_readsLine_155 rfl ?_
              refine z_aload_n dX12_readsLine_156 rfl ?_
              refine z_gIv f_wrong rfl flX12_487 dX12_readsLine_157 (sh_M hE) rfl hw3 ?_
              refine z_if_gt (tgt := 188) dX12_readsLine_160 rfl (fun h160 => ?_) (fun h => absurd (by omega) h)
              refine z_iconst dX12_readsLine_188 (by decide) ?_
              refine z_goto (tgt := 193) dX12_readsLine_189 rfl ?_
              refine z_iconst dX12_readsLine_193 (by decide) ?_
              refine z_callV mlX12_493 dX12_readsLine_194 (sh_M hE) (av := [_, _]) rfl rfl (Nat.le_of_ble_eq_true rfl) (x_mustT _ hE hB3 _ 4 (Or.inr hd3)) (Nat.le_refl _) (Nat.le_refl _) (Nat.le_refl _) (Nat.le_refl _) ?_
              rintro _ _ ⟨rfl, rfl⟩
              refine z_aload_n dX12_readsLine_197 rfl ?_
              refine z_gIv f_wrong rfl flX12_487 dX12_readsLine_198 (sh_M hE) rfl hw3 ?_
              refine z_if_le (tgt := 205) dX12_readsLine_201 rfl (fun h => absurd h (by omega)) (fun h201 => ?_)
              refine z_vret dX12_readsLine_204 rfl rfl ?_
              have eA : pLin (mK m) (m a_c) (m aM f_letters) (m a_toldCodes) (m aM f_wide) p = (3, p2, m a_toldCodes, m aM f_wide, p) := by unfold pLin; rw [if_neg (not_not_intro g1), if_neg (not_not_intro i1), if_neg (by omega), ← e1, if_neg (not_not_intro (Or.inr h68)), ← e2, if_neg (not_not_intro g3), if_pos i3]
              rw [eA]
              refine ⟨rfl, ?_⟩
              exact ⟨z3, hw3, fun _ => ha3, fun h => absurd (show (3 : Int) = 0 from h) (by first | exact kMis_ne | decide)⟩
          · have hB3 : mB m3 := b3 ▸ mB_bad hB2
            have hw3 : m3 aM f_wrong = kMis (mK m) p2 := b3 ▸ mBad_w
            have ha3 : m3 aM f_wrongAt = p2 := b3 ▸ mBad_a
            have z3 : zfr fTl m m3 := b3 ▸ zfr_uj (zfr_uj z2 (by decide)) (by decide)
            have hd3 : 0 < m3 aM f_wrong := by rw [hw3]; first | exact kMis_pos | decide
            have hm3 : ptM m3 := hB3.1
            have ha_c3 : m3 a_c = m a_c := (b3 ▸ (zu_fn (by decide)).trans (zu_fn (by decide)) : m3 a_c = m2 a_c).trans ha_c2
            have ha_toldCodes3 : m3 a_toldCodes = m a_toldCodes := (b3 ▸ (zu_fn (by decide)).trans (zu_fn (by decide)) : m3 a_toldCodes = m2 a_toldCodes).trans ha_toldCodes2
            have hletters3 : m3 aM f_letters = m aM f_letters := (b3 ▸ (zu_j (by decide)).trans (zu_j (by decide)) : m3 aM f_letters = m2 aM f_letters).trans hletters2
            have hwide3 : m3 aM f_wide = m aM f_wide := (b3 ▸ (zu_j (by decide)).trans (zu_j (by decide)) : m3 aM f_wide = m2 aM f_wide).trans hwide2
            refine z_aload_n dX12_readsLine_89 rfl ?_
            refine z_gI f_number rfl flX12_481 dX12_readsLine_90 (sh_M hE) rfl ?_
            refine z_ist 3 dX12_readsLine_93 rfl (Nat.le_of_ble_eq_true rfl) ?_
            refine z_aload_n dX12_readsLine_94 rfl ?_
            refine z_gIv f_wrong rfl flX12_487 dX12_readsLine_95 (sh_M hE) rfl hw3 ?_
            try dsimp only [zs0, zsI, zsP, zsN, zsJ, zsS, zst2, Nat.reduceAdd]
            refine z_if_ne (tgt := 105) dX12_readsLine_98 rfl (fun h98 => ?_) (fun h => absurd (by omega) h)
            refine z_aload_n dX12_readsLine_105 rfl ?_
            refine z_aload_n dX12_readsLine_106 rfl ?_
            refine z_gI f_sort rfl flX12_471 dX12_readsLine_107 (sh_M hE) rfl ?_
            refine z_iconst dX12_readsLine_110 (by decide) ?_
            refine z_icmp_ne (tgt := 118) dX12_readsLine_111 rfl (fun h111 => ?_) (fun h111 => ?_)
            · refine z_iconst dX12_readsLine_118 (by decide) ?_
              refine z_iconst dX12_readsLine_119 (by decide) ?_
              refine z_callV mlX12_493 dX12_readsLine_120 (sh_M hE) (av := [_, _]) rfl rfl (Nat.le_of_ble_eq_true rfl) (x_mustT _ hE hB3 _ 2 (Or.inr hd3)) (Nat.le_refl _) (Nat.le_refl _) (Nat.le_refl _) (Nat.le_refl _) ?_
              rintro _ _ ⟨rfl, rfl⟩
              refine z_aload_n dX12_readsLine_123 rfl ?_
              refine z_gIv f_wrong rfl flX12_487 dX12_readsLine_124 (sh_M hE) rfl hw3 ?_
              refine z_if_le (tgt := 134) dX12_readsLine_127 rfl (fun h => absurd h (by omega)) (fun h127 => ?_)
              refine z_iconst dX12_readsLine_130 (by decide) ?_
              refine z_goto (tgt := 138) dX12_readsLine_131 rfl ?_
              refine z_istore dX12_readsLine_138 (Nat.le_of_ble_eq_true rfl) ?_
              refine z_aload_n dX12_readsLine_140 rfl ?_
              refine z_iload dX12_readsLine_141 rfl ?_
              try dsimp only [zs0, zsI, zsP, zsN, zsJ, zsS, zst2, Nat.reduceAdd]
              refine z_if_lt (tgt := 150) dX12_readsLine_143 rfl (fun h143 => ?_) (fun h => absurd (by decide) h)
              refine z_iconst dX12_readsLine_150 (by decide) ?_
              refine z_iconst dX12_readsLine_151 (by decide) ?_
              refine z_callV mlX12_493 dX12_readsLine_152 (sh_M hE) (av := [_, _]) rfl rfl (Nat.le_of_ble_eq_true rfl) (x_mustT _ hE hB3 _ 3 (Or.inr hd3)) (Nat.le_refl _) (Nat.le_refl _) (Nat.le_refl _) (Nat.le_refl _) ?_
              rintro _ _ ⟨rfl, rfl⟩
              refine z_aload_n dX12_readsLine_155 rfl ?_
              refine z_aload_n dX12_readsLine_156 rfl ?_
              refine z_gIv f_wrong rfl flX12_487 dX12_readsLine_157 (sh_M hE) rfl hw3 ?_
              refine z_if_gt (tgt := 188) dX12_readsLine_160 rfl (fun h160 => ?_) (fun h => absurd (by omega) h)
              refine z_iconst dX12_readsLine_188 (by decide) ?_
              refine z_goto (tgt := 193) dX12_readsLine_189 rfl ?_
              refine z_iconst dX12_readsLine_193 (by decide) ?_
              refine z_callV mlX12_493 dX12_readsLine_194 (sh_M hE) (av := [_, _]) rfl rfl (Nat.le_of_ble_eq_true rfl) (x_mustT _ hE hB3 _ 4 (Or.inr hd3)) (Nat.le_refl _) (Nat.le_refl _) (Nat.le_refl _) (Nat.le_refl _) ?_
              rintro _ _ ⟨rfl, rfl⟩
              refine z_aload_n dX12_readsLine_197 rfl ?_
              refine z_gIv f_wrong rfl flX12_487 dX12_readsLine_198 (sh_M hE) rfl hw3 ?_
              refine z_if_le (tgt := 205) dX12_readsLine_201 rfl (fun h => absurd h (by omega)) (fun h201 => ?_)
              refine z_vret dX12_readsLine_204 rfl rfl ?_
              have eA : pLin (mK m) (m a_c) (m aM f_letters) (m a_toldCodes) (m aM f_wide) p = (kMis (mK m) p2, p2, m a_toldCodes, m aM f_wide, p) := by unfold pLin; rw [if_neg (not_not_intro g1), if_neg (not_not_intro i1), if_neg (by omega), ← e1, if_neg (not_not_intro (Or.inr h68)), ← e2, if_pos g3]
              rw [eA]
              refine ⟨rfl, ?_⟩
              exact ⟨z3, hw3, fun _ => ha3, fun h => absurd (show (kMis (mK m) p2 : Int) = 0 from h) (by first | exact kMis_ne | decide)⟩
            · refine z_iconst dX12_readsLine_114 (by decide) ?_
              refine z_goto (tgt := 119) dX12_readsLine_115 rfl ?_
              refine z_iconst dX12_readsLine_119 (by decide) ?_
              refine z_callV mlX12_493 dX12_readsLine_120 (sh_M hE) (av := [_, _]) rfl rfl (Nat.le_of_ble_eq_true rfl) (x_mustT _ hE hB3 _ 2 (Or.inr hd3)) (Nat.le_refl _) (Nat.le_refl _) (Nat.le_refl _) (Nat.le_refl _) ?_
              rintro _ _ ⟨rfl, rfl⟩
              refine z_aload_n dX12_readsLine_123 rfl ?_
              refine z_gIv f_wrong rfl flX12_487 dX12_readsLine_124 (sh_M hE) rfl hw3 ?_
              refine z_if_le (tgt := 134) dX12_readsLine_127 rfl (fun h => absurd h (by omega)) (fun h127 => ?_)
              refine z_iconst dX12_readsLine_130 (by decide) ?_
              refine z_goto (tgt := 138) dX12_readsLine_131 rfl ?_
              refine z_istore dX12_readsLine_138 (Nat.le_of_ble_eq_true rfl) ?_
              refine z_aload_n dX12_readsLine_140 rfl ?_
              refine z_iload dX12_readsLine_141 rfl ?_
              try dsimp only [zs0, zsI, zsP, zsN, zsJ, zsS, zst2, Nat.reduceAdd]
              refine z_if_lt (tgt := 150) dX12_readsLine_143 rfl (fun h143 => ?_) (fun h => absurd (by decide) h)
              refine z_iconst dX12_readsLine_150 (by decide) ?_
              refine z_iconst dX12_readsLine_151 (by decide) ?_
              refine z_callV mlX12_493 dX12_readsLine_152 (sh_M hE) (av := [_, _]) rfl rfl (Nat.le_of_ble_eq_true rfl) (x_mustT _ hE hB3 _ 3 (Or.inr hd3)) (Nat.le_refl _) (Nat.le_refl _) (Nat.le_refl _) (Nat.le_refl _) ?_
              rintro _ _ ⟨rfl, rfl⟩
              refine z_aload_n dX12_readsLine_155 rfl ?_
              refine z_aload_n dX12_readsLine_156 rfl ?_
              refine z_gIv f_wrong rfl flX12_487 dX12_readsLine_157 (sh_M hE) rfl hw3 ?_
              refine z_if_gt (tgt := 188) dX12_readsLine_160 rfl (fun h160 => ?_) (fun h => absurd (by omega) h)
              refine z_iconst dX12_readsLine_188 (by decide) ?_
              refine z_goto (tgt := 193) dX12_readsLine_189 rfl ?_
              refine z_iconst dX12_readsLine_193 (by decide) ?_
              refine z_callV mlX12_493 dX12_readsLine_194 (sh_M hE) (av := [_, _]) rfl rfl (Nat.le_of_ble_eq_true rfl) (x_mustT _ hE hB3 _ 4 (Or.inr hd3)) (Nat.le_refl _) (Nat.le_refl _) (Nat.le_refl _) (Nat.le_refl _) ?_
              rintro _ _ ⟨rfl, rfl⟩
              refine z_aload_n dX12_readsLine_197 rfl ?_
              refine z_gIv f_wrong rfl flX12_487 dX12_readsLine_198 (sh_M hE) rfl hw3 ?_
              refine z_if_le (tgt := 205) dX12_readsLine_201 rfl (fun h => absurd h (by omega)) (fun h201 => ?_)
              refine z_vret dX12_readsLine_204 rfl rfl ?_
              have eA : pLin (mK m) (m a_c) (m aM f_letters) (m a_toldCodes) (m aM f_wide) p = (kMis (mK m) p2, p2, m a_toldCodes, m aM f_wide, p) := by unfold pLin; rw [if_neg (not_not_intro g1), if_neg (not_not_intro i1), if_neg (by omega), ← e1, if_neg (not_not_intro (Or.inr h68)), ← e2, if_pos g3]
              rw [eA]
              refine ⟨rfl, ?_⟩
              exact ⟨z3, hw3, fun _ => ha3, fun h => absurd (show (kMis (mK m) p2 : Int) = 0 from h) (by first | exact kMis_ne | decide)⟩
  · have hB1 : mB m1 := b1 ▸ mB_bad hB0
    have hw1 : m1 aM f_wrong = 3 := b1 ▸ mBad_w
    have ha1 : m1 aM f_wrongAt = p := b1 ▸ mBad_a
    have z1 : zfr fTl m m1 := b1 ▸ zfr_uj (zfr_uj z0 (by decide)) (by decide)
    have hd1 : 0 < m1 aM f_wrong := by rw [hw1]; first | exact kMis_pos | decide
    have hm1 : ptM m1 := hB1.1
    have ha_c1 : m1 a_c = m a_c := b1 ▸ (zu_fn (by decide)).trans (zu_fn (by decide))
    have ha_toldCodes1 : m1 a_toldCodes = m a_toldCodes := b1 ▸ (zu_fn (by decide)).trans (zu_fn (by decide))
    have hletters1 : m1 aM f_letters = m aM f_letters := (b1 ▸ (zu_j (by decide)).trans (zu_j (by decide)) : m1 aM f_letters = m aM f_letters).trans hletters0
    have hwide1 : m1 aM f_wide = m aM f_wide := (b1 ▸ (zu_j (by decide)).trans (zu_j (by decide)) : m1 aM f_wide = m aM f_wide).trans hwide0
    refine z_aload_n dX12_readsLine_10 rfl ?_
    refine z_aload_n dX12_readsLine_11 rfl ?_
    refine z_gIv f_wide rfl flX12_545 dX12_readsLine_12 (sh_M hE) rfl hwide1 ?_
    refine z_aload_n dX12_readsLine_15 rfl ?_
    refine z_gIv f_letters rfl flX12_124 dX12_readsLine_16 (sh_M hE) rfl hletters1 ?_
    refine z_iconst dX12_readsLine_19 (by decide) ?_
    refine z_div dX12_readsLine_20 (by omega) (by omega) ?_
    refine z_icmp_ge (tgt := 28) dX12_readsLine_21 rfl (fun h21 => ?_) (fun h21 => ?_)
    · refine z_iconst dX12_readsLine_28 (by decide) ?_
      refine z_bipush dX12_readsLine_29 rfl (by decide) ?_
      refine z_callV mlX12_493 dX12_readsLine_31 (sh_M hE) (av := [_, _]) rfl rfl (Nat.le_of_ble_eq_true rfl) (x_mustT _ hE hB1 _ 6 (Or.inr hd1)) (Nat.le_refl _) (Nat.le_refl _) (Nat.le_refl _) (Nat.le_refl _) ?_
      rintro _ _ ⟨rfl, rfl⟩
      refine z_aload_n dX12_readsLine_34 rfl ?_
      refine z_gI f_number rfl flX12_481 dX12_readsLine_35 (sh_M hE) rfl ?_
      refine z_ist 1 dX12_readsLine_38 rfl (Nat.le_of_ble_eq_true rfl) ?_
      refine z_aload_n dX12_readsLine_39 rfl ?_
      refine z_gIv f_wrong rfl flX12_487 dX12_readsLine_40 (sh_M hE) rfl hw1 ?_
      try dsimp only [zs0, zsI, zsP, zsN, zsJ, zsS, zst2, Nat.reduceAdd]
      refine z_if_ne (tgt := 50) dX12_readsLine_43 rfl (fun h43 => ?_) (fun h => absurd (by omega) h)
      refine z_aload_n dX12_readsLine_50 rfl ?_
      refine z_bipush dX12_readsLine_51 rfl (by decide) ?_
      refine z_callV mlX12_520 dX12_readsLine_53 (sh_M hE) (av := [_]) rfl rfl (Nat.le_of_ble_eq_true rfl) (w_isSign _ hE hB1 hd1 62) (Nat.le_refl _) (Nat.le_refl _) (Nat.le_refl _) (Nat.le_refl _) ?_
      rintro _ _ ⟨rfl, rfl⟩
      refine z_ist 2 dX12_readsLine_56 rfl (Nat.le_of_ble_eq_true rfl) ?_
      refine z_aload_n dX12_readsLine_57 rfl ?_
      refine z_iload_n dX12_readsLine_58 rfl ?_
      try dsimp only [zs0, zsI, zsP, zsN, zsJ, zsS, zst2, Nat.reduceAdd]
      refine z_ifz_ne (tgt := 71) dX12_readsLine_59 rfl (fun h => absurd h (by decide)) (fun h59 => ?_)
      refine z_aload_n dX12_readsLine_62 rfl ?_
      refine z_bipush dX12_readsLine_63 rfl (by decide) ?_
      refine z_callV mlX12_520 dX12_readsLine_65 (sh_M hE) (av := [_]) rfl rfl (Nat.le_of_ble_eq_true rfl) (w_isSign _ hE hB1 hd1 45) (Nat.le_refl _) (Nat.le_refl _) (Nat.le_refl _) (Nat.le_refl _) ?_
      rintro _ _ ⟨rfl, rfl⟩
      refine z_ifz_eq (tgt := 75) dX12_readsLine_68 rfl (fun h68 => ?_) (fun h => absurd h (by decide))
      refine z_iconst dX12_readsLine_75 (by decide) ?_
      refine z_callV mlX12_506 dX12_readsLine_76 (sh_M hE) (av := [_]) rfl rfl (Nat.le_of_ble_eq_true rfl) (y_takes _ hE hB1 hd1 _) (Nat.le_refl _) (Nat.le_refl _) (Nat.le_refl _) (Nat.le_refl _) ?_
      rintro _ _ ⟨rfl, rfl⟩
      refine z_aload_n dX12_readsLine_79 rfl ?_
      refine z_aload_n dX12_readsLine_80 rfl ?_
      refine z_gP 0 rfl (r := a_c) flX12_7 dX12_readsLine_81 (sh_M hE) rfl (pt_c hm1) (by decide) ?_
      refine z_iconst dX12_readsLine_84 (by decide) ?_
      refine z_ialv dX12_readsLine_85 (sh_c hE) (by omega) (by omega) (congrFun ha_c1 2) ?_
      refine z_callV mlX12_542 dX12_readsLine_86 (sh_M hE) (av := [_]) rfl rfl (Nat.le_of_ble_eq_true rfl) (y_needs _ hE hB1 hd1 _) (Nat.le_refl _) (Nat.le_refl _) (Nat.le_refl _) (Nat.le_refl _) ?_
      rintro _ _ ⟨rfl, rfl⟩
      refine z_aload_n dX12_readsLine_89 rfl ?_
      refine z_gI f_number rfl flX12_481 dX12_readsLine_90 (sh_M hE) rfl ?_
      refine z_ist 3 dX12_readsLine_93 rfl (Nat.le_of_ble_eq_true rfl) ?_
      refine z_aload_n dX12_readsLine_94 rfl ?_
      refine z_gIv f_wrong rfl flX12_487 dX12_readsLine_95 (sh_M hE) rfl hw1 ?_
      try dsimp only [zs0, zsI, zsP, zsN, zsJ, zsS, zst2, Nat.reduceAdd]
      refine z_if_ne (tgt := 105) dX12_readsLine_98 rfl (fun h98 => ?_) (fun h => absurd (by omega) h)
      refine z_aload_n dX12_readsLine_105 rfl ?_
      refine z_aload_n dX12_readsLine_106 rfl ?_
      refine z_gI f_sort rfl flX12_471 dX12_readsLine_107 (sh_M hE) rfl ?_
      refine z_iconst dX12_readsLine_110 (by decide) ?_
      refine z_icmp_ne (tgt := 118) dX12_readsLine_111 rfl (fun h111 => ?_) (fun h111 => ?_)
      · refine z_iconst dX12_readsLine_118 (by decide) ?_
        refine z_iconst dX12_readsLine_119 (by decide) ?_
        refine z_callV mlX12_493 dX12_readsLine_120 (sh_M hE) (av := [_, _]) rfl rfl (Nat.le_of_ble_eq_true rfl) (x_mustT _ hE hB1 _ 2 (Or.inr hd1)) (Nat.le_refl _) (Nat.le_refl _) (Nat.le_refl _) (Nat.le_refl _) ?_
        rintro _ _ ⟨rfl, rfl⟩
        refine z_aload_n dX12_readsLine_123 rfl ?_
        refine z_gIv f_wrong rfl flX12_487 dX12_readsLine_124 (sh_M hE) rfl hw1 ?_
        refine z_if_le (tgt := 134) dX12_readsLine_127 rfl (fun h => absurd h (by omega)) (fun h127 => ?_)
        refine z_iconst dX12_readsLine_130 (by decide) ?_
        refine z_goto (tgt := 138) dX12_readsLine_131 rfl ?_
        refine z_istore dX12_readsLine_138 (Nat.le_of_ble_eq_true rfl) ?_
        refine z_aload_n dX12_readsLine_140 rfl ?_
        refine z_iload dX12_readsLine_141 rfl ?_
        try dsimp only [zs0, zsI, zsP, zsN, zsJ, zsS, zst2, Nat.reduceAdd]
        refine z_if_lt (tgt := 150) dX12_readsLine_143 rfl (fun h143 => ?_) (fun h => absurd (by decide) h)
        refine z_iconst dX12_readsLine_150 (by decide) ?_
        refine z_iconst dX12_readsLine_151 (by decide) ?_
        refine z_callV mlX12_493 dX12_readsLine_152 (sh_M hE) (av := [_, _]) rfl rfl (Nat.le_of_ble_eq_true rfl) (x_mustT _ hE hB1 _ 3 (Or.inr hd1)) (Nat.le_refl _) (Nat.le_refl _) (Nat.le_refl _) (Nat.le_refl _) ?_
        rintro _ _ ⟨rfl, rfl⟩
        refine z_aload_n dX12_readsLine_155 rfl ?_
        refine z_aload_n dX12_readsLine_156 rfl ?_
        refine z_gIv f_wrong rfl flX12_487 dX12_readsLine_157 (sh_M hE) rfl hw1 ?_
        refine z_if_gt (tgt := 188) dX12_readsLine_160 rfl (fun h160 => ?_) (fun h => absurd (by omega) h)
        refine z_iconst dX12_readsLine_188 (by decide) ?_
        refine z_goto (tgt := 193) dX12_readsLine_189 rfl ?_
        refine z_iconst dX12_readsLine_193 (by decide) ?_
        refine z_callV mlX12_493 dX12_readsLine_194 (sh_M hE) (av := [_, _]) rfl rfl (Nat.le_of_ble_eq_true rfl) (x_mustT _ hE hB1 _ 4 (Or.inr hd1)) (Nat.le_refl _) (Nat.le_refl _) (Nat.le_refl _) (Nat.le_refl _) ?_
        rintro _ _ ⟨rfl, rfl⟩
        refine z_aload_n dX12_readsLine_197 rfl ?_
        refine z_gIv f_wrong rfl flX12_487 dX12_readsLine_198 (sh_M hE) rfl hw1 ?_
        refine z_if_le (tgt := 205) dX12_readsLine_201 rfl (fun h => absurd h (by omega)) (fun h201 => ?_)
        refine z_vret dX12_readsLine_204 rfl rfl ?_
        have eA : pLin (mK m) (m a_c) (m aM f_letters) (m a_toldCodes) (m aM f_wide) p = (3, p, m a_toldCodes, m aM f_wide, p) := by unfold pLin; rw [if_neg (not_not_intro g1), if_pos i1]
        rw [eA]
        refine ⟨rfl, ?_⟩
        exact ⟨z1, hw1, fun _ => ha1, fun h => absurd (show (3 : Int) = 0 from h) (by first | exact kMis_ne | decide)⟩
      · refine z_iconst dX12_readsLine_114 (by decide) ?_
        refine z_goto (tgt := 119) dX12_readsLine_115 rfl ?_
        refine z_iconst dX12_readsLine_119 (by decide) ?_
        refine z_callV mlX12_493 dX12_readsLine_120 (sh_M hE) (av := [_, _]) rfl rfl (Nat.le_of_ble_eq_true rfl) (x_mustT _ hE hB1 _ 2 (Or.inr hd1)) (Nat.le_refl _) (Nat.le_refl _) (Nat.le_refl _) (Nat.le_refl _) ?_
        rintro _ _ ⟨rfl, rfl⟩
        refine z_aload_n dX12_readsLine_123 rfl ?_
        refine z_gIv f_wrong rfl flX12_487 dX12_readsLine_124 (sh_M hE) rfl hw1 ?_
        refine z_if_le (tgt := 134) dX12_readsLine_127 rfl (fun h => absurd h (by omega)) (fun h127 => ?_)
        refine z_iconst dX12_readsLine_130 (by decide) ?_
        refine z_goto (tgt := 138) dX12_readsLine_131 rfl ?_
        refine z_istore dX12_readsLine_138 (Nat.le_of_ble_eq_true rfl) ?_
        refine z_aload_n dX12_readsLine_140 rfl ?_
        refine z_iload dX12_readsLine_141 rfl ?_
        try dsimp only [zs0, zsI, zsP, zsN, zsJ, zsS, zst2, Nat.reduceAdd]
        refine z_if_lt (tgt := 150) dX12_readsLine_143 rfl (fun h143 => ?_) (fun h => absurd (by decide) h)
        refine z_iconst dX12_readsLine_150 (by decide) ?_
        refine z_iconst dX12_readsLine_151 (by decide) ?_
        refine z_callV mlX12_493 dX12_readsLine_152 (sh_M hE) (av := [_, _]) rfl rfl (Nat.le_of_ble_eq_true rfl) (x_mustT _ hE hB1 _ 3 (Or.inr hd1)) (Nat.le_refl _) (Nat.le_refl _) (Nat.le_refl _) (Nat.le_refl _) ?_
        rintro _ _ ⟨rfl, rfl⟩
        refine z_aload_n dX12_readsLine_155 rfl ?_
        refine z_aload_n dX12_readsLine_156 rfl ?_
        refine z_gIv f_wrong rfl flX12_487 dX12_readsLine_157 (sh_M hE) rfl hw1 ?_
        refine z_if_gt (tgt := 188) dX12_readsLine_160 rfl (fun h160 => ?_) (fun h => absurd (by omega) h)
        refine z_iconst dX12_readsLine_188 (by decide) ?_
        refine z_goto (tgt := 193) dX12_readsLine_189 rfl ?_
        refine z_iconst dX12_readsLine_193 (by decide) ?_
        refine z_callV mlX12_493 dX12_readsLine_194 (sh_M hE) (av := [_, _]) rfl rfl (Nat.le_of_ble_eq_true rfl) (x_mustT _ hE hB1 _ 4 (Or.inr hd1)) (Nat.le_refl _) (Nat.le_refl _) (Nat.le_refl _) (Nat.le_refl _) ?_
        rintro _ _ ⟨rfl, rfl⟩
        refine z_aload_n dX12_readsLine_197 rfl ?_
        refine z_gIv f_wrong rfl flX12_487 dX12_readsLine_198 (sh_M hE) rfl hw1 ?_
        refine z_if_le (tgt := 205) dX12_readsLine_201 rfl (fun h => absurd h (by omega)) (fun h201 => ?_)
        refine z_vret dX12_readsLine_204 rfl rfl ?_
        have eA : pLin (mK m) (m a_c) (m aM f_letters) (m a_toldCodes) (m aM f_wide) p = (3, p, m a_toldCodes, m aM f_wide, p) := by unfold pLin; rw [if_neg (not_not_intro g1), if_pos i1]
        rw [eA]
        refine ⟨rfl, ?_⟩
        exact ⟨z1, hw1, fun _ => ha1, fun h => absurd (show (3 : Int) = 0 from h) (by first | exact kMis_ne | decide)⟩
    · refine z_iconst dX12_readsLine_24 (by decide) ?_
      refine z_goto (tgt := 29) dX12_readsLine_25 rfl ?_
      refine z_bipush dX12_readsLine_29 rfl (by decide) ?_
      refine z_callV mlX12_493 dX12_readsLine_31 (sh_M hE) (av := [_, _]) rfl rfl (Nat.le_of_ble_eq_true rfl) (x_mustT _ hE hB1 _ 6 (Or.inr hd1)) (Nat.le_refl _) (Nat.le_refl _) (Nat.le_refl _) (Nat.le_refl _) ?_
      rintro _ _ ⟨rfl, rfl⟩
      refine z_aload_n dX12_readsLine_34 rfl ?_
      refine z_gI f_number rfl flX12_481 dX12_readsLine_35 (sh_M hE) rfl ?_
      refine z_ist 1 dX12_readsLine_38 rfl (Nat.le_of_ble_eq_true rfl) ?_
      refine z_aload_n dX12_readsLine_39 rfl ?_
      refine z_gIv f_wrong rfl flX12_487 dX12_readsLine_40 (sh_M hE) rfl hw1 ?_
      try dsimp only [zs0, zsI, zsP, zsN, zsJ, zsS, zst2, Nat.reduceAdd]
      refine z_if_ne (tgt := 50) dX12_readsLine_43 rfl (fun h43 => ?_) (fun h => absurd (by omega) h)
      refine z_aload_n dX12_readsLine_50 rfl ?_
      refine z_bipush dX12_readsLine_51 rfl (by decide) ?_
      refine z_callV mlX12_520 dX12_readsLine_53 (sh_M hE) (av := [_]) rfl rfl (Nat.le_of_ble_eq_true rfl) (w_isSign _ hE hB1 hd1 62) (Nat.le_refl _) (Nat.le_refl _) (Nat.le_refl _) (Nat.le_refl _) ?_
      rintro _ _ ⟨rfl, rfl⟩
      refine z_ist 2 dX12_readsLine_56 rfl (Nat.le_of_ble_eq_true rfl) ?_
      refine z_aload_n dX12_readsLine_57 rfl ?_
      refine z_iload_n dX12_readsLine_58 rfl ?_
      try dsimp only [zs0, zsI, zsP, zsN, zsJ, zsS, zst2, Nat.reduceAdd]
      refine z_ifz_ne (tgt := 71) dX12_readsLine_59 rfl (fun h => absurd h (by decide)) (fun h59 => ?_)
      refine z_aload_n dX12_readsLine_62 rfl ?_
      refine z_bipush dX12_readsLine_63 rfl (by decide) ?_
      refine z_callV mlX12_520 dX12_readsLine_65 (sh_M hE) (av := [_]) rfl rfl (Nat.le_of_ble_eq_true rfl) (w_isSign _ hE hB1 hd1 45) (Nat.le_refl _) (Nat.le_refl _) (Nat.le_refl _) (Nat.le_refl _) ?_
      rintro _ _ ⟨rfl, rfl⟩
      refine z_ifz_eq (tgt := 75) dX12_readsLine_68 rfl (fun h68 => ?_) (fun h => absurd h (by decide))
      refine z_iconst dX12_readsLine_75 (by decide) ?_
      refine z_callV mlX12_506 dX12_readsLine_76 (sh_M hE) (av := [_]) rfl rfl (Nat.le_of_ble_eq_true rfl) (y_takes _ hE hB1 hd1 _) (Nat.le_refl _) (Nat.le_refl _) (Nat.le_refl _) (Nat.le_refl _) ?_
      rintro _ _ ⟨rfl, rfl⟩
      refine z_aload_n dX12_readsLine_79 rfl ?_
      refine z_aload_n dX12_readsLine_80 rfl ?_
      refine z_gP 0 rfl (r := a_c) flX12_7 dX12_readsLine_81 (sh_M hE) rfl (pt_c hm1) (by decide) ?_
      refine z_iconst dX12_readsLine_84 (by decide) ?_
      refine z_ialv dX12_readsLine_85 (sh_c hE) (by omega) (by omega) (congrFun ha_c1 2) ?_
      refine z_callV mlX12_542 dX12_readsLine_86 (sh_M hE) (av := [_]) rfl rfl (Nat.le_of_ble_eq_true rfl) (y_needs _ hE hB1 hd1 _) (Nat.le_refl _) (Nat.le_refl _) (Nat.le_refl _) (Nat.le_refl _) ?_
      rintro _ _ ⟨rfl, rfl⟩
      refine z_aload_n dX12_readsLine_89 rfl ?_
      refine z_gI f_number rfl flX12_481 dX12_readsLine_90 (sh_M hE) rfl ?_
      refine z_ist 3 dX12_readsLine_93 rfl (Nat.le_of_ble_eq_true rfl) ?_
      refine z_aload_n dX12_readsLine_94 rfl ?_
      refine z_gIv f_wrong rfl flX12_487 dX12_readsLine_95 (sh_M hE) rfl hw1 ?_
      try dsimp only [zs0, zsI, zsP, zsN, zsJ, zsS, zst2, Nat.reduceAdd]
      refine z_if_ne (tgt := 105) dX12_readsLine_98 rfl (fun h98 => ?_) (fun h => absurd (by omega) h)
      refine z_aload_n dX12_readsLine_105 rfl ?_
      refine z_aload_n dX12_readsLine_106 rfl ?_
      refine z_gI f_sort rfl flX12_471 dX12_readsLine_107 (sh_M hE) rfl ?_
      refine z_iconst dX12_readsLine_110 (by decide) ?_
      refine z_icmp_ne (tgt := 118) dX12_readsLine_111 rfl (fun h111 => ?_) (fun h111 => ?_)
      · refine z_iconst dX12_readsLine_118 (by decide) ?_
        refine z_iconst dX12_readsLine_119 (by decide) ?_
        refine z_callV mlX12_493 dX12_readsLine_120 (sh_M hE) (av := [_, _]) rfl rfl (Nat.le_of_ble_eq_true rfl) (x_mustT _ hE hB1 _ 2 (Or.inr hd1)) (Nat.le_refl _) (Nat.le_refl _) (Nat.le_refl _) (Nat.le_refl _) ?_
        rintro _ _ ⟨rfl, rfl⟩
        refine z_aload_n dX12_readsLine_123 rfl ?_
        refine z_gIv f_wrong rfl flX12_487 dX12_readsLine_124 (sh_M hE) rfl hw1 ?_
        refine z_if_le (tgt := 134) dX12_readsLine_127 rfl (fun h => absurd h (by omega)) (fun h127 => ?_)
        refine z_iconst dX12_readsLine_130 (by decide) ?_
        refine z_goto (tgt := 138) dX12_readsLine_131 rfl ?_
        refine z_istore dX12_readsLine_138 (Nat.le_of_ble_eq_true rfl) ?_
        refine z_aload_n dX12_readsLine_140 rfl ?_
        refine z_iload dX12_readsLine_141 rfl ?_
        try dsimp only [zs0, zsI, zsP, zsN, zsJ, zsS, zst2, Nat.reduceAdd]
        refine z_if_lt (tgt := 150) dX12_readsLine_143 rfl (fun h143 => ?_) (fun h => absurd (by decide) h)
        refine z_iconst dX12_readsLine_150 (by decide) ?_
        refine z_iconst dX12_readsLine_151 (by decide) ?_
        refine z_callV mlX12_493 dX12_readsLine_152 (sh_M hE) (av := [_, _]) rfl rfl (Nat.le_of_ble_eq_true rfl) (x_mustT _ hE hB1 _ 3 (Or.inr hd1)) (Nat.le_refl _) (Nat.le_refl _) (Nat.le_refl _) (Nat.le_refl _) ?_
        rintro _ _ ⟨rfl, rfl⟩
        refine z_aload_n dX12_readsLine_155 rfl ?_
        refine z_aload_n dX12_readsLine_156 rfl ?_
        refine z_gIv f_wrong rfl flX12_487 dX12_readsLine_157 (sh_M hE) rfl hw1 ?_
        refine z_if_gt (tgt := 188) dX12_readsLine_160 rfl (fun h160 => ?_) (fun h => absurd (by omega) h)
        refine z_iconst dX12_readsLine_188 (by decide) ?_
        refine z_goto (tgt := 193) dX12_readsLine_189 rfl ?_
        refine z_iconst dX12_readsLine_193 (by decide) ?_
        refine z_callV mlX12_493 dX12_readsLine_194 (sh_M hE) (av := [_, _]) rfl rfl (Nat.le_of_ble_eq_true rfl) (x_mustT _ hE hB1 _ 4 (Or.inr hd1)) (Nat.le_refl _) (Nat.le_refl _) (Nat.le_refl _) (Nat.le_refl _) ?_
        rintro _ _ ⟨rfl, rfl⟩
        refine z_aload_n dX12_readsLine_197 rfl ?_
        refine z_gIv f_wrong rfl flX12_487 dX12_readsLine_198 (sh_M hE) rfl hw1 ?_
        refine z_if_le (tgt := 205) dX12_readsLine_201 rfl (fun h => absurd h (by omega)) (fun h201 => ?_)
        refine z_vret dX12_readsLine_204 rfl rfl ?_
        have eA : pLin (mK m) (m a_c) (m aM f_letters) (m a_toldCodes) (m aM f_wide) p = (3, p, m a_toldCodes, m aM f_wide, p) := by unfold pLin; rw [if_neg (not_not_intro g1), if_pos i1]
        rw [eA]
        refine ⟨rfl, ?_⟩
        exact ⟨z1, hw1, fun _ => ha1, fun h => absurd (show (3 : Int) = 0 from h) (by first | exact kMis_ne | decide)⟩
      · refine z_iconst dX12_readsLine_114 (by decide) ?_
        refine z_goto (tgt := 119) dX12_readsLine_115 rfl ?_
        refine z_iconst dX12_readsLine_119 (by decide) ?_
        refine z_callV mlX12_493 dX12_readsLine_120 (sh_M hE) (av := [_, _]) rfl rfl (Nat.le_of_ble_eq_true rfl) (x_mustT _ hE hB1 _ 2 (Or.inr hd1)) (Nat.le_refl _) (Nat.le_refl _) (Nat.le_refl _) (Nat.le_refl _) ?_
        rintro _ _ ⟨rfl, rfl⟩
        refine z_aload_n dX12_readsLine_123 rfl ?_
        refine z_gIv f_wrong rfl flX12_487 dX12_readsLine_124 (sh_M hE) rfl hw1 ?_
        refine z_if_le (tgt := 134) dX12_readsLine_127 rfl (fun h => absurd h (by omega)) (fun h127 => ?_)
        refine z_iconst dX12_readsLine_130 (by decide) ?_
        refine z_goto (tgt := 138) dX12_readsLine_131 rfl ?_
        refine z_istore dX12_readsLine_138 (Nat.le_of_ble_eq_true rfl) ?_
        refine z_aload_n dX12_readsLine_140 rfl ?_
        refine z_iload dX12_readsLine_141 rfl ?_
        try dsimp only [zs0, zsI, zsP, zsN, zsJ, zsS, zst2, Nat.reduceAdd]
        refine z_if_lt (tgt := 150) dX12_readsLine_143 rfl (fun h143 => ?_) (fun h => absurd (by decide) h)
        refine z_iconst dX12_readsLine_150 (by decide) ?_
        refine z_iconst dX12_readsLine_151 (by decide) ?_
        refine z_callV mlX12_493 dX12_readsLine_152 (sh_M hE) (av := [_, _]) rfl rfl (Nat.le_of_ble_eq_true rfl) (x_mustT _ hE hB1 _ 3 (Or.inr hd1)) (Nat.le_refl _) (Nat.le_refl _) (Nat.le_refl _) (Nat.le_refl _) ?_
        rintro _ _ ⟨rfl, rfl⟩
        refine z_aload_n dX12_readsLine_155 rfl ?_
        refine z_aload_n dX12_readsLine_156 rfl ?_
        refine z_gIv f_wrong rfl flX12_487 dX12_readsLine_157 (sh_M hE) rfl hw1 ?_
        refine z_if_gt (tgt := 188) dX12_readsLine_160 rfl (fun h160 => ?_) (fun h => absurd (by omega) h)
        refine z_iconst dX12_readsLine_188 (by decide) ?_
        refine z_goto (tgt := 193) dX12_readsLine_189 rfl ?_
        refine z_iconst dX12_readsLine_193 (by decide) ?_
        refine z_callV mlX12_493 dX12_readsLine_194 (sh_M hE) (av := [_, _]) rfl rfl (Nat.le_of_ble_eq_true rfl) (x_mustT _ hE hB1 _ 4 (Or.inr hd1)) (Nat.le_refl _) (Nat.le_refl _) (Nat.le_refl _) (Nat.le_refl _) ?_
        rintro _ _ ⟨rfl, rfl⟩
        refine z_aload_n dX12_readsLine_197 rfl ?_
        refine z_gIv f_wrong rfl flX12_487 dX12_readsLine_198 (sh_M hE) rfl hw1 ?_
        refine z_if_le (tgt := 205) dX12_readsLine_201 rfl (fun h => absurd h (by omega)) (fun h201 => ?_)
        refine z_vret dX12_readsLine_204 rfl rfl ?_
        have eA : pLin (mK m) (m a_c) (m aM f_letters) (m a_toldCodes) (m aM f_wide) p = (3, p, m a_toldCodes, m aM f_wide, p) := by unfold pLin; rw [if_neg (not_not_intro g1), if_pos i1]
        rw [eA]
        refine ⟨rfl, ?_⟩
        exact ⟨z1, hw1, fun _ => ha1, fun h => absurd (show (3 : Int) = 0 from h) (by first | exact kMis_ne | decide)⟩
  · have hB1 : mB m1 := b1 ▸ mB_bad hB0
    have hw1 : m1 aM f_wrong = kMis (mK m) p := b1 ▸ mBad_w
    have ha1 : m1 aM f_wrongAt = p := b1 ▸ mBad_a
    have z1 : zfr fTl m m1 := b1 ▸ zfr_uj (zfr_uj z0 (by decide)) (by decide)
    have hd1 : 0 < m1 aM f_wrong := by rw [hw1]; first | exact kMis_pos | decide
    have hm1 : ptM m1 := hB1.1
    have ha_c1 : m1 a_c = m a_c := b1 ▸ (zu_fn (by decide)).trans (zu_fn (by decide))
    have ha_toldCodes1 : m1 a_toldCodes = m a_toldCodes := b1 ▸ (zu_fn (by decide)).trans (zu_fn (by decide))
    have hletters1 : m1 aM f_letters = m aM f_letters := (b1 ▸ (zu_j (by decide)).trans (zu_j (by decide)) : m1 aM f_letters = m aM f_letters).trans hletters0
    have hwide1 : m1 aM f_wide = m aM f_wide := (b1 ▸ (zu_j (by decide)).trans (zu_j (by decide)) : m1 aM f_wide = m aM f_wide).trans hwide0
    refine z_aload_n dX12_readsLine_10 rfl ?_
    refine z_aload_n dX12_readsLine_11 rfl ?_
    refine z_gIv f_wide rfl flX12_545 dX12_readsLine_12 (sh_M hE) rfl hwide1 ?_
    refine z_aload_n dX12_readsLine_15 rfl ?_
    refine z_gIv f_letters rfl flX12_124 dX12_readsLine_16 (sh_M hE) rfl hletters1 ?_
    refine z_iconst dX12_readsLine_19 (by decide) ?_
    refine z_div dX12_readsLine_20 (by omega) (by omega) ?_
    refine z_icmp_ge (tgt := 28) dX12_readsLine_21 rfl (fun h21 => ?_) (fun h21 => ?_)
    · refine z_iconst dX12_readsLine_28 (by decide) ?_
      refine z_bipush dX12_readsLine_29 rfl (by decide) ?_
      refine z_callV mlX12_493 dX12_readsLine_31 (sh_M hE) (av := [_, _]) rfl rfl (Nat.le_of_ble_eq_true rfl) (x_mustT _ hE hB1 _ 6 (Or.inr hd1)) (Nat.le_refl _) (Nat.le_refl _) (Nat.le_refl _) (Nat.le_refl _) ?_
      rintro _ _ ⟨rfl, rfl⟩
      refine z_aload_n dX12_readsLine_34 rfl ?_
      refine z_gI f_number rfl flX12_481 dX12_readsLine_35 (sh_M hE) rfl ?_
      refine z_ist 1 dX12_readsLine_38 rfl (Nat.le_of_ble_eq_true rfl) ?_
      refine z_aload_n dX12_readsLine_39 rfl ?_
      refine z_gIv f_wrong rfl flX12_487 dX12_readsLine_40 (sh_M hE) rfl hw1 ?_
      try dsimp only [zs0, zsI, zsP, zsN, zsJ, zsS, zst2, Nat.reduceAdd]
      refine z_if_ne (tgt := 50) dX12_readsLine_43 rfl (fun h43 => ?_) (fun h => absurd (by omega) h)
      refine z_aload_n dX12_readsLine_50 rfl ?_
      refine z_bipush dX12_readsLine_51 rfl (by decide) ?_
      refine z_callV mlX12_520 dX12_readsLine_53 (sh_M hE) (av := [_]) rfl rfl (Nat.le_of_ble_eq_true rfl) (w_isSign _ hE hB1 hd1 62) (Nat.le_refl _) (Nat.le_refl _) (Nat.le_refl _) (Nat.le_refl _) ?_
      rintro _ _ ⟨rfl, rfl⟩
      refine z_ist 2 dX12_readsLine_56 rfl (Nat.le_of_ble_eq_true rfl) ?_
      refine z_aload_n dX12_readsLine_57 rfl ?_
      refine z_iload_n dX12_readsLine_58 rfl ?_
      try dsimp only [zs0, zsI, zsP, zsN, zsJ, zsS, zst2, Nat.reduceAdd]
      refine z_ifz_ne (tgt := 71) dX12_readsLine_59 rfl (fun h => absurd h (by decide)) (fun h59 => ?_)
      refine z_aload_n dX12_readsLine_62 rfl ?_
      refine z_bipush dX12_readsLine_63 rfl (by decide) ?_
      refine z_callV mlX12_520 dX12_readsLine_65 (sh_M hE) (av := [_]) rfl rfl (Nat.le_of_ble_eq_true rfl) (w_isSign _ hE hB1 hd1 45) (Nat.le_refl _) (Nat.le_refl _) (Nat.le_refl _) (Nat.le_refl _) ?_
      rintro _ _ ⟨rfl, rfl⟩
      refine z_ifz_eq (tgt := 75) dX12_readsLine_68 rfl (fun h68 => ?_) (fun h => absurd h (by decide))
      refine z_iconst dX12_readsLine_75 (by decide) ?_
      refine z_callV mlX12_506 dX12_readsLine_76 (sh_M hE) (av := [_]) rfl rfl (Nat.le_of_ble_eq_true rfl) (y_takes _ hE hB1 hd1 _) (Nat.le_refl _) (Nat.le_refl _) (Nat.le_refl _) (Nat.le_refl _) ?_
      rintro _ _ ⟨rfl, rfl⟩
      refine z_aload_n dX12_readsLine_79 rfl ?_
      refine z_aload_n dX12_readsLine_80 rfl ?_
      refine z_gP 0 rfl (r := a_c) flX12_7 dX12_readsLine_81 (sh_M hE) rfl (pt_c hm1) (by decide) ?_
      refine z_iconst dX12_readsLine_84 (by decide) ?_
      refine z_ialv dX12_readsLine_85 (sh_c hE) (by omega) (by omega) (congrFun ha_c1 2) ?_
      refine z_callV mlX12_542 dX12_readsLine_86 (sh_M hE) (av := [_]) rfl rfl (Nat.le_of_ble_eq_true rfl) (y_needs _ hE hB1 hd1 _) (Nat.le_refl _) (Nat.le_refl _) (Nat.le_refl _) (Nat.le_refl _) ?_
      rintro _ _ ⟨rfl, rfl⟩
      refine z_aload_n dX12_readsLine_89 rfl ?_
      refine z_gI f_number rfl flX12_481 dX12_readsLine_90 (sh_M hE) rfl ?_
      refine z_ist 3 dX12_readsLine_93 rfl (Nat.le_of_ble_eq_true rfl) ?_
      refine z_aload_n dX12_readsLine_94 rfl ?_
      refine z_gIv f_wrong rfl flX12_487 dX12_readsLine_95 (sh_M hE) rfl hw1 ?_
      try dsimp only [zs0, zsI, zsP, zsN, zsJ, zsS, zst2, Nat.reduceAdd]
      refine z_if_ne (tgt := 105) dX12_readsLine_98 rfl (fun h98 => ?_) (fun h => absurd (by omega) h)
      refine z_aload_n dX12_readsLine_105 rfl ?_
      refine z_aload_n dX12_readsLine_106 rfl ?_
      refine z_gI f_sort rfl flX12_471 dX12_readsLine_107 (sh_M hE) rfl ?_
      refine z_iconst dX12_readsLine_110 (by decide) ?_
      refine z_icmp_ne (tgt := 118) dX12_readsLine_111 rfl (fun h111 => ?_) (fun h111 => ?_)
      · refine z_iconst dX12_readsLine_118 (by decide) ?_
        refine z_iconst dX12_readsLine_119 (by decide) ?_
        refine z_callV mlX12_493 dX12_readsLine_120 (sh_M hE) (av := [_, _]) rfl rfl (Nat.le_of_ble_eq_true rfl) (x_mustT _ hE hB1 _ 2 (Or.inr hd1)) (Nat.le_refl _) (Nat.le_refl _) (Nat.le_refl _) (Nat.le_refl _) ?_
        rintro _ _ ⟨rfl, rfl⟩
        refine z_aload_n dX12_readsLine_123 rfl ?_
        refine z_gIv f_wrong rfl flX12_487 dX12_readsLine_124 (sh_M hE) rfl hw1 ?_
        refine z_if_le (tgt := 134) dX12_readsLine_127 rfl (fun h => absurd h (by omega)) (fun h127 => ?_)
        refine z_iconst dX12_readsLine_130 (by decide) ?_
        refine z_goto (tgt := 138) dX12_readsLine_131 rfl ?_
        refine z_istore dX12_readsLine_138 (Nat.le_of_ble_eq_true rfl) ?_
        refine z_aload_n dX12_readsLine_140 rfl ?_
        refine z_iload dX12_readsLine_141 rfl ?_
        try dsimp only [zs0, zsI, zsP, zsN, zsJ, zsS, zst2, Nat.reduceAdd]
        refine z_if_lt (tgt := 150) dX12_readsLine_143 rfl (fun h143 => ?_) (fun h => absurd (by decide) h)
        refine z_iconst dX12_readsLine_150 (by decide) ?_
        refine z_iconst dX12_readsLine_151 (by decide) ?_
        refine z_callV mlX12_493 dX12_readsLine_152 (sh_M hE) (av := [_, _]) rfl rfl (Nat.le_of_ble_eq_true rfl) (x_mustT _ hE hB1 _ 3 (Or.inr hd1)) (Nat.le_refl _) (Nat.le_refl _) (Nat.le_refl _) (Nat.le_refl _) ?_
        rintro _ _ ⟨rfl, rfl⟩
        refine z_aload_n dX12_readsLine_155 rfl ?_
        refine z_aload_n dX12_readsLine_156 rfl ?_
        refine z_gIv f_wrong rfl flX12_487 dX12_readsLine_157 (sh_M hE) rfl hw1 ?_
        refine z_if_gt (tgt := 188) dX12_readsLine_160 rfl (fun h160 => ?_) (fun h => absurd (by omega) h)
        refine z_iconst dX12_readsLine_188 (by decide) ?_
        refine z_goto (tgt := 193) dX12_readsLine_189 rfl ?_
        refine z_iconst dX12_readsLine_193 (by decide) ?_
        refine z_callV mlX12_493 dX12_readsLine_194 (sh_M hE) (av := [_, _]) rfl rfl (Nat.le_of_ble_eq_true rfl) (x_mustT _ hE hB1 _ 4 (Or.inr hd1)) (Nat.le_refl _) (Nat.le_refl _) (Nat.le_refl _) (Nat.le_refl _) ?_
        rintro _ _ ⟨rfl, rfl⟩
        refine z_aload_n dX12_readsLine_197 rfl ?_
        refine z_gIv f_wrong rfl flX12_487 dX12_readsLine_198 (sh_M hE) rfl hw1 ?_
        refine z_if_le (tgt := 205) dX12_readsLine_201 rfl (fun h => absurd h (by omega)) (fun h201 => ?_)
        refine z_vret dX12_readsLine_204 rfl rfl ?_
        have eA : pLin (mK m) (m a_c) (m aM f_letters) (m a_toldCodes) (m aM f_wide) p = (kMis (mK m) p, p, m a_toldCodes, m aM f_wide, p) := by unfold pLin; rw [if_pos g1]
        rw [eA]
        refine ⟨rfl, ?_⟩
        exact ⟨z1, hw1, fun _ => ha1, fun h => absurd (show (kMis (mK m) p : Int) = 0 from h) (by first | exact kMis_ne | decide)⟩
      · refine z_iconst dX12_readsLine_114 (by decide) ?_
        refine z_goto (tgt := 119) dX12_readsLine_115 rfl ?_
        refine z_iconst dX12_readsLine_119 (by decide) ?_
        refine z_callV mlX12_493 dX12_readsLine_120 (sh_M hE) (av := [_, _]) rfl rfl (Nat.le_of_ble_eq_true rfl) (x_mustT _ hE hB1 _ 2 (Or.inr hd1)) (Nat.le_refl _) (Nat.le_refl _) (Nat.le_refl _) (Nat.le_refl _) ?_
        rintro _ _ ⟨rfl, rfl⟩
        refine z_aload_n dX12_readsLine_123 rfl ?_
        refine z_gIv f_wrong rfl flX12_487 dX12_readsLine_124 (sh_M hE) rfl hw1 ?_
        refine z_if_le (tgt := 134) dX12_readsLine_127 rfl (fun h => absurd h (by omega)) (fun h127 => ?_)
        refine z_iconst dX12_readsLine_130 (by decide) ?_
        refine z_goto (tgt := 138) dX12_readsLine_131 rfl ?_
        refine z_istore dX12_readsLine_138 (Nat.le_of_ble_eq_true rfl) ?_
        refine z_aload_n dX12_readsLine_140 rfl ?_
        refine z_iload dX12_readsLine_141 rfl ?_
        try dsimp only [zs0, zsI, zsP, zsN, zsJ, zsS, zst2, Nat.reduceAdd]
        refine z_if_lt (tgt := 150) dX12_readsLine_143 rfl (fun h143 => ?_) (fun h => absurd (by decide) h)
        refine z_iconst dX12_readsLine_150 (by decide) ?_
        refine z_iconst dX12_readsLine_151 (by decide) ?_
        refine z_callV mlX12_493 dX12_readsLine_152 (sh_M hE) (av := [_, _]) rfl rfl (Nat.le_of_ble_eq_true rfl) (x_mustT _ hE hB1 _ 3 (Or.inr hd1)) (Nat.le_refl _) (Nat.le_refl _) (Nat.le_refl _) (Nat.le_refl _) ?_
        rintro _ _ ⟨rfl, rfl⟩
        refine z_aload_n dX12_readsLine_155 rfl ?_
        refine z_aload_n dX12_readsLine_156 rfl ?_
        refine z_gIv f_wrong rfl flX12_487 dX12_readsLine_157 (sh_M hE) rfl hw1 ?_
        refine z_if_gt (tgt := 188) dX12_readsLine_160 rfl (fun h160 => ?_) (fun h => absurd (by omega) h)
        refine z_iconst dX12_readsLine_188 (by decide) ?_
        refine z_goto (tgt := 193) dX12_readsLine_189 rfl ?_
        refine z_iconst dX12_readsLine_193 (by decide) ?_
        refine z_callV mlX12_493 dX12_readsLine_194 (sh_M hE) (av := [_, _]) rfl rfl (Nat.le_of_ble_eq_true rfl) (x_mustT _ hE hB1 _ 4 (Or.inr hd1)) (Nat.le_refl _) (Nat.le_refl _) (Nat.le_refl _) (Nat.le_refl _) ?_
        rintro _ _ ⟨rfl, rfl⟩
        refine z_aload_n dX12_readsLine_197 rfl ?_
        refine z_gIv f_wrong rfl flX12_487 dX12_readsLine_198 (sh_M hE) rfl hw1 ?_
        refine z_if_le (tgt := 205) dX12_readsLine_201 rfl (fun h => absurd h (by omega)) (fun h201 => ?_)
        refine z_vret dX12_readsLine_204 rfl rfl ?_
        have eA : pLin (mK m) (m a_c) (m aM f_letters) (m a_toldCodes) (m aM f_wide) p = (kMis (mK m) p, p, m a_toldCodes, m aM f_wide, p) := by unfold pLin; rw [if_pos g1]
        rw [eA]
        refine ⟨rfl, ?_⟩
        exact ⟨z1, hw1, fun _ => ha1, fun h => absurd (show (kMis (mK m) p : Int) = 0 from h) (by first | exact kMis_ne | decide)⟩
    · refine z_iconst dX12_readsLine_24 (by decide) ?_
      refine z_goto (tgt := 29) dX12_readsLine_25 rfl ?_
      refine z_bipush dX12_readsLine_29 rfl (by decide) ?_
      refine z_callV mlX12_493 dX12_readsLine_31 (sh_M hE) (av := [_, _]) rfl rfl (Nat.le_of_ble_eq_true rfl) (x_mustT _ hE hB1 _ 6 (Or.inr hd1)) (Nat.le_refl _) (Nat.le_refl _) (Nat.le_refl _) (Nat.le_refl _) ?_
      rintro _ _ ⟨rfl, rfl⟩
      refine z_aload_n dX12_readsLine_34 rfl ?_
      refine z_gI f_number rfl flX12_481 dX12_readsLine_35 (sh_M hE) rfl ?_
      refine z_ist 1 dX12_readsLine_38 rfl (Nat.le_of_ble_eq_true rfl) ?_
      refine z_aload_n dX12_readsLine_39 rfl ?_
      refine z_gIv f_wrong rfl flX12_487 dX12_readsLine_40 (sh_M hE) rfl hw1 ?_
      try dsimp only [zs0, zsI, zsP, zsN, zsJ, zsS, zst2, Nat.reduceAdd]
      refine z_if_ne (tgt := 50) dX12_readsLine_43 rfl (fun h43 => ?_) (fun h => absurd (by omega) h)
      refine z_aload_n dX12_readsLine_50 rfl ?_
      refine z_bipush dX12_readsLine_51 rfl (by decide) ?_
      refine z_callV mlX12_520 dX12_readsLine_53 (sh_M hE) (av := [_]) rfl rfl (Nat.le_of_ble_eq_true rfl) (w_isSign _ hE hB1 hd1 62) (Nat.le_refl _) (Nat.le_refl _) (Nat.le_refl _) (Nat.le_refl _) ?_
      rintro _ _ ⟨rfl, rfl⟩
      refine z_ist 2 dX12_readsLine_56 rfl (Nat.le_of_ble_eq_true rfl) ?_
      refine z_aload_n dX12_readsLine_57 rfl ?_
      refine z_iload_n dX12_readsLine_58 rfl ?_
      try dsimp only [zs0, zsI, zsP, zsN, zsJ, zsS, zst2, Nat.reduceAdd]
      refine z_ifz_ne (tgt := 71) dX12_readsLine_59 rfl (fun h => absurd h (by decide)) (fun h59 => ?_)
      refine z_aload_n dX12_readsLine_62 rfl ?_
      refine z_bipush dX12_readsLine_63 rfl (by decide) ?_
      refine z_callV mlX12_520 dX12_readsLine_65 (sh_M hE) (av := [_]) rfl rfl (Nat.le_of_ble_eq_true rfl) (w_isSign _ hE hB1 hd1 45) (Nat.le_refl _) (Nat.le_refl _) (Nat.le_refl _) (Nat.le_refl _) ?_
      rintro _ _ ⟨rfl, rfl⟩
      refine z_ifz_eq (tgt := 75) dX12_readsLine_68 rfl (fun h68 => ?_) (fun h => absurd h (by decide))
      refine z_iconst dX12_readsLine_75 (by decide) ?_
      refine z_callV mlX12_506 dX12_readsLine_76 (sh_M hE) (av := [_]) rfl rfl (Nat.le_of_ble_eq_true rfl) (y_takes _ hE hB1 hd1 _) (Nat.le_refl _) (Nat.le_refl _) (Nat.le_refl _) (Nat.le_refl _) ?_
      rintro _ _ ⟨rfl, rfl⟩
      refine z_aload_n dX12_readsLine_79 rfl ?_
      refine z_aload_n dX12_readsLine_80 rfl ?_
      refine z_gP 0 rfl (r := a_c) flX12_7 dX12_readsLine_81 (sh_M hE) rfl (pt_c hm1) (by decide) ?_
      refine z_iconst dX12_readsLine_84 (by decide) ?_
      refine z_ialv dX12_readsLine_85 (sh_c hE) (by omega) (by omega) (congrFun ha_c1 2) ?_
      refine z_callV mlX12_542 dX12_readsLine_86 (sh_M hE) (av := [_]) rfl rfl (Nat.le_of_ble_eq_true rfl) (y_needs _ hE hB1 hd1 _) (Nat.le_refl _) (Nat.le_refl _) (Nat.le_refl _) (Nat.le_refl _) ?_
      rintro _ _ ⟨rfl, rfl⟩
      refine z_aload_n dX12_readsLine_89 rfl ?_
      refine z_gI f_number rfl flX12_481 dX12_readsLine_90 (sh_M hE) rfl ?_
      refine z_ist 3 dX12_readsLine_93 rfl (Nat.le_of_ble_eq_true rfl) ?_
      refine z_aload_n dX12_readsLine_94 rfl ?_
      refine z_gIv f_wrong rfl flX12_487 dX12_readsLine_95 (sh_M hE) rfl hw1 ?_
      try dsimp only [zs0, zsI, zsP, zsN, zsJ, zsS, zst2, Nat.reduceAdd]
      refine z_if_ne (tgt := 105) dX12_readsLine_98 rfl (fun h98 => ?_) (fun h => absurd (by omega) h)
      refine z_aload_n dX12_readsLine_105 rfl ?_
      refine z_aload_n dX12_readsLine_106 rfl ?_
      refine z_gI f_sort rfl flX12_471 dX12_readsLine_107 (sh_M hE) rfl ?_
      refine z_iconst dX12_readsLine_110 (by decide) ?_
      refine z_icmp_ne (tgt := 118) dX12_readsLine_111 rfl (fun h111 => ?_) (fun h111 => ?_)
      · refine z_iconst dX12_readsLine_118 (by decide) ?_
        refine z_iconst dX12_readsLine_119 (by decide) ?_
        refine z_callV mlX12_493 dX12_readsLine_120 (sh_M hE) (av := [_, _]) rfl rfl (Nat.le_of_ble_eq_true rfl) (x_mustT _ hE hB1 _ 2 (Or.inr hd1)) (Nat.le_refl _) (Nat.le_refl _) (Nat.le_refl _) (Nat.le_refl _) ?_
        rintro _ _ ⟨rfl, rfl⟩
        refine z_aload_n dX12_readsLine_123 rfl ?_
        refine z_gIv f_wrong rfl flX12_487 dX12_readsLine_124 (sh_M hE) rfl hw1 ?_
        refine z_if_le (tgt := 134) dX12_readsLine_127 rfl (fun h => absurd h (by omega)) (fun h127 => ?_)
        refine z_iconst dX12_readsLine_130 (by decide) ?_
        refine z_goto (tgt := 138) dX12_readsLine_131 rfl ?_
        refine z_istore dX12_readsLine_138 (Nat.le_of_ble_eq_true rfl) ?_
        refine z_aload_n dX12_readsLine_140 rfl ?_
        refine z_iload dX12_readsLine_141 rfl ?_
        try dsimp only [zs0, zsI, zsP, zsN, zsJ, zsS, zst2, Nat.reduceAdd]
        refine z_if_lt (tgt := 150) dX12_readsLine_143 rfl (fun h143 => ?_) (fun h => absurd (by decide) h)
        refine z_iconst dX12_readsLine_150 (by decide) ?_
        refine z_iconst dX12_readsLine_151 (by decide) ?_
        refine z_callV mlX12_493 dX12_readsLine_152 (sh_M hE) (av := [_, _]) rfl rfl (Nat.le_of_ble_eq_true rfl) (x_mustT _ hE hB1 _ 3 (Or.inr hd1)) (Nat.le_refl _) (Nat.le_refl _) (Nat.le_refl _) (Nat.le_refl _) ?_
        rintro _ _ ⟨rfl, rfl⟩
        refine z_aload_n dX12_readsLine_155 rfl ?_
        refine z_aload_n dX12_readsLine_156 rfl ?_
        refine z_gIv f_wrong rfl flX12_487 dX12_readsLine_157 (sh_M hE) rfl hw1 ?_
        refine z_if_gt (tgt := 188) dX12_readsLine_160 rfl (fun h160 => ?_) (fun h => absurd (by omega) h)
        refine z_iconst dX12_readsLine_188 (by decide) ?_
        refine z_goto (tgt := 193) dX12_readsLine_189 rfl ?_
        refine z_iconst dX12_readsLine_193 (by decide) ?_
        refine z_callV mlX12_493 dX12_readsLine_194 (sh_M hE) (av := [_, _]) rfl rfl (Nat.le_of_ble_eq_true rfl) (x_mustT _ hE hB1 _ 4 (Or.inr hd1)) (Nat.le_refl _) (Nat.le_refl _) (Nat.le_refl _) (Nat.le_refl _) ?_
        rintro _ _ ⟨rfl, rfl⟩
        refine z_aload_n dX12_readsLine_197 rfl ?_
        refine z_gIv f_wrong rfl flX12_487 dX12_readsLine_198 (sh_M hE) rfl hw1 ?_
        refine z_if_le (tgt := 205) dX12_readsLine_201 rfl (fun h => absurd h (by omega)) (fun h201 => ?_)
        refine z_vret dX12_readsLine_204 rfl rfl ?_
        have eA : pLin (mK m) (m a_c) (m aM f_letters) (m a_toldCodes) (m aM f_wide) p = (kMis (mK m) p, p, m a_toldCodes, m aM f_wide, p) := by unfold pLin; rw [if_pos g1]
        rw [eA]
        refine ⟨rfl, ?_⟩
        exact ⟨z1, hw1, fun _ => ha1, fun h => absurd (show (kMis (mK m) p : Int) = 0 from h) (by first | exact kMis_ne | decide)⟩
      · refine z_iconst dX12_readsLine_114 (by decide) ?_
        refine z_goto (tgt := 119) dX12_readsLine_115 rfl ?_
        refine z_iconst dX12_readsLine_119 (by decide) ?_
        refine z_callV mlX12_493 dX12_readsLine_120 (sh_M hE) (av := [_, _]) rfl rfl (Nat.le_of_ble_eq_true rfl) (x_mustT _ hE hB1 _ 2 (Or.inr hd1)) (Nat.le_refl _) (Nat.le_refl _) (Nat.le_refl _) (Nat.le_refl _) ?_
        rintro _ _ ⟨rfl, rfl⟩
        refine z_aload_n dX12_readsLine_123 rfl ?_
        refine z_gIv f_wrong rfl flX12_487 dX12_readsLine_124 (sh_M hE) rfl hw1 ?_
        refine z_if_le (tgt := 134) dX12_readsLine_127 rfl (fun h => absurd h (by omega)) (fun h127 => ?_)
        refine z_iconst dX12_readsLine_130 (by decide) ?_
        refine z_goto (tgt := 138) dX12_readsLine_131 rfl ?_
        refine z_istore dX12_readsLine_138 (Nat.le_of_ble_eq_true rfl) ?_
        refine z_aload_n dX12_readsLine_140 rfl ?_
        refine z_iload dX12_readsLine_141 rfl ?_
        try dsimp only [zs0, zsI, zsP, zsN, zsJ, zsS, zst2, Nat.reduceAdd]
        refine z_if_lt (tgt := 150) dX12_readsLine_143 rfl (fun h143 => ?_) (fun h => absurd (by decide) h)
        refine z_iconst dX12_readsLine_150 (by decide) ?_
        refine z_iconst dX12_readsLine_151 (by decide) ?_
        refine z_callV mlX12_493 dX12_readsLine_152 (sh_M hE) (av := [_, _]) rfl rfl (Nat.le_of_ble_eq_true rfl) (x_mustT _ hE hB1 _ 3 (Or.inr hd1)) (Nat.le_refl _) (Nat.le_refl _) (Nat.le_refl _) (Nat.le_refl _) ?_
        rintro _ _ ⟨rfl, rfl⟩
        refine z_aload_n dX12_readsLine_155 rfl ?_
        refine z_aload_n dX12_readsLine_156 rfl ?_
        refine z_gIv f_wrong rfl flX12_487 dX12_readsLine_157 (sh_M hE) rfl hw1 ?_
        refine z_if_gt (tgt := 188) dX12_readsLine_160 rfl (fun h160 => ?_) (fun h => absurd (by omega) h)
        refine z_iconst dX12_readsLine_188 (by decide) ?_
        refine z_goto (tgt := 193) dX12_readsLine_189 rfl ?_
        refine z_iconst dX12_readsLine_193 (by decide) ?_
        refine z_callV mlX12_493 dX12_readsLine_194 (sh_M hE) (av := [_, _]) rfl rfl (Nat.le_of_ble_eq_true rfl) (x_mustT _ hE hB1 _ 4 (Or.inr hd1)) (Nat.le_refl _) (Nat.le_refl _) (Nat.le_refl _) (Nat.le_refl _) ?_
        rintro _ _ ⟨rfl, rfl⟩
        refine z_aload_n dX12_readsLine_197 rfl ?_
        refine z_gIv f_wrong rfl flX12_487 dX12_readsLine_198 (sh_M hE) rfl hw1 ?_
        refine z_if_le (tgt := 205) dX12_readsLine_201 rfl (fun h => absurd h (by omega)) (fun h201 => ?_)
        refine z_vret dX12_readsLine_204 rfl rfl ?_
        have eA : pLin (mK m) (m a_c) (m aM f_letters) (m a_toldCodes) (m aM f_wide) p = (kMis (mK m) p, p, m a_toldCodes, m aM f_wide, p) := by unfold pLin; rw [if_pos g1]
        rw [eA]
        refine ⟨rfl, ?_⟩
        exact ⟨z1, hw1, fun _ => ha1, fun h => absurd (show (kMis (mK m) p : Int) = 0 from h) (by first | exact kMis_ne | decide)⟩
