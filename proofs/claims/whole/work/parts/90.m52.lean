def fBt : List (Int × Option Int) := [(aM, some f_place), (aM, some f_next), (aM, some f_sort), (aM, some f_word), (aM, some f_number), (aM, some f_size), (aM, some f_wrong), (aM, some f_end), (aM, some f_withNumbers)]
def fEt : List (Int × Option Int) := [(aM, some f_taped), (aM, some f_faultKind), (aM, some f_faultAt), (aM, some f_status)]
theorem ptM_bt {m m1 : zM} (h : ptM m) (b : zfr fBt m m1) : ptM m1 := fun q hq => by
  have hq2 : ∀ q ∈ mPt, fBt.all (fun r => r.1 != aM || (r.2 != none && r.2 != some q.1)) = true := by decide
  rw [zfr_at b (hq2 q hq)]
  exact h q hq
theorem ptM_wh {m m1 : zM} (h : ptM m) (b : zfr [(a_whole, none)] m m1) : ptM m1 := fun q hq => by
  have hq2 : ∀ q ∈ mPt, ([(a_whole, none)] : List (Int × Option Int)).all (fun r => r.1 != aM || (r.2 != none && r.2 != some q.1)) = true := by decide
  rw [zfr_at b (hq2 q hq)]
  exact h q hq
/-- an empty table -/
def cZ (c : Int → Int) : Int → Int := fun x => if 0 ≤ x ∧ x < 104 then 0 else c x
theorem cZ_inv (c : Int → Int) : cInv (cZ c) := by
  have e0 : cZ c 0 = 0 := if_pos (by decide)
  have e1 : cZ c 1 = 0 := if_pos (by decide)
  have e2 : cZ c 2 = 0 := if_pos (by decide)
  refine ⟨⟨by rw [e0]; decide, by rw [e1]; decide, by rw [e2]; decide, fun f q0 q1 => by rw [e0] at q1; omega, fun k q0 q1 => by rw [e1] at q1; omega, fun p q0 q1 => by rw [e2] at q1; omega⟩, ?_, ?_⟩
  · rw [e2]; show (0 : Int) ≤ 12; decide
  · unfold cVx; rw [e2]; show (0 : Int) ≤ 5; decide
theorem x_begins (d : Nat) {E : zE} {m : zM} (hE : shM E) (hB : ptM m ∧ mWd m) (n wn : Int) (hn : 0 ≤ n ∧ n ≤ 400) (hwn : wn = 0 ∨ wn = 1) : zR zX12_beginsText (d + 3) [zP aM, zI n, zI wn] m E E (fun r m' => r = none ∧ zfr fBt m m' ∧ mB m' ∧ m' aM f_wrong = 0 ∧ mK m' = (mV (m a_tape) n, n, wn) ∧ mTk m' (kSk (mV (m a_tape) n, n, wn) 0)) := by
  have hm := hB.1
  refine zR_go [zP aM, zI n, zI wn] (by decide +kernel) (Nat.le_of_ble_eq_true rfl) rfl rfl ?_
  refine z_aload_n dX12_beginsText_0 rfl ?_
  refine z_iload_n dX12_beginsText_1 rfl ?_
  refine z_pI f_end rfl (fpX12_453 _) dX12_beginsText_2 (sh_M hE) rfl ?_
  refine z_aload_n dX12_beginsText_5 rfl ?_
  refine z_iconst dX12_beginsText_6 (by decide) ?_
  refine z_pI f_next rfl (fpX12_459 _) dX12_beginsText_7 (sh_M hE) rfl ?_
  refine z_aload_n dX12_beginsText_10 rfl ?_
  refine z_iconst dX12_beginsText_11 (by decide) ?_
  refine z_pI f_wrong rfl (fpX12_487 _) dX12_beginsText_12 (sh_M hE) rfl ?_
  refine z_aload_n dX12_beginsText_15 rfl ?_
  refine z_iload_n dX12_beginsText_16 rfl ?_
  refine z_pZ f_withNumbers rfl (fpX12_456 _) dX12_beginsText_17 (sh_M hE) rfl hwn ?_
  generalize em1 : zu (zu (zu (zu m aM f_end n) aM f_next 0) aM f_wrong 0) aM f_withNumbers wn = m1
  have z1 : zfr fBt m m1 := by rw [← em1]; exact zfr_uj (zfr_uj (zfr_uj (zfr_uj zfr_rf (by decide)) (by decide)) (by decide)) (by decide)
  have hm1 : ptM m1 := ptM_bt hm z1
  have k1 : m1 aM f_end = n := by rw [← em1]; exact (zu_j (by decide)).trans ((zu_j (by decide)).trans ((zu_j (by decide)).trans zu_s))
  have k2 : m1 aM f_next = 0 := by rw [← em1]; exact (zu_j (by decide)).trans ((zu_j (by decide)).trans zu_s)
  have k3 : m1 aM f_wrong = 0 := by rw [← em1]; exact (zu_j (by decide)).trans zu_s
  have k4 : m1 aM f_withNumbers = wn := by rw [← em1]; exact zu_s
  have k5 : m1 a_tape = m a_tape := zfr_cell z1 (by decide)
  have kK : mK m1 = (mV (m a_tape) n, n, wn) := by unfold mK; rw [k1, k4, k5]
  refine z_aload_n dX12_beginsText_20 rfl ?_
  refine z_callV mlX12_497 dX12_beginsText_21 (sh_M hE) (av := _) rfl rfl (Nat.le_of_ble_eq_true rfl) (by have h := r_reads d hE hm1 (by rw [k1]; exact hn) (by rw [k4]; exact hwn) (by rw [k2]; decide); rw [kK, k2] at h; exact h) (Nat.le_refl _) (Nat.le_refl _) (Nat.le_refl _) (Nat.le_refl _) ?_
  rintro _ m2 ⟨rfl, f2, t2⟩
  refine z_vret dX12_beginsText_24 rfl rfl ?_
  have eK : mK m2 = (mV (m a_tape) n, n, wn) := (mK_fr f2 (by decide)).trans kK
  exact ⟨rfl, zfr_tr z1 (zfr_sub f2 (by decide)), ⟨ptM_rd hm1 f2, by rw [zfr_at (j := f_end) f2 (by decide), k1]; exact hn, by rw [zfr_at (j := f_withNumbers) f2 (by decide), k4]; exact hwn, by unfold mWd; rw [zfr_cell (a := a_words) (zfr_tr z1 (zfr_sub f2 (by decide))) (by decide)]; exact hB.2⟩, (zfr_at f2 (by decide)).trans k3, eK, t2⟩

theorem x_ends (d : Nat) {E : zE} {m : zM} (hE : shM E) (hB : ptM m ∧ True) : zR zX12_endsText (d) [zP aM] m E E (fun r m' => r = none ∧ zfr fEt m m' ∧ m' aM f_taped = 0 ∧ m' aM f_faultKind = m aM f_wrong ∧ m' aM f_faultAt = (if 0 < m aM f_wrong then m aM f_wrongAt else -1) ∧ m' aM f_status = (if 0 < m aM f_wrong then 9 else 0)) := by
  have hm := hB.1
  refine zR_go [zP aM] (by decide +kernel) (Nat.le_of_ble_eq_true rfl) rfl rfl ?_
  refine z_aload_n dX12_endsText_0 rfl ?_
  refine z_iconst dX12_endsText_1 (by decide) ?_
  refine z_pI f_taped rfl (fpX12_447 _) dX12_endsText_2 (sh_M hE) rfl ?_
  refine z_aload_n dX12_endsText_5 rfl ?_
  refine z_aload_n dX12_endsText_6 rfl ?_
  refine z_gIv f_wrong rfl flX12_487 dX12_endsText_7 (sh_M hE) rfl (zu_j (by decide)) ?_
  refine z_pI f_faultKind rfl (fpX12_79 _) dX12_endsText_10 (sh_M hE) rfl ?_
  refine z_aload_n dX12_endsText_13 rfl ?_
  refine z_aload_n dX12_endsText_14 rfl ?_
  refine z_gIv f_wrong rfl flX12_487 dX12_endsText_15 (sh_M hE) rfl (Eq.trans (zu_j (by decide)) (zu_j (by decide))) ?_
  refine z_if_le (tgt := 28) dX12_endsText_18 rfl (fun h18 => ?_) (fun h18 => ?_)
  · refine z_iconst dX12_endsText_28 (by decide) ?_
    refine z_pI f_faultAt rfl (fpX12_83 _) dX12_endsText_29 (sh_M hE) rfl ?_
    refine z_aload_n dX12_endsText_32 rfl ?_
    refine z_aload_n dX12_endsText_33 rfl ?_
    refine z_gIv f_wrong rfl flX12_487 dX12_endsText_34 (sh_M hE) rfl (Eq.trans (zu_j (by decide)) (Eq.trans (zu_j (by decide)) (zu_j (by decide)))) ?_
    refine z_if_le (tgt := 45) dX12_endsText_37 rfl (fun h37 => ?_) (fun h => absurd (by omega) h)
    refine z_iconst dX12_endsText_45 (by decide) ?_
    refine z_pI f_status rfl (fpX12_117 _) dX12_endsText_46 (sh_M hE) rfl ?_
    refine z_vret dX12_endsText_49 rfl rfl ?_
    rw [if_neg (by omega), if_neg (by omega)]
    exact ⟨rfl, zfr_uj (zfr_uj (zfr_uj (zfr_uj zfr_rf (by decide)) (by decide)) (by decide)) (by decide), (zu_j (by decide)).trans ((zu_j (by decide)).trans ((zu_j (by decide)).trans zu_s)), (zu_j (by decide)).trans ((zu_j (by decide)).trans zu_s), (zu_j (by decide)).trans zu_s, zu_s⟩
  · refine z_aload_n dX12_endsText_21 rfl ?_
    refine z_gIv f_wrongAt rfl flX12_490 dX12_endsText_22 (sh_M hE) rfl (Eq.trans (zu_j (by decide)) (zu_j (by decide))) ?_
    refine z_goto (tgt := 29) dX12_endsText_25 rfl ?_
    refine z_pI f_faultAt rfl (fpX12_83 _) dX12_endsText_29 (sh_M hE) rfl ?_
    refine z_aload_n dX12_endsText_32 rfl ?_
    refine z_aload_n dX12_endsText_33 rfl ?_
    refine z_gIv f_wrong rfl flX12_487 dX12_endsText_34 (sh_M hE) rfl (Eq.trans (zu_j (by decide)) (Eq.trans (zu_j (by decide)) (zu_j (by decide)))) ?_
    refine z_if_le (tgt := 45) dX12_endsText_37 rfl (fun h => absurd h (by omega)) (fun h37 => ?_)
    refine z_bipush dX12_endsText_40 rfl (by decide) ?_
    refine z_goto (tgt := 46) dX12_endsText_42 rfl ?_
    refine z_pI f_status rfl (fpX12_117 _) dX12_endsText_46 (sh_M hE) rfl ?_
    refine z_vret dX12_endsText_49 rfl rfl ?_
    rw [if_pos (by omega), if_pos (by omega)]
    exact ⟨rfl, zfr_uj (zfr_uj (zfr_uj (zfr_uj zfr_rf (by decide)) (by decide)) (by decide)) (by decide), (zu_j (by decide)).trans ((zu_j (by decide)).trans ((zu_j (by decide)).trans zu_s)), (zu_j (by decide)).trans ((zu_j (by decide)).trans zu_s), (zu_j (by decide)).trans zu_s, zu_s⟩

theorem l_load_a (d : Nat) {E : zE} {m : zM} {P : Option zV → zM → Prop} (hE : shM E) (hm : ptM m) (n : Int)  : ∀ (j : Nat) (k : Int) (m1 : zM), (0 ≤ k) → (k + j = 104) → (zfr [(a_whole, none)] m m1) → (∀ x, 0 ≤ x → x < k → m1 a_whole x = m a_c x) → (∀ m2, zfr [(a_whole, none)] m m2 → (∀ x, 0 ≤ x → x < 104 → m2 a_whole x = m a_c x) → zA zX12_load (d + 6) E E P 52 [zP aM, zI n, zN] [] m2 E) → zA zX12_load (d + 6) E E P 28 [zP aM, zI n, zI k] [] m1 E := by
  intro j
  induction j with
  | zero =>
    intro k m1 h0 hk hf hv hP
    have hm1 : ptM m1 := ptM_wh hm (zfr_sub hf (by decide))
    have hc : m1 a_c = m a_c := zfr_cell hf (by decide)
    refine z_iload_n dX12_load_28 rfl ?_
    refine z_bipush dX12_load_29 rfl (by decide) ?_
    refine z_icmp_ge (tgt := 52) dX12_load_31 rfl (fun h31 => ?_) (fun h => absurd (by omega) h)
    refine zA_wk [_, _, zN] (by exact ⟨Or.inr rfl, Or.inr rfl, Or.inl rfl, trivial⟩) ?_
    exact hP m1 hf (fun x q0 q1 => hv x q0 (by omega))
  | succ j ih =>
    intro k m1 h0 hk hf hv hP
    have hm1 : ptM m1 := ptM_wh hm (zfr_sub hf (by decide))
    have hc : m1 a_c = m a_c := zfr_cell hf (by decide)
    refine z_iload_n dX12_load_28 rfl ?_
    refine z_bipush dX12_load_29 rfl (by decide) ?_
    refine z_icmp_ge (tgt := 52) dX12_load_31 rfl (fun h => absurd h (by omega)) (fun h31 => ?_)
    refine z_aload_n dX12_load_34 rfl ?_
    refine z_gP 1 rfl (r := a_whole) flX12_13 dX12_load_35 (sh_M hE) rfl (pt_whole hm1) (by decide) ?_
    refine z_iload_n dX12_load_38 rfl ?_
    refine z_aload_n dX12_load_39 rfl ?_
    refine z_gP 0 rfl (r := a_c) flX12_7 dX12_load_40 (sh_M hE) rfl (pt_c hm1) (by decide) ?_
    refine z_iload_n dX12_load_43 rfl ?_
    refine z_iald dX12_load_44 (sh_c hE) (by omega) (by omega) ?_
    refine z_iast dX12_load_45 (sh_whole hE) (by omega) (by omega) ?_
    refine z_inc dX12_load_46 rfl (by omega) ?_
    refine z_goto (tgt := 28) dX12_load_49 rfl ?_
    try dsimp only [zs0, zsI, zsP, zsN, zsJ, zsS, zst2, Nat.reduceAdd]
    refine ih (k + 1) _ (by omega) (by omega) (zfr_ua hf (by decide)) (fun x q0 q1 => ?_) hP
    by_cases e : x = k
    · rw [e, zu_s, hc]
    · rw [zu_j e]; exact hv x q0 (by omega)

theorem l_load_b (d : Nat) {E : zE} {m : zM} {P : Option zV → zM → Prop} (hE : shM E) (hm : ptM m) (n : Int)  : ∀ (j : Nat) (k : Int) (m1 : zM), (0 ≤ k) → (k + j = 104) → (zfr [(a_c, none)] m m1) → (∀ x, m1 a_c x = if 0 ≤ x ∧ x < k then 0 else m a_c x) → (∀ m2, zfr [(a_c, none)] m m2 → m2 a_c = cZ (m a_c) → zA zX12_load (d + 6) E E P 73 [zP aM, zI n, zN] [] m2 E) → zA zX12_load (d + 6) E E P 54 [zP aM, zI n, zI k] [] m1 E := by
  intro j
  induction j with
  | zero =>
    intro k m1 h0 hk hf hv hP
    have hm1 : ptM m1 := ptM_ed hm (zfr_sub hf (by decide))
    refine z_iload_n dX12_load_54 rfl ?_
    refine z_bipush dX12_load_55 rfl (by decide) ?_
    refine z_icmp_ge (tgt := 73) dX12_load_57 rfl (fun h57 => ?_) (fun h => absurd (by omega) h)
    refine zA_wk [_, _, zN] (by exact ⟨Or.inr rfl, Or.inr rfl, Or.inl rfl, trivial⟩) ?_
    exact hP m1 hf (by funext x; rw [hv x]; unfold cZ; rw [show k = 104 by omega])
  | succ j ih =>
    intro k m1 h0 hk hf hv hP
    have hm1 : ptM m1 := ptM_ed hm (zfr_sub hf (by decide))
    refine z_iload_n dX12_load_54 rfl ?_
    refine z_bipush dX12_load_55 rfl (by decide) ?_
    refine z_icmp_ge (tgt := 73) dX12_load_57 rfl (fun h => absurd h (by omega)) (fun h57 => ?_)
    refine z_aload_n dX12_load_60 rfl ?_
    refine z_gP 0 rfl (r := a_c) flX12_7 dX12_load_61 (sh_M hE) rfl (pt_c hm1) (by decide) ?_
    refine z_iload_n dX12_load_64 rfl ?_
    refine z_iconst dX12_load_65 (by decide) ?_
    refine z_iast dX12_load_66 (sh_c hE) (by omega) (by omega) ?_
    refine z_inc dX12_load_67 rfl (by omega) ?_
    refine z_goto (tgt := 54) dX12_load_70 rfl ?_
    try dsimp only [zs0, zsI, zsP, zsN, zsJ, zsS, zst2, Nat.reduceAdd]
    refine ih (k + 1) _ (by omega) (by omega) (zfr_ua hf (by decide)) (fun x => ?_) hP
    by_cases e : x = k
    · rw [e, zu_s, if_pos (by omega)]
    · rw [zu_j e, hv x]
      by_cases e2 : 0 ≤ x ∧ x < k
      · rw [if_pos e2, if_pos (by omega)]
      · rw [if_neg e2, if_neg (by omega)]

theorem l_load_c (d : Nat) {E : zE} {m : zM} {P : Option zV → zM → Prop} (hE : shM E) (hm : ptM m) (n : Int)  : ∀ (j : Nat) (k : Int) (m1 : zM), (0 ≤ k) → (k + j = 104) → (zfr [(a_c, none)] m m1) → (∀ x, m1 a_c x = if 0 ≤ x ∧ x < k then m a_whole x else m a_c x) → (∀ m2, zfr [(a_c, none)] m m2 → (∀ x, m2 a_c x = if 0 ≤ x ∧ x < 104 then m a_whole x else m a_c x) → P (some (zI (-1))) m2) → zA zX12_load (d + 6) E E P 113 [zP aM, zI n, zI k] [] m1 E := by
  intro j
  induction j with
  | zero =>
    intro k m1 h0 hk hf hv hP
    have hm1 : ptM m1 := ptM_ed hm (zfr_sub hf (by decide))
    have hc : m1 a_whole = m a_whole := zfr_cell hf (by decide)
    refine z_iload_n dX12_load_113 rfl ?_
    refine z_bipush dX12_load_114 rfl (by decide) ?_
    refine z_icmp_ge (tgt := 137) dX12_load_116 rfl (fun h116 => ?_) (fun h => absurd (by omega) h)
    refine z_iconst dX12_load_137 (by decide) ?_
    refine z_iret dX12_load_138 rfl rfl ?_
    exact hP m1 hf (fun x => by rw [hv x, show k = 104 by omega])
  | succ j ih =>
    intro k m1 h0 hk hf hv hP
    have hm1 : ptM m1 := ptM_ed hm (zfr_sub hf (by decide))
    have hc : m1 a_whole = m a_whole := zfr_cell hf (by decide)
    refine z_iload_n dX12_load_113 rfl ?_
    refine z_bipush dX12_load_114 rfl (by decide) ?_
    refine z_icmp_ge (tgt := 137) dX12_load_116 rfl (fun h => absurd h (by omega)) (fun h116 => ?_)
    refine z_aload_n dX12_load_119 rfl ?_
    refine z_gP 0 rfl (r := a_c) flX12_7 dX12_load_120 (sh_M hE) rfl (pt_c hm1) (by decide) ?_
    refine z_iload_n dX12_load_123 rfl ?_
    refine z_aload_n dX12_load_124 rfl ?_
    refine z_gP 1 rfl (r := a_whole) flX12_13 dX12_load_125 (sh_M hE) rfl (pt_whole hm1) (by decide) ?_
    refine z_iload_n dX12_load_128 rfl ?_
    refine z_iald dX12_load_129 (sh_whole hE) (by omega) (by omega) ?_
    refine z_iast dX12_load_130 (sh_c hE) (by omega) (by omega) ?_
    refine z_inc dX12_load_131 rfl (by omega) ?_
    refine z_goto (tgt := 113) dX12_load_134 rfl ?_
    try dsimp only [zs0, zsI, zsP, zsN, zsJ, zsS, zst2, Nat.reduceAdd]
    refine ih (k + 1) _ (by omega) (by omega) (zfr_ua hf (by decide)) (fun x => ?_) hP
    by_cases e : x = k
    · rw [e, zu_s, if_pos (by omega), hc]
    · rw [zu_j e, hv x]
      by_cases e2 : 0 ≤ x ∧ x < k
      · rw [if_pos e2, if_pos (by omega)]
      · rw [if_neg e2, if_neg (by omega)]

theorem l_load_t (d : Nat) {E : zE} {P : Option zV → zM → Prop} (hE : shM E) (n : Int) : ∀ (j : Nat) (p : Int) (m : zM), mB m → m aM f_wrong = 0 → mTk m p → cInv (m a_c) → 401 ≤ p + j → (∀ m2, mPr m m2 (pText (mK m) j (m a_c) p) → zA zX12_load (d + 6) E E P 100 [zP aM, zI n, zN] [] m2 E) → zA zX12_load (d + 6) E E P 79 [zP aM, zI n, zN] [] m E := by
  intro j
  induction j with
  | zero =>
    intro p m hB hw ht hcv hj hP
    have hm := hB.1
    have hok := mK_ok hB.2.1
    have hz : kSo (mK m) p = 0 := Classical.byContradiction (fun h => by have h1 := kSo_lt hok h; have h2 := hB.2.1.2; have h3 : (mK m).2.1 = m aM f_end := rfl; omega)
    refine z_aload_n dX12_load_79 rfl ?_
    refine z_gIv f_wrong rfl flX12_487 dX12_load_80 (sh_M hE) rfl hw ?_
    refine z_if_ne (tgt := 100) dX12_load_83 rfl (fun h => absurd h (by omega)) (fun h83 => ?_)
    refine z_aload_n dX12_load_86 rfl ?_
    refine z_gIv f_sort rfl flX12_471 dX12_load_87 (sh_M hE) rfl ht.2.2.2.1 ?_
    refine z_if_eq (tgt := 100) dX12_load_90 rfl (fun h90 => ?_) (fun h => absurd hz h)
    exact hP m ⟨zfr_rf, hw, fun h => absurd rfl h, fun _ => ⟨rfl, ht⟩, fun x hx => rfl⟩
  | succ j ih =>
    intro p m hB hw ht hcv hj hP
    have hm := hB.1
    have hok := mK_ok hB.2.1
    refine z_aload_n dX12_load_79 rfl ?_
    refine z_gIv f_wrong rfl flX12_487 dX12_load_80 (sh_M hE) rfl hw ?_
    refine z_if_ne (tgt := 100) dX12_load_83 rfl (fun h => absurd h (by omega)) (fun h83 => ?_)
    refine z_aload_n dX12_load_86 rfl ?_
    refine z_gIv f_sort rfl flX12_471 dX12_load_87 (sh_M hE) rfl ht.2.2.2.1 ?_
    refine z_if_eq (tgt := 100) dX12_load_90 rfl (fun h90 => ?_) (fun h90 => ?_)
    · rw [pText_s, if_pos h90] at hP
      exact hP m ⟨zfr_rf, hw, fun h => absurd rfl h, fun _ => ⟨rfl, ht⟩, fun x hx => rfl⟩
    · refine z_aload_n dX12_load_93 rfl ?_
      refine z_callV mlX12_536 dX12_load_94 (sh_M hE) (av := _) rfl rfl (Nat.le_of_ble_eq_true rfl) (x_line _ hE hB hw p ht hcv.1 h90) (Nat.le_refl _) (Nat.le_refl _) (Nat.le_refl _) (Nat.le_refl _) ?_
      rintro _ m2 ⟨rfl, g⟩
      rw [pText_s, if_neg h90] at hP
      obtain ⟨r, er⟩ : ∃ r, r = pLine (mK m) (m a_c) p := ⟨_, rfl⟩
      rw [← er] at g hP
      obtain ⟨z2, hw2, g2, g3, g4⟩ := g
      have hB2 := mB_fr hB (zfr_sub z2 (by decide))
      have hm2 : ptM m2 := hB2.1
      have hK2 : mK m2 = mK m := mK_fr z2 (by decide)
      have hnn : 0 ≤ r.1 := er ▸ pLine_nn _ _ _
      by_cases e0 : r.1 = 0
      · obtain ⟨gc, gt⟩ := g3 e0
        have hok2 : cInv r.2.2.1 ∧ p + 1 ≤ r.2.2.2 := by
          rw [er] at e0 ⊢
          exact pLine_ok hok hcv e0
        rw [if_neg (not_not_intro e0)] at hP
        refine z_goto (tgt := 79) dX12_load_97 rfl ?_
        refine ih r.2.2.2 m2 hB2 (hw2.trans e0) gt (by rw [gc]; exact hok2.1) (by omega) (fun m3 g3' => hP m3 ?_)
        rw [hK2, gc] at g3'
        exact ⟨zfr_tr z2 g3'.1, g3'.2.1, g3'.2.2.1, g3'.2.2.2.1, fun x hx => (g3'.2.2.2.2 x hx).trans (g4 x hx)⟩
      · rw [if_pos e0] at hP
        refine z_goto (tgt := 79) dX12_load_97 rfl ?_
        refine z_aload_n dX12_load_79 rfl ?_
        refine z_gIv f_wrong rfl flX12_487 dX12_load_80 (sh_M hE) rfl hw2 ?_
        refine z_if_ne (tgt := 100) dX12_load_83 rfl (fun h83 => ?_) (fun h => absurd (by omega) h)
        exact hP m2 ⟨z2, hw2, fun _ => g2 e0, fun h => absurd h e0, g4⟩
