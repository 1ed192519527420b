theorem w_isWord (d : Nat) {E : zE} {m : zM} (hE : shM E) (hB : mB m) (hw : 0 < m aM f_wrong) (w : Int) : zR zX12_isWord (d) [zP aM, zI w] m E E (fun r m' => r = some (zI (zb False)) ∧ m = m') := zR_imp (y_isWord d hE hB hw w) (fun r m' g => ⟨g.1.trans (by rw [zb_f (fun h => h)]), g.2⟩)
theorem w_isSign (d : Nat) {E : zE} {m : zM} (hE : shM E) (hB : mB m) (hw : 0 < m aM f_wrong) (w : Int) : zR zX12_isSign (d) [zP aM, zI w] m E E (fun r m' => r = some (zI (zb False)) ∧ m = m') := zR_imp (y_isSign d hE hB hw w) (fun r m' g => ⟨g.1.trans (by rw [zb_f (fun h => h)]), g.2⟩)
abbrev zPr : Type := Int × Int × (Int → Int) × Int
def fTh : List (Int × Option Int) := [(aM, some f_place), (aM, some f_next), (aM, some f_sort), (aM, some f_word), (aM, some f_number), (aM, some f_size), (aM, some f_wrong), (aM, some f_wrongAt), (a_c, none)]
/-- what a reader of a theory leaves -/
def mPr (m m' : zM) (r : zPr) : Prop := zfr fTh m m' ∧ m' aM f_wrong = r.1 ∧ (r.1 ≠ 0 → m' aM f_wrongAt = r.2.1) ∧ (r.1 = 0 → m' a_c = r.2.2.1 ∧ mTk m' r.2.2.2) ∧ ∀ x, (x < 0 ∨ 104 ≤ x) → m' a_c x = m a_c x
def cAddF (c : Int → Int) (l a b : Int) : Int → Int := fun x => if x = 0 then c 0 + 1 else if x = 4 + 3 * c 0 + 2 then b else if x = 4 + 3 * c 0 + 1 then a else if x = 4 + 3 * c 0 then l else c x
theorem cAddF_u {m : zM} {c : Int → Int} {l l2 a b : Int} (hl : l2 = l) (h : m a_c = c) : cAddF c l a b = zu (zu (zu (zu m a_c (4 + 3 * c 0) l2) a_c (4 + 3 * c 0 + 1) a) a_c (4 + 3 * c 0 + 2) b) a_c 0 (c 0 + 1) a_c := by
  subst hl
  funext x
  unfold cAddF
  by_cases e : x = 0
  · rw [if_pos e, e, zu_s]
  · rw [if_neg e, zu_j e]
    by_cases e1 : x = 4 + 3 * c 0 + 2
    · rw [if_pos e1, e1, zu_s]
    · rw [if_neg e1, zu_j e1]
      by_cases e2 : x = 4 + 3 * c 0 + 1
      · rw [if_pos e2, e2, zu_s]
      · rw [if_neg e2, zu_j e2]
        by_cases e3 : x = 4 + 3 * c 0
        · rw [if_pos e3, e3, zu_s]
        · rw [if_neg e3, zu_j e3, h]
theorem mTk_c {m m' : zM} {p : Int} (f : zfr [(a_c, none)] m m') (h : mTk m p) : mTk m' p := mTk_K h (mK_fr f (by decide)) (zfr_at f (by decide)) (zfr_at f (by decide)) (zfr_at f (by decide)) (zfr_at f (by decide)) (zfr_at f (by decide)) (zfr_at f (by decide))
theorem zl2i_id {a : Int} (h : 0 ≤ a ∧ a < 2147483648) : zl2i a = a := by
  have := zl2i_N (a := a.toNat) (by omega)
  rw [show ((a.toNat : Nat) : Int) = a by omega] at this
  exact this
theorem kW_1 {K : zK} {p : Int} (h : kSo K p = 1 ∧ kSz K p = 1) : kW K p = K.1 p - 96 ∧ 1 ≤ kW K p ∧ kW K p ≤ 26 := by
  have hl := kSo_1.mp h.1
  have h2 := h.2
  unfold kSz kNx at h2
  rw [if_pos hl] at h2
  have e : kW K p = K.1 p - 96 := by
    unfold kW
    rw [h2]
    show (if 0 < 8 then 27 * (0 : Int) + K.1 (p + ((0 : Nat) : Int)) - 96 else -1) = _
    rw [if_pos (by decide), Int.natCast_zero, Int.add_zero]
    omega
  have := kL_iff.mp hl
  omega
theorem cFld_rg {c : Int → Int} {v : Int} (h : 0 ≤ c 0 ∧ c 0 ≤ 6) (h0 : 0 ≤ cFld c v) : cFld c v < c 0 ∧ c (4 + 3 * cFld c v) = v := by
  unfold cFld at h0 ⊢
  rcases zfst_ge (p := fun f => decide (c (4 + 3 * f) = v)) (j := (c 0).toNat) (k := 0) (by omega) with ⟨e, _⟩ | ⟨e1, e2, e3, e4⟩
  · omega
  · exact ⟨by omega, by simpa using e3⟩
/-- field: its letter, its sort, whether odd -/
def pField (K : zK) (c : Int → Int) (p : Int) : zPr :=
  if ¬ c 0 < 6 then (6, p, c, p) else if ¬ (kSo K (kR K p) = 1 ∧ kSz K (kR K p) = 1) then (kMis K (kR K p), kR K p, c, p)
  else if 0 ≤ cFld c (kW K (kR K p)) then (5, kR K p, c, p)
  else if ¬ (kWd K (kR K (kR K p)) 315918 ∨ kWd K (kR K (kR K p)) 357978) then (kMis K (kR K (kR K p)), kR K (kR K p), c, p)
  else (0, 0, cAddF c (kW K (kR K p)) (zb (kWd K (kR K (kR K p)) 315918)) (zb (kWd K (kR K (kR K (kR K p))) 11047)), if kWd K (kR K (kR K (kR K p))) 11047 then kR K (kR K (kR K (kR K p))) else kR K (kR K (kR K p)))
theorem v_fieldHere (d : Nat) {E : zE} {m : zM} (hE : shM E) (hB : mB m) (hw : m aM f_wrong = 0) (p : Int) (ht : mTk m p) (hc : 0 ≤ m a_c 0 ∧ m a_c 0 ≤ 6) : zR zX12_fieldHere (d + 1) [zP aM] m E E (fun r m' => ((kSo (mK m) p = 1 ∧ kSz (mK m) p = 1) ∧ r = some (zI (cFld (m a_c) (kW (mK m) p))) ∧ m = m') ∨ (¬ (kSo (mK m) p = 1 ∧ kSz (mK m) p = 1) ∧ r = some (zI (-1)) ∧ mBad m (kMis (mK m) p) p = m')) := by
  by_cases h : kSo (mK m) p = 1 ∧ kSz (mK m) p = 1
  · exact zR_imp (x_fieldHere d hE hB hw p ht hc h.1 h.2) (fun r m' g => Or.inl ⟨h, g.1, g.2⟩)
  · exact zR_imp (x_fieldHereF d hE hB hw p ht h) (fun r m' g => Or.inr ⟨h, g.1, g.2⟩)
theorem v_fieldTold (d : Nat) {E : zE} {m : zM} (hE : shM E) (hB : mB m) (hw : m aM f_wrong = 0) (p : Int) (ht : mTk m p) (hc : 0 ≤ m a_c 0 ∧ m a_c 0 ≤ 6) : zR zX12_fieldTold (d + 2) [zP aM] m E E (fun r m' => ((kSo (mK m) p = 1 ∧ kSz (mK m) p = 1) ∧ 0 ≤ cFld (m a_c) (kW (mK m) p) ∧ r = some (zI (cFld (m a_c) (kW (mK m) p))) ∧ m = m') ∨ ((kSo (mK m) p = 1 ∧ kSz (mK m) p = 1) ∧ ¬ 0 ≤ cFld (m a_c) (kW (mK m) p) ∧ r = some (zI (cFld (m a_c) (kW (mK m) p))) ∧ mBad m 3 p = m') ∨ (¬ (kSo (mK m) p = 1 ∧ kSz (mK m) p = 1) ∧ r = some (zI (-1)) ∧ mBad m (kMis (mK m) p) p = m')) := by
  by_cases h : kSo (mK m) p = 1 ∧ kSz (mK m) p = 1
  · by_cases h2 : 0 ≤ cFld (m a_c) (kW (mK m) p)
    · exact zR_imp (x_fieldTold d hE hB hw p ht hc h.1 h.2 h2) (fun r m' g => Or.inl ⟨h, h2, g.1, g.2⟩)
    · exact zR_imp (x_fieldToldN d hE hB hw p ht hc h.1 h.2 h2) (fun r m' g => Or.inr (Or.inl ⟨h, h2, g.1, g.2⟩))
  · exact zR_imp (x_fieldToldF d hE hB hw p ht h) (fun r m' g => Or.inr (Or.inr ⟨h, g.1, g.2⟩))

theorem x_readsField (d : Nat) {E : zE} {m : zM} (hE : shM E) (hB : mB m) (hw : m aM f_wrong = 0) (p : Int) (ht : mTk m p) (hc0 : 0 ≤ m a_c 0 ∧ m a_c 0 ≤ 6) (hne : kSo (mK m) p ≠ 0) : zR zX12_readsField (d + 4) [zP aM] m E E (fun r m' => r = none ∧ mPr m m' (pField (mK m) (m a_c) p)) := by
  have hm := hB.1
  have hB0 := hB
  have hw0 := hw
  have ht0 := ht
  have hK0 : mK m = mK m := rfl
  have hn0 : m aM f_end = m aM f_end := rfl
  have hm0 := hm
  have hok := mK_ok hB.2.1
  have z0 : zfr fTh m m := zfr_rf
  have ha_c0 : m a_c = m a_c := rfl
  refine zR_go [zP aM, zN, zN, zN, zN, zN] (by decide +kernel) (Nat.le_of_ble_eq_true rfl) rfl rfl ?_
  refine z_aload_n dX12_readsField_0 rfl ?_
  refine z_aload_n dX12_readsField_1 rfl ?_
  refine z_gP 0 rfl (r := a_c) flX12_7 dX12_readsField_2 (sh_M hE) rfl (pt_c hm) (by decide) ?_
  refine z_iconst dX12_readsField_5 (by decide) ?_
  refine z_iald dX12_readsField_6 (sh_c hE) (by omega) (by omega) ?_
  refine z_bipush dX12_readsField_7 rfl (by decide) ?_
  refine z_icmp_ge (tgt := 16) dX12_readsField_9 rfl (fun h9 => ?_) (fun h9 => ?_)
  · refine z_iconst dX12_readsField_16 (by decide) ?_
    refine z_bipush dX12_readsField_17 rfl (by decide) ?_
    refine z_callV mlX12_493 dX12_readsField_19 (sh_M hE) (av := [_, _]) rfl rfl (Nat.le_of_ble_eq_true rfl) (x_mustK _ hE hB0 hw0 p ht0 6 (by decide)) (Nat.le_refl _) (Nat.le_refl _) (Nat.le_refl _) (Nat.le_refl _) ?_
    rintro _ m1 ⟨rfl, b1⟩
    have hB1 : mB m1 := b1 ▸ mB_bad hB0
    have hw1 : m1 aM f_wrong = 6 := b1 ▸ mBad_w
    have ha1 : m1 aM f_wrongAt = p := b1 ▸ mBad_a
    have z1 : zfr fTh m m1 := b1 ▸ zfr_uj (zfr_uj z0 (by decide)) (by decide)
    have hd1 : 0 < m1 aM f_wrong := by rw [hw1]; first | exact kMis_pos | decide
    have hm1 : ptM m1 := hB1.1
    have ha_c1 : m1 a_c = m a_c := b1 ▸ (zu_fn (by decide)).trans (zu_fn (by decide))
    refine z_aload_n dX12_readsField_22 rfl ?_
    refine z_gIv f_wrong rfl flX12_487 dX12_readsField_23 (sh_M hE) rfl hw1 ?_
    refine z_if_ne (tgt := 33) dX12_readsField_26 rfl (fun h26 => ?_) (fun h => absurd (by omega) h)
    refine z_aload_n dX12_readsField_33 rfl ?_
    refine z_callV mlX12_500 dX12_readsField_34 (sh_M hE) (av := _) rfl rfl (Nat.le_of_ble_eq_true rfl) (y_fieldHere _ hE hB1 hd1) (Nat.le_refl _) (Nat.le_refl _) (Nat.le_refl _) (Nat.le_refl _) ?_
    rintro _ _ ⟨rfl, rfl⟩
    refine z_ist 1 dX12_readsField_37 rfl (Nat.le_of_ble_eq_true rfl) ?_
    refine z_aload_n dX12_readsField_38 rfl ?_
    refine z_iload_n dX12_readsField_39 rfl ?_
    try dsimp only [zs0, zsI, zsP, zsN, zsJ, zsS, zst2, Nat.reduceAdd]
    refine z_if_ge (tgt := 47) dX12_readsField_40 rfl (fun h => absurd h (by decide)) (fun h40 => ?_)
    refine z_iconst dX12_readsField_43 (by decide) ?_
    refine z_goto (tgt := 48) dX12_readsField_44 rfl ?_
    refine z_iconst dX12_readsField_48 (by decide) ?_
    refine z_callV mlX12_493 dX12_readsField_49 (sh_M hE) (av := [_, _]) rfl rfl (Nat.le_of_ble_eq_true rfl) (x_mustT _ hE hB1 _ 5 (Or.inr hd1)) (Nat.le_refl _) (Nat.le_refl _) (Nat.le_refl _) (Nat.le_refl _) ?_
    rintro _ _ ⟨rfl, rfl⟩
    refine z_aload_n dX12_readsField_52 rfl ?_
    refine z_gJ f_word rfl flX12_474 dX12_readsField_53 (sh_M hE) rfl ?_
    refine z_l2i dX12_readsField_56 ?_
    refine z_ist 2 dX12_readsField_57 rfl (Nat.le_of_ble_eq_true rfl) ?_
    refine z_aload_n dX12_readsField_58 rfl ?_
    refine z_gIv f_wrong rfl flX12_487 dX12_readsField_59 (sh_M hE) rfl hw1 ?_
    try dsimp only [zs0, zsI, zsP, zsN, zsJ, zsS, zst2, Nat.reduceAdd]
    refine z_if_ne (tgt := 69) dX12_readsField_62 rfl (fun h62 => ?_) (fun h => absurd (by omega) h)
    refine z_aload_n dX12_readsField_69 rfl ?_
    refine z_iconst dX12_readsField_70 (by decide) ?_
    refine z_callV mlX12_503 dX12_readsField_71 (sh_M hE) (av := [_]) rfl rfl (Nat.le_of_ble_eq_true rfl) (w_isWord _ hE hB1 hd1 2) (Nat.le_refl _) (Nat.le_refl _) (Nat.le_refl _) (Nat.le_refl _) ?_
    rintro _ _ ⟨rfl, rfl⟩
    refine z_ist 3 dX12_readsField_74 rfl (Nat.le_of_ble_eq_true rfl) ?_
    refine z_aload_n dX12_readsField_75 rfl ?_
    refine z_iload_n dX12_readsField_76 rfl ?_
    try dsimp only [zs0, zsI, zsP, zsN, zsJ, zsS, zst2, Nat.reduceAdd]
    refine z_ifz_ne (tgt := 88) dX12_readsField_77 rfl (fun h => absurd h (by decide)) (fun h77 => ?_)
    refine z_aload_n dX12_readsField_80 rfl ?_
    refine z_iconst dX12_readsField_81 (by decide) ?_
    refine z_callV mlX12_503 dX12_readsField_82 (sh_M hE) (av := [_]) rfl rfl (Nat.le_of_ble_eq_true rfl) (w_isWord _ hE hB1 hd1 1) (Nat.le_refl _) (Nat.le_refl _) (Nat.le_refl _) (Nat.le_refl _) ?_
    rintro _ _ ⟨rfl, rfl⟩
    refine z_ifz_eq (tgt := 92) dX12_readsField_85 rfl (fun h85 => ?_) (fun h => absurd h (by decide))
    refine z_iconst dX12_readsField_92 (by decide) ?_
    refine z_callV mlX12_506 dX12_readsField_93 (sh_M hE) (av := [_]) rfl rfl (Nat.le_of_ble_eq_true rfl) (y_takes _ hE hB1 hd1 _) (Nat.le_refl _) (Nat.le_refl _) (Nat.le_refl _) (Nat.le_refl _) ?_
    rintro _ _ ⟨rfl, rfl⟩
    refine z_aload_n dX12_readsField_96 rfl ?_
    refine z_iconst dX12_readsField_97 (by decide) ?_
    refine z_callV mlX12_503 dX12_readsField_98 (sh_M hE) (av := [_]) rfl rfl (Nat.le_of_ble_eq_true rfl) (w_isWord _ hE hB1 hd1 3) (Nat.le_refl _) (Nat.le_refl _) (Nat.le_refl _) (Nat.le_refl _) ?_
    rintro _ _ ⟨rfl, rfl⟩
    refine z_istore dX12_readsField_101 (Nat.le_of_ble_eq_true rfl) ?_
    refine z_iload dX12_readsField_103 rfl ?_
    try dsimp only [zs0, zsI, zsP, zsN, zsJ, zsS, zst2, Nat.reduceAdd]
    refine z_ifz_eq (tgt := 112) dX12_readsField_105 rfl (fun h105 => ?_) (fun h => absurd h (by decide))
    refine z_aload_n dX12_readsField_112 rfl ?_
    refine z_gIv f_wrong rfl flX12_487 dX12_readsField_113 (sh_M hE) rfl hw1 ?_
    refine z_if_le (tgt := 120) dX12_readsField_116 rfl (fun h => absurd h (by omega)) (fun h116 => ?_)
    refine z_vret dX12_readsField_119 rfl rfl ?_
    have eA : pField (mK m) (m a_c) p = (6, p, m a_c, p) := by unfold pField; rw [if_pos (by omega)]
    rw [eA]
    refine ⟨rfl, ?_⟩
    exact ⟨z1, hw1, fun _ => ha1, fun h => absurd (show (6 : Int) = 0 from h) (by first | exact kMis_ne | decide), fun x hx => congrFun ha_c1 x⟩
  · refine z_iconst dX12_readsField_12 (by decide) ?_
    refine z_goto (tgt := 17) dX12_readsField_13 rfl ?_
    refine z_bipush dX12_readsField_17 rfl (by decide) ?_
    refine z_callV mlX12_493 dX12_readsField_19 (sh_M hE) (av := [_, _]) rfl rfl (Nat.le_of_ble_eq_true rfl) (x_mustT _ hE hB0 1 6 (Or.inl (by decide))) (Nat.le_refl _) (Nat.le_refl _) (Nat.le_refl _) (Nat.le_refl _) ?_
    rintro _ _ ⟨rfl, rfl⟩
    refine z_aload_n dX12_readsField_22 rfl ?_
    refine z_gIv f_wrong rfl flX12_487 dX12_readsField_23 (sh_M hE) rfl hw0 ?_
    refine z_if_ne (tgt := 33) dX12_readsField_26 rfl (fun h => absurd h (by omega)) (fun h26 => ?_)
    refine z_aload_n dX12_readsField_29 rfl ?_
    refine z_callV mlX12_497 dX12_readsField_30 (sh_M hE) (av := _) rfl rfl (Nat.le_of_ble_eq_true rfl) (x_reads _ hE hB0 hw0 p ht0 (by rw [hn0]; exact kSo_lt hok hne)) (Nat.le_refl _) (Nat.le_refl _) (Nat.le_refl _) (Nat.le_refl _) ?_
    rintro _ m1 ⟨rfl, f1, t1⟩
    have hB1 := mB_fr hB0 (zfr_sub f1 (by decide))
    have hK1 : mK m1 = mK m := (mK_fr f1 (by decide)).trans hK0
    have hw1 : m1 aM f_wrong = 0 := (zfr_at f1 (by decide)).trans hw0
    have z1 : zfr fTh m m1 := zfr_tr z0 (zfr_sub f1 (by decide))
    have hn1 : m1 aM f_end = m aM f_end := (zfr_at f1 (by decide)).trans hn0
    have hm1 : ptM m1 := hB1.1
    have ha_c1 : m1 a_c = m a_c := (zfr_cell f1 (by decide)).trans ha_c0
    rw [hK0] at t1
    obtain ⟨p1, e1⟩ : ∃ x, x = kR (mK m) p := ⟨_, rfl⟩
    rw [← e1] at t1
    have ht1 := t1
    refine z_aload_n dX12_readsField_33 rfl ?_
    refine z_callV mlX12_500 dX12_readsField_34 (sh_M hE) (av := _) rfl rfl (Nat.le_of_ble_eq_true rfl) (by have h := v_fieldHere (d + 2) hE hB1 hw1 p1 ht1 (by rw [ha_c1]; exact hc0); rw [hK1, ha_c1] at h; exact h) (Nat.le_refl _) (Nat.le_refl _) (Nat.le_refl _) (Nat.le_refl _) ?_
    rintro _ m2 (⟨g2, rfl, rfl⟩ | ⟨g2, rfl, b2⟩)
    · refine z_ist 1 dX12_readsField_37 rfl (Nat.le_of_ble_eq_true rfl) ?_
      refine z_aload_n dX12_readsField_38 rfl ?_
      refine z_iload_n dX12_readsField_39 rfl ?_
      try dsimp only [zs0, zsI, zsP, zsN, zsJ, zsS, zst2, Nat.reduceAdd]
      refine z_if_ge (tgt := 47) dX12_readsField_40 rfl (fun h40 => ?_) (fun h40 => ?_)
      · refine z_iconst dX12_readsField_47 (by decide) ?_
        refine z_iconst dX12_readsField_48 (by decide) ?_
        refine z_callV mlX12_493 dX12_readsField_49 (sh_M hE) (av := [_, _]) rfl rfl (Nat.le_of_ble_eq_true rfl) (x_mustK _ hE hB1 hw1 p1 ht1 5 (by decide)) (Nat.le_refl _) (Nat.le_refl _) (Nat.le_refl _) (Nat.le_refl _) ?_
        rintro _ m2 ⟨rfl, b2⟩
        have hB2 : mB m2 := b2 ▸ mB_bad hB1
        have hw2 : m2 aM f_wrong = 5 := b2 ▸ mBad_w
        have ha2 : m2 aM f_wrongAt = p1 := b2 ▸ mBad_a
        have z2 : zfr fTh m m2 := b2 ▸ zfr_uj (zfr_uj z1 (by decide)) (by decide)
        have hd2 : 0 < m2 aM f_wrong := by rw [hw2]; first | exact kMis_pos | decide
        have hm2 : ptM m2 := hB2.1
        have ha_c2 : m2 a_c = m a_c := (b2 ▸ (zu_fn (by decide)).trans (zu_fn (by decide)) : m2 a_c = m1 a_c).trans ha_c1
        refine z_aload_n dX12_readsField_52 rfl ?_
        refine z_gJ f_word rfl flX12_474 dX12_readsField_53 (sh_M hE) rfl ?_
        refine z_l2i dX12_readsField_56 ?_
        refine z_ist 2 dX12_readsField_57 rfl (Nat.le_of_ble_eq_true rfl) ?_
        refine z_aload_n dX12_readsField_58 rfl ?_
        refine z_gIv f_wrong rfl flX12_487 dX12_readsField_59 (sh_M hE) rfl hw2 ?_
        try dsimp only [zs0, zsI, zsP, zsN, zsJ, zsS, zst2, Nat.reduceAdd]
        refine z_if_ne (tgt := 69) dX12_readsField_62 rfl (fun h62 => ?_) (fun h => absurd (by omega) h)
        refine z_aload_n dX12_readsField_69 rfl ?_
        refine z_iconst dX12_readsField_70 (by decide) ?_
        refine z_callV mlX12_503 dX12_readsField_71 (sh_M hE) (av := [_]) rfl rfl (Nat.le_of_ble_eq_true rfl) (w_isWord _ hE hB2 hd2 2) (Nat.le_refl _) (Nat.le_refl _) (Nat.le_refl _) (Nat.le_refl _) ?_
        rintro _ _ ⟨rfl, rfl⟩
        refine z_ist 3 dX12_readsField_74 rfl (Nat.le_of_ble_eq_true rfl) ?_
        refine z_aload_n dX12_readsField_75 rfl ?_
        refine z_iload_n dX12_readsField_76 rfl ?_
        try dsimp only [zs0, zsI, zsP, zsN, zsJ, zsS, zst2, Nat.reduceAdd]
        refine z_ifz_ne (tgt := 88) dX12_readsField_77 rfl (fun h => absurd h (by decide)) (fun h77 => ?_)
        refine z_aload_n dX12_readsField_80 rfl ?_
        refine z_iconst dX12_readsField_81 (by decide) ?_
        refine z_callV mlX12_503 dX12_readsField_82 (sh_M hE) (av := [_]) rfl rfl (Nat.le_of_ble_eq_true rfl) (w_isWord _ hE hB2 hd2 1) (Nat.le_refl _) (Nat.le_refl _) (Nat.le_refl _) (Nat.le_refl _) ?_
        rintro _ _ ⟨rfl, rfl⟩
        refine z_ifz_eq (tgt := 92) dX12_readsField_85 rfl (fun h85 => ?_) (fun h => absurd h (by decide))
        refine z_iconst dX12_readsField_92 (by decide) ?_
        refine z_callV mlX12_506 dX12_readsField_93 (sh_M hE) (av := [_]) rfl rfl (Nat.le_of_ble_eq_true rfl) (y_takes _ hE hB2 hd2 _) (Nat.le_refl _) (Nat.le_refl _) (Nat.le_refl _) (Nat.le_refl _) ?_
        rintro _ _ ⟨rfl, rfl⟩
        refine z_aload_n dX12_readsField_96 rfl ?_
        refine z_iconst dX12_readsField_97 (by decide) ?_
        refine z_callV mlX12_503 dX12_readsField_98 (sh_M hE) (av := [_]) rfl rfl (Nat.le_of_ble_eq_true rfl) (w_isWord _ hE hB2 hd2 3) (Nat.le_refl _) (Nat.le_refl _) (Nat.le_refl _) (Nat.le_refl _) ?_
        rintro _ _ ⟨rfl, rfl⟩
        refine z_istore dX12_readsField_101 (Nat.le_of_ble_eq_true rfl) ?_
        refine z_iload dX12_readsField_103 rfl ?_
        try dsimp only [zs0, zsI, zsP, zsN, zsJ, zsS, zst2, Nat.reduceAdd]
        refine z_ifz_eq (tgt := 112) dX12_readsField_105 rfl (fun h105 => ?_) (fun h => absurd h (by decide))
        refine z_aload_n dX12_readsField_112 rfl ?_
        refine z_gIv f_wrong rfl flX12_487 dX12_readsField_113 (sh_M hE) rfl hw2 ?_
        refine z_if_le (tgt := 120) dX12_readsField_116 rfl (fun h => absurd h (by omega)) (fun h116 => ?_)
        refine z_vret dX12_readsField_119 rfl rfl ?_
        have eA : pField (mK m) (m a_c) p = (5, p1, m a_c, p) := by unfold pField; rw [if_neg (by omega), ← e1, if_neg (not_not_intro g2), if_pos (by omega)]
        rw [eA]
        refine ⟨rfl, ?_⟩
        exact ⟨z2, hw2, fun _ => ha2, fun h => absurd (show (5 : Int) = 0 from h) (by first | exact kMis_ne | decide), fun x hx => congrFun ha_c2 x⟩
      · refine z_iconst dX12_readsField_43 (by decide) ?_
        refine z_goto (tgt := 48) dX12_readsField_44 rfl ?_
        refine z_iconst dX12_readsField_48 (by decide) ?_
        refine z_callV mlX12_493 dX12_readsField_49 (sh_M hE) (av := [_, _]) rfl rfl (Nat.le_of_ble_eq_true rfl) (x_mustT _ hE hB1 1 5 (Or.inl (by decide))) (Nat.le_refl _) (Nat.le_refl _) (Nat.le_refl _) (Nat.le_refl _) ?_
        rintro _ _ ⟨rfl, rfl⟩
        refine z_aload_n dX12_readsField_52 rfl ?_
        refine z_gJv f_word rfl flX12_474 dX12_readsField_53 (sh_M hE) rfl (show m1 aM f_word = kW (mK m) p1 by have h := ht1.2.2.2.2.2.1 (by rw [hK1]; exact g2.1); rw [hK1] at h; exact h) ?_
        refine z_l2i dX12_readsField_56 ?_
        refine z_ist 2 dX12_readsField_57 rfl (Nat.le_of_ble_eq_true rfl) ?_
        refine z_aload_n dX12_readsField_58 rfl ?_
        refine z_gIv f_wrong rfl flX12_487 dX12_readsField_59 (sh_M hE) rfl hw1 ?_
        try dsimp only [zs0, zsI, zsP, zsN, zsJ, zsS, zst2, Nat.reduceAdd]
        refine z_if_ne (tgt := 69) dX12_readsField_62 rfl (fun h => absurd h (by omega)) (fun h62 => ?_)
        refine z_aload_n dX12_readsField_65 rfl ?_
        refine z_callV mlX12_497 dX12_readsField_66 (sh_M hE) (av := _) rfl rfl (Nat.le_of_ble_eq_true rfl) (x_reads _ hE hB1 hw1 p1 ht1 (by rw [hn1]; exact kSo_lt hok (by rw [g2.1]; decide))) (Nat.le_refl _) (Nat.le_refl _) (Nat.le_refl _) (Nat.le_refl _) ?_
        rintro _ m2 ⟨rfl, f2, t2⟩
        have hB2 := mB_fr hB1 (zfr_sub f2 (by decide))
        have hK2 : mK m2 = mK m := (mK_fr f2 (by decide)).trans hK1
        have hw2 : m2 aM f_wrong = 0 := (zfr_at f2 (by decide)).trans hw1
        have z2 : zfr fTh m m2 := zfr_tr z1 (zfr_sub f2 (by decide))
        have hn2 : m2 aM f_end = m aM f_end := (zfr_at f2 (by decide)).trans hn1
        have hm2 : ptM m2 := hB2.1
        have ha_c2 : m2 a_c = m a_c := (zfr_cell f2 (by decide)).trans ha_c1
        rw [hK1] at t2
        obtain ⟨p2, e2⟩ : ∃ x, x = kR (mK m) p1 := ⟨_, rfl⟩
        rw [← e2] at t2
        have ht2 := t2
        refine z_aload_n dX12_readsField_69 rfl ?_
        refine z_iconst dX12_readsField_70 (by decide) ?_
        refine z_callV mlX12_503 dX12_readsField_71 (sh_M hE) (av := [_]) rfl rfl (Nat.le_of_ble_eq_true rfl) (by have h := x_isWord (d + 3) hE hB2 hw2 p2 ht2 2 315918 (by decide) (by decide) hB2.2.2.2.2.2.1; rw [hK2] at h; exact h) (Nat.le_refl _) (Nat.le_refl _) (Nat.le_refl _) (Nat.le_refl _) ?_
        rintro _ _ ⟨rfl, rfl⟩
        refine z_ist 3 dX12_readsField_74 rfl (Nat.le_of_ble_eq_true rfl) ?_
        refine z_aload_n dX12_readsField_75 rfl ?_
        refine z_iload_n dX12_readsField_76 rfl ?_
        try dsimp only [zs0, zsI, zsP, zsN, zsJ, zsS, zst2, Nat.reduceAdd]
        refine z_ifz_ne (tgt := 88) dX12_readsField_77 rfl (fun h77 => ?_) (fun h77 => ?_)
        · refine z_iconst dX12_readsField_88 (by decide) ?_
          refine z_goto (tgt := 93) dX12_readsField_89 rfl ?_
          refine z_callV mlX12_506 dX12_readsField_93 (sh_M hE) (av := [_]) rfl rfl (Nat.le_of_ble_eq_true rfl) (x_takesT _ hE hB2 hw2 p2 ht2 (by rw [hn2]; exact kSo_lt hok (by omega))) (Nat.le_refl _) (Nat.le_refl _) (Nat.le_refl _) (Nat.le_refl _) ?_
          rintro _ m3 ⟨rfl, f3, t3⟩
          have hB3 := mB_fr hB2 (zfr_sub f3 (by decide))
          have hK3 : mK m3 = mK m := (mK_fr f3 (by decide)).trans hK2
          have hw3 : m3 aM f_wrong = 0 := (zfr_at f3 (by decide)).trans hw2
          have z3 : zfr fTh m m3 := zfr_tr z2 (zfr_sub f3 (by decide))
          have hn3 : m3 aM f_end = m aM f_end := (zfr_at f3 (by decide)).trans hn2
          have hm3 : ptM m3 := hB3.1
          have ha_c3 : m3 a_c = m a_c := (zfr_cell f3 (by decide)).trans ha_c2
          rw [hK2] at t3
          obtain ⟨p3, e3⟩ : ∃ x, x = kR (mK m) p2 := ⟨_, rfl⟩
          rw [← e3] at t3
          have ht3 := t3
          refine z_aload_n dX12_readsField_96 rfl ?_
          refine z_iconst dX12_readsField_97 (by decide) ?_
          refine z_callV mlX12_503 dX12_readsField_98 (sh_M hE) (av := [_]) rfl rfl (Nat.le_of_ble_eq_true rfl) (by have h := x_isWord (d + 3) hE hB3 hw3 p3 ht3 3 11047 (by decide) (by decide) hB3.2.2.2.2.2.2.1; rw [hK3] at h; exact h) (Nat.le_refl _) (Nat.le_refl _) (Nat.le_refl _) (Nat.le_refl _) ?_
          rintro _ _ ⟨rfl, rfl⟩
          refine z_istore dX12_readsField_101 (Nat.le_of_ble_eq_true rfl) ?_
          refine z_iload dX12_readsField_103 rfl ?_
          try dsimp only [zs0, zsI, zsP, zsN, zsJ, zsS, zst2, Nat.reduceAdd]
          refine z_ifz_eq (tgt := 112) dX12_readsField_105 rfl (fun h105 => ?_) (fun h105 => ?_)
          · refine z_aload_n dX12_readsField_112 rfl ?_
            refine z_gIv f_wrong rfl flX12_487 dX12_readsField_113 (sh_M hE) rfl hw3 ?_
            refine z_if_le (tgt := 120) dX12_readsField_116 rfl (fun h116 => ?_) (fun h => absurd (by omega) h)
            refine z_iconst dX12_readsField_120 (by decide) ?_
            refine z_iconst dX12_readsField_121 (by decide) ?_
            refine z_aload_n dX12_readsField_122 rfl ?_
            refine z_gP 0 rfl (r := a_c) flX12_7 dX12_readsField_123 (sh_M hE) rfl (pt_c hm3) (by decide) ?_
            refine z_iconst dX12_readsField_126 (by decide) ?_
            refine z_ialv dX12_readsField_127 (sh_c hE) (by omega) (by omega) (congrFun ha_c3 0) ?_
            refine z_mul dX12_readsField_128 (by omega) ?_
            refine z_add dX12_readsField_129 (by omega) ?_
            refine z_istore dX12_readsField_130 (Nat.le_of_ble_eq_true rfl) ?_
            refine z_aload_n dX12_readsField_132 rfl ?_
            refine z_gP 0 rfl (r := a_c) flX12_7 dX12_readsField_133 (sh_M hE) rfl (pt_c hm3) (by decide) ?_
            refine z_iload dX12_readsField_136 rfl ?_
            refine z_iload_n dX12_readsField_138 rfl ?_
            refine z_iast dX12_readsField_139 (sh_c hE) (by omega) (by omega) ?_
            refine z_aload_n dX12_readsField_140 rfl ?_
            refine z_gP 0 rfl (r := a_c) flX12_7 dX12_readsField_141 (sh_M hE) rfl (pt_c (ptM_a hm3 (by decide))) (by decide) ?_
            refine z_iload dX12_readsField_144 rfl ?_
            refine z_iconst dX12_readsField_146 (by decide) ?_
            refine z_add dX12_readsField_147 (by omega) ?_
            refine z_iload_n dX12_readsField_148 rfl ?_
            try dsimp only [zs0, zsI, zsP, zsN, zsJ, zsS, zst2, Nat.reduceAdd]
            refine z_ifz_eq (tgt := 156) dX12_readsField_149 rfl (fun h => absurd h77 h) (fun h149 => ?_)
            refine z_iconst dX12_readsField_152 (by decide) ?_
            refine z_goto (tgt := 157) dX12_readsField_153 rfl ?_
            refine z_iast dX12_readsField_157 (sh_c hE) (by omega) (by omega) ?_
            refine z_aload_n dX12_readsField_158 rfl ?_
            refine z_gP 0 rfl (r := a_c) flX12_7 dX12_readsField_159 (sh_M hE) rfl (pt_c (ptM_a (ptM_a hm3 (by decide)) (by decide))) (by decide) ?_
            refine z_iload dX12_readsField_162 rfl ?_
            refine z_iconst dX12_readsField_164 (by decide) ?_
            refine z_add dX12_readsField_165 (by omega) ?_
            refine z_iload dX12_readsField_166 rfl ?_
            refine z_ifz_eq (tgt := 175) dX12_readsField_168 rfl (fun h168 => ?_) (fun h => absurd h h105)
            refine z_iconst dX12_readsField_175 (by decide) ?_
            refine z_iast dX12_readsField_176 (sh_c hE) (by omega) (by omega) ?_
            refine z_aload_n dX12_readsField_177 rfl ?_
            refine z_gP 0 rfl (r := a_c) flX12_7 dX12_readsField_178 (sh_M hE) rfl (pt_c (ptM_a (ptM_a (ptM_a hm3 (by decide)) (by decide)) (by decide))) (by decide) ?_
            refine z_iconst dX12_readsField_181 (by decide) ?_
            refine z_dup2 dX12_readsField_182 rfl rfl ?_
            refine z_ialv dX12_readsField_183 (sh_c hE) (by omega) (by omega) ((zu_j (by omega)).trans ((zu_j (by omega)).trans ((zu_j (by omega)).trans (congrFun ha_c3 0)))) ?_
            refine z_iconst dX12_readsField_184 (by decide) ?_
            refine z_add dX12_readsField_185 (by omega) ?_
            refine z_iast dX12_readsField_186 (sh_c hE) (by omega) (by omega) ?_
            refine z_vret dX12_readsField_187 rfl rfl ?_
            have eA : pField (mK m) (m a_c) p = (0, 0, cAddF (m a_c) (kW (mK m) p1) 1 0, p3) := by
              unfold pField
              rw [if_neg (by omega), ← e1, if_neg (not_not_intro g2), if_neg (by omega), ← e2, if_neg (not_not_intro (Or.inl h77)), ← e3, zb_t h77, zb_f h105, if_neg h105]
            rw [eA]
            refine ⟨rfl, ?_⟩
            refine ⟨zfr_ua (zfr_ua (zfr_ua (zfr_ua z3 (by decide)) (by decide)) (by decide)) (by decide), (zu_a (by decide)).trans ((zu_a (by decide)).trans ((zu_a (by decide)).trans ((zu_a (by decide)).trans hw3))), fun h => absurd rfl h, fun _ => ⟨?_, ?_⟩, fun x hx => (zu_j (by omega)).trans ((zu_j (by omega)).trans ((zu_j (by omega)).trans ((zu_j (by omega)).trans (congrFun ha_c3 x))))⟩
            · exact (cAddF_u (l := kW (mK m) p1) (zl2i_id (by have h := kW_1 g2; omega)) ha_c3).symm
            · exact mTk_c (zfr_ua (zfr_ua (zfr_ua (zfr_ua zfr_rf (by decide)) (by decide)) (by decide)) (by decide)) ht3
          · refine z_aload_n dX12_readsField_108 rfl ?_
            refine z_callV mlX12_497 dX12_readsField_109 (sh_M hE) (av := _) rfl rfl (Nat.le_of_ble_eq_true rfl) (x_reads _ hE hB3 hw3 p3 ht3 (by rw [hn3]; exact kSo_lt hok (by omega))) (Nat.le_refl _) (Nat.le_refl _) (Nat.le_refl _) (Nat.le_refl _) ?_
            rintro _ m4 ⟨rfl, f4, t4⟩
            have hB4 := mB_fr hB3 (zfr_sub f4 (by decide))
            have hK4 : mK m4 = mK m := (mK_fr f4 (by decide)).trans hK3
            have hw4 : m4 aM f_wrong = 0 := (zfr_at f4 (by decide)).trans hw3
            have z4 : zfr fTh m m4 := zfr_tr z3 (zfr_sub f4 (by decide))
            have hn4 : m4 aM f_end = m aM f_end := (zfr_at f4 (by decide)).trans hn3
            have hm4 : ptM m4 := hB4.1
            have ha_c4 : m4 a_c = m a_c := (zfr_cell f4 (by decide)).trans ha_c3
            rw [hK3] at t4
            obtain ⟨p4, e4⟩ : ∃ x, x = kR (mK m) p3 := ⟨_, rfl⟩
            rw [← e4] at t4
            have ht4 := t4
            refine z_aload_n dX12_readsField_112 rfl ?_
            refine z_gIv f_wrong rfl flX12_487 dX12_readsField_113 (sh_M hE) rfl hw4 ?_
            refine z_if_le (tgt := 120) dX12_readsField_116 rfl (fun h116 => ?_) (fun h => absurd (by omega) h)
            refine z_iconst dX12_readsField_120 (by decide) ?_
            refine z_iconst dX12_readsField_121 (by decide) ?_
            refine z_aload_n dX12_readsField_122 rfl ?_
            refine z_gP 0 rfl (r := a_c) flX12_7 dX12_readsField_123 (sh_M hE) rfl (pt_c hm4) (by decide) ?_
            refine z_iconst dX12_readsField_126 (by decide) ?_
            refine z_ialv dX12_readsField_127 (sh_c hE) (by omega) (by omega) (congrFun ha_c4 0) ?_
            refine z_mul dX12_readsField_128 (by omega) ?_
            refine z_add dX12_readsField_129 (by omega) ?_
            refine z_istore dX12_readsField_130 (Nat.le_of_ble_eq_true rfl) ?_
            refine z_aload_n dX12_readsField_132 rfl ?_
            refine z_gP 0 rfl (r := a_c) flX12_7 dX12_readsField_133 (sh_M hE) rfl (pt_c hm4) (by decide) ?_
            refine z_iload dX12_readsField_136 rfl ?_
            refine z_iload_n dX12_readsField_138 rfl ?_
            refine z_iast dX12_readsField_139 (sh_c hE) (by omega) (by omega) ?_
            refine z_aload_n dX12_readsField_140 rfl ?_
            refine z_gP 0 rfl (r := a_c) flX12_7 dX12_readsField_141 (sh_M hE) rfl (pt_c (ptM_a hm4 (by decide))) (by decide) ?_
            refine z_iload dX12_readsField_144 rfl ?_
            refine z_iconst dX12_readsField_146 (by decide) ?_
            refine z_add dX12_readsField_147 (by omega) ?_
            refine z_iload_n dX12_readsField_148 rfl ?_
            try dsimp only [zs0, zsI, zsP, zsN, zsJ, zsS, zst2, Nat.reduceAdd]
            refine z_ifz_eq (tgt := 156) dX12_readsField_149 rfl (fun h => absurd h77 h) (fun h149 => ?_)
            refine z_iconst dX12_readsField_152 (by decide) ?_
            refine z_goto (tgt := 157) dX12_readsField_153 rfl ?_
            refine z_iast dX12_readsField_157 (sh_c hE) (by omega) (by omega) ?_
            refine z_aload_n dX12_readsField_158 rfl ?_
            refine z_gP 0 rfl (r := a_c) flX12_7 dX12_readsField_159 (sh_M hE) rfl (pt_c (ptM_a (ptM_a hm4 (by decide)) (by decide))) (by decide) ?_
            refine z_iload dX12_readsField_162 rfl ?_
            refine z_iconst dX12_readsField_164 (by decide) ?_
            refine z_add dX12_readsField_165 (by omega) ?_
            refine z_iload dX12_readsField_166 rfl ?_
            refine z_ifz_eq (tgt := 175) dX12_readsField_168 rfl (fun h => absurd h105 h) (fun h168 => ?_)
            refine z_iconst dX12_readsField_171 (by decide) ?_
            refine z_goto (tgt := 176) dX12_readsField_172 rfl ?_
            refine z_iast dX12_readsField_176 (sh_c hE) (by omega) (by omega) ?_
            refine z_aload_n dX12_readsField_177 rfl ?_
            refine z_gP 0 rfl (r := a_c) flX12_7 dX12_readsField_178 (sh_M hE) rfl (pt_c (ptM_a (ptM_a (ptM_a hm4 (by decide)) (by decide)) (by decide))) (by decide) ?_
            refine z_iconst dX12_readsField_181 (by decide) ?_
            refine z_dup2 dX12_readsField_182 rfl rfl ?_
            refine z_ialv dX12_readsField_183 (sh_c hE) (by omega) (by omega) ((zu_j (by omega)).trans ((zu_j (by omega)).trans ((zu_j (by omega)).trans (congrFun ha_c4 0)))) ?_
            refine z_iconst dX12_readsField_184 (by decide) ?_
            refine z_add dX12_readsField_185 (by omega) ?_
            refine z_iast dX12_readsField_186 (sh_c hE) (by omega) (by omega) ?_
            refine z_vret dX12_readsField_187 rfl rfl ?_
            have eA : pField (mK m) (m a_c) p = (0, 0, cAddF (m a_c) (kW (mK m) p1) 1 1, p4) := by
              unfold pField
              rw [if_neg (by omega), ← e1, if_neg (not_not_intro g2), if_neg (by omega), ← e2, if_neg (not_not_intro (Or.inl h77)), ← e3, zb_t h77, zb_t h105, if_pos h105, ← e4]
            rw [eA]
            refine ⟨rfl, ?_⟩
            refine ⟨zfr_ua (zfr_ua (zfr_ua (zfr_ua z4 (by decide)) (by decide)) (by decide)) (by decide), (zu_a (by decide)).trans ((zu_a (by decide)).trans ((zu_a (by decide)).trans ((zu_a (by decide)).trans hw4))), fun h => absurd rfl h, fun _ => ⟨?_, ?_⟩, fun x hx => (zu_j (by omega)).trans ((zu_j (by omega)).trans ((zu_j (by omega)).trans ((zu_j (by omega)).trans (congrFun ha_c4 x))))⟩
            · exact (cAddF_u (l := kW (mK m) p1) (zl2i_id (by have h := kW_1 g2; omega)) ha_c4).symm
            · exact mTk_c (zfr_ua (zfr_ua (zfr_ua (zfr_ua zfr_rf (by decide)) (by decide)) (by decide)) (by decide)) ht4
        · refine z_aload_n dX12_readsField_80 rfl ?_
          refine z_iconst dX12_readsField_81 (by decide) ?_
          refine z_callV mlX12_503 dX12_readsField_82 (sh_M hE) (av := [_]) rfl rfl (Nat.le_of_ble_eq_true rfl) (by have h := x_isWord (d + 3) hE hB2 hw2 p2 ht2 1 357978 (by decide) (by decide) hB2.2.2.2.2.1; rw [hK2] at h; exact h) (Nat.le_refl _) (Nat.le_refl _) (Nat.le_refl _) (Nat.le_refl _) ?_
          rintro _ _ ⟨rfl, rfl⟩
          refine z_ifz_eq (tgt := 92) dX12_readsField_85 rfl (fun h85 => ?_) (fun h85 => ?_)
          · refine z_iconst dX12_readsField_92 (by decide) ?_
            refine z_callV mlX12_506 dX12_readsField_93 (sh_M hE) (av := [_]) rfl rfl (Nat.le_of_ble_eq_true rfl) (by have h := x_takesF (d) hE hB2 hw2 p2 ht2; rw [hK2] at h; exact h) (Nat.le_refl _) (Nat.le_refl _) (Nat.le_refl _) (Nat.le_refl _) ?_
            rintro _ m3 ⟨rfl, b3⟩
            have hB3 : mB m3 := b3 ▸ mB_bad hB2
            have hw3 : m3 aM f_wrong = kMis (mK m) p2 := b3 ▸ mBad_w
            have ha3 : m3 aM f_wrongAt = p2 := b3 ▸ mBad_a
            have z3 : zfr fTh m m3 := b3 ▸ zfr_uj (zfr_uj z2 (by decide)) (by decide)
            have hd3 : 0 < m3 aM f_wrong := by rw [hw3]; first | exact kMis_pos | decide
            have hm3 : ptM m3 := hB3.1
            have ha_c3 : m3 a_c = m a_c := (b3 ▸ (zu_fn (by decide)).trans (zu_fn (by decide)) : m3 a_c = m2 a_c).trans ha_c2
            refine z_aload_n dX12_readsField_96 rfl ?_
            refine z_iconst dX12_readsField_97 (by decide) ?_
            refine z_callV mlX12_503 dX12_readsField_98 (sh_M hE) (av := [_]) rfl rfl (Nat.le_of_ble_eq_true rfl) (w_isWord _ hE hB3 hd3 3) (Nat.le_refl _) (Nat.le_refl _) (Nat.le_refl _) (Nat.le_refl _) ?_
            rintro _ _ ⟨rfl, rfl⟩
            refine z_istore dX12_readsField_101 (Nat.le_of_ble_eq_true rfl) ?_
            refine z_iload dX12_readsField_103 rfl ?_
            try dsimp only [zs0, zsI, zsP, zsN, zsJ, zsS, zst2, Nat.reduceAdd]
            refine z_ifz_eq (tgt := 112) dX12_readsField_105 rfl (fun h105 => ?_) (fun h => absurd h (by decide))
            refine z_aload_n dX12_readsField_112 rfl ?_
            refine z_gIv f_wrong rfl flX12_487 dX12_readsField_113 (sh_M hE) rfl hw3 ?_
            refine z_if_le (tgt := 120) dX12_readsField_116 rfl (fun h => absurd h (by omega)) (fun h116 => ?_)
            refine z_vret dX12_readsField_119 rfl rfl ?_
            have eA : pField (mK m) (m a_c) p = (kMis (mK m) p2, p2, m a_c, p) := by unfold pField; rw [if_neg (by omega), ← e1, if_neg (not_not_intro g2), if_neg (by omega), ← e2, if_pos (by rintro (h | h); exact h77 h; exact h85 h)]
            rw [eA]
            refine ⟨rfl, ?_⟩
            exact ⟨z3, hw3, fun _ => ha3, fun h => absurd (show (kMis (mK m) p2 : Int) = 0 from h) (by first | exact kMis_ne | decide), fun x hx => congrFun ha_c3 x⟩
          · refine z_iconst dX12_readsField_88 (by decide) ?_
            refine z_goto (tgt := 93) dX12_readsField_89 rfl ?_
            refine z_callV mlX12_506 dX12_readsField_93 (sh_M hE) (av := [_]) rfl rfl (Nat.le_of_ble_eq_true rfl) (x_takesT _ hE hB2 hw2 p2 ht2 (by rw [hn2]; exact kSo_lt hok (by omega))) (Nat.le_refl _) (Nat.le_refl _) (Nat.le_refl _) (Nat.le_refl _) ?_
            rintro _ m3 ⟨rfl, f3, t3⟩
            have hB3 := mB_fr hB2 (zfr_sub f3 (by decide))
            have hK3 : mK m3 = mK m := (mK_fr f3 (by decide)).trans hK2
            have hw3 : m3 aM f_wrong = 0 := (zfr_at f3 (by decide)).trans hw2
            have z3 : zfr fTh m m3 := zfr_tr z2 (zfr_sub f3 (by decide))
            have hn3 : m3 aM f_end = m aM f_end := (zfr_at f3 (by decide)).trans hn2
            have hm3 : ptM m3 := hB3.1
            have ha_c3 : m3 a_c = m a_c := (zfr_cell f3 (by decide)).trans ha_c2
            rw [hK2] at t3
            obtain ⟨p3, e3⟩ : ∃ x, x = kR (mK m) p2 := ⟨_, rfl⟩
            rw [← e3] at t3
            have ht3 := t3
            refine z_aload_n dX12_readsField_96 rfl ?_
            refine z_iconst dX12_readsField_97 (by decide) ?_
            refine z_callV mlX12_503 dX12_readsField_98 (sh_M hE) (av := [_]) rfl rfl (Nat.le_of_ble_eq_true rfl) (by have h := x_isWord (d + 3) hE hB3 hw3 p3 ht3 3 11047 (by decide) (by decide) hB3.2.2.2.2.2.2.1; rw [hK3] at h; exact h) (Nat.le_refl _) (Nat.le_refl _) (Nat.le_refl _) (Nat.le_refl _) ?_
            rintro _ _ ⟨rfl, rfl⟩
            refine z_istore dX12_readsField_101 (Nat.le_of_ble_eq_true rfl) ?_
            refine z_iload dX12_readsField_103 rfl ?_
            try dsimp only [zs0, zsI, zsP, zsN, zsJ, zsS, zst2, Nat.reduceAdd]
            refine z_ifz_eq (tgt := 112) dX12_readsField_105 rfl (fun h105 => ?_) (fun h105 => ?_)
            · refine z_aload_n dX12_readsField_112 rfl ?_
              refine z_gIv f_wrong rfl flX12_487 dX12_readsField_113 (sh_M hE) rfl hw3 ?_
              refine z_if_le (tgt := 120) dX12_readsField_116 rfl (fun h116 => ?_) (fun h => absurd (by omega) h)
              refine z_iconst dX12_readsField_120 (by decide) ?_
              refine z_iconst dX12_readsField_121 (by decide) ?_
              refine z_aload_n dX12_readsField_122 rfl ?_
              refine z_gP 0 rfl (r := a_c) flX12_7 dX12_readsField_123 (sh_M hE) rfl (pt_c hm3) (by decide) ?_
              refine z_iconst dX12_readsField_126 (by decide) ?_
              refine z_ialv dX12_readsField_127 (sh_c hE) (by omega) (by omega) (congrFun ha_c3 0) ?_
              refine z_mul dX12_readsField_128 (by omega) ?_
              refine z_add dX12_readsField_129 (by omega) ?_
              refine z_istore dX12_readsField_130 (Nat.le_of_ble_eq_true rfl) ?_
              refine z_aload_n dX12_readsField_132 rfl ?_
              refine z_gP 0 rfl (r := a_c) flX12_7 dX12_readsField_133 (sh_M hE) rfl (pt_c hm3) (by decide) ?_
              refine z_iload dX12_readsField_136 rfl ?_
              refine z_iload_n dX12_readsField_138 rfl ?_
              refine z_iast dX12_readsField_139 (sh_c hE) (by omega) (by omega) ?_
              refine z_aload_n dX12_readsField_140 rfl ?_
              refine z_gP 0 rfl (r := a_c) flX12_7 dX12_readsField_141 (sh_M hE) rfl (pt_c (ptM_a hm3 (by decide))) (by decide) ?_
              refine z_iload dX12_readsField_144 rfl ?_
              refine z_iconst dX12_readsField_146 (by decide) ?_
              refine z_add dX12_readsField_147 (by omega) ?_
              refine z_iload_n dX12_readsField_148 rfl ?_
              try dsimp only [zs0, zsI, zsP, zsN, zsJ, zsS, zst2, Nat.reduceAdd]
              refine z_ifz_eq (tgt := 156) dX12_readsField_149 rfl (fun h149 => ?_) (fun h => absurd h h77)
              refine z_iconst dX12_readsField_156 (by decide) ?_
              refine z_iast dX12_readsField_157 (sh_c hE) (by omega) (by omega) ?_
              refine z_aload_n dX12_readsField_158 rfl ?_
              refine z_gP 0 rfl (r := a_c) flX12_7 dX12_readsField_159 (sh_M hE) rfl (pt_c (ptM_a (ptM_a hm3 (by decide)) (by decide))) (by decide) ?_
              refine z_iload dX12_readsField_162 rfl ?_
              refine z_iconst dX12_readsField_164 (by decide) ?_
              refine z_add dX12_readsField_165 (by omega) ?_
              refine z_iload dX12_readsField_166 rfl ?_
              refine z_ifz_eq (tgt := 175) dX12_readsField_168 rfl (fun h168 => ?_) (fun h => absurd h h105)
              refine z_iconst dX12_readsField_175 (by decide) ?_
              refine z_iast dX12_readsField_176 (sh_c hE) (by omega) (by omega) ?_
              refine z_aload_n dX12_readsField_177 rfl ?_
              refine z_gP 0 rfl (r := a_c) flX12_7 dX12_readsField_178 (sh_M hE) rfl (pt_c (ptM_a (ptM_a (ptM_a hm3 (by decide)) (by decide)) (by decide))) (by decide) ?_
              refine z_iconst dX12_readsField_181 (by decide) ?_
              refine z_dup2 dX12_readsField_182 rfl rfl ?_
              refine z_ialv dX12_readsField_183 (sh_c hE) (by omega) (by omega) ((zu_j (by omega)).trans ((zu_j (by omega)).trans ((zu_j (by omega)).trans (congrFun ha_c3 0)))) ?_
              refine z_iconst dX12_readsField_184 (by decide) ?_
              refine z_add dX12_readsField_185 (by omega) ?_
              refine z_iast dX12_readsField_186 (sh_c hE) (by omega) (by omega) ?_
              refine z_vret dX12_readsField_187 rfl rfl ?_
              have eA : pField (mK m) (m a_c) p = (0, 0, cAddF (m a_c) (kW (mK m) p1) 0 0, p3) := by
                unfold pField
                rw [if_neg (by omega), ← e1, if_neg (not_not_intro g2), if_neg (by omega), ← e2, if_neg (not_not_intro (Or.inr h85)), ← e3, zb_f h77, zb_f h105, if_neg h105]
              rw [eA]
              refine ⟨rfl, ?_⟩
              refine ⟨zfr_ua (zfr_ua (zfr_ua (zfr_ua z3 (by decide)) (by decide)) (by decide)) (by decide), (zu_a (by decide)).trans ((zu_a (by decide)).trans ((zu_a (by decide)).trans ((zu_a (by decide)).trans hw3))), fun h => absurd rfl h, fun _ => ⟨?_, ?_⟩, fun x hx => (zu_j (by omega)).trans ((zu_j (by omega)).trans ((zu_j (by omega)).trans ((zu_j (by omega)).trans (congrFun ha_c3 x))))⟩
              · exact (cAddF_u (l := kW (mK m) p1) (zl2i_id (by have h := kW_1 g2; omega)) ha_c3).symm
              · exact mTk_c (zfr_ua (zfr_ua (zfr_ua (zfr_ua zfr_rf (by decide)) (by decide)) (by decide)) (by decide)) ht3
            · refine z_aload_n dX12_readsField_108 rfl ?_
              refine z_callV mlX12_497 dX12_readsField_109 (sh_M hE) (av := _) rfl rfl (Nat.le_of_ble_eq_true rfl) (x_reads _ hE hB3 hw3 p3 ht3 (by rw [hn3]; exact kSo_lt hok (by omega))) (Nat.le_refl _) (Nat.le_refl _) (Nat.le_refl _) (Nat.le_refl _) ?_
              rintro _ m4 ⟨rfl, f4, t4⟩
              have hB4 := mB_fr hB3 (zfr_sub f4 (by decide))
              have hK4 : mK m4 = mK m := (mK_fr f4 (by decide)).trans hK3
              have hw4 : m4 aM f_wrong = 0 := (zfr_at f4 (by decide)).trans hw3
              have z4 : zfr fTh m m4 := zfr_tr z3 (zfr_sub f4 (by decide))
              have hn4 : m4 aM f_end = m aM f_end := (zfr_at f4 (by decide)).trans hn3
              have hm4 : ptM m4 := hB4.1
              have ha_c4 : m4 a_c = m a_c := (zfr_cell f4 (by decide)).trans ha_c3
              rw [hK3] at t4
              obtain ⟨p4, e4⟩ : ∃ x, x = kR (mK m) p3 := ⟨_, rfl⟩
              rw [← e4] at t4
              have ht4 := t4
              refine z_aload_n dX12_readsField_112 rfl ?_
              refine z_gIv f_wrong rfl flX12_487 dX12_readsField_113 (sh_M hE) rfl hw4 ?_
              refine z_if_le (tgt := 120) dX12_readsField_116 rfl (fun h116 => ?_) (fun h => absurd (by omega) h)
              refine z_iconst dX12_readsField_120 (by decide) ?_
              refine z_iconst dX12_readsField_121 (by decide) ?_
              refine z_aload_n dX12_readsField_122 rfl ?_
              refine z_gP 0 rfl (r := a_c) flX12_7 dX12_readsField_123 (sh_M hE) rfl (pt_c hm4) (by decide) ?_
              refine z_iconst dX12_readsField_126 (by decide) ?_
              refine z_ialv dX12_readsField_127 (sh_c hE) (by omega) (by omega) (congrFun ha_c4 0) ?_
              refine z_mul dX12_readsField_128 (by omega) ?_
              refine z_add dX12_readsField_129 (by omega) ?_
              refine z_istore dX12_readsField_130 (Nat.le_of_ble_eq_true rfl) ?_
              refine z_aload_n dX12_readsField_132 rfl ?_
              refine z_gP 0 rfl (r := a_c) flX12_7 dX12_readsField_133 (sh_M hE) rfl (pt_c hm4) (by decide) ?_
              refine z_iload dX12_readsField_136 rfl ?_
              refine z_iload_n dX12_readsField_138 rfl ?_
              refine z_iast dX12_readsField_139 (sh_c hE) (by omega) (by omega) ?_
              refine z_aload_n dX12_readsField_140 rfl ?_
              refine z_gP 0 rfl (r := a_c) flX12_7 dX12_readsField_141 (sh_M hE) rfl (pt_c (ptM_a hm4 (by decide))) (by decide) ?_
              refine z_iload dX12_readsField_144 rfl ?_
              refine z_iconst dX12_readsField_146 (by decide) ?_
              refine z_add dX12_readsField_147 (by omega) ?_
              refine z_iload_n dX12_readsField_148 rfl ?_
              try dsimp only [zs0, zsI, zsP, zsN, zsJ, zsS, zst2, Nat.reduceAdd]
              refine z_ifz_eq (tgt := 156) dX12_readsField_149 rfl (fun h149 => ?_) (fun h => absurd h h77)
              refine z_iconst dX12_readsField_156 (by decide) ?_
              refine z_iast dX12_readsField_157 (sh_c hE) (by omega) (by omega) ?_
              refine z_aload_n dX12_readsField_158 rfl ?_
              refine z_gP 0 rfl (r := a_c) flX12_7 dX12_readsField_159 (sh_M hE) rfl (pt_c (ptM_a (ptM_a hm4 (by decide)) (by decide))) (by decide) ?_
              refine z_iload dX12_readsField_162 rfl ?_
              refine z_iconst dX12_readsField_164 (by decide) ?_
              refine z_add dX12_readsField_165 (by omega) ?_
              refine z_iload dX12_readsField_166 rfl ?_
              refine z_ifz_eq (tgt := 175) dX12_readsField_168 rfl (fun h => absurd h105 h) (fun h168 => ?_)
              refine z_iconst dX12_readsField_171 (by decide) ?_
              refine z_goto (tgt := 176) dX12_readsField_172 rfl ?_
              refine z_iast dX12_readsField_176 (sh_c hE) (by omega) (by omega) ?_
              refine z_aload_n dX12_readsField_177 rfl ?_
              refine z_gP 0 rfl (r := a_c) flX12_7 dX12_readsField_178 (sh_M hE) rfl (pt_c (ptM_a (ptM_a (ptM_a hm4 (by decide)) (by decide)) (by decide))) (by decide) ?_
              refine z_iconst dX12_readsField_181 (by decide) ?_
              refine z_dup2 dX12_readsField_182 rfl rfl ?_
              refine z_ialv dX12_readsField_183 (sh_c hE) (by omega) (by omega) ((zu_j (by omega)).trans ((zu_j (by omega)).trans ((zu_j (by omega)).trans (congrFun ha_c4 0)))) ?_
              refine z_iconst dX12_readsField_184 (by decide) ?_
              refine z_add dX12_readsField_185 (by omega) ?_
              refine z_iast dX12_readsField_186 (sh_c hE) (by omega) (by omega) ?_
              refine z_vret dX12_readsField_187 rfl rfl ?_
              have eA : pField (mK m) (m a_c) p = (0, 0, cAddF (m a_c) (kW (mK m) p1) 0 1, p4) := by
                unfold pField
                rw [if_neg (by omega), ← e1, if_neg (not_not_intro g2), if_neg (by omega), ← e2, if_neg (not_not_intro (Or.inr h85)), ← e3, zb_f h77, zb_t h105, if_pos h105, ← e4]
              rw [eA]
              refine ⟨rfl, ?_⟩
              refine ⟨zfr_ua (zfr_ua (zfr_ua (zfr_ua z4 (by decide)) (by decide)) (by decide)) (by decide), (zu_a (by decide)).trans ((zu_a (by decide)).trans ((zu_a (by decide)).trans ((zu_a (by decide)).trans hw4))), fun h => absurd rfl h, fun _ => ⟨?_, ?_⟩, fun x hx => (zu_j (by omega)).trans ((zu_j (by omega)).trans ((zu_j (by omega)).trans ((zu_j (by omega)).trans (congrFun ha_c4 x))))⟩
              · exact (cAddF_u (l := kW (mK m) p1) (zl2i_id (by have h := kW_1 g2; omega)) ha_c4).symm
              · exact mTk_c (zfr_ua (zfr_ua (zfr_ua (zfr_ua zfr_rf (by decide)) (by decide)) (by decide)) (by decide)) ht4
    · have hB2 : mB m2 := b2 ▸ mB_bad hB1
      have hw2 : m2 aM f_wrong = kMis (mK m) p1 := b2 ▸ mBad_w
      have ha2 : m2 aM f_wrongAt = p1 := b2 ▸ mBad_a
      have z2 : zfr fTh m m2 := b2 ▸ zfr_uj (zfr_uj z1 (by decide)) (by decide)
      have hd2 : 0 < m2 aM f_wrong := by rw [hw2]; first | exact kMis_pos | decide
      have hm2 : ptM m2 := hB2.1
      have ha_c2 : m2 a_c = m a_c := (b2 ▸ (zu_fn (by decide)).trans (zu_fn (by decide)) : m2 a_c = m1 a_c).trans ha_c1
      refine z_ist 1 dX12_readsField_37 rfl (Nat.le_of_ble_eq_true rfl) ?_
      refine z_aload_n dX12_readsField_38 rfl ?_
      refine z_iload_n dX12_readsField_39 rfl ?_
      try dsimp only [zs0, zsI, zsP, zsN, zsJ, zsS, zst2, Nat.reduceAdd]
      refine z_if_ge (tgt := 47) dX12_readsField_40 rfl (fun h => absurd h (by decide)) (fun h40 => ?_)
      refine z_iconst dX12_readsField_43 (by decide) ?_
      refine z_goto (tgt := 48) dX12_readsField_44 rfl ?_
      refine z_iconst dX12_readsField_48 (by decide) ?_
      refine z_callV mlX12_493 dX12_readsField_49 (sh_M hE) (av := [_, _]) rfl rfl (Nat.le_of_ble_eq_true rfl) (x_mustT _ hE hB2 _ 5 (Or.inr hd2)) (Nat.le_refl _) (Nat.le_refl _) (Nat.le_refl _) (Nat.le_refl _) ?_
      rintro _ _ ⟨rfl, rfl⟩
      refine z_aload_n dX12_readsField_52 rfl ?_
      refine z_gJ f_word rfl flX12_474 dX12_readsField_53 (sh_M hE) rfl ?_
      refine z_l2i dX12_readsField_56 ?_
      refine z_ist 2 dX12_readsField_57 rfl (Nat.le_of_ble_eq_true rfl) ?_
      refine z_aload_n dX12_readsField_58 rfl ?_
      refine z_gIv f_wrong rfl flX12_487 dX12_readsField_59 (sh_M hE) rfl hw2 ?_
      try dsimp only [zs0, zsI, zsP, zsN, zsJ, zsS, zst2, Nat.reduceAdd]
      refine z_if_ne (tgt := 69) dX12_readsField_62 rfl (fun h62 => ?_) (fun h => absurd (by omega) h)
      refine z_aload_n dX12_readsField_69 rfl ?_
      refine z_iconst dX12_readsField_70 (by decide) ?_
      refine z_callV mlX12_503 dX12_readsField_71 (sh_M hE) (av := [_]) rfl rfl (Nat.le_of_ble_eq_true rfl) (w_isWord _ hE hB2 hd2 2) (Nat.le_refl _) (Nat.le_refl _) (Nat.le_refl _) (Nat.le_refl _) ?_
      rintro _ _ ⟨rfl, rfl⟩
      refine z_ist 3 dX12_readsField_74 rfl (Nat.le_of_ble_eq_true rfl) ?_
      refine z_aload_n dX12_readsField_75 rfl ?_
      refine z_iload_n dX12_readsField_76 rfl ?_
      try dsimp only [zs0, zsI, zsP, zsN, zsJ, zsS, zst2, Nat.reduceAdd]
      refine z_ifz_ne (tgt := 88) dX12_readsField_77 rfl (fun h => absurd h (by decide)) (fun h77 => ?_)
      refine z_aload_n dX12_readsField_80 rfl ?_
      refine z_iconst dX12_readsField_81 (by decide) ?_
      refine z_callV mlX12_503 dX12_readsField_82 (sh_M hE) (av := [_]) rfl rfl (Nat.le_of_ble_eq_true rfl) (w_isWord _ hE hB2 hd2 1) (Nat.le_refl _) (Nat.le_refl _) (Nat.le_refl _) (Nat.le_refl _) ?_
      rintro _ _ ⟨rfl, rfl⟩
      refine z_ifz_eq (tgt := 92) dX12_readsField_85 rfl (fun h85 => ?_) (fun h => absurd h (by decide))
      refine z_iconst dX12_readsField_92 (by decide) ?_
      refine z_callV mlX12_506 dX12_readsField_93 (sh_M hE) (av := [_]) rfl rfl (Nat.le_of_ble_eq_true rfl) (y_takes _ hE hB2 hd2 _) (Nat.le_refl _) (Nat.le_refl _) (Nat.le_refl _) (Nat.le_refl _) ?_
      rintro _ _ ⟨rfl, rfl⟩
      refine z_aload_n dX12_readsField_96 rfl ?_
      refine z_iconst dX12_readsField_97 (by decide) ?_
      refine z_callV mlX12_503 dX12_readsField_98 (sh_M hE) (av := [_]) rfl rfl (Nat.le_of_ble_eq_true rfl) (w_isWord _ hE hB2 hd2 3) (Nat.le_refl _) (Nat.le_refl _) (Nat.le_refl _) (Nat.le_refl _) ?_
      rintro _ _ ⟨rfl, rfl⟩
      refine z_istore dX12_readsField_101 (Nat.le_of_ble_eq_true rfl) ?_
      refine z_iload dX12_readsField_103 rfl ?_
      try dsimp only [zs0, zsI, zsP, zsN, zsJ, zsS, zst2, Nat.reduceAdd]
      refine z_ifz_eq (tgt := 112) dX12_readsField_105 rfl (fun h105 => ?_) (fun h => absurd h (by decide))
      refine z_aload_n dX12_readsField_112 rfl ?_
      refine z_gIv f_wrong rfl flX12_487 dX12_readsField_113 (sh_M hE) rfl hw2 ?_
      refine z_if_le (tgt := 120) dX12_readsField_116 rfl (fun h => absurd h (by omega)) (fun h116 => ?_)
      refine z_vret dX12_readsField_119 rfl rfl ?_
      have eA : pField (mK m) (m a_c) p = (kMis (mK m) p1, p1, m a_c, p) := by unfold pField; rw [if_neg (by omega), ← e1, if_pos g2]
      rw [eA]
      refine ⟨rfl, ?_⟩
      exact ⟨z2, hw2, fun _ => ha2, fun h => absurd (show (kMis (mK m) p1 : Int) = 0 from h) (by first | exact kMis_ne | decide), fun x hx => congrFun ha_c2 x⟩
