abbrev zPq : Type := Int × Int × (Int → Int) × Int × Int
def fTw : List (Int × Option Int) := [(aM, some f_place), (aM, some f_next), (aM, some f_sort), (aM, some f_word), (aM, some f_number), (aM, some f_size), (aM, some f_wrong), (aM, some f_wrongAt), (a_mate, none), (aM, some f_wide)]
def mPq (m m' : zM) (r : zPq) : Prop := zfr fTw m m' ∧ m' aM f_wrong = r.1 ∧ (r.1 ≠ 0 → m' aM f_wrongAt = r.2.1) ∧ (r.1 = 0 → m' a_mate = r.2.2.1 ∧ m' aM f_wide = r.2.2.2.1 ∧ mTk m' r.2.2.2.2) ∧ ∀ x, (x < 0 ∨ 12 ≤ x) → m' a_mate x = m a_mate x
theorem kN_rg {K : zK} {p : Int} (h : kSo K p = 2) : 0 ≤ kN K p ∧ kN K p ≤ 99 := by
  have hb := kNn_bd (K := K) (p := p) (i := (kNe K p - p).toNat) (fun x hx => by
    have hg := zrun_ge (p := kD K) (j := (400 - p).toNat) (k := p)
    have hx2 : p + (x : Int) < kNe K p := by omega
    exact zrun_in (j := (400 - p).toNat) (k := p) (by omega) hx2)
  exact ⟨hb.1, hb.2.1⟩
theorem sUp_u {m : zM} {mt : Int → Int} {i j : Int} (h : m a_mate = mt) : zu (zu m a_mate i j) a_mate j i a_mate = sUp mt i j := by
  funext x
  unfold sUp
  by_cases e : x = j
  · rw [if_pos e, e, zu_s]
  · rw [if_neg e, zu_j e]
    by_cases e2 : x = i
    · rw [if_pos e2, e2, zu_s]
    · rw [if_neg e2, zu_j e2, h]
/-- two letters that are told -/
def pTwo (K : zK) (n : Int) (may : Int → Int → Bool) (mt : Int → Int) (w p : Int) : zPq :=
  if ¬ kSo K p = 2 then (kMis K p, p, mt, w, p) else if ¬ kN K p < n then (3, p, mt, w, p) else if 0 ≤ mt (kN K p) then (5, p, mt, w, p) else if n / 2 ≤ w then (6, p, mt, w, p)
  else if ¬ kSn K (kR K p) 45 then (kMis K (kR K p), kR K p, mt, w, p)
  else if ¬ kSo K (kR K (kR K p)) = 2 then (kMis K (kR K (kR K p)), kR K (kR K p), mt, w, p) else if ¬ kN K (kR K (kR K p)) < n then (3, kR K (kR K p), mt, w, p)
  else if ¬ may (kN K p) (kN K (kR K (kR K p))) = true then (4, kR K (kR K p), mt, w, p) else if 0 ≤ mt (kN K (kR K (kR K p))) then (5, kR K (kR K p), mt, w, p)
  else if ¬ kSn K (kR K (kR K (kR K p))) 59 then (kMis K (kR K (kR K (kR K p))), kR K (kR K (kR K p)), mt, w, p)
  else (0, 0, sUp mt (kN K p) (kN K (kR K (kR K p))), w + 1, kR K (kR K (kR K (kR K p))))
theorem x_needs1 (d : Nat) {E : zE} {m : zM} (hE : shM E) (hB : mB m) (hw : m aM f_wrong = 0) (p : Int) (ht : mTk m p) (hi : Int) (h2 : kSo (mK m) p = 2) (h3 : kN (mK m) p < hi) : zR zX12_needsNumber (d + 1) [zP aM, zI hi] m E E (fun r m' => r = none ∧ m = m') := by
  have hm := hB.1
  refine zR_go [zP aM, zI hi] (by decide +kernel) (Nat.le_of_ble_eq_true rfl) rfl rfl ?_
  refine z_aload_n dX12_needsNumber_0 rfl ?_
  refine z_aload_n dX12_needsNumber_1 rfl ?_
  refine z_gIv f_sort rfl flX12_471 dX12_needsNumber_2 (sh_M hE) rfl ht.2.2.2.1 ?_
  refine z_iconst dX12_needsNumber_5 (by decide) ?_
  refine z_icmp_ne (tgt := 13) dX12_needsNumber_6 rfl (fun h => absurd h (by omega)) (fun h6 => ?_)
  refine z_iconst dX12_needsNumber_9 (by decide) ?_
  refine z_goto (tgt := 14) dX12_needsNumber_10 rfl ?_
  refine z_iconst dX12_needsNumber_14 (by decide) ?_
  refine z_callV mlX12_493 dX12_needsNumber_15 (sh_M hE) (av := [_, _]) rfl rfl (Nat.le_of_ble_eq_true rfl) (x_mustT _ hE hB 1 2 (Or.inl (by decide))) (Nat.le_refl _) (Nat.le_refl _) (Nat.le_refl _) (Nat.le_refl _) ?_
  rintro _ _ ⟨rfl, rfl⟩
  refine z_aload_n dX12_needsNumber_18 rfl ?_
  refine z_aload_n dX12_needsNumber_19 rfl ?_
  refine z_gIv f_number rfl flX12_481 dX12_needsNumber_20 (sh_M hE) rfl (ht.2.2.2.2.2.2 h2) ?_
  refine z_iload_n dX12_needsNumber_23 rfl ?_
  refine z_icmp_ge (tgt := 31) dX12_needsNumber_24 rfl (fun h => absurd h (by omega)) (fun h24 => ?_)
  refine z_iconst dX12_needsNumber_27 (by decide) ?_
  refine z_goto (tgt := 32) dX12_needsNumber_28 rfl ?_
  refine z_iconst dX12_needsNumber_32 (by decide) ?_
  refine z_callV mlX12_493 dX12_needsNumber_33 (sh_M hE) (av := [_, _]) rfl rfl (Nat.le_of_ble_eq_true rfl) (x_mustT _ hE hB 1 3 (Or.inl (by decide))) (Nat.le_refl _) (Nat.le_refl _) (Nat.le_refl _) (Nat.le_refl _) ?_
  rintro _ _ ⟨rfl, rfl⟩
  refine z_vret dX12_needsNumber_36 rfl rfl ?_
  exact ⟨rfl, rfl⟩

theorem x_needs2 (d : Nat) {E : zE} {m : zM} (hE : shM E) (hB : mB m) (hw : m aM f_wrong = 0) (p : Int) (ht : mTk m p) (hi : Int) (h2 : kSo (mK m) p = 2) (h3 : ¬ kN (mK m) p < hi) : zR zX12_needsNumber (d + 1) [zP aM, zI hi] m E E (fun r m' => r = none ∧ mBad m 3 p = m') := by
  have hm := hB.1
  refine zR_go [zP aM, zI hi] (by decide +kernel) (Nat.le_of_ble_eq_true rfl) rfl rfl ?_
  refine z_aload_n dX12_needsNumber_0 rfl ?_
  refine z_aload_n dX12_needsNumber_1 rfl ?_
  refine z_gIv f_sort rfl flX12_471 dX12_needsNumber_2 (sh_M hE) rfl ht.2.2.2.1 ?_
  refine z_iconst dX12_needsNumber_5 (by decide) ?_
  refine z_icmp_ne (tgt := 13) dX12_needsNumber_6 rfl (fun h => absurd h (by omega)) (fun h6 => ?_)
  refine z_iconst dX12_needsNumber_9 (by decide) ?_
  refine z_goto (tgt := 14) dX12_needsNumber_10 rfl ?_
  refine z_iconst dX12_needsNumber_14 (by decide) ?_
  refine z_callV mlX12_493 dX12_needsNumber_15 (sh_M hE) (av := [_, _]) rfl rfl (Nat.le_of_ble_eq_true rfl) (x_mustT _ hE hB 1 2 (Or.inl (by decide))) (Nat.le_refl _) (Nat.le_refl _) (Nat.le_refl _) (Nat.le_refl _) ?_
  rintro _ _ ⟨rfl, rfl⟩
  refine z_aload_n dX12_needsNumber_18 rfl ?_
  refine z_aload_n dX12_needsNumber_19 rfl ?_
  refine z_gIv f_number rfl flX12_481 dX12_needsNumber_20 (sh_M hE) rfl (ht.2.2.2.2.2.2 h2) ?_
  refine z_iload_n dX12_needsNumber_23 rfl ?_
  refine z_icmp_ge (tgt := 31) dX12_needsNumber_24 rfl (fun h24 => ?_) (fun h => absurd (by omega) h)
  refine z_iconst dX12_needsNumber_31 (by decide) ?_
  refine z_iconst dX12_needsNumber_32 (by decide) ?_
  refine z_callV mlX12_493 dX12_needsNumber_33 (sh_M hE) (av := [_, _]) rfl rfl (Nat.le_of_ble_eq_true rfl) (x_mustK _ hE hB hw p ht 3 (by decide)) (Nat.le_refl _) (Nat.le_refl _) (Nat.le_refl _) (Nat.le_refl _) ?_
  rintro _ _ ⟨rfl, rfl⟩
  refine z_vret dX12_needsNumber_36 rfl rfl ?_
  exact ⟨rfl, rfl⟩

theorem x_needs3 (d : Nat) {E : zE} {m : zM} (hE : shM E) (hB : mB m) (hw : m aM f_wrong = 0) (p : Int) (ht : mTk m p) (hi : Int) (h2 : ¬ kSo (mK m) p = 2) : zR zX12_needsNumber (d + 1) [zP aM, zI hi] m E E (fun r m' => r = none ∧ mBad m (kMis (mK m) p) p = m') := by
  have hm := hB.1
  refine zR_go [zP aM, zI hi] (by decide +kernel) (Nat.le_of_ble_eq_true rfl) rfl rfl ?_
  refine z_aload_n dX12_needsNumber_0 rfl ?_
  refine z_aload_n dX12_needsNumber_1 rfl ?_
  refine z_gIv f_sort rfl flX12_471 dX12_needsNumber_2 (sh_M hE) rfl ht.2.2.2.1 ?_
  refine z_iconst dX12_needsNumber_5 (by decide) ?_
  refine z_icmp_ne (tgt := 13) dX12_needsNumber_6 rfl (fun h6 => ?_) (fun h => absurd (by omega) h)
  refine z_iconst dX12_needsNumber_13 (by decide) ?_
  refine z_iconst dX12_needsNumber_14 (by decide) ?_
  refine z_callV mlX12_493 dX12_needsNumber_15 (sh_M hE) (av := [_, _]) rfl rfl (Nat.le_of_ble_eq_true rfl) (x_must2 _ hE hB hw p ht) (Nat.le_refl _) (Nat.le_refl _) (Nat.le_refl _) (Nat.le_refl _) ?_
  rintro _ _ ⟨rfl, rfl⟩
  have hB1 := mB_bad (k := kMis (mK m) p) (q := p) hB
  refine z_aload_n dX12_needsNumber_18 rfl ?_
  refine z_aload_n dX12_needsNumber_19 rfl ?_
  refine z_gI f_number rfl flX12_481 dX12_needsNumber_20 (sh_M hE) rfl ?_
  refine z_iload_n dX12_needsNumber_23 rfl ?_
  refine z_icmp_ge (tgt := 31) dX12_needsNumber_24 rfl (fun h24 => ?_) (fun h24 => ?_)
  · refine z_iconst dX12_needsNumber_31 (by decide) ?_
    refine z_iconst dX12_needsNumber_32 (by decide) ?_
    refine z_callV mlX12_493 dX12_needsNumber_33 (sh_M hE) (av := [_, _]) rfl rfl (Nat.le_of_ble_eq_true rfl) (x_mustT _ hE hB1 _ 3 (Or.inr (by rw [mBad_w]; exact kMis_pos))) (Nat.le_refl _) (Nat.le_refl _) (Nat.le_refl _) (Nat.le_refl _) ?_
    rintro _ _ ⟨rfl, rfl⟩
    refine z_vret dX12_needsNumber_36 rfl rfl ?_
    exact ⟨rfl, rfl⟩
  · refine z_iconst dX12_needsNumber_27 (by decide) ?_
    refine z_goto (tgt := 32) dX12_needsNumber_28 rfl ?_
    refine z_iconst dX12_needsNumber_32 (by decide) ?_
    refine z_callV mlX12_493 dX12_needsNumber_33 (sh_M hE) (av := [_, _]) rfl rfl (Nat.le_of_ble_eq_true rfl) (x_mustT _ hE hB1 _ 3 (Or.inr (by rw [mBad_w]; exact kMis_pos))) (Nat.le_refl _) (Nat.le_refl _) (Nat.le_refl _) (Nat.le_refl _) ?_
    rintro _ _ ⟨rfl, rfl⟩
    refine z_vret dX12_needsNumber_36 rfl rfl ?_
    exact ⟨rfl, rfl⟩

theorem y_needs (d : Nat) {E : zE} {m : zM} (hE : shM E) (hB : mB m) (hw : 0 < m aM f_wrong) (hi : Int) : zR zX12_needsNumber (d + 1) [zP aM, zI hi] m E E (fun r m' => r = none ∧ m = m') := by
  have hm := hB.1
  refine zR_go [zP aM, zI hi] (by decide +kernel) (Nat.le_of_ble_eq_true rfl) rfl rfl ?_
  refine z_aload_n dX12_needsNumber_0 rfl ?_
  refine z_aload_n dX12_needsNumber_1 rfl ?_
  refine z_gI f_sort rfl flX12_471 dX12_needsNumber_2 (sh_M hE) rfl ?_
  refine z_iconst dX12_needsNumber_5 (by decide) ?_
  refine z_icmp_ne (tgt := 13) dX12_needsNumber_6 rfl (fun h6 => ?_) (fun h6 => ?_)
  · refine z_iconst dX12_needsNumber_13 (by decide) ?_
    refine z_iconst dX12_needsNumber_14 (by decide) ?_
    refine z_callV mlX12_493 dX12_needsNumber_15 (sh_M hE) (av := [_, _]) rfl rfl (Nat.le_of_ble_eq_true rfl) (x_mustT _ hE hB _ 2 (Or.inr hw)) (Nat.le_refl _) (Nat.le_refl _) (Nat.le_refl _) (Nat.le_refl _) ?_
    rintro _ _ ⟨rfl, rfl⟩
    refine z_aload_n dX12_needsNumber_18 rfl ?_
    refine z_aload_n dX12_needsNumber_19 rfl ?_
    refine z_gI f_number rfl flX12_481 dX12_needsNumber_20 (sh_M hE) rfl ?_
    refine z_iload_n dX12_needsNumber_23 rfl ?_
    refine z_icmp_ge (tgt := 31) dX12_needsNumber_24 rfl (fun h24 => ?_) (fun h24 => ?_)
    · refine z_iconst dX12_needsNumber_31 (by decide) ?_
      refine z_iconst dX12_needsNumber_32 (by decide) ?_
      refine z_callV mlX12_493 dX12_needsNumber_33 (sh_M hE) (av := [_, _]) rfl rfl (Nat.le_of_ble_eq_true rfl) (x_mustT _ hE hB _ 3 (Or.inr hw)) (Nat.le_refl _) (Nat.le_refl _) (Nat.le_refl _) (Nat.le_refl _) ?_
      rintro _ _ ⟨rfl, rfl⟩
      refine z_vret dX12_needsNumber_36 rfl rfl ?_
      exact ⟨rfl, rfl⟩
    · refine z_iconst dX12_needsNumber_27 (by decide) ?_
      refine z_goto (tgt := 32) dX12_needsNumber_28 rfl ?_
      refine z_iconst dX12_needsNumber_32 (by decide) ?_
      refine z_callV mlX12_493 dX12_needsNumber_33 (sh_M hE) (av := [_, _]) rfl rfl (Nat.le_of_ble_eq_true rfl) (x_mustT _ hE hB _ 3 (Or.inr hw)) (Nat.le_refl _) (Nat.le_refl _) (Nat.le_refl _) (Nat.le_refl _) ?_
      rintro _ _ ⟨rfl, rfl⟩
      refine z_vret dX12_needsNumber_36 rfl rfl ?_
      exact ⟨rfl, rfl⟩
  · refine z_iconst dX12_needsNumber_9 (by decide) ?_
    refine z_goto (tgt := 14) dX12_needsNumber_10 rfl ?_
    refine z_iconst dX12_needsNumber_14 (by decide) ?_
    refine z_callV mlX12_493 dX12_needsNumber_15 (sh_M hE) (av := [_, _]) rfl rfl (Nat.le_of_ble_eq_true rfl) (x_mustT _ hE hB _ 2 (Or.inr hw)) (Nat.le_refl _) (Nat.le_refl _) (Nat.le_refl _) (Nat.le_refl _) ?_
    rintro _ _ ⟨rfl, rfl⟩
    refine z_aload_n dX12_needsNumber_18 rfl ?_
    refine z_aload_n dX12_needsNumber_19 rfl ?_
    refine z_gI f_number rfl flX12_481 dX12_needsNumber_20 (sh_M hE) rfl ?_
    refine z_iload_n dX12_needsNumber_23 rfl ?_
    refine z_icmp_ge (tgt := 31) dX12_needsNumber_24 rfl (fun h24 => ?_) (fun h24 => ?_)
    · refine z_iconst dX12_needsNumber_31 (by decide) ?_
      refine z_iconst dX12_needsNumber_32 (by decide) ?_
      refine z_callV mlX12_493 dX12_needsNumber_33 (sh_M hE) (av := [_, _]) rfl rfl (Nat.le_of_ble_eq_true rfl) (x_mustT _ hE hB _ 3 (Or.inr hw)) (Nat.le_refl _) (Nat.le_refl _) (Nat.le_refl _) (Nat.le_refl _) ?_
      rintro _ _ ⟨rfl, rfl⟩
      refine z_vret dX12_needsNumber_36 rfl rfl ?_
      exact ⟨rfl, rfl⟩
    · refine z_iconst dX12_needsNumber_27 (by decide) ?_
      refine z_goto (tgt := 32) dX12_needsNumber_28 rfl ?_
      refine z_iconst dX12_needsNumber_32 (by decide) ?_
      refine z_callV mlX12_493 dX12_needsNumber_33 (sh_M hE) (av := [_, _]) rfl rfl (Nat.le_of_ble_eq_true rfl) (x_mustT _ hE hB _ 3 (Or.inr hw)) (Nat.le_refl _) (Nat.le_refl _) (Nat.le_refl _) (Nat.le_refl _) ?_
      rintro _ _ ⟨rfl, rfl⟩
      refine z_vret dX12_needsNumber_36 rfl rfl ?_
      exact ⟨rfl, rfl⟩

theorem v_needs (d : Nat) {E : zE} {m : zM} (hE : shM E) (hB : mB m) (hw : m aM f_wrong = 0) (p : Int) (ht : mTk m p) (hi : Int) : zR zX12_needsNumber (d + 1) [zP aM, zI hi] m E E (fun r m' => r = none ∧ ((kSo (mK m) p = 2 ∧ kN (mK m) p < hi ∧ m = m') ∨ (kSo (mK m) p = 2 ∧ ¬ kN (mK m) p < hi ∧ mBad m 3 p = m') ∨ (¬ kSo (mK m) p = 2 ∧ mBad m (kMis (mK m) p) p = m'))) := by
  by_cases h : kSo (mK m) p = 2
  · by_cases h2 : kN (mK m) p < hi
    · exact zR_imp (x_needs1 d hE hB hw p ht hi h h2) (fun r m' g => ⟨g.1, Or.inl ⟨h, h2, g.2⟩⟩)
    · exact zR_imp (x_needs2 d hE hB hw p ht hi h h2) (fun r m' g => ⟨g.1, Or.inr (Or.inl ⟨h, h2, g.2⟩)⟩)
  · exact zR_imp (x_needs3 d hE hB hw p ht hi h) (fun r m' g => ⟨g.1, Or.inr (Or.inr ⟨h, g.2⟩)⟩)

theorem x_readsTwo (d : Nat) {E : zE} {m : zM} (hE : shM E) (hB : mB m) (hw : m aM f_wrong = 0) (p : Int) (ht : mTk m p) (hwf : wfC (m a_c)) (hwl : wfL (m a_c) (m a_what) (m a_pointOf) (m aM f_letters)) (hwd : 0 ≤ m aM f_wide ∧ m aM f_wide ≤ 6) : zR zX12_readsTwo (d + 4) [zP aM] m E E (fun r m' => r = none ∧ mPq m m' (pTwo (mK m) (m aM f_letters) (cMay (m a_c) (m a_what) (m a_pointOf)) (m a_mate) (m aM f_wide) p)) := by
  have hln := hwl.1
  have hm := hB.1
  have hB0 := hB
  have hw0 := hw
  have ht0 := ht
  have hK0 : mK m = mK m := rfl
  have hn0 : m aM f_end = m aM f_end := rfl
  have hm0 := hm
  have hok := mK_ok hB.2.1
  have z0 : zfr fTw m m := zfr_rf
  have ha_c0 : m a_c = m a_c := rfl
  have ha_mate0 : m a_mate = m a_mate := rfl
  have ha_what0 : m a_what = m a_what := rfl
  have ha_pointOf0 : m a_pointOf = m a_pointOf := rfl
  have hletters0 : m aM f_letters = m aM f_letters := rfl
  have hwide0 : m aM f_wide = m aM f_wide := rfl
  refine zR_go [zP aM, zN] (by decide +kernel) (Nat.le_of_ble_eq_true rfl) rfl rfl ?_
  refine z_aload_n dX12_readsTwo_0 rfl ?_
  refine z_aload_n dX12_readsTwo_1 rfl ?_
  refine z_gI f_letters rfl flX12_124 dX12_readsTwo_2 (sh_M hE) rfl ?_
  refine z_callV mlX12_542 dX12_readsTwo_5 (sh_M hE) (av := [_]) rfl rfl (Nat.le_of_ble_eq_true rfl) (by have h := v_needs (d + 2) hE hB0 hw0 p ht0 (m aM f_letters); rw [hK0] at h; exact h) (Nat.le_refl _) (Nat.le_refl _) (Nat.le_refl _) (Nat.le_refl _) ?_
  rintro _ m1 ⟨rfl, (⟨g1, i1, rfl⟩ | ⟨g1, i1, b1⟩ | ⟨g1, b1⟩)⟩
  · have kr5 := kN_rg g1
    refine z_aload_n dX12_readsTwo_8 rfl ?_
    refine z_aload_n dX12_readsTwo_9 rfl ?_
    refine z_gIv f_wrong rfl flX12_487 dX12_readsTwo_10 (sh_M hE) rfl hw0 ?_
    refine z_if_gt (tgt := 28) dX12_readsTwo_13 rfl (fun h => absurd h (by omega)) (fun h13 => ?_)
    refine z_aload_n dX12_readsTwo_16 rfl ?_
    refine z_gP 16 rfl (r := a_mate) flX12_41 dX12_readsTwo_17 (sh_M hE) rfl (pt_mate hm) (by decide) ?_
    refine z_aload_n dX12_readsTwo_20 rfl ?_
    refine z_gIv f_number rfl flX12_481 dX12_readsTwo_21 (sh_M hE) rfl (show m aM f_number = kN (mK m) p by have h := ht0.2.2.2.2.2.2 (by rw [hK0]; exact g1); rw [hK0] at h; exact h) ?_
    refine z_ialv dX12_readsTwo_24 (sh_mate hE) (by omega) (by omega) (congrFun ha_mate0 _) ?_
    refine z_if_ge (tgt := 32) dX12_readsTwo_25 rfl (fun h25 => ?_) (fun h25 => ?_)
    · refine z_iconst dX12_readsTwo_32 (by decide) ?_
      refine z_iconst dX12_readsTwo_33 (by decide) ?_
      refine z_callV mlX12_493 dX12_readsTwo_34 (sh_M hE) (av := [_, _]) rfl rfl (Nat.le_of_ble_eq_true rfl) (x_mustK _ hE hB0 hw0 p ht0 5 (by decide)) (Nat.le_refl _) (Nat.le_refl _) (Nat.le_refl _) (Nat.le_refl _) ?_
      rintro _ m1 ⟨rfl, b1⟩
      have hB1 : mB m1 := b1 ▸ mB_bad hB0
      have hw1 : m1 aM f_wrong = 5 := b1 ▸ mBad_w
      have ha1 : m1 aM f_wrongAt = p := b1 ▸ mBad_a
      have z1 : zfr fTw m m1 := b1 ▸ zfr_uj (zfr_uj z0 (by decide)) (by decide)
      have hd1 : 0 < m1 aM f_wrong := by rw [hw1]; first | exact kMis_pos | decide
      have hm1 : ptM m1 := hB1.1
      have ha_c1 : m1 a_c = m a_c := b1 ▸ (zu_fn (by decide)).trans (zu_fn (by decide))
      have ha_mate1 : m1 a_mate = m a_mate := b1 ▸ (zu_fn (by decide)).trans (zu_fn (by decide))
      have ha_what1 : m1 a_what = m a_what := b1 ▸ (zu_fn (by decide)).trans (zu_fn (by decide))
      have ha_pointOf1 : m1 a_pointOf = m a_pointOf := b1 ▸ (zu_fn (by decide)).trans (zu_fn (by decide))
      have hletters1 : m1 aM f_letters = m aM f_letters := (b1 ▸ (zu_j (by decide)).trans (zu_j (by decide)) : m1 aM f_letters = m aM f_letters).trans hletters0
      have hwide1 : m1 aM f_wide = m aM f_wide := (b1 ▸ (zu_j (by decide)).trans (zu_j (by decide)) : m1 aM f_wide = m aM f_wide).trans hwide0
      refine z_aload_n dX12_readsTwo_37 rfl ?_
      refine z_aload_n dX12_readsTwo_38 rfl ?_
      refine z_gIv f_wide rfl flX12_545 dX12_readsTwo_39 (sh_M hE) rfl hwide1 ?_
      refine z_aload_n dX12_readsTwo_42 rfl ?_
      refine z_gIv f_letters rfl flX12_124 dX12_readsTwo_43 (sh_M hE) rfl hletters1 ?_
      refine z_iconst dX12_readsTwo_46 (by decide) ?_
      refine z_div dX12_readsTwo_47 (by omega) (by omega) ?_
      refine z_icmp_ge (tgt := 55) dX12_readsTwo_48 rfl (fun h48 => ?_) (fun h48 => ?_)
      · refine z_iconst dX12_readsTwo_55 (by decide) ?_
        refine z_bipush dX12_readsTwo_56 rfl (by decide) ?_
        refine z_callV mlX12_493 dX12_readsTwo_58 (sh_M hE) (av := [_, _]) rfl rfl (Nat.le_of_ble_eq_true rfl) (x_mustT _ hE hB1 _ 6 (Or.inr hd1)) (Nat.le_refl _) (Nat.le_refl _) (Nat.le_refl _) (Nat.le_refl _) ?_
        rintro _ _ ⟨rfl, rfl⟩
        refine z_aload_n dX12_readsTwo_61 rfl ?_
        refine z_gI f_number rfl flX12_481 dX12_readsTwo_62 (sh_M hE) rfl ?_
        refine z_ist 1 dX12_readsTwo_65 rfl (Nat.le_of_ble_eq_true rfl) ?_
        refine z_aload_n dX12_readsTwo_66 rfl ?_
        refine z_gIv f_wrong rfl flX12_487 dX12_readsTwo_67 (sh_M hE) rfl hw1 ?_
        try dsimp only [zs0, zsI, zsP, zsN, zsJ, zsS, zst2, Nat.reduceAdd]
        refine z_if_ne (tgt := 77) dX12_readsTwo_70 rfl (fun h70 => ?_) (fun h => absurd (by omega) h)
        refine z_aload_n dX12_readsTwo_77 rfl ?_
        refine z_aload_n dX12_readsTwo_78 rfl ?_
        refine z_bipush dX12_readsTwo_79 rfl (by decide) ?_
        refine z_callV mlX12_520 dX12_readsTwo_81 (sh_M hE) (av := [_]) rfl rfl (Nat.le_of_ble_eq_true rfl) (w_isSign _ hE hB1 hd1 45) (Nat.le_refl _) (Nat.le_refl _) (Nat.le_refl _) (Nat.le_refl _) ?_
        rintro _ _ ⟨rfl, rfl⟩
        refine z_callV mlX12_506 dX12_readsTwo_84 (sh_M hE) (av := [_]) rfl rfl (Nat.le_of_ble_eq_true rfl) (y_takes _ hE hB1 hd1 _) (Nat.le_refl _) (Nat.le_refl _) (Nat.le_refl _) (Nat.le_refl _) ?_
        rintro _ _ ⟨rfl, rfl⟩
        refine z_aload_n dX12_readsTwo_87 rfl ?_
        refine z_aload_n dX12_readsTwo_88 rfl ?_
        refine z_gIv f_letters rfl flX12_124 dX12_readsTwo_89 (sh_M hE) rfl hletters1 ?_
        refine z_callV mlX12_542 dX12_readsTwo_92 (sh_M hE) (av := [_]) rfl rfl (Nat.le_of_ble_eq_true rfl) (y_needs _ hE hB1 hd1 _) (Nat.le_refl _) (Nat.le_refl _) (Nat.le_refl _) (Nat.le_refl _) ?_
        rintro _ _ ⟨rfl, rfl⟩
        refine z_aload_n dX12_readsTwo_95 rfl ?_
        refine z_aload_n dX12_readsTwo_96 rfl ?_
        refine z_gIv f_wrong rfl flX12_487 dX12_readsTwo_97 (sh_M hE) rfl hw1 ?_
        refine z_if_gt (tgt := 115) dX12_readsTwo_100 rfl (fun h100 => ?_) (fun h => absurd (by omega) h)
        refine z_iconst dX12_readsTwo_115 (by decide) ?_
        refine z_goto (tgt := 120) dX12_readsTwo_116 rfl ?_
        refine z_iconst dX12_readsTwo_120 (by decide) ?_
        refine z_callV mlX12_493 dX12_readsTwo_121 (sh_M hE) (av := [_, _]) rfl rfl (Nat.le_of_ble_eq_true rfl) (x_mustT _ hE hB1 _ 4 (Or.inr hd1)) (Nat.le_refl _) (Nat.le_refl _) (Nat.le_refl _) (Nat.le_refl _) ?_
        rintro _ _ ⟨rfl, rfl⟩
        refine z_aload_n dX12_readsTwo_124 rfl ?_
        refine z_aload_n dX12_readsTwo_125 rfl ?_
        refine z_gIv f_wrong rfl flX12_487 dX12_readsTwo_126 (sh_M hE) rfl hw1 ?_
        refine z_if_gt (tgt := 144) dX12_readsTwo_129 rfl (fun h129 => ?_) (fun h => absurd (by omega) h)
        refine z_iconst dX12_readsTwo_144 (by decide) ?_
        refine z_goto (tgt := 149) dX12_readsTwo_145 rfl ?_
        refine z_iconst dX12_readsTwo_149 (by decide) ?_
        refine z_callV mlX12_493 dX12_readsTwo_150 (sh_M hE) (av := [_, _]) rfl rfl (Nat.le_of_ble_eq_true rfl) (x_mustT _ hE hB1 _ 5 (Or.inr hd1)) (Nat.le_refl _) (Nat.le_refl _) (Nat.le_refl _) (Nat.le_refl _) ?_
        rintro _ _ ⟨rfl, rfl⟩
        refine z_aload_n dX12_readsTwo_153 rfl ?_
        refine z_gIv f_wrong rfl flX12_487 dX12_readsTwo_154 (sh_M hE) rfl hw1 ?_
        refine z_if_le (tgt := 161) dX12_readsTwo_157 rfl (fun h => absurd h (by omega)) (fun h157 => ?_)
        refine z_vret dX12_readsTwo_160 rfl rfl ?_
        have eA : pTwo (mK m) (m aM f_letters) (cMay (m a_c) (m a_what) (m a_pointOf)) (m a_mate) (m aM f_wide) p = (5, p, m a_mate, m aM f_wide, p) := by unfold pTwo; rw [if_neg (not_not_intro g1), if_neg (not_not_intro i1), if_pos (by omega)]
        rw [eA]
        refine ⟨rfl, ?_⟩
        exact ⟨z1, hw1, fun _ => ha1, fun h => absurd (show (5 : Int) = 0 from h) (by first | exact kMis_ne | decide), fun x hx => congrFun ha_mate1 x⟩
      · refine z_iconst dX12_readsTwo_51 (by decide) ?_
        refine z_goto (tgt := 56) dX12_readsTwo_52 rfl ?_
        refine z_bipush dX12_readsTwo_56 rfl (by decide) ?_
        refine z_callV mlX12_493 dX12_readsTwo_58 (sh_M hE) (av := [_, _]) rfl rfl (Nat.le_of_ble_eq_true rfl) (x_mustT _ hE hB1 _ 6 (Or.inr hd1)) (Nat.le_refl _) (Nat.le_refl _) (Nat.le_refl _) (Nat.le_refl _) ?_
        rintro _ _ ⟨rfl, rfl⟩
        refine z_aload_n dX12_readsTwo_61 rfl ?_
        refine z_gI f_number rfl flX12_481 dX12_readsTwo_62 (sh_M hE) rfl ?_
        refine z_ist 1 dX12_readsTwo_65 rfl (Nat.le_of_ble_eq_true rfl) ?_
        refine z_aload_n dX12_readsTwo_66 rfl ?_
        refine z_gIv f_wrong rfl flX12_487 dX12_readsTwo_67 (sh_M hE) rfl hw1 ?_
        try dsimp only [zs0, zsI, zsP, zsN, zsJ, zsS, zst2, Nat.reduceAdd]
        refine z_if_ne (tgt := 77) dX12_readsTwo_70 rfl (fun h70 => ?_) (fun h => absurd (by omega) h)
        refine z_aload_n dX12_readsTwo_77 rfl ?_
        refine z_aload_n dX12_readsTwo_78 rfl ?_
        refine z_bipush dX12_readsTwo_79 rfl (by decide) ?_
        refine z_callV mlX12_520 dX12_readsTwo_81 (sh_M hE) (av := [_]) rfl rfl (Nat.le_of_ble_eq_true rfl) (w_isSign _ hE hB1 hd1 45) (Nat.le_refl _) (Nat.le_refl _) (Nat.le_refl _) (Nat.le_refl _) ?_
        rintro _ _ ⟨rfl, rfl⟩
        refine z_callV mlX12_506 dX12_readsTwo_84 (sh_M hE) (av := [_]) rfl rfl (Nat.le_of_ble_eq_true rfl) (y_takes _ hE hB1 hd1 _) (Nat.le_refl _) (Nat.le_refl _) (Nat.le_refl _) (Nat.le_refl _) ?_
        rintro _ _ ⟨rfl, rfl⟩
        refine z_aload_n dX12_readsTwo_87 rfl ?_
        refine z_aload_n dX12_readsTwo_88 rfl ?_
        refine z_gIv f_letters rfl flX12_124 dX12_readsTwo_89 (sh_M hE) rfl hletters1 ?_
        refine z_callV mlX12_542 dX12_readsTwo_92 (sh_M hE) (av := [_]) rfl rfl (Nat.le_of_ble_eq_true rfl) (y_needs _ hE hB1 hd1 _) (Nat.le_refl _) (Nat.le_refl _) (Nat.le_refl _) (Nat.le_refl _) ?_
        rintro _ _ ⟨rfl, rfl⟩
        refine z_aload_n dX12_readsTwo_95 rfl ?_
        refine z_aload_n dX12_readsTwo_96 rfl ?_
        refine z_gIv f_wrong rfl flX12_487 dX12_readsTwo_97 (sh_M hE) rfl hw1 ?_
        refine z_if_gt (tgt := 115) dX12_readsTwo_100 rfl (fun h100 => ?_) (fun h => absurd (by omega) h)
        refine z_iconst dX12_readsTwo_115 (by decide) ?_
        refine z_goto (tgt := 120) dX12_readsTwo_116 rfl ?_
        refine z_iconst dX12_readsTwo_120 (by decide) ?_
        refine z_callV mlX12_493 dX12_readsTwo_121 (sh_M hE) (av := [_, _]) rfl rfl (Nat.le_of_ble_eq_true rfl) (x_mustT _ hE hB1 _ 4 (Or.inr hd1)) (Nat.le_refl _) (Nat.le_refl _) (Nat.le_refl _) (Nat.le_refl _) ?_
        rintro _ _ ⟨rfl, rfl⟩
        refine z_aload_n dX12_readsTwo_124 rfl ?_
        refine z_aload_n dX12_readsTwo_125 rfl ?_
        refine z_gIv f_wrong rfl flX12_487 dX12_readsTwo_126 (sh_M hE) rfl hw1 ?_
        refine z_if_gt (tgt := 144) dX12_readsTwo_129 rfl (fun h129 => ?_) (fun h => absurd (by omega) h)
        refine z_iconst dX12_readsTwo_144 (by decide) ?_
        refine z_goto (tgt := 149) dX12_readsTwo_145 rfl ?_
        refine z_iconst dX12_readsTwo_149 (by decide) ?_
        refine z_callV mlX12_493 dX12_readsTwo_150 (sh_M hE) (av := [_, _]) rfl rfl (Nat.le_of_ble_eq_true rfl) (x_mustT _ hE hB1 _ 5 (Or.inr hd1)) (Nat.le_refl _) (Nat.le_refl _) (Nat.le_refl _) (Nat.le_refl _) ?_
        rintro _ _ ⟨rfl, rfl⟩
        refine z_aload_n dX12_readsTwo_153 rfl ?_
        refine z_gIv f_wrong rfl flX12_487 dX12_readsTwo_154 (sh_M hE) rfl hw1 ?_
        refine z_if_le (tgt := 161) dX12_readsTwo_157 rfl (fun h => absurd h (by omega)) (fun h157 => ?_)
        refine z_vret dX12_readsTwo_160 rfl rfl ?_
        have eA : pTwo (mK m) (m aM f_letters) (cMay (m a_c) (m a_what) (m a_pointOf)) (m a_mate) (m aM f_wide) p = (5, p, m a_mate, m aM f_wide, p) := by unfold pTwo; rw [if_neg (not_not_intro g1), if_neg (not_not_intro i1), if_pos (by omega)]
        rw [eA]
        refine ⟨rfl, ?_⟩
        exact ⟨z1, hw1, fun _ => ha1, fun h => absurd (show (5 : Int) = 0 from h) (by first | exact kMis_ne | decide), fun x hx => congrFun ha_mate1 x⟩
    · refine z_iconst dX12_readsTwo_28 (by decide) ?_
      refine z_goto (tgt := 33) dX12_readsTwo_29 rfl ?_
      refine z_iconst dX12_readsTwo_33 (by decide) ?_
      refine z_callV mlX12_493 dX12_readsTwo_34 (sh_M hE) (av := [_, _]) rfl rfl (Nat.le_of_ble_eq_true rfl) (x_mustT _ hE hB0 1 5 (Or.inl (by decide))) (Nat.le_refl _) (Nat.le_refl _) (Nat.le_refl _) (Nat.le_refl _) ?_
      rintro _ _ ⟨rfl, rfl⟩
      refine z_aload_n dX12_readsTwo_37 rfl ?_
      refine z_aload_n dX12_readsTwo_38 rfl ?_
      refine z_gIv f_wide rfl flX12_545 dX12_readsTwo_39 (sh_M hE) rfl hwide0 ?_
      refine z_aload_n dX12_readsTwo_42 rfl ?_
      refine z_gIv f_letters rfl flX12_124 dX12_readsTwo_43 (sh_M hE) rfl hletters0 ?_
      refine z_iconst dX12_readsTwo_46 (by decide) ?_
      refine z_div dX12_readsTwo_47 (by omega) (by omega) ?_
      refine z_icmp_ge (tgt := 55) dX12_readsTwo_48 rfl (fun h48 => ?_) (fun h48 => ?_)
      · refine z_iconst dX12_readsTwo_55 (by decide) ?_
        refine z_bipush dX12_readsTwo_56 rfl (by decide) ?_
        refine z_callV mlX12_493 dX12_readsTwo_58 (sh_M hE) (av := [_, _]) rfl rfl (Nat.le_of_ble_eq_true rfl) (x_mustK _ hE hB0 hw0 p ht0 6 (by decide)) (Nat.le_refl _) (Nat.le_refl _) (Nat.le_refl _) (Nat.le_refl _) ?_
        rintro _ m1 ⟨rfl, b1⟩
        have hB1 : mB m1 := b1 ▸ mB_bad hB0
        have hw1 : m1 aM f_wrong = 6 := b1 ▸ mBad_w
        have ha1 : m1 aM f_wrongAt = p := b1 ▸ mBad_a
        have z1 : zfr fTw m m1 := b1 ▸ zfr_uj (zfr_uj z0 (by decide)) (by decide)
        have hd1 : 0 < m1 aM f_wrong := by rw [hw1]; first | exact kMis_pos | decide
        have hm1 : ptM m1 := hB1.1
        have ha_c1 : m1 a_c = m a_c := b1 ▸ (zu_fn (by decide)).trans (zu_fn (by decide))
        have ha_mate1 : m1 a_mate = m a_mate := b1 ▸ (zu_fn (by decide)).trans (zu_fn (by decide))
        have ha_what1 : m1 a_what = m a_what := b1 ▸ (zu_fn (by decide)).trans (zu_fn (by decide))
        have ha_pointOf1 : m1 a_pointOf = m a_pointOf := b1 ▸ (zu_fn (by decide)).trans (zu_fn (by decide))
        have hletters1 : m1 aM f_letters = m aM f_letters := (b1 ▸ (zu_j (by decide)).trans (zu_j (by decide)) : m1 aM f_letters = m aM f_letters).trans hletters0
        have hwide1 : m1 aM f_wide = m aM f_wide := (b1 ▸ (zu_j (by decide)).trans (zu_j (by decide)) : m1 aM f_wide = m aM f_wide).trans hwide0
        refine z_aload_n dX12_readsTwo_61 rfl ?_
        refine z_gI f_number rfl flX12_481 dX12_readsTwo_62 (sh_M hE) rfl ?_
        refine z_ist 1 dX12_readsTwo_65 rfl (Nat.le_of_ble_eq_true rfl) ?_
        refine z_aload_n dX12_readsTwo_66 rfl ?_
        refine z_gIv f_wrong rfl flX12_487 dX12_readsTwo_67 (sh_M hE) rfl hw1 ?_
        try dsimp only [zs0, zsI, zsP, zsN, zsJ, zsS, zst2, Nat.reduceAdd]
        refine z_if_ne (tgt := 77) dX12_readsTwo_70 rfl (fun h70 => ?_) (fun h => absurd (by omega) h)
        refine z_aload_n dX12_readsTwo_77 rfl ?_
        refine z_aload_n dX12_readsTwo_78 rfl ?_
        refine z_bipush dX12_readsTwo_79 rfl (by decide) ?_
        refine z_callV mlX12_520 dX12_readsTwo_81 (sh_M hE) (av := [_]) rfl rfl (Nat.le_of_ble_eq_true rfl) (w_isSign _ hE hB1 hd1 45) (Nat.le_refl _) (Nat.le_refl _) (Nat.le_refl _) (Nat.le_refl _) ?_
        rintro _ _ ⟨rfl, rfl⟩
        refine z_callV mlX12_506 dX12_readsTwo_84 (sh_M hE) (av := [_]) rfl rfl (Nat.le_of_ble_eq_true rfl) (y_takes _ hE hB1 hd1 _) (Nat.le_refl _) (Nat.le_refl _) (Nat.le_refl _) (Nat.le_refl _) ?_
        rintro _ _ ⟨rfl, rfl⟩
        refine z_aload_n dX12_readsTwo_87 rfl ?_
        refine z_aload_n dX12_readsTwo_88 rfl ?_
        refine z_gIv f_letters rfl flX12_124 dX12_readsTwo_89 (sh_M hE) rfl hletters1 ?_
        refine z_callV mlX12_542 dX12_readsTwo_92 (sh_M hE) (av := [_]) rfl rfl (Nat.le_of_ble_eq_true rfl) (y_needs _ hE hB1 hd1 _) (Nat.le_refl _) (Nat.le_refl _) (Nat.le_refl _) (Nat.le_refl _) ?_
        rintro _ _ ⟨rfl, rfl⟩
        refine z_aload_n dX12_readsTwo_95 rfl ?_
        refine z_aload_n dX12_readsTwo_96 rfl ?_
        refine z_gIv f_wrong rfl flX12_487 dX12_readsTwo_97 (sh_M hE) rfl hw1 ?_
        refine z_if_gt (tgt := 115) dX12_readsTwo_100 rfl (fun h100 => ?_) (fun h => absurd (by omega) h)
        refine z_iconst dX12_readsTwo_115 (by decide) ?_
        refine z_goto (tgt := 120) dX12_readsTwo_116 rfl ?_
        refine z_iconst dX12_readsTwo_120 (by decide) ?_
        refine z_callV mlX12_493 dX12_readsTwo_121 (sh_M hE) (av := [_, _]) rfl rfl (Nat.le_of_ble_eq_true rfl) (x_mustT _ hE hB1 _ 4 (Or.inr hd1)) (Nat.le_refl _) (Nat.le_refl _) (Nat.le_refl _) (Nat.le_refl _) ?_
        rintro _ _ ⟨rfl, rfl⟩
        refine z_aload_n dX12_readsTwo_124 rfl ?_
        refine z_aload_n dX12_readsTwo_125 rfl ?_
        refine z_gIv f_wrong rfl flX12_487 dX12_readsTwo_126 (sh_M hE) rfl hw1 ?_
        refine z_if_gt (tgt := 144) dX12_readsTwo_129 rfl (fun h129 => ?_) (fun h => absurd (by omega) h)
        refine z_iconst dX12_readsTwo_144 (by decide) ?_
        refine z_goto (tgt := 149) dX12_readsTwo_145 rfl ?_
        refine z_iconst dX12_readsTwo_149 (by decide) ?_
        refine z_callV mlX12_493 dX12_readsTwo_150 (sh_M hE) (av := [_, _]) rfl rfl (Nat.le_of_ble_eq_true rfl) (x_mustT _ hE hB1 _ 5 (Or.inr hd1)) (Nat.le_refl _) (Nat.le_refl _) (Nat.le_refl _) (Nat.le_refl _) ?_
        rintro _ _ ⟨rfl, rfl⟩
        refine z_aload_n dX12_readsTwo_153 rfl ?_
        refine z_gIv f_wrong rfl flX12_487 dX12_readsTwo_154 (sh_M hE) rfl hw1 ?_
        refine z_if_le (tgt := 161) dX12_readsTwo_157 rfl (fun h => absurd h (by omega)) (fun h157 => ?_)
        refine z_vret dX12_readsTwo_160 rfl rfl ?_
        have eA : pTwo (mK m) (m aM f_letters) (cMay (m a_c) (m a_what) (m a_pointOf)) (m a_mate) (m aM f_wide) p = (6, p, m a_mate, m aM f_wide, p) := by unfold pTwo; rw [if_neg (not_not_intro g1), if_neg (not_not_intro i1), if_neg (by omega), if_pos (by omega)]
        rw [eA]
        refine ⟨rfl, ?_⟩
        exact ⟨z1, hw1, fun _ => ha1, fun h => absurd (show (6 : Int) = 0 from h) (by first | exact kMis_ne | decide), fun x hx => congrFun ha_mate1 x⟩
      · refine z_iconst dX12_readsTwo_51 (by decide) ?_
        refine z_goto (tgt := 56) dX12_readsTwo_52 rfl ?_
        refine z_bipush dX12_readsTwo_56 rfl (by decide) ?_
        refine z_callV mlX12_493 dX12_readsTwo_58 (sh_M hE) (av := [_, _]) rfl rfl (Nat.le_of_ble_eq_true rfl) (x_mustT _ hE hB0 1 6 (Or.inl (by decide))) (Nat.le_refl _) (Nat.le_refl _) (Nat.le_refl _) (Nat.le_refl _) ?_
        rintro _ _ ⟨rfl, rfl⟩
        refine z_aload_n dX12_readsTwo_61 rfl ?_
        refine z_gIv f_number rfl flX12_481 dX12_readsTwo_62 (sh_M hE) rfl (show m aM f_number = kN (mK m) p by have h := ht0.2.2.2.2.2.2 (by rw [hK0]; exact g1); rw [hK0] at h; exact h) ?_
        refine z_ist 1 dX12_readsTwo_65 rfl (Nat.le_of_ble_eq_true rfl) ?_
        refine z_aload_n dX12_readsTwo_66 rfl ?_
        refine z_gIv f_wrong rfl flX12_487 dX12_readsTwo_67 (sh_M hE) rfl hw0 ?_
        try dsimp only [zs0, zsI, zsP, zsN, zsJ, zsS, zst2, Nat.reduceAdd]
        refine z_if_ne (tgt := 77) dX12_readsTwo_70 rfl (fun h => absurd h (by omega)) (fun h70 => ?_)
        refine z_aload_n dX12_readsTwo_73 rfl ?_
        refine z_callV mlX12_497 dX12_readsTwo_74 (sh_M hE) (av := _) rfl rfl (Nat.le_of_ble_eq_true rfl) (x_reads _ hE hB0 hw0 p ht0 (by rw [hn0]; exact kSo_lt hok (by rw [g1]; decide))) (Nat.le_refl _) (Nat.le_refl _) (Nat.le_refl _) (Nat.le_refl _) ?_
        rintro _ m1 ⟨rfl, f1, t1⟩
        have hB1 := mB_fr hB0 (zfr_sub f1 (by decide))
        have hK1 : mK m1 = mK m := (mK_fr f1 (by decide)).trans hK0
        have hw1 : m1 aM f_wrong = 0 := (zfr_at f1 (by decide)).trans hw0
        have z1 : zfr fTw m m1 := zfr_tr z0 (zfr_sub f1 (by decide))
        have hn1 : m1 aM f_end = m aM f_end := (zfr_at f1 (by decide)).trans hn0
        have hm1 : ptM m1 := hB1.1
        have ha_c1 : m1 a_c = m a_c := (zfr_cell f1 (by decide)).trans ha_c0
        have ha_mate1 : m1 a_mate = m a_mate := (zfr_cell f1 (by decide)).trans ha_mate0
        have ha_what1 : m1 a_what = m a_what := (zfr_cell f1 (by decide)).trans ha_what0
        have ha_pointOf1 : m1 a_pointOf = m a_pointOf := (zfr_cell f1 (by decide)).trans ha_pointOf0
        have hletters1 : m1 aM f_letters = m aM f_letters := (zfr_at f1 (by decide)).trans hletters0
        have hwide1 : m1 aM f_wide = m aM f_wide := (zfr_at f1 (by decide)).trans hwide0
        rw [hK0] at t1
        obtain ⟨p1, e1⟩ : ∃ x, x = kR (mK m) p := ⟨_, rfl⟩
        rw [← e1] at t1
        have ht1 := t1
        refine z_aload_n dX12_readsTwo_77 rfl ?_
        refine z_aload_n dX12_readsTwo_78 rfl ?_
        refine z_bipush dX12_readsTwo_79 rfl (by decide) ?_
        refine z_callV mlX12_520 dX12_readsTwo_81 (sh_M hE) (av := [_]) rfl rfl (Nat.le_of_ble_eq_true rfl) (by have h := x_isSign (d + 3) hE hB1 hw1 p1 ht1 45 (by decide) (by decide); rw [hK1] at h; exact h) (Nat.le_refl _) (Nat.le_refl _) (Nat.le_refl _) (Nat.le_refl _) ?_
        rintro _ _ ⟨rfl, rfl⟩
        by_cases y81 : kSn (mK m) p1 45
        · rw [zb_t y81]
          refine z_callV mlX12_506 dX12_readsTwo_84 (sh_M hE) (av := [_]) rfl rfl (Nat.le_of_ble_eq_true rfl) (x_takesT _ hE hB1 hw1 p1 ht1 (by rw [hn1]; exact kSo_lt hok (by rw [y81.1]; decide))) (Nat.le_refl _) (Nat.le_refl _) (Nat.le_refl _) (Nat.le_refl _) ?_
          rintro _ m2 ⟨rfl, f2, t2⟩
          have hB2 := mB_fr hB1 (zfr_sub f2 (by decide))
          have hK2 : mK m2 = mK m := (mK_fr f2 (by decide)).trans hK1
          have hw2 : m2 aM f_wrong = 0 := (zfr_at f2 (by decide)).trans hw1
          have z2 : zfr fTw m m2 := zfr_tr z1 (zfr_sub f2 (by decide))
          have hn2 : m2 aM f_end = m aM f_end := (zfr_at f2 (by decide)).trans hn1
          have hm2 : ptM m2 := hB2.1
          have ha_c2 : m2 a_c = m a_c := (zfr_cell f2 (by decide)).trans ha_c1
          have ha_mate2 : m2 a_mate = m a_mate := (zfr_cell f2 (by decide)).trans ha_mate1
          have ha_what2 : m2 a_what = m a_what := (zfr_cell f2 (by decide)).trans ha_what1
          have ha_pointOf2 : m2 a_pointOf = m a_pointOf := (zfr_cell f2 (by decide)).trans ha_pointOf1
          have hletters2 : m2 aM f_letters = m aM f_letters := (zfr_at f2 (by decide)).trans hletters1
          have hwide2 : m2 aM f_wide = m aM f_wide := (zfr_at f2 (by decide)).trans hwide1
          rw [hK1] at t2
          obtain ⟨p2, e2⟩ : ∃ x, x = kR (mK m) p1 := ⟨_, rfl⟩
          rw [← e2] at t2
          have ht2 := t2
          refine z_aload_n dX12_readsTwo_87 rfl ?_
          refine z_aload_n dX12_readsTwo_88 rfl ?_
          refine z_gIv f_letters rfl flX12_124 dX12_readsTwo_89 (sh_M hE) rfl hletters2 ?_
          refine z_callV mlX12_542 dX12_readsTwo_92 (sh_M hE) (av := [_]) rfl rfl (Nat.le_of_ble_eq_true rfl) (by have h := v_needs (d + 2) hE hB2 hw2 p2 ht2 (m aM f_letters); rw [hK2] at h; exact h) (Nat.le_refl _) (Nat.le_refl _) (Nat.le_refl _) (Nat.le_refl _) ?_
          rintro _ m3 ⟨rfl, (⟨g3, i3, rfl⟩ | ⟨g3, i3, b3⟩ | ⟨g3, b3⟩)⟩
          · have kr92 := kN_rg g3
            refine z_aload_n dX12_readsTwo_95 rfl ?_
            refine z_aload_n dX12_readsTwo_96 rfl ?_
            refine z_gIv f_wrong rfl flX12_487 dX12_readsTwo_97 (sh_M hE) rfl hw2 ?_
            refine z_if_gt (tgt := 115) dX12_readsTwo_100 rfl (fun h => absurd h (by omega)) (fun h100 => ?_)
            refine z_aload_n dX12_readsTwo_103 rfl ?_
            refine z_iload_n dX12_readsTwo_104 rfl ?_
            refine z_aload_n dX12_readsTwo_105 rfl ?_
            refine z_gIv f_number rfl flX12_481 dX12_readsTwo_106 (sh_M hE) rfl (show m2 aM f_number = kN (mK m) p2 by have h := ht2.2.2.2.2.2.2 (by rw [hK2]; exact g3); rw [hK2] at h; exact h) ?_
            refine z_callV mlX12_184 dX12_readsTwo_109 (sh_M hE) (av := [_, _]) rfl rfl (Nat.le_of_ble_eq_true rfl) (by have h := r_mayBe (d + 1) hE hm2 (kN (mK m) p) (kN (mK m) p2) (by omega) (by omega) (by omega) (by omega) (by rw [ha_c2]; exact hwf) (by rw [ha_c2, ha_what2, ha_pointOf2, hletters2]; exact hwl); rw [ha_c2, ha_what2, ha_pointOf2] at h; exact h) (Nat.le_refl _) (Nat.le_refl _) (Nat.le_refl _) (Nat.le_refl _) ?_
            rintro _ _ ⟨rfl, rfl⟩
            refine z_ifz_eq (tgt := 119) dX12_readsTwo_112 rfl (fun h112 => ?_) (fun h112 => ?_)
            · refine z_iconst dX12_readsTwo_119 (by decide) ?_
              refine z_iconst dX12_readsTwo_120 (by decide) ?_
              refine z_callV mlX12_493 dX12_readsTwo_121 (sh_M hE) (av := [_, _]) rfl rfl (Nat.le_of_ble_eq_true rfl) (x_mustK _ hE hB2 hw2 p2 ht2 4 (by decide)) (Nat.le_refl _) (Nat.le_refl _) (Nat.le_refl _) (Nat.le_refl _) ?_
              rintro _ m3 ⟨rfl, b3⟩
              have hB3 : mB m3 := b3 ▸ mB_bad hB2
              have hw3 : m3 aM f_wrong = 4 := b3 ▸ mBad_w
              have ha3 : m3 aM f_wrongAt = p2 := b3 ▸ mBad_a
              have z3 : zfr fTw m m3 := b3 ▸ zfr_uj (zfr_uj z2 (by decide)) (by decide)
              have hd3 : 0 < m3 aM f_wrong := by rw [hw3]; first | exact kMis_pos | decide
              have hm3 : ptM m3 := hB3.1
              have ha_c3 : m3 a_c = m a_c := (b3 ▸ (zu_fn (by decide)).trans (zu_fn (by decide)) : m3 a_c = m2 a_c).trans ha_c2
              have ha_mate3 : m3 a_mate = m a_mate := (b3 ▸ (zu_fn (by decide)).trans (zu_fn (by decide)) : m3 a_mate = m2 a_mate).trans ha_mate2
              have ha_what3 : m3 a_what = m a_what := (b3 ▸ (zu_fn (by decide)).trans (zu_fn (by decide)) : m3 a_what = m2 a_what).trans ha_what2
              have ha_pointOf3 : m3 a_pointOf = m a_pointOf := (b3 ▸ (zu_fn (by decide)).trans (zu_fn (by decide)) : m3 a_pointOf = m2 a_pointOf).trans ha_pointOf2
              have hletters3 : m3 aM f_letters = m aM f_letters := (b3 ▸ (zu_j (by decide)).trans (zu_j (by decide)) : m3 aM f_letters = m2 aM f_letters).trans hletters2
              have hwide3 : m3 aM f_wide = m aM f_wide := (b3 ▸ (zu_j (by decide)).trans (zu_j (by decide)) : m3 aM f_wide = m2 aM f_wide).trans hwide2
              refine z_aload_n dX12_readsTwo_124 rfl ?_
              refine z_aload_n dX12_readsTwo_125 rfl ?_
              refine z_gIv f_wrong rfl flX12_487 dX12_readsTwo_126 (sh_M hE) rfl hw3 ?_
              refine z_if_gt (tgt := 144) dX12_readsTwo_129 rfl (fun h129 => ?_) (fun h => absurd (by omega) h)
              refine z_iconst dX12_readsTwo_144 (by decide) ?_
              refine z_goto (tgt := 149) dX12_readsTwo_145 rfl ?_
              refine z_iconst dX12_readsTwo_149 (by decide) ?_
              refine z_callV mlX12_493 dX12_readsTwo_150 (sh_M hE) (av := [_, _]) rfl rfl (Nat.le_of_ble_eq_true rfl) (x_mustT _ hE hB3 _ 5 (Or.inr hd3)) (Nat.le_refl _) (Nat.le_refl _) (Nat.le_refl _) (Nat.le_refl _) ?_
              rintro _ _ ⟨rfl, rfl⟩
              refine z_aload_n dX12_readsTwo_153 rfl ?_
              refine z_gIv f_wrong rfl flX12_487 dX12_readsTwo_154 (sh_M hE) rfl hw3 ?_
              refine z_if_le (tgt := 161) dX12_readsTwo_157 rfl (fun h => absurd h (by omega)) (fun h157 => ?_)
              refine z_vret dX12_readsTwo_160 rfl rfl ?_
              have eA : pTwo (mK m) (m aM f_letters) (cMay (m a_c) (m a_what) (m a_pointOf)) (m a_mate) (m aM f_wide) p = (4, p2, m a_mate, m aM f_wide, p) := by unfold pTwo; rw [if_neg (not_not_intro g1), if_neg (not_not_intro i1), if_neg (by omega), if_neg (by omega), ← e1, if_neg (not_not_intro y81), ← e2, if_neg (not_not_intro g3), if_neg (not_not_intro i3), if_pos h112]
              rw [eA]
              refine ⟨rfl, ?_⟩
              exact ⟨z3, hw3, fun _ => ha3, fun h => absurd (show (4 : Int) = 0 from h) (by first | exact kMis_ne | decide), fun x hx => congrFun ha_mate3 x⟩
            · refine z_iconst dX12_readsTwo_115 (by decide) ?_
              refine z_goto (tgt := 120) dX12_readsTwo_116 rfl ?_
              refine z_iconst dX12_readsTwo_120 (by decide) ?_
              refine z_callV mlX12_493 dX12_readsTwo_121 (sh_M hE) (av := [_, _]) rfl rfl (Nat.le_of_ble_eq_true rfl) (x_mustT _ hE hB2 1 4 (Or.inl (by decide))) (Nat.le_refl _) (Nat.le_refl _) (Nat.le_refl _) (Nat.le_refl _) ?_
              rintro _ _ ⟨rfl, rfl⟩
              refine z_aload_n dX12_readsTwo_124 rfl ?_
              refine z_aload_n dX12_readsTwo_125 rfl ?_
              refine z_gIv f_wrong rfl flX12_487 dX12_readsTwo_126 (sh_M hE) rfl hw2 ?_
              refine z_if_gt (tgt := 144) dX12_readsTwo_129 rfl (fun h => absurd h (by omega)) (fun h129 => ?_)
              refine z_aload_n dX12_readsTwo_132 rfl ?_
              refine z_gP 16 rfl (r := a_mate) flX12_41 dX12_readsTwo_133 (sh_M hE) rfl (pt_mate hm2) (by decide) ?_
              refine z_aload_n dX12_readsTwo_136 rfl ?_
              refine z_gIv f_number rfl flX12_481 dX12_readsTwo_137 (sh_M hE) rfl (show m2 aM f_number = kN (mK m) p2 by have h := ht2.2.2.2.2.2.2 (by rw [hK2]; exact g3); rw [hK2] at h; exact h) ?_
              refine z_ialv dX12_readsTwo_140 (sh_mate hE) (by omega) (by omega) (congrFun ha_mate2 _) ?_
              refine z_if_ge (tgt := 148) dX12_readsTwo_141 rfl (fun h141 => ?_) (fun h141 => ?_)
              · refine z_iconst dX12_readsTwo_148 (by decide) ?_
                refine z_iconst dX12_readsTwo_149 (by decide) ?_
                refine z_callV mlX12_493 dX12_readsTwo_150 (sh_M hE) (av := [_, _]) rfl rfl (Nat.le_of_ble_eq_true rfl) (x_mustK _ hE hB2 hw2 p2 ht2 5 (by decide)) (Nat.le_refl _) (Nat.le_refl _) (Nat.le_refl _) (Nat.le_refl _) ?_
                rintro _ m3 ⟨rfl, b3⟩
                have hB3 : mB m3 := b3 ▸ mB_bad hB2
                have hw3 : m3 aM f_wrong = 5 := b3 ▸ mBad_w
                have ha3 : m3 aM f_wrongAt = p2 := b3 ▸ mBad_a
                have z3 : zfr fTw m m3 := b3 ▸ zfr_uj (zfr_uj z2 (by decide)) (by decide)
                have hd3 : 0 < m3 aM f_wrong := by rw [hw3]; first | exact kMis_pos | decide
                have hm3 : ptM m3 := hB3.1
                have ha_c3 : m3 a_c = m a_c := (b3 ▸ (zu_fn (by decide)).trans (zu_fn (by decide)) : m3 a_c = m2 a_c).trans ha_c2
                have ha_mate3 : m3 a_mate = m a_mate := (b3 ▸ (zu_fn (by decide)).trans (zu_fn (by decide)) : m3 a_mate = m2 a_mate).trans ha_mate2
                have ha_what3 : m3 a_what = m a_what := (b3 ▸ (zu_fn (by decide)).trans (zu_fn (by decide)) : m3 a_what = m2 a_what).trans ha_what2
                have ha_pointOf3 : m3 a_pointOf = m a_pointOf := (b3 ▸ (zu_fn (by decide)).trans (zu_fn (by decide)) : m3 a_pointOf = m2 a_pointOf).trans ha_pointOf2
                have hletters3 : m3 aM f_letters = m aM f_letters := (b3 ▸ (zu_j (by decide)).trans (zu_j (by decide)) : m3 aM f_letters = m2 aM f_letters).trans hletters2
                have hwide3 : m3 aM f_wide = m aM f_wide := (b3 ▸ (zu_j (by decide)).trans (zu_j (by decide)) : m3 aM f_wide = m2 aM f_wide).trans hwide2
                refine z_aload_n dX12_readsTwo_153 rfl ?_
                refine z_gIv f_wrong rfl flX12_487 dX12_readsTwo_154 (sh_M hE) rfl hw3 ?_
                refine z_if_le (tgt := 161) dX12_readsTwo_157 rfl (fun h => absurd h (by omega)) (fun h157 => ?_)
                refine z_vret dX12_readsTwo_160 rfl rfl ?_
                have eA : pTwo (mK m) (m aM f_letters) (cMay (m a_c) (m a_what) (m a_pointOf)) (m a_mate) (m aM f_wide) p = (5, p2, m a_mate, m aM f_wide, p) := by unfold pTwo; rw [if_neg (not_not_intro g1), if_neg (not_not_intro i1), if_neg (by omega), if_neg (by omega), ← e1, if_neg (not_not_intro y81), ← e2, if_neg (not_not_intro g3), if_neg (not_not_intro i3), if_neg (not_not_intro h112), if_pos (by omega)]
                rw [eA]
                refine ⟨rfl, ?_⟩
                exact ⟨z3, hw3, fun _ => ha3, fun h => absurd (show (5 : Int) = 0 from h) (by first | exact kMis_ne | decide), fun x hx => congrFun ha_mate3 x⟩
              · refine z_iconst dX12_readsTwo_144 (by decide) ?_
                refine z_goto (tgt := 149) dX12_readsTwo_145 rfl ?_
                refine z_iconst dX12_readsTwo_149 (by decide) ?_
                refine z_callV mlX12_493 dX12_readsTwo_150 (sh_M hE) (av := [_, _]) rfl rfl (Nat.le_of_ble_eq_true rfl) (x_mustT _ hE hB2 1 5 (Or.inl (by decide))) (Nat.le_refl _) (Nat.le_refl _) (Nat.le_refl _) (Nat.le_refl _) ?_
                rintro _ _ ⟨rfl, rfl⟩
                refine z_aload_n dX12_readsTwo_153 rfl ?_
                refine z_gIv f_wrong rfl flX12_487 dX12_readsTwo_154 (sh_M hE) rfl hw2 ?_
                refine z_if_le (tgt := 161) dX12_readsTwo_157 rfl (fun h157 => ?_) (fun h => absurd (by omega) h)
                refine z_aload_n dX12_readsTwo_161 rfl ?_
                refine z_gP 16 rfl (r := a_mate) flX12_41 dX12_readsTwo_162 (sh_M hE) rfl (pt_mate hm2) (by decide) ?_
                refine z_iload_n dX12_readsTwo_165 rfl ?_
                refine z_aload_n dX12_readsTwo_166 rfl ?_
                refine z_gIv f_number rfl flX12_481 dX12_readsTwo_167 (sh_M hE) rfl (show m2 aM f_number = kN (mK m) p2 by have h := ht2.2.2.2.2.2.2 (by rw [hK2]; exact g3); rw [hK2] at h; exact h) ?_
                refine z_iast dX12_readsTwo_170 (sh_mate hE) (by omega) (by omega) ?_
                refine z_aload_n dX12_readsTwo_171 rfl ?_
                refine z_gP 16 rfl (r := a_mate) flX12_41 dX12_readsTwo_172 (sh_M hE) rfl (pt_mate (ptM_a hm2 (by decide))) (by decide) ?_
                refine z_aload_n dX12_readsTwo_175 rfl ?_
                refine z_gIv f_number rfl flX12_481 dX12_readsTwo_176 (sh_M hE) rfl (Eq.trans (zu_a (by decide)) (show m2 aM f_number = kN (mK m) p2 by have h := ht2.2.2.2.2.2.2 (by rw [hK2]; exact g3); rw [hK2] at h; exact h)) ?_
                refine z_iload_n dX12_readsTwo_179 rfl ?_
                refine z_iast dX12_readsTwo_180 (sh_mate hE) (by omega) (by omega) ?_
                refine z_aload_n dX12_readsTwo_181 rfl ?_
                refine z_dup dX12_readsTwo_182 rfl ?_
                refine z_gIv f_wide rfl flX12_545 dX12_readsTwo_183 (sh_M hE) rfl (Eq.trans (zu_a (by decide)) (Eq.trans (zu_a (by decide)) hwide2)) ?_
                refine z_iconst dX12_readsTwo_186 (by decide) ?_
                refine z_add dX12_readsTwo_187 (by omega) ?_
                refine z_pI f_wide rfl (fpX12_545 _) dX12_readsTwo_188 (sh_M hE) rfl ?_
                generalize em3 : zu (zu (zu m2 a_mate (kN (mK m) p) (kN (mK m) p2)) a_mate (kN (mK m) p2) (kN (mK m) p)) aM f_wide (m aM f_wide + 1) = m3
                have f3 : zfr fTw m2 m3 := by rw [← em3]; exact zfr_uj (zfr_ua (zfr_ua zfr_rf (by decide)) (by decide)) (by decide)
                have f3' : zfr [(a_mate, none), (aM, some f_wide)] m2 m3 := by rw [← em3]; exact zfr_uj (zfr_ua (zfr_ua zfr_rf (by decide)) (by decide)) (by decide)
                have hB3 := mB_fr hB2 (zfr_sub f3 (by decide))
                have hm3 : ptM m3 := hB3.1
                have hK3 : mK m3 = mK m := (mK_fr f3' (by decide)).trans hK2
                have hw3 : m3 aM f_wrong = 0 := (zfr_at f3' (by decide)).trans hw2
                have z3 : zfr fTw m m3 := zfr_tr z2 f3
                have hn3 : m3 aM f_end = m aM f_end := (zfr_at f3' (by decide)).trans hn2
                have ht3 : mTk m3 p2 := mTk_K ht2 (mK_fr f3' (by decide)) (zfr_at f3' (by decide)) (zfr_at f3' (by decide)) (zfr_at f3' (by decide)) (zfr_at f3' (by decide)) (zfr_at f3' (by decide)) (zfr_at f3' (by decide))
                have gw3 : m3 aM f_wide = m aM f_wide + 1 := by rw [← em3]; exact zu_s
                have gm3 : m3 a_mate = sUp (m a_mate) (kN (mK m) p) (kN (mK m) p2) := by rw [← em3, zu_fn (by decide)]; exact sUp_u ha_mate2
                have gmx : ∀ x, (x < 0 ∨ 12 ≤ x) → m3 a_mate x = m a_mate x := fun x hx => by rw [gm3]; unfold sUp; rw [if_neg (by omega), if_neg (by omega)]
                refine z_aload_n dX12_readsTwo_191 rfl ?_
                refine z_callV mlX12_497 dX12_readsTwo_192 (sh_M hE) (av := _) rfl rfl (Nat.le_of_ble_eq_true rfl) (x_reads _ hE hB3 hw3 p2 ht3 (by rw [hn3]; exact kSo_lt hok (by rw [g3]; decide))) (Nat.le_refl _) (Nat.le_refl _) (Nat.le_refl _) (Nat.le_refl _) ?_
                rintro _ m4 ⟨rfl, f4, t4⟩
                have hB4 := mB_fr hB3 (zfr_sub f4 (by decide))
                have hK4 : mK m4 = mK m := (mK_fr f4 (by decide)).trans hK3
                have hw4 : m4 aM f_wrong = 0 := (zfr_at f4 (by decide)).trans hw3
                have z4 : zfr fTw m m4 := zfr_tr z3 (zfr_sub f4 (by decide))
                have hn4 : m4 aM f_end = m aM f_end := (zfr_at f4 (by decide)).trans hn3
                have hm4 : ptM m4 := hB4.1
                rw [hK3] at t4
                obtain ⟨p4, e4⟩ : ∃ x, x = kR (mK m) p2 := ⟨_, rfl⟩
                rw [← e4] at t4
                have ht4 := t4
                refine z_aload_n dX12_readsTwo_195 rfl ?_
                refine z_aload_n dX12_readsTwo_196 rfl ?_
                refine z_bipush dX12_readsTwo_197 rfl (by decide) ?_
                refine z_callV mlX12_520 dX12_readsTwo_199 (sh_M hE) (av := [_]) rfl rfl (Nat.le_of_ble_eq_true rfl) (by have h := x_isSign (d + 3) hE hB4 hw4 p4 ht4 59 (by decide) (by decide); rw [hK4] at h; exact h) (Nat.le_refl _) (Nat.le_refl _) (Nat.le_refl _) (Nat.le_refl _) ?_
                rintro _ _ ⟨rfl, rfl⟩
                by_cases y199 : kSn (mK m) p4 59
                · rw [zb_t y199]
                  refine z_callV mlX12_506 dX12_readsTwo_202 (sh_M hE) (av := [_]) rfl rfl (Nat.le_of_ble_eq_true rfl) (x_takesT _ hE hB4 hw4 p4 ht4 (by rw [hn4]; exact kSo_lt hok (by rw [y199.1]; decide))) (Nat.le_refl _) (Nat.le_refl _) (Nat.le_refl _) (Nat.le_refl _) ?_
                  rintro _ m5 ⟨rfl, f5, t5⟩
                  have hB5 := mB_fr hB4 (zfr_sub f5 (by decide))
                  have hK5 : mK m5 = mK m := (mK_fr f5 (by decide)).trans hK4
                  have hw5 : m5 aM f_wrong = 0 := (zfr_at f5 (by decide)).trans hw4
                  have z5 : zfr fTw m m5 := zfr_tr z4 (zfr_sub f5 (by decide))
                  have hn5 : m5 aM f_end = m aM f_end := (zfr_at f5 (by decide)).trans hn4
                  have hm5 : ptM m5 := hB5.1
                  rw [hK4] at t5
                  obtain ⟨p5, e5⟩ : ∃ x, x = kR (mK m) p4 := ⟨_, rfl⟩
                  rw [← e5] at t5
                  have ht5 := t5
                  refine z_vret dX12_readsTwo_205 rfl rfl ?_
                  have eA : pTwo (mK m) (m aM f_letters) (cMay (m a_c) (m a_what) (m a_pointOf)) (m a_mate) (m aM f_wide) p = (0, 0, sUp (m a_mate) (kN (mK m) p) (kN (mK m) p2), m aM f_wide + 1, p5) := by unfold pTwo; rw [if_neg (not_not_intro g1), if_neg (not_not_intro i1), if_neg (by omega), if_neg (by omega), ← e1, if_neg (not_not_intro y81), ← e2, if_neg (not_not_intro g3), if_neg (not_not_intro i3), if_neg (not_not_intro h112), if_neg (by omega), ← e4, if_neg (not_not_intro y199), ← e5]
                  rw [eA]
                  refine ⟨rfl, ?_⟩
                  exact ⟨z5, hw5, fun h => absurd rfl h, fun _ => ⟨(zfr_cell f5 (by decide)).trans ((zfr_cell f4 (by decide)).trans gm3), (zfr_at f5 (by decide)).trans ((zfr_at f4 (by decide)).trans gw3), ht5⟩, fun x hx => (congrFun (zfr_cell f5 (by decide)) x).trans ((congrFun (zfr_cell f4 (by decide)) x).trans (gmx x hx))⟩
                · rw [zb_f y199]
                  refine z_callV mlX12_506 dX12_readsTwo_202 (sh_M hE) (av := [_]) rfl rfl (Nat.le_of_ble_eq_true rfl) (by have h := x_takesF (d) hE hB4 hw4 p4 ht4; rw [hK4] at h; exact h) (Nat.le_refl _) (Nat.le_refl _) (Nat.le_refl _) (Nat.le_refl _) ?_
                  rintro _ m5 ⟨rfl, b5⟩
                  have hB5 : mB m5 := b5 ▸ mB_bad hB4
                  have hw5 : m5 aM f_wrong = kMis (mK m) p4 := b5 ▸ mBad_w
                  have ha5 : m5 aM f_wrongAt = p4 := b5 ▸ mBad_a
                  have z5 : zfr fTw m m5 := b5 ▸ zfr_uj (zfr_uj z4 (by decide)) (by decide)
                  have hd5 : 0 < m5 aM f_wrong := by rw [hw5]; first | exact kMis_pos | decide
                  have hm5 : ptM m5 := hB5.1
                  refine z_vret dX12_readsTwo_205 rfl rfl ?_
                  have eA : pTwo (mK m) (m aM f_letters) (cMay (m a_c) (m a_what) (m a_pointOf)) (m a_mate) (m aM f_wide) p = (kMis (mK m) p4, p4, m a_mate, m aM f_wide, p) := by unfold pTwo; rw [if_neg (not_not_intro g1), if_neg (not_not_intro i1), if_neg (by omega), if_neg (by omega), ← e1, if_neg (not_not_intro y81), ← e2, if_neg (not_not_intro g3), if_neg (not_not_intro i3), if_neg (not_not_intro h112), if_neg (by omega), ← e4, if_pos y199]
                  rw [eA]
                  refine ⟨rfl, ?_⟩
                  exact ⟨z5, hw5, fun _ => ha5, fun h => absurd (show (kMis (mK m) p4 : Int) = 0 from h) (by first | exact kMis_ne | decide), fun x hx => (congrFun (b5 ▸ (zu_fn (by decide)).trans (zu_fn (by decide)) : m5 a_mate = m4 a_mate) x).trans ((congrFun (zfr_cell f4 (by decide)) x).trans (gmx x hx))⟩
          · have hB3 : mB m3 := b3 ▸ mB_bad hB2
            have hw3 : m3 aM f_wrong = 3 := b3 ▸ mBad_w
            have ha3 : m3 aM f_wrongAt = p2 := b3 ▸ mBad_a
            have z3 : zfr fTw m m3 := b3 ▸ zfr_uj (zfr_uj z2 (by decide)) (by decide)
            have hd3 : 0 < m3 aM f_wrong := by rw [hw3]; first | exact kMis_pos | decide
            have hm3 : ptM m3 := hB3.1
            have ha_c3 : m3 a_c = m a_c := (b3 ▸ (zu_fn (by decide)).trans (zu_fn (by decide)) : m3 a_c = m2 a_c).trans ha_c2
            have ha_mate3 : m3 a_mate = m a_mate := (b3 ▸ (zu_fn (by decide)).trans (zu_fn (by decide)) : m3 a_mate = m2 a_mate).trans ha_mate2
            have ha_what3 : m3 a_what = m a_what := (b3 ▸ (zu_fn (by decide)).trans (zu_fn (by decide)) : m3 a_what = m2 a_what).trans ha_what2
            have ha_pointOf3 : m3 a_pointOf = m a_pointOf := (b3 ▸ (zu_fn (by decide)).trans (zu_fn (by decide)) : m3 a_pointOf = m2 a_pointOf).trans ha_pointOf2
            have hletters3 : m3 aM f_letters = m aM f_letters := (b3 ▸ (zu_j (by decide)).trans (zu_j (by decide)) : m3 aM f_letters = m2 aM f_letters).trans hletters2
            have hwide3 : m3 aM f_wide = m aM f_wide := (b3 ▸ (zu_j (by decide)).trans (zu_j (by decide)) : m3 aM f_wide = m2 aM f_wide).trans hwide2
            refine z_aload_n dX12_readsTwo_95 rfl ?_
            refine z_aload_n dX12_readsTwo_96 rfl ?_
            refine z_gIv f_wrong rfl flX12_487 dX12_readsTwo_97 (sh_M hE) rfl hw3 ?_
            refine z_if_gt (tgt := 115) dX12_readsTwo_100 rfl (fun h100 => ?_) (fun h => absurd (by omega) h)
            refine z_iconst dX12_readsTwo_115 (by decide) ?_
            refine z_goto (tgt := 120) dX12_readsTwo_116 rfl ?_
            refine z_iconst dX12_readsTwo_120 (by decide) ?_
            refine z_callV mlX12_493 dX12_readsTwo_121 (sh_M hE) (av := [_, _]) rfl rfl (Nat.le_of_ble_eq_true rfl) (x_mustT _ hE hB3 _ 4 (Or.inr hd3)) (Nat.le_refl _) (Nat.le_refl _) (Nat.le_refl _) (Nat.le_refl _) ?_
            rintro _ _ ⟨rfl, rfl⟩
            refine z_aload_n dX12_readsTwo_124 rfl ?_
            refine z_aload_n dX12_readsTwo_125 rfl ?_
            refine z_gIv f_wrong rfl flX12_487 dX12_readsTwo_126 (sh_M hE) rfl hw3 ?_
            refine z_if_gt (tgt := 144) dX12_readsTwo_129 rfl (fun h129 => ?_) (fun h => absurd (by omega) h)
            refine z_iconst dX12_readsTwo_144 (by decide) ?_
            refine z_goto (tgt := 149) dX12_readsTwo_145 rfl ?_
            refine z_iconst dX12_readsTwo_149 (by decide) ?_
            refine z_callV mlX12_493 dX12_readsTwo_150 (sh_M hE) (av := [_, _]) rfl rfl (Nat.le_of_ble_eq_true rfl) (x_mustT _ hE hB3 _ 5 (Or.inr hd3)) (Nat.le_refl _) (Nat.le_refl _) (Nat.le_refl _) (Nat.le_refl _) ?_
            rintro _ _ ⟨rfl, rfl⟩
            refine z_aload_n dX12_readsTwo_153 rfl ?_
            refine z_gIv f_wrong rfl flX12_487 dX12_readsTwo_154 (sh_M hE) rfl hw3 ?_
            refine z_if_le (tgt := 161) dX12_readsTwo_157 rfl (fun h => absurd h (by omega)) (fun h157 => ?_)
            refine z_vret dX12_readsTwo_160 rfl rfl ?_
            have eA : pTwo (mK m) (m aM f_letters) (cMay (m a_c) (m a_what) (m a_pointOf)) (m a_mate) (m aM f_wide) p = (3, p2, m a_mate, m aM f_wide, p) := by unfold pTwo; rw [if_neg (not_not_intro g1), if_neg (not_not_intro i1), if_neg (by omega), if_neg (by omega), ← e1, if_neg (not_not_intro y81), ← e2, if_neg (not_not_intro g3), if_pos i3]
            rw [eA]
            refine ⟨rfl, ?_⟩
            exact ⟨z3, hw3, fun _ => ha3, fun h => absurd (show (3 : Int) = 0 from h) (by first | exact kMis_ne | decide), fun x hx => congrFun ha_mate3 x⟩
          · have hB3 : mB m3 := b3 ▸ mB_bad hB2
            have hw3 : m3 aM f_wrong = kMis (mK m) p2 := b3 ▸ mBad_w
            have ha3 : m3 aM f_wrongAt = p2 := b3 ▸ mBad_a
            have z3 : zfr fTw m m3 := b3 ▸ zfr_uj (zfr_uj z2 (by decide)) (by decide)
            have hd3 : 0 < m3 aM f_wrong := by rw [hw3]; first | exact kMis_pos | decide
            have hm3 : ptM m3 := hB3.1
            have ha_c3 : m3 a_c = m a_c := (b3 ▸ (zu_fn (by decide)).trans (zu_fn (by decide)) : m3 a_c = m2 a_c).trans ha_c2
            have ha_mate3 : m3 a_mate = m a_mate := (b3 ▸ (zu_fn (by decide)).trans (zu_fn (by decide)) : m3 a_mate = m2 a_mate).trans ha_mate2
            have ha_what3 : m3 a_what = m a_what := (b3 ▸ (zu_fn (by decide)).trans (zu_fn (by decide)) : m3 a_what = m2 a_what).trans ha_what2
            have ha_pointOf3 : m3 a_pointOf = m a_pointOf := (b3 ▸ (zu_fn (by decide)).trans (zu_fn (by decide)) : m3 a_pointOf = m2 a_pointOf).trans ha_pointOf2
            have hletters3 : m3 aM f_letters = m aM f_letters := (b3 ▸ (zu_j (by decide)).trans (zu_j (by decide)) : m3 aM f_letters = m2 aM f_letters).trans hletters2
            have hwide3 : m3 aM f_wide = m aM f_wide := (b3 ▸ (zu_j (by decide)).trans (zu_j (by decide)) : m3 aM f_wide = m2 aM f_wide).trans hwide2
            refine z_aload_n dX12_readsTwo_95 rfl ?_
            refine z_aload_n dX12_readsTwo_96 rfl ?_
            refine z_gIv f_wrong rfl flX12_487 dX12_readsTwo_97 (sh_M hE) rfl hw3 ?_
            refine z_if_gt (tgt := 115) dX12_readsTwo_100 rfl (fun h100 => ?_) (fun h => absurd (by omega) h)
            refine z_iconst dX12_readsTwo_115 (by decide) ?_
            refine z_goto (tgt := 120) dX12_readsTwo_116 rfl ?_
            refine z_iconst dX12_readsTwo_120 (by decide) ?_
            refine z_callV mlX12_493 dX12_readsTwo_121 (sh_M hE) (av := [_, _]) rfl rfl (Nat.le_of_ble_eq_true rfl) (x_mustT _ hE hB3 _ 4 (Or.inr hd3)) (Nat.le_refl _) (Nat.le_refl _) (Nat.le_refl _) (Nat.le_refl _) ?_
            rintro _ _ ⟨rfl, rfl⟩
            refine z_aload_n dX12_readsTwo_124 rfl ?_
            refine z_aload_n dX12_readsTwo_125 rfl ?_
            refine z_gIv f_wrong rfl flX12_487 dX12_readsTwo_126 (sh_M hE) rfl hw3 ?_
            refine z_if_gt (tgt := 144) dX12_readsTwo_129 rfl (fun h129 => ?_) (fun h => absurd (by omega) h)
            refine z_iconst dX12_readsTwo_144 (by decide) ?_
            refine z_goto (tgt := 149) dX12_readsTwo_145 rfl ?_
            refine z_iconst dX12_readsTwo_149 (by decide) ?_
            refine z_callV mlX12_493 dX12_readsTwo_150 (sh_M hE) (av := [_, _]) rfl rfl (Nat.le_of_ble_eq_true rfl) (x_mustT _ hE hB3 _ 5 (Or.inr hd3)) (Nat.le_refl _) (Nat.le_refl _) (Nat.le_refl _) (Nat.le_refl _) ?_
            rintro _ _ ⟨rfl, rfl⟩
            refine z_aload_n dX12_readsTwo_153 rfl ?_
            refine z_gIv f_wrong rfl flX12_487 dX12_readsTwo_154 (sh_M hE) rfl hw3 ?_
            refine z_if_le (tgt := 161) dX12_readsTwo_157 rfl (fun h => absurd h (by omega)) (fun h157 => ?_)
            refine z_vret dX12_readsTwo_160 rfl rfl ?_
            have eA : pTwo (mK m) (m aM f_letters) (cMay (m a_c) (m a_what) (m a_pointOf)) (m a_mate) (m aM f_wide) p = (kMis (mK m) p2, p2, m a_mate, m aM f_wide, p) := by unfold pTwo; rw [if_neg (not_not_intro g1), if_neg (not_not_intro i1), if_neg (by omega), if_neg (by omega), ← e1, if_neg (not_not_intro y81), ← e2, if_pos g3]
            rw [eA]
            refine ⟨rfl, ?_⟩
            exact ⟨z3, hw3, fun _ => ha3, fun h => absurd (show (kMis (mK m) p2 : Int) = 0 from h) (by first | exact kMis_ne | decide), fun x hx => congrFun ha_mate3 x⟩
        · rw [zb_f y81]
          refine z_callV mlX12_506 dX12_readsTwo_84 (sh_M hE) (av := [_]) rfl rfl (Nat.le_of_ble_eq_true rfl) (by have h := x_takesF (d) hE hB1 hw1 p1 ht1; rw [hK1] at h; exact h) (Nat.le_refl _) (Nat.le_refl _) (Nat.le_refl _) (Nat.le_refl _) ?_
          rintro _ m2 ⟨rfl, b2⟩
          have hB2 : mB m2 := b2 ▸ mB_bad hB1
          have hw2 : m2 aM f_wrong = kMis (mK m) p1 := b2 ▸ mBad_w
          have ha2 : m2 aM f_wrongAt = p1 := b2 ▸ mBad_a
          have z2 : zfr fTw m m2 := b2 ▸ zfr_uj (zfr_uj z1 (by decide)) (by decide)
          have hd2 : 0 < m2 aM f_wrong := by rw [hw2]; first | exact kMis_pos | decide
          have hm2 : ptM m2 := hB2.1
          have ha_c2 : m2 a_c = m a_c := (b2 ▸ (zu_fn (by decide)).trans (zu_fn (by decide)) : m2 a_c = m1 a_c).trans ha_c1
          have ha_mate2 : m2 a_mate = m a_mate := (b2 ▸ (zu_fn (by decide)).trans (zu_fn (by decide)) : m2 a_mate = m1 a_mate).trans ha_mate1
          have ha_what2 : m2 a_what = m a_what := (b2 ▸ (zu_fn (by decide)).trans (zu_fn (by decide)) : m2 a_what = m1 a_what).trans ha_what1
          have ha_pointOf2 : m2 a_pointOf = m a_pointOf := (b2 ▸ (zu_fn (by decide)).trans (zu_fn (by decide)) : m2 a_pointOf = m1 a_pointOf).trans ha_pointOf1
          have hletters2 : m2 aM f_letters = m aM f_letters := (b2 ▸ (zu_j (by decide)).trans (zu_j (by decide)) : m2 aM f_letters = m1 aM f_letters).trans hletters1
          have hwide2 : m2 aM f_wide = m aM f_wide := (b2 ▸ (zu_j (by decide)).trans (zu_j (by decide)) : m2 aM f_wide = m1 aM f_wide).trans hwide1
          refine z_aload_n dX12_readsTwo_87 rfl ?_
          refine z_aload_n dX12_readsTwo_88 rfl ?_
          refine z_gIv f_letters rfl flX12_124 dX12_readsTwo_89 (sh_M hE) rfl hletters2 ?_
          refine z_callV mlX12_542 dX12_readsTwo_92 (sh_M hE) (av := [_]) rfl rfl (Nat.le_of_ble_eq_true rfl) (y_needs _ hE hB2 hd2 _) (Nat.le_refl _) (Nat.le_refl _) (Nat.le_refl _) (Nat.le_refl _) ?_
          rintro _ _ ⟨rfl, rfl⟩
          refine z_aload_n dX12_readsTwo_95 rfl ?_
          refine z_aload_n dX12_readsTwo_96 rfl ?_
          refine z_gIv f_wrong rfl flX12_487 dX12_readsTwo_97 (sh_M hE) rfl hw2 ?_
          refine z_if_gt (tgt := 115) dX12_readsTwo_100 rfl (fun h100 => ?_) (fun h => absurd (by omega) h)
          refine z_iconst dX12_readsTwo_115 (by decide) ?_
          refine z_goto (tgt := 120) dX12_readsTwo_116 rfl ?_
          refine z_iconst dX12_readsTwo_120 (by decide) ?_
          refine z_callV mlX12_493 dX12_readsTwo_121 (sh_M hE) (av := [_, _]) rfl rfl (Nat.le_of_ble_eq_true rfl) (x_mustT _ hE hB2 _ 4 (Or.inr hd2)) (Nat.le_refl _) (Nat.le_refl _) (Nat.le_refl _) (Nat.le_refl _) ?_
          rintro _ _ ⟨rfl, rfl⟩
          refine z_aload_n dX12_readsTwo_124 rfl ?_
          refine z_aload_n dX12_readsTwo_125 rfl ?_
          refine z_gIv f_wrong rfl flX12_487 dX12_readsTwo_126 (sh_M hE) rfl hw2 ?_
          refine z_if_gt (tgt := 144) dX12_readsTwo_129 rfl (fun h129 => ?_) (fun h => absurd (by omega) h)
          refine z_iconst dX12_readsTwo_144 (by decide) ?_
          refine z_goto (tgt := 149) dX12_readsTwo_145 rfl ?_
          refine z_iconst dX12_readsTwo_149 (by decide) ?_
          refine z_callV mlX12_493 dX12_readsTwo_150 (sh_M hE) (av := [_, _]) rfl rfl (Nat.le_of_ble_eq_true rfl) (x_mustT _ hE hB2 _ 5 (Or.inr hd2)) (Nat.le_refl _) (Nat.le_refl _) (Nat.le_refl _) (Nat.le_refl _) ?_
          rintro _ _ ⟨rfl, rfl⟩
          refine z_aload_n dX12_readsTwo_153 rfl ?_
          refine z_gIv f_wrong rfl flX12_487 dX12_readsTwo_154 (sh_M hE) rfl hw2 ?_
          refine z_if_le (tgt := 161) dX12_readsTwo_157 rfl (fun h => absurd h (by omega)) (fun h157 => ?_)
          refine z_vret dX12_readsTwo_160 rfl rfl ?_
          have eA : pTwo (mK m) (m aM f_letters) (cMay (m a_c) (m a_what) (m a_pointOf)) (m a_mate) (m aM f_wide) p = (kMis (mK m) p1, p1, m a_mate, m aM f_wide, p) := by unfold pTwo; rw [if_neg (not_not_intro g1), if_neg (not_not_intro i1), if_neg (by omega), if_neg (by omega), ← e1, if_pos y81]
          rw [eA]
          refine ⟨rfl, ?_⟩
          exact ⟨z2, hw2, fun _ => ha2, fun h => absurd (show (kMis (mK m) p1 : Int) = 0 from h) (by first | exact kMis_ne | decide), fun x hx => congrFun ha_mate2 x⟩
  · have hB1 : mB m1 := b1 ▸ mB_bad hB0
    have hw1 : m1 aM f_wrong = 3 := b1 ▸ mBad_w
    have ha1 : m1 aM f_wrongAt = p := b1 ▸ mBad_a
    have z1 : zfr fTw m m1 := b1 ▸ zfr_uj (zfr_uj z0 (by decide)) (by decide)
    have hd1 : 0 < m1 aM f_wrong := by rw [hw1]; first | exact kMis_pos | decide
    have hm1 : ptM m1 := hB1.1
    have ha_c1 : m1 a_c = m a_c := b1 ▸ (zu_fn (by decide)).trans (zu_fn (by decide))
    have ha_mate1 : m1 a_mate = m a_mate := b1 ▸ (zu_fn (by decide)).trans (zu_fn (by decide))
    have ha_what1 : m1 a_what = m a_what := b1 ▸ (zu_fn (by decide)).trans (zu_fn (by decide))
    have ha_pointOf1 : m1 a_pointOf = m a_pointOf := b1 ▸ (zu_fn (by decide)).trans (zu_fn (by decide))
    have hletters1 : m1 aM f_letters = m aM f_letters := (b1 ▸ (zu_j (by decide)).trans (zu_j (by decide)) : m1 aM f_letters = m aM f_letters).trans hletters0
    have hwide1 : m1 aM f_wide = m aM f_wide := (b1 ▸ (zu_j (by decide)).trans (zu_j (by decide)) : m1 aM f_wide = m aM f_wide).trans hwide0
    refine z_aload_n dX12_readsTwo_8 rfl ?_
    refine z_aload_n dX12_readsTwo_9 rfl ?_
    refine z_gIv f_wrong rfl flX12_487 dX12_readsTwo_10 (sh_M hE) rfl hw1 ?_
    refine z_if_gt (tgt := 28) dX12_readsTwo_13 rfl (fun h13 => ?_) (fun h => absurd (by omega) h)
    refine z_iconst dX12_readsTwo_28 (by decide) ?_
    refine z_goto (tgt := 33) dX12_readsTwo_29 rfl ?_
    refine z_iconst dX12_readsTwo_33 (by decide) ?_
    refine z_callV mlX12_493 dX12_readsTwo_34 (sh_M hE) (av := [_, _]) rfl rfl (Nat.le_of_ble_eq_true rfl) (x_mustT _ hE hB1 _ 5 (Or.inr hd1)) (Nat.le_refl _) (Nat.le_refl _) (Nat.le_refl _) (Nat.le_refl _) ?_
    rintro _ _ ⟨rfl, rfl⟩
    refine z_aload_n dX12_readsTwo_37 rfl ?_
    refine z_aload_n dX12_readsTwo_38 rfl ?_
    refine z_gIv f_wide rfl flX12_545 dX12_readsTwo_39 (sh_M hE) rfl hwide1 ?_
    refine z_aload_n dX12_readsTwo_42 rfl ?_
    refine z_gIv f_letters rfl flX12_124 dX12_readsTwo_43 (sh_M hE) rfl hletters1 ?_
    refine z_iconst dX12_readsTwo_46 (by decide) ?_
    refine z_div dX12_readsTwo_47 (by omega) (by omega) ?_
    refine z_icmp_ge (tgt := 55) dX12_readsTwo_48 rfl (fun h48 => ?_) (fun h48 => ?_)
    · refine z_iconst dX12_readsTwo_55 (by decide) ?_
      refine z_bipush dX12_readsTwo_56 rfl (by decide) ?_
      refine z_callV mlX12_493 dX12_readsTwo_58 (sh_M hE) (av := [_, _]) rfl rfl (Nat.le_of_ble_eq_true rfl) (x_mustT _ hE hB1 _ 6 (Or.inr hd1)) (Nat.le_refl _) (Nat.le_refl _) (Nat.le_refl _) (Nat.le_refl _) ?_
      rintro _ _ ⟨rfl, rfl⟩
      refine z_aload_n dX12_readsTwo_61 rfl ?_
      refine z_gI f_number rfl flX12_481 dX12_readsTwo_62 (sh_M hE) rfl ?_
      refine z_ist 1 dX12_readsTwo_65 rfl (Nat.le_of_ble_eq_true rfl) ?_
      refine z_aload_n dX12_readsTwo_66 rfl ?_
      refine z_gIv f_wrong rfl flX12_487 dX12_readsTwo_67 (sh_M hE) rfl hw1 ?_
      try dsimp only [zs0, zsI, zsP, zsN, zsJ, zsS, zst2, Nat.reduceAdd]
      refine z_if_ne (tgt := 77) dX12_readsTwo_70 rfl (fun h70 => ?_) (fun h => absurd (by omega) h)
      refine z_aload_n dX12_readsTwo_77 rfl ?_
      refine z_aload_n dX12_readsTwo_78 rfl ?_
      refine z_bipush dX12_readsTwo_79 rfl (by decide) ?_
      refine z_callV mlX12_520 dX12_readsTwo_81 (sh_M hE) (av := [_]) rfl rfl (Nat.le_of_ble_eq_true rfl) (w_isSign _ hE hB1 hd1 45) (Nat.le_refl _) (Nat.le_refl _) (Nat.le_refl _) (Nat.le_refl _) ?_
      rintro _ _ ⟨rfl, rfl⟩
      refine z_callV mlX12_506 dX12_readsTwo_84 (sh_M hE) (av := [_]) rfl rfl (Nat.le_of_ble_eq_true rfl) (y_takes _ hE hB1 hd1 _) (Nat.le_refl _) (Nat.le_refl _) (Nat.le_refl _) (Nat.le_refl _) ?_
      rintro _ _ ⟨rfl, rfl⟩
      refine z_aload_n dX12_readsTwo_87 rfl ?_
      refine z_aload_n dX12_readsTwo_88 rfl ?_
      refine z_gIv f_letters rfl flX12_124 dX12_readsTwo_89 (sh_M hE) rfl hletters1 ?_
      refine z_callV mlX12_542 dX12_readsTwo_92 (sh_M hE) (av := [_]) rfl rfl (Nat.le_of_ble_eq_true rfl) (y_needs _ hE hB1 hd1 _) (Nat.le_refl _) (Nat.le_refl _) (Nat.le_refl _) (Nat.le_refl _) ?_
      rintro _ _ ⟨rfl, rfl⟩
      refine z_aload_n dX12_readsTwo_95 rfl ?_
      refine z_aload_n dX12_readsTwo_96 rfl ?_
      refine z_gIv f_wrong rfl flX12_487 dX12_readsTwo_97 (sh_M hE) rfl hw1 ?_
      refine z_if_gt (tgt := 115) dX12_readsTwo_100 rfl (fun h100 => ?_) (fun h => absurd (by omega) h)
      refine z_iconst dX12_readsTwo_115 (by decide) ?_
      refine z_goto (tgt := 120) dX12_readsTwo_116 rfl ?_
      refine z_iconst dX12_readsTwo_120 (by decide) ?_
      refine z_callV mlX12_493 dX12_readsTwo_121 (sh_M hE) (av := [_, _]) rfl rfl (Nat.le_of_ble_eq_true rfl) (x_mustT _ hE hB1 _ 4 (Or.inr hd1)) (Nat.le_refl _) (Nat.le_refl _) (Nat.le_refl _) (Nat.le_refl _) ?_
      rintro _ _ ⟨rfl, rfl⟩
      refine z_aload_n dX12_readsTwo_124 rfl ?_
      refine z_aload_n dX12_readsTwo_125 rfl ?_
      refine z_gIv f_wrong rfl flX12_487 dX12_readsTwo_126 (sh_M hE) rfl hw1 ?_
      refine z_if_gt (tgt := 144) dX12_readsTwo_129 rfl (fun h129 => ?_) (fun h => absurd (by omega) h)
      refine z_iconst dX12_readsTwo_144 (by decide) ?_
      refine z_goto (tgt := 149) dX12_readsTwo_145 rfl ?_
      refine z_iconst dX12_readsTwo_149 (by decide) ?_
      refine z_callV mlX12_493 dX12_readsTwo_150 (sh_M hE) (av := [_, _]) rfl rfl (Nat.le_of_ble_eq_true rfl) (x_mustT _ hE hB1 _ 5 (Or.inr hd1)) (Nat.le_refl _) (Nat.le_refl _) (Nat.le_refl _) (Nat.le_refl _) ?_
      rintro _ _ ⟨rfl, rfl⟩
      refine z_aload_n dX12_readsTwo_153 rfl ?_
      refine z_gIv f_wrong rfl flX12_487 dX12_readsTwo_154 (sh_M hE) rfl hw1 ?_
      refine z_if_le (tgt := 161) dX12_readsTwo_157 rfl (fun h => absurd h (by omega)) (fun h157 => ?_)
      refine z_vret dX12_readsTwo_160 rfl rfl ?_
      have eA : pTwo (mK m) (m aM f_letters) (cMay (m a_c) (m a_what) (m a_pointOf)) (m a_mate) (m aM f_wide) p = (3, p, m a_mate, m aM f_wide, p) := by unfold pTwo; rw [if_neg (not_not_intro g1), if_pos i1]
      rw [eA]
      refine ⟨rfl, ?_⟩
      exact ⟨z1, hw1, fun _ => ha1, fun h => absurd (show (3 : Int) = 0 from h) (by first | exact kMis_ne | decide), fun x hx => congrFun ha_mate1 x⟩
    · refine z_iconst dX12_readsTwo_51 (by decide) ?_
      refine z_goto (tgt := 56) dX12_readsTwo_52 rfl ?_
      refine z_bipush dX12_readsTwo_56 rfl (by decide) ?_
      refine z_callV mlX12_493 dX12_readsTwo_58 (sh_M hE) (av := [_, _]) rfl rfl (Nat.le_of_ble_eq_true rfl) (x_mustT _ hE hB1 _ 6 (Or.inr hd1)) (Nat.le_refl _) (Nat.le_refl _) (Nat.le_refl _) (Nat.le_refl _) ?_
      rintro _ _ ⟨rfl, rfl⟩
      refine z_aload_n dX12_readsTwo_61 rfl ?_
      refine z_gI f_number rfl flX12_481 dX12_readsTwo_62 (sh_M hE) rfl ?_
      refine z_ist 1 dX12_readsTwo_65 rfl (Nat.le_of_ble_eq_true rfl) ?_
      refine z_aload_n dX12_readsTwo_66 rfl ?_
      refine z_gIv f_wrong rfl flX12_487 dX12_readsTwo_67 (sh_M hE) rfl hw1 ?_
      try dsimp only [zs0, zsI, zsP, zsN, zsJ, zsS, zst2, Nat.reduceAdd]
      refine z_if_ne (tgt := 77) dX12_readsTwo_70 rfl (fun h70 => ?_) (fun h => absurd (by omega) h)
      refine z_aload_n dX12_readsTwo_77 rfl ?_
      refine z_aload_n dX12_readsTwo_78 rfl ?_
      refine z_bipush dX12_readsTwo_79 rfl (by decide) ?_
      refine z_callV mlX12_520 dX12_readsTwo_81 (sh_M hE) (av := [_]) rfl rfl (Nat.le_of_ble_eq_true rfl) (w_isSign _ hE hB1 hd1 45) (Nat.le_refl _) (Nat.le_refl _) (Nat.le_refl _) (Nat.le_refl _) ?_
      rintro _ _ ⟨rfl, rfl⟩
      refine z_callV mlX12_506 dX12_readsTwo_84 (sh_M hE) (av := [_]) rfl rfl (Nat.le_of_ble_eq_true rfl) (y_takes _ hE hB1 hd1 _) (Nat.le_refl _) (Nat.le_refl _) (Nat.le_refl _) (Nat.le_refl _) ?_
      rintro _ _ ⟨rfl, rfl⟩
      refine z_aload_n dX12_readsTwo_87 rfl ?_
      refine z_aload_n dX12_readsTwo_88 rfl ?_
      refine z_gIv f_letters rfl flX12_124 dX12_readsTwo_89 (sh_M hE) rfl hletters1 ?_
      refine z_callV mlX12_542 dX12_readsTwo_92 (sh_M hE) (av := [_]) rfl rfl (Nat.le_of_ble_eq_true rfl) (y_needs _ hE hB1 hd1 _) (Nat.le_refl _) (Nat.le_refl _) (Nat.le_refl _) (Nat.le_refl _) ?_
      rintro _ _ ⟨rfl, rfl⟩
      refine z_aload_n dX12_readsTwo_95 rfl ?_
      refine z_aload_n dX12_readsTwo_96 rfl ?_
      refine z_gIv f_wrong rfl flX12_487 dX12_readsTwo_97 (sh_M hE) rfl hw1 ?_
      refine z_if_gt (tgt := 115) dX12_readsTwo_100 rfl (fun h100 => ?_) (fun h => absurd (by omega) h)
      refine z_iconst dX12_readsTwo_115 (by decide) ?_
      refine z_goto (tgt := 120) dX12_readsTwo_116 rfl ?_
      refine z_iconst dX12_readsTwo_120 (by decide) ?_
      refine z_callV mlX12_493 dX12_readsTwo_121 (sh_M hE) (av := [_, _]) rfl rfl (Nat.le_of_ble_eq_true rfl) (x_mustT _ hE hB1 _ 4 (Or.inr hd1)) (Nat.le_refl _) (Nat.le_refl _) (Nat.le_refl _) (Nat.le_refl _) ?_
      rintro _ _ ⟨rfl, rfl⟩
      refine z_aload_n dX12_readsTwo_124 rfl ?_
      refine z_aload_n dX12_readsTwo_125 rfl ?_
      refine z_gIv f_wrong rfl flX12_487 dX12_readsTwo_126 (sh_M hE) rfl hw1 ?_
      refine z_if_gt (tgt := 144) dX12_readsTwo_129 rfl (fun h129 => ?_) (fun h => absurd (by omega) h)
      refine z_iconst dX12_readsTwo_144 (by decide) ?_
      refine z_goto (tgt := 149) dX12_readsTwo_145 rfl ?_
      refine z_iconst dX12_readsTwo_149 (by decide) ?_
      refine z_callV mlX12_493 dX12_readsTwo_150 (sh_M hE) (av := [_, _]) rfl rfl (Nat.le_of_ble_eq_true rfl) (x_mustT _ hE hB1 _ 5 (Or.inr hd1)) (Nat.le_refl _) (Nat.le_refl _) (Nat.le_refl _) (Nat.le_refl _) ?_
      rintro _ _ ⟨rfl, rfl⟩
      refine z_aload_n dX12_readsTwo_153 rfl ?_
      refine z_gIv f_wrong rfl flX12_487 dX12_readsTwo_154 (sh_M hE) rfl hw1 ?_
      refine z_if_le (tgt := 161) dX12_readsTwo_157 rfl (fun h => absurd h (by omega)) (fun h157 => ?_)
      refine z_vret dX12_readsTwo_160 rfl rfl ?_
      have eA : pTwo (mK m) (m aM f_letters) (cMay (m a_c) (m a_what) (m a_pointOf)) (m a_mate) (m aM f_wide) p = (3, p, m a_mate, m aM f_wide, p) := by unfold pTwo; rw [if_neg (not_not_intro g1), if_pos i1]
      rw [eA]
      refine ⟨rfl, ?_⟩
      exact ⟨z1, hw1, fun _ => ha1, fun h => absurd (show (3 : Int) = 0 from h) (by first | exact kMis_ne | decide), fun x hx => congrFun ha_mate1 x⟩
  · have hB1 : mB m1 := b1 ▸ mB_bad hB0
    have hw1 : m1 aM f_wrong = kMis (mK m) p := b1 ▸ mBad_w
    have ha1 : m1 aM f_wrongAt = p := b1 ▸ mBad_a
    have z1 : zfr fTw m m1 := b1 ▸ zfr_uj (zfr_uj z0 (by decide)) (by decide)
    have hd1 : 0 < m1 aM f_wrong := by rw [hw1]; first | exact kMis_pos | decide
    have hm1 : ptM m1 := hB1.1
    have ha_c1 : m1 a_c = m a_c := b1 ▸ (zu_fn (by decide)).trans (zu_fn (by decide))
    have ha_mate1 : m1 a_mate = m a_mate := b1 ▸ (zu_fn (by decide)).trans (zu_fn (by decide))
    have ha_what1 : m1 a_what = m a_what := b1 ▸ (zu_fn (by decide)).trans (zu_fn (by decide))
    have ha_pointOf1 : m1 a_pointOf = m a_pointOf := b1 ▸ (zu_fn (by decide)).trans (zu_fn (by decide))
    have hletters1 : m1 aM f_letters = m aM f_letters := (b1 ▸ (zu_j (by decide)).trans (zu_j (by decide)) : m1 aM f_letters = m aM f_letters).trans hletters0
    have hwide1 : m1 aM f_wide = m aM f_wide := (b1 ▸ (zu_j (by decide)).trans (zu_j (by decide)) : m1 aM f_wide = m aM f_wide).trans hwide0
    refine z_aload_n dX12_readsTwo_8 rfl ?_
    refine z_aload_n dX12_readsTwo_9 rfl ?_
    refine z_gIv f_wrong rfl flX12_487 dX12_readsTwo_10 (sh_M hE) rfl hw1 ?_
    refine z_if_gt (tgt := 28) dX12_readsTwo_13 rfl (fun h13 => ?_) (fun h => absurd (by omega) h)
    refine z_iconst dX12_readsTwo_28 (by decide) ?_
    refine z_goto (tgt := 33) dX12_readsTwo_29 rfl ?_
    refine z_iconst dX12_readsTwo_33 (by decide) ?_
    refine z_callV mlX12_493 dX12_readsTwo_34 (sh_M hE) (av := [_, _]) rfl rfl (Nat.le_of_ble_eq_true rfl) (x_mustT _ hE hB1 _ 5 (Or.inr hd1)) (Nat.le_refl _) (Nat.le_refl _) (Nat.le_refl _) (Nat.le_refl _) ?_
    rintro _ _ ⟨rfl, rfl⟩
    refine z_aload_n dX12_readsTwo_37 rfl ?_
    refine z_aload_n dX12_readsTwo_38 rfl ?_
    refine z_gIv f_wide rfl flX12_545 dX12_readsTwo_39 (sh_M hE) rfl hwide1 ?_
    refine z_aload_n dX12_readsTwo_42 rfl ?_
    refine z_gIv f_letters rfl flX12_124 dX12_readsTwo_43 (sh_M hE) rfl hletters1 ?_
    refine z_iconst dX12_readsTwo_46 (by decide) ?_
    refine z_div dX12_readsTwo_47 (by omega) (by omega) ?_
    refine z_icmp_ge (tgt := 55) dX12_readsTwo_48 rfl (fun h48 => ?_) (fun h48 => ?_)
    · refine z_iconst dX12_readsTwo_55 (by decide) ?_
      refine z_bipush dX12_readsTwo_56 rfl (by decide) ?_
      refine z_callV mlX12_493 dX12_readsTwo_58 (sh_M hE) (av := [_, _]) rfl rfl (Nat.le_of_ble_eq_true rfl) (x_mustT _ hE hB1 _ 6 (Or.inr hd1)) (Nat.le_refl _) (Nat.le_refl _) (Nat.le_refl _) (Nat.le_refl _) ?_
      rintro _ _ ⟨rfl, rfl⟩
      refine z_aload_n dX12_readsTwo_61 rfl ?_
      refine z_gI f_number rfl flX12_481 dX12_readsTwo_62 (sh_M hE) rfl ?_
      refine z_ist 1 dX12_readsTwo_65 rfl (Nat.le_of_ble_eq_true rfl) ?_
      refine z_aload_n dX12_readsTwo_66 rfl ?_
      refine z_gIv f_wrong rfl flX12_487 dX12_readsTwo_67 (sh_M hE) rfl hw1 ?_
      try dsimp only [zs0, zsI, zsP, zsN, zsJ, zsS, zst2, Nat.reduceAdd]
      refine z_if_ne (tgt := 77) dX12_readsTwo_70 rfl (fun h70 => ?_) (fun h => absurd (by omega) h)
      refine z_aload_n dX12_readsTwo_77 rfl ?_
      refine z_aload_n dX12_readsTwo_78 rfl ?_
      refine z_bipush dX12_readsTwo_79 rfl (by decide) ?_
      refine z_callV mlX12_520 dX12_readsTwo_81 (sh_M hE) (av := [_]) rfl rfl (Nat.le_of_ble_eq_true rfl) (w_isSign _ hE hB1 hd1 45) (Nat.le_refl _) (Nat.le_refl _) (Nat.le_refl _) (Nat.le_refl _) ?_
      rintro _ _ ⟨rfl, rfl⟩
      refine z_callV mlX12_506 dX12_readsTwo_84 (sh_M hE) (av := [_]) rfl rfl (Nat.le_of_ble_eq_true rfl) (y_takes _ hE hB1 hd1 _) (Nat.le_refl _) (Nat.le_refl _) (Nat.le_refl _) (Nat.le_refl _) ?_
      rintro _ _ ⟨rfl, rfl⟩
      refine z_aload_n dX12_readsTwo_87 rfl ?_
      refine z_aload_n dX12_readsTwo_88 rfl ?_
      refine z_gIv f_letters rfl flX12_124 dX12_readsTwo_89 (sh_M hE) rfl hletters1 ?_
      refine z_callV mlX12_542 dX12_readsTwo_92 (sh_M hE) (av := [_]) rfl rfl (Nat.le_of_ble_eq_true rfl) (y_needs _ hE hB1 hd1 _) (Nat.le_refl _) (Nat.le_refl _) (Nat.le_refl _) (Nat.le_refl _) ?_
      rintro _ _ ⟨rfl, rfl⟩
      refine z_aload_n dX12_readsTwo_95 rfl ?_
      refine z_aload_n dX12_readsTwo_96 rfl ?_
      refine z_gIv f_wrong rfl flX12_487 dX12_readsTwo_97 (sh_M hE) rfl hw1 ?_
      refine z_if_gt (tgt := 115) dX12_readsTwo_100 rfl (fun h100 => ?_) (fun h => absurd (by omega) h)
      refine z_iconst dX12_readsTwo_115 (by decide) ?_
      refine z_goto (tgt := 120) dX12_readsTwo_116 rfl ?_
      refine z_iconst dX12_readsTwo_120 (by decide) ?_
      refine z_callV mlX12_493 dX12_readsTwo_121 (sh_M hE) (av := [_, _]) rfl rfl (Nat.le_of_ble_eq_true rfl) (x_mustT _ hE hB1 _ 4 (Or.inr hd1)) (Nat.le_refl _) (Nat.le_refl _) (Nat.le_refl _) (Nat.le_refl _) ?_
      rintro _ _ ⟨rfl, rfl⟩
      refine z_aload_n dX12_readsTwo_124 rfl ?_
      refine z_aload_n dX12_readsTwo_125 rfl ?_
      refine z_gIv f_wrong rfl flX12_487 dX12_readsTwo_126 (sh_M hE) rfl hw1 ?_
      refine z_if_gt (tgt := 144) dX12_readsTwo_129 rfl (fun h129 => ?_) (fun h => absurd (by omega) h)
      refine z_iconst dX12_readsTwo_144 (by decide) ?_
      refine z_goto (tgt := 149) dX12_readsTwo_145 rfl ?_
      refine z_iconst dX12_readsTwo_149 (by decide) ?_
      refine z_callV mlX12_493 dX12_readsTwo_150 (sh_M hE) (av := [_, _]) rfl rfl (Nat.le_of_ble_eq_true rfl) (x_mustT _ hE hB1 _ 5 (Or.inr hd1)) (Nat.le_refl _) (Nat.le_refl _) (Nat.le_refl _) (Nat.le_refl _) ?_
      rintro _ _ ⟨rfl, rfl⟩
      refine z_aload_n dX12_readsTwo_153 rfl ?_
      refine z_gIv f_wrong rfl flX12_487 dX12_readsTwo_154 (sh_M hE) rfl hw1 ?_
      refine z_if_le (tgt := 161) dX12_readsTwo_157 rfl (fun h => absurd h (by omega)) (fun h157 => ?_)
      refine z_vret dX12_readsTwo_160 rfl rfl ?_
      have eA : pTwo (mK m) (m aM f_letters) (cMay (m a_c) (m a_what) (m a_pointOf)) (m a_mate) (m aM f_wide) p = (kMis (mK m) p, p, m a_mate, m aM f_wide, p) := by unfold pTwo; rw [if_pos g1]
      rw [eA]
      refine ⟨rfl, ?_⟩
      exact ⟨z1, hw1, fun _ => ha1, fun h => absurd (show (kMis (mK m) p : Int) = 0 from h) (by first | exact kMis_ne | decide), fun x hx => congrFun ha_mate1 x⟩
    · refine z_iconst dX12_readsTwo_51 (by decide) ?_
      refine z_goto (tgt := 56) dX12_readsTwo_52 rfl ?_
      refine z_bipush dX12_readsTwo_56 rfl (by decide) ?_
      refine z_callV mlX12_493 dX12_readsTwo_58 (sh_M hE) (av := [_, _]) rfl rfl (Nat.le_of_ble_eq_true rfl) (x_mustT _ hE hB1 _ 6 (Or.inr hd1)) (Nat.le_refl _) (Nat.le_refl _) (Nat.le_refl _) (Nat.le_refl _) ?_
      rintro _ _ ⟨rfl, rfl⟩
      refine z_aload_n dX12_readsTwo_61 rfl ?_
      refine z_gI f_number rfl flX12_481 dX12_readsTwo_62 (sh_M hE) rfl ?_
      refine z_ist 1 dX12_readsTwo_65 rfl (Nat.le_of_ble_eq_true rfl) ?_
      refine z_aload_n dX12_readsTwo_66 rfl ?_
      refine z_gIv f_wrong rfl flX12_487 dX12_readsTwo_67 (sh_M hE) rfl hw1 ?_
      try dsimp only [zs0, zsI, zsP, zsN, zsJ, zsS, zst2, Nat.reduceAdd]
      refine z_if_ne (tgt := 77) dX12_readsTwo_70 rfl (fun h70 => ?_) (fun h => absurd (by omega) h)
      refine z_aload_n dX12_readsTwo_77 rfl ?_
      refine z_aload_n dX12_readsTwo_78 rfl ?_
      refine z_bipush dX12_readsTwo_79 rfl (by decide) ?_
      refine z_callV mlX12_520 dX12_readsTwo_81 (sh_M hE) (av := [_]) rfl rfl (Nat.le_of_ble_eq_true rfl) (w_isSign _ hE hB1 hd1 45) (Nat.le_refl _) (Nat.le_refl _) (Nat.le_refl _) (Nat.le_refl _) ?_
      rintro _ _ ⟨rfl, rfl⟩
      refine z_callV mlX12_506 dX12_readsTwo_84 (sh_M hE) (av := [_]) rfl rfl (Nat.le_of_ble_eq_true rfl) (y_takes _ hE hB1 hd1 _) (Nat.le_refl _) (Nat.le_refl _) (Nat.le_refl _) (Nat.le_refl _) ?_
      rintro _ _ ⟨rfl, rfl⟩
      refine z_aload_n dX12_readsTwo_87 rfl ?_
      refine z_aload_n dX12_readsTwo_88 rfl ?_
      refine z_gIv f_letters rfl flX12_124 dX12_readsTwo_89 (sh_M hE) rfl hletters1 ?_
      refine z_callV mlX12_542 dX12_readsTwo_92 (sh_M hE) (av := [_]) rfl rfl (Nat.le_of_ble_eq_true rfl) (y_needs _ hE hB1 hd1 _) (Nat.le_refl _) (Nat.le_refl _) (Nat.le_refl _) (Nat.le_refl _) ?_
      rintro _ _ ⟨rfl, rfl⟩
      refine z_aload_n dX12_readsTwo_95 rfl ?_
      refine z_aload_n dX12_readsTwo_96 rfl ?_
      refine z_gIv f_wrong rfl flX12_487 dX12_readsTwo_97 (sh_M hE) rfl hw1 ?_
      refine z_if_gt (tgt := 115) dX12_readsTwo_100 rfl (fun h100 => ?_) (fun h => absurd (by omega) h)
      refine z_iconst dX12_readsTwo_115 (by decide) ?_
      refine z_goto (tgt := 120) dX12_readsTwo_116 rfl ?_
      refine z_iconst dX12_readsTwo_120 (by decide) ?_
      refine z_callV mlX12_493 dX12_readsTwo_121 (sh_M hE) (av := [_, _]) rfl rfl (Nat.le_of_ble_eq_true rfl) (x_mustT _ hE hB1 _ 4 (Or.inr hd1)) (Nat.le_refl _) (Nat.le_refl _) (Nat.le_refl _) (Nat.le_refl _) ?_
      rintro _ _ ⟨rfl, rfl⟩
      refine z_aload_n dX12_readsTwo_124 rfl ?_
      refine z_aload_n dX12_readsTwo_125 rfl ?_
      refine z_gIv f_wrong rfl flX12_487 dX12_readsTwo_126 (sh_M hE) rfl hw1 ?_
      refine z_if_gt (tgt := 144) dX12_readsTwo_129 rfl (fun h129 => ?_) (fun h => absurd (by omega) h)
      refine z_iconst dX12_readsTwo_144 (by decide) ?_
      refine z_goto (tgt := 149) dX12_readsTwo_145 rfl ?_
      refine z_iconst dX12_readsTwo_149 (by decide) ?_
      refine z_callV mlX12_493 dX12_readsTwo_150 (sh_M hE) (av := [_, _]) rfl rfl (Nat.le_of_ble_eq_true rfl) (x_mustT _ hE hB1 _ 5 (Or.inr hd1)) (Nat.le_refl _) (Nat.le_refl _) (Nat.le_refl _) (Nat.le_refl _) ?_
      rintro _ _ ⟨rfl, rfl⟩
      refine z_aload_n dX12_readsTwo_153 rfl ?_
      refine z_gIv f_wrong rfl flX12_487 dX12_readsTwo_154 (sh_M hE) rfl hw1 ?_
      refine z_if_le (tgt := 161) dX12_readsTwo_157 rfl (fun h => absurd h (by omega)) (fun h157 => ?_)
      refine z_vret dX12_readsTwo_160 rfl rfl ?_
      have eA : pTwo (mK m) (m aM f_letters) (cMay (m a_c) (m a_what) (m a_pointOf)) (m a_mate) (m aM f_wide) p = (kMis (mK m) p, p, m a_mate, m aM f_wide, p) := by unfold pTwo; rw [if_pos g1]
      rw [eA]
      refine ⟨rfl, ?_⟩
      exact ⟨z1, hw1, fun _ => ha1, fun h => absurd (show (kMis (mK m) p : Int) = 0 from h) (by first | exact kMis_ne | decide), fun x hx => congrFun ha_mate1 x⟩
