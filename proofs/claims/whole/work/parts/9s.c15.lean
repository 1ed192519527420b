def shK (E : zE) : Prop := E.1 1 = (15, 10) ∧ E.1 2 = (1, 400)
def fTk : List (Int × Option Int) := [(1, some 4), (1, some 5), (1, some 6), (1, some 7)]
def fBg : List (Int × Option Int) := [(1, some 1), (1, some 2), (1, some 3), (1, some 4), (1, some 5), (1, some 6), (1, some 7), (1, some 8), (1, some 9)]
theorem fTk_at {m m' : zM} {a j : Int} (h : zfr fTk m m') (ha : a ≠ 1 ∨ j < 4 ∨ 7 < j) : m' a j = m a j := h a j (by simp [fTk]) (by simp only [fTk, List.mem_cons, Prod.mk.injEq, Option.some.injEq, List.not_mem_nil, or_false]; omega)
/-- a text that lies on the class's tape -/
def kTx (m : zM) (K : zK) : Prop := kOk K ∧ (∀ k, 0 ≤ k → k < K.2.1 → K.1 k = kn (m 2 k)) ∧ m 1 0 = 2 ∧ m 1 2 = K.2.1 ∧ m 1 3 = K.2.2 ∧ (K.2.2 = 0 ∨ K.2.2 = 1)
def kTo (K : zK) (p : Int) : Int := if kSo K p = 0 then 0 else if kSo K p = 1 then 2 else if kSo K p = 2 then 3 else if kSo K p = 3 then 4 else 1
def kEn (K : zK) (p : Int) : Int := if kSo K p = 0 then p else kNx K p
/-- the token at p, in the class -/
def kAt (m : zM) (K : zK) (p : Int) : Prop := (0 ≤ p ∧ p ≤ K.2.1) ∧ m 1 4 = p ∧ m 1 5 = kEn K p ∧ m 1 6 = kTo K p ∧ (kSo K p = 1 → m 1 7 = K.1 p - 96) ∧ (kSo K p = 2 → m 1 7 = kN K p) ∧ (kSo K p = 3 → m 1 7 = K.1 p)
abbrev kBad (m : zM) (k p : Int) : zM := zu (zu m 1 8 k) 1 9 p
theorem kTx_fr {m m' : zM} {K : zK} (h : kTx m K) (f : zfr fTk m m') : kTx m' K := by
  obtain ⟨h1, h2, h3, h4, h5, h6⟩ := h
  exact ⟨h1, fun k q0 q1 => by rw [fTk_at f (by omega)]; exact h2 k q0 q1, by rw [fTk_at f (by omega)]; exact h3, by rw [fTk_at f (by omega)]; exact h4, by rw [fTk_at f (by omega)]; exact h5, h6⟩
theorem kTo_is (K : zK) (p : Int) : (kTo K p = 0 ↔ kSo K p = 0) ∧ (kTo K p = 1 ↔ kSo K p = 4) ∧ (kTo K p = 2 ↔ kSo K p = 1) ∧ (kTo K p = 3 ↔ kSo K p = 2) ∧ (kTo K p = 4 ↔ kSo K p = 3) := by
  have := kSo_rg K p
  unfold kTo
  repeat' split
  all_goals omega
theorem zu_zu {m : zM} {a j x y : Int} : zu (zu m a j x) a j y = zu m a j y := by
  funext b i
  unfold zu
  by_cases h : b = a ∧ i = j
  · rw [if_pos h, if_pos h]
  · rw [if_neg h, if_neg h, if_neg h]
theorem zu_same {m : zM} {a j : Int} : zu m a j (m a j) = m := by
  funext b i
  unfold zu
  by_cases h : b = a ∧ i = j
  · rw [if_pos h, h.1, h.2]
  · rw [if_neg h]
theorem zu_com {m : zM} {x y : Int} : zu (zu m 1 7 x) 1 5 y = zu (zu m 1 5 y) 1 7 x := by
  funext b i
  unfold zu
  by_cases h : b = 1 ∧ i = 5
  · rw [if_pos h, if_neg (by omega), if_pos h]
  · rw [if_neg h]
    by_cases h2 : b = 1 ∧ i = 7
    · rw [if_pos h2, if_pos h2]
    · rw [if_neg h2, if_neg h2, if_neg h]
theorem zu_two {m : zM} {x y u v : Int} : zu (zu (zu (zu m 1 7 x) 1 5 y) 1 7 u) 1 5 v = zu (zu m 1 7 u) 1 5 v := by
  funext b i
  unfold zu
  by_cases h : b = 1 ∧ i = 5
  · rw [if_pos h, if_pos h]
  · by_cases h2 : b = 1 ∧ i = 7
    · simp only [if_neg h, if_pos h2]
    · simp only [if_neg h, if_neg h2]
theorem kn_eq {x y v : Int} (h : y = kn x) (h1 : 10 ≤ v) (h2 : v ≤ 122) : y = v ↔ x = v := by subst h; unfold kn; split <;> omega
theorem kn_in {x y lo hi : Int} (h : y = kn x) (h1 : 10 ≤ lo) (h2 : hi ≤ 122) : (lo ≤ y ∧ y ≤ hi) ↔ (lo ≤ x ∧ x ≤ hi) := by subst h; unfold kn; split <;> omega
theorem kn_v {x y : Int} (h : y = kn x) (h1 : 10 ≤ y ∧ y ≤ 122) : y = x := by subst h; unfold kn at *; split at h1 <;> (try split) <;> omega
theorem kSk_t {K : zK} {k : Int} (h : kB K k = true) (hk : k < 400) : kSk K k = kSk K (k + 1) := by
  unfold kSk
  rw [show (400 - k).toNat = (400 - (k + 1)).toNat + 1 by omega, zrun_t h]
theorem kSk_f {K : zK} {k : Int} (h : kB K k = false) : kSk K k = k := zrun_f h
theorem kWe_t {K : zK} {k : Int} (h : kL K k = true) (hk : k < 400) : kWe K k = kWe K (k + 1) := by
  unfold kWe
  rw [show (400 - k).toNat = (400 - (k + 1)).toNat + 1 by omega, zrun_t h]
theorem kWe_f {K : zK} {k : Int} (h : kL K k = false) : kWe K k = k := zrun_f h
theorem kNe_t {K : zK} {k : Int} (h : kD K k = true) (hk : k < 400) : kNe K k = kNe K (k + 1) := by
  unfold kNe
  rw [show (400 - k).toNat = (400 - (k + 1)).toNat + 1 by omega, zrun_t h]
theorem kNe_f {K : zK} {k : Int} (h : kD K k = false) : kNe K k = k := zrun_f h
theorem kL_in {K : zK} {p : Int} (h : kOk K) (hl : kL K p = true) : p < K.2.1 := by
  rcases Int.lt_or_le p K.2.1 with q | q
  · exact q
  · rw [kL_o h p q] at hl; cases hl
theorem kD_in {K : zK} {p : Int} (h : kOk K) (hl : kD K p = true) : p < K.2.1 := by
  rcases Int.lt_or_le p K.2.1 with q | q
  · exact q
  · rw [kD_o h p q] at hl; cases hl
theorem kL_nD {K : zK} {p : Int} (h : kD K p = true) : kL K p = false := by
  have := kD_iff.mp h
  unfold kL
  rw [decide_eq_false_iff_not]
  omega
theorem kAt_w {m : zM} {K : zK} {p : Int} (hk : kOk K) (p0 : 0 ≤ p) (hs : m 1 4 = p) (hL : kL K p = true) (hv : K.1 p = m 2 p) : kAt (zu (zu (zu m 1 5 (kWe K p)) 1 6 2) 1 7 (K.1 p - 97 + 1)) K p := by
  have so : kSo K p = 1 := kSo_1.mpr hL
  have hp := kL_in hk hL
  refine ⟨⟨p0, by omega⟩, by rw [zu_j (by decide), zu_j (by decide), zu_j (by decide)]; exact hs, ?_, ?_, fun _ => by rw [zu_s]; omega, fun h => by omega, fun h => by omega⟩
  · rw [zu_j (by decide), zu_j (by decide), zu_s]
    unfold kEn
    rw [if_neg (by omega)]
    unfold kNx
    rw [if_pos hL]
  · rw [zu_j (by decide), zu_s]
    unfold kTo
    rw [if_neg (by omega), if_pos so]
theorem kAt_n {m : zM} {K : zK} {p t : Int} (hk : kOk K) (p0 : 0 ≤ p) (hs : m 1 4 = p) (hN : K.2.2 ≠ 0) (hD : kD K p = true) (ht : (2 < kNe K p - p ∧ t = 1) ∨ (¬ 2 < kNe K p - p ∧ t = 3)) : kAt (zu (zu (zu m 1 7 (kNn K p (kNe K p - p).toNat)) 1 5 (kNe K p)) 1 6 t) K p := by
  have hL := kL_nD hD
  have hp := kD_in hk hD
  have so : kSo K p = if 2 < kNe K p - p then 4 else 2 := by unfold kSo; rw [if_neg (by rw [hL]; decide), if_pos ⟨hN, hD⟩]
  have hx : kNx K p = kNe K p := by unfold kNx; rw [if_neg (by rw [hL]; decide), if_pos ⟨hN, hD⟩]
  have hne : kSo K p ≠ 0 := by rw [so]; split <;> decide
  refine ⟨⟨p0, by omega⟩, by rw [zu_j (by decide), zu_j (by decide), zu_j (by decide)]; exact hs, ?_, ?_, fun h => ?_, fun _ => by rw [zu_j (by decide), zu_j (by decide), zu_s]; rfl, fun h => ?_⟩
  · rw [zu_j (by decide), zu_s]
    unfold kEn
    rw [if_neg hne, hx]
  · rw [zu_s]
    have := kTo_is K p
    rw [so] at this
    rcases ht with ⟨h1, rfl⟩ | ⟨h1, rfl⟩
    · rw [if_pos h1] at this; omega
    · rw [if_neg h1] at this; omega
  · rw [so] at h; split at h <;> omega
  · rw [so] at h; split at h <;> omega
theorem kAt_s {m : zM} {K : zK} {p t : Int} (hk : kOk K) (p0 : 0 ≤ p) (hp : p < K.2.1) (hs : m 1 4 = p) (hL : kL K p = false) (hD : K.2.2 = 0 ∨ kD K p = false) (ht : ((if K.2.2 = 0 then K.1 p = 39 ∨ K.1 p = 59 else K.1 p = 45 ∨ K.1 p = 62 ∨ K.1 p = 59) ∧ t = 4 ∧ m 2 p = K.1 p) ∨ (¬ (if K.2.2 = 0 then K.1 p = 39 ∨ K.1 p = 59 else K.1 p = 45 ∨ K.1 p = 62 ∨ K.1 p = 59) ∧ t = 1)) : kAt (zu (zu (zu m 1 7 (m 2 p)) 1 5 (p + 1)) 1 6 t) K p := by
  have hnd : ¬ (K.2.2 ≠ 0 ∧ kD K p = true) := fun h => by
    rcases hD with h1 | h1
    · exact h.1 h1
    · rw [h1] at h; cases h.2
  have so : kSo K p = if kSg K p = true then 3 else 4 := by unfold kSo; rw [if_neg (by rw [hL]; decide), if_neg hnd, if_neg (by omega)]
  have hx : kNx K p = p + 1 := by unfold kNx; rw [if_neg (by rw [hL]; decide), if_neg hnd]
  have hne : kSo K p ≠ 0 := by rw [so]; split <;> decide
  have hg : kSg K p = true ↔ (if K.2.2 = 0 then K.1 p = 39 ∨ K.1 p = 59 else K.1 p = 45 ∨ K.1 p = 62 ∨ K.1 p = 59) := by unfold kSg; rw [decide_eq_true_eq]
  refine ⟨⟨p0, by omega⟩, by rw [zu_j (by decide), zu_j (by decide), zu_j (by decide)]; exact hs, ?_, ?_, fun h => ?_, fun h => ?_, fun h => ?_⟩
  · rw [zu_j (by decide), zu_s]
    unfold kEn
    rw [if_neg hne, hx]
  · rw [zu_s]
    have := kTo_is K p
    rw [so] at this
    rcases ht with ⟨h1, rfl, _⟩ | ⟨h1, rfl⟩
    · rw [if_pos (hg.mpr h1)] at this; omega
    · rw [if_neg (fun h => h1 (hg.mp h))] at this; omega
  · rw [so] at h; split at h <;> omega
  · rw [so] at h; split at h <;> omega
  · rw [zu_j (by decide), zu_j (by decide), zu_s]
    rcases ht with ⟨h1, rfl, h2⟩ | ⟨h1, rfl⟩
    · exact h2
    · rw [so, if_neg (fun h => h1 (hg.mp h))] at h; omega
theorem kAt_e {m : zM} {K : zK} {p : Int} (hk : kOk K) (p0 : 0 ≤ p) (hp : p = K.2.1) (hs : m 1 4 = p) (he : m 1 5 = p) (ht : m 1 6 = 0) : kAt m K p := by
  have so : kSo K p = 0 := by
    unfold kSo
    rw [if_neg (by rw [kL_o hk p (by omega)]; decide), if_neg (by rw [kD_o hk p (by omega)]; simp), if_pos (by omega)]
  refine ⟨⟨p0, by omega⟩, hs, ?_, ?_, fun h => by omega, fun h => by omega, fun h => by omega⟩
  · unfold kEn; rw [if_pos so]; exact he
  · unfold kTo; rw [if_pos so]; exact ht
theorem c_isSmall (d : Nat) {E : zE} {m : zM} (b : Int) : zR zX9_isSmall (d) [zI b] m E E (fun r m' => r = some (zI (zb (97 ≤ b ∧ b ≤ 122))) ∧ m = m') := by
  refine zR_go [zI b] (by decide +kernel) (Nat.le_of_ble_eq_true rfl) rfl rfl ?_
  refine z_iload_n dX9_isSmall_0 rfl ?_
  refine z_bipush dX9_isSmall_1 rfl (by decide) ?_
  refine z_icmp_lt (tgt := 16) dX9_isSmall_3 rfl (fun h3 => ?_) (fun h3 => ?_)
  · refine z_iconst dX9_isSmall_16 (by decide) ?_
    refine z_zret dX9_isSmall_17 rfl (by first | omega | exact zb01 _) rfl ?_
    exact ⟨by rw [zb_f (by omega)], rfl⟩
  · refine z_iload_n dX9_isSmall_6 rfl ?_
    refine z_bipush dX9_isSmall_7 rfl (by decide) ?_
    refine z_icmp_gt (tgt := 16) dX9_isSmall_9 rfl (fun h9 => ?_) (fun h9 => ?_)
    · refine z_iconst dX9_isSmall_16 (by decide) ?_
      refine z_zret dX9_isSmall_17 rfl (by first | omega | exact zb01 _) rfl ?_
      exact ⟨by rw [zb_f (by omega)], rfl⟩
    · refine z_iconst dX9_isSmall_12 (by decide) ?_
      refine z_goto (tgt := 17) dX9_isSmall_13 rfl ?_
      refine z_zret dX9_isSmall_17 rfl (by first | omega | exact zb01 _) rfl ?_
      exact ⟨by rw [zb_t (by omega)], rfl⟩

theorem c_isDigit (d : Nat) {E : zE} {m : zM} (b : Int) : zR zX9_isDigit (d) [zI b] m E E (fun r m' => r = some (zI (zb (48 ≤ b ∧ b ≤ 57))) ∧ m = m') := by
  refine zR_go [zI b] (by decide +kernel) (Nat.le_of_ble_eq_true rfl) rfl rfl ?_
  refine z_iload_n dX9_isDigit_0 rfl ?_
  refine z_bipush dX9_isDigit_1 rfl (by decide) ?_
  refine z_icmp_lt (tgt := 16) dX9_isDigit_3 rfl (fun h3 => ?_) (fun h3 => ?_)
  · refine z_iconst dX9_isDigit_16 (by decide) ?_
    refine z_zret dX9_isDigit_17 rfl (by first | omega | exact zb01 _) rfl ?_
    exact ⟨by rw [zb_f (by omega)], rfl⟩
  · refine z_iload_n dX9_isDigit_6 rfl ?_
    refine z_bipush dX9_isDigit_7 rfl (by decide) ?_
    refine z_icmp_gt (tgt := 16) dX9_isDigit_9 rfl (fun h9 => ?_) (fun h9 => ?_)
    · refine z_iconst dX9_isDigit_16 (by decide) ?_
      refine z_zret dX9_isDigit_17 rfl (by first | omega | exact zb01 _) rfl ?_
      exact ⟨by rw [zb_f (by omega)], rfl⟩
    · refine z_iconst dX9_isDigit_12 (by decide) ?_
      refine z_goto (tgt := 17) dX9_isDigit_13 rfl ?_
      refine z_zret dX9_isDigit_17 rfl (by first | omega | exact zb01 _) rfl ?_
      exact ⟨by rw [zb_t (by omega)], rfl⟩

theorem l_takeWord (d : Nat) {E : zE} {m : zM} {P : Option zV → zM → Prop} (sK : shK E) (K : zK) (hK : kTx m K) : ∀ (j : Nat) (e : Int), (0 ≤ e) → (e + j = K.2.1) → (zA zX9_takeWord (d + 1) E E P 39 [zP 1] [] (zu m 1 5 (kWe K e)) E) → zA zX9_takeWord (d + 1) E E P 0 [zP 1] [] (zu m 1 5 e) E := by
  intro j
  induction j with
  | zero =>
    intro e e0 he hP
    have hb := hK.1.1
    refine z_aload_n dX9_takeWord_0 rfl ?_
    refine z_gIv 5 rfl flX9_38 dX9_takeWord_1 sK.1 rfl zu_s ?_
    refine z_aload_n dX9_takeWord_4 rfl ?_
    refine z_gIv 2 rfl flX9_31 dX9_takeWord_5 sK.1 rfl (Eq.trans (zu_j (by decide)) hK.2.2.2.1) ?_
    refine z_icmp_ge (tgt := 39) dX9_takeWord_8 rfl (fun h8 => ?_) (fun h => absurd (by omega) h)
    rw [kWe_f (kL_o hK.1 e (by omega))] at hP
    exact hP
  | succ j ih =>
    intro e e0 he hP
    have hb := hK.1.1
    have hk := hK.2.1 e e0 (by omega)
    refine z_aload_n dX9_takeWord_0 rfl ?_
    refine z_gIv 5 rfl flX9_38 dX9_takeWord_1 sK.1 rfl zu_s ?_
    refine z_aload_n dX9_takeWord_4 rfl ?_
    refine z_gIv 2 rfl flX9_31 dX9_takeWord_5 sK.1 rfl (Eq.trans (zu_j (by decide)) hK.2.2.2.1) ?_
    refine z_icmp_ge (tgt := 39) dX9_takeWord_8 rfl (fun h => absurd h (by omega)) (fun h8 => ?_)
    refine z_aload_n dX9_takeWord_11 rfl ?_
    refine z_gP 0 rfl (r := 2) flX9_9 dX9_takeWord_12 sK.1 rfl (Eq.trans (zu_j (by decide)) hK.2.2.1) (by decide) ?_
    refine z_aload_n dX9_takeWord_15 rfl ?_
    refine z_gIv 5 rfl flX9_38 dX9_takeWord_16 sK.1 rfl zu_s ?_
    refine z_ialv dX9_takeWord_19 sK.2 (by omega) (by omega) (zu_a (by decide)) ?_
    refine z_callS mlX9_50 dX9_takeWord_20 (av := [_]) rfl rfl (Nat.le_of_ble_eq_true rfl) (c_isSmall _ (m 2 e)) (Nat.le_refl _) (Nat.le_refl _) (Nat.le_refl _) (Nat.le_refl _) ?_
    rintro _ _ ⟨rfl, rfl⟩
    refine z_ifz_eq (tgt := 39) dX9_takeWord_23 rfl (fun h23 => ?_) (fun h23 => ?_)
    · rw [kWe_f (by unfold kL; rw [decide_eq_false_iff_not]; exact fun h => h23 ((kn_in hk (by decide) (by decide)).mp h))] at hP
      exact hP
    · refine z_aload_n dX9_takeWord_26 rfl ?_
      refine z_dup dX9_takeWord_27 rfl ?_
      refine z_gIv 5 rfl flX9_38 dX9_takeWord_28 sK.1 rfl zu_s ?_
      refine z_iconst dX9_takeWord_31 (by decide) ?_
      refine z_add dX9_takeWord_32 (by omega) ?_
      refine z_pI 5 rfl (fpX9_38 _) dX9_takeWord_33 sK.1 rfl ?_
      rw [zu_zu]
      refine z_goto (tgt := 0) dX9_takeWord_36 rfl ?_
      refine ih (e + 1) (by omega) (by omega) ?_
      rw [← kWe_t (kL_iff.mpr ((kn_in hk (by decide) (by decide)).mpr h23)) (by omega)]
      exact hP

theorem c_takeWord (d : Nat) {E : zE} {m : zM} (sK : shK E) (K : zK) (hK : kTx m K) (p : Int) (p0 : 0 ≤ p) (hs : m 1 4 = p) (he : m 1 5 = p) (hL : kL K p = true) : zR zX9_takeWord (d + 1) [zP 1] m E E (fun r m' => r = none ∧ zfr fTk m m' ∧ kAt m' K p) := by
  have hb := hK.1.1
  have hp := kL_in hK.1 hL
  have hk := hK.2.1 p p0 hp
  have hv := kn_v hk (by have := kL_iff.mp hL; omega)
  have hL2 := kL_iff.mp hL
  refine zR_go [zP 1] (by decide +kernel) (Nat.le_of_ble_eq_true rfl) rfl rfl ?_
  refine zA_m (m' := zu m 1 5 p) (by rw [← he, zu_same]) ?_
  refine l_takeWord d sK K hK (K.2.1 - p).toNat p p0 (by omega) ?_
  refine z_aload_n dX9_takeWord_39 rfl ?_
  refine z_iconst dX9_takeWord_40 (by decide) ?_
  refine z_pI 6 rfl (fpX9_47 _) dX9_takeWord_41 sK.1 rfl ?_
  refine z_aload_n dX9_takeWord_44 rfl ?_
  refine z_aload_n dX9_takeWord_45 rfl ?_
  refine z_gP 0 rfl (r := 2) flX9_9 dX9_takeWord_46 sK.1 rfl ((zu_j (by decide)).trans ((zu_j (by decide)).trans hK.2.2.1)) (by decide) ?_
  refine z_aload_n dX9_takeWord_49 rfl ?_
  refine z_gIv 4 rfl flX9_44 dX9_takeWord_50 sK.1 rfl ((zu_j (by decide)).trans ((zu_j (by decide)).trans hs)) ?_
  refine z_ialv dX9_takeWord_53 sK.2 (by omega) (by omega) ((zu_a (by decide)).trans (zu_a (by decide))) ?_
  refine z_bipush dX9_takeWord_54 rfl (by decide) ?_
  rw [← hv]
  refine z_sub dX9_takeWord_56 (by omega) ?_
  refine z_iconst dX9_takeWord_57 (by decide) ?_
  refine z_add dX9_takeWord_58 (by omega) ?_
  refine z_pI 7 rfl (fpX9_66 _) dX9_takeWord_59 sK.1 rfl ?_
  refine z_vret dX9_takeWord_62 rfl rfl ?_
  exact ⟨rfl, zfr_uj (zfr_uj (zfr_uj zfr_rf (by simp [fTk])) (by simp [fTk])) (by simp [fTk]), kAt_w hK.1 p0 hs hL hv⟩

theorem l_takeNumber (d : Nat) {E : zE} {m : zM} {P : Option zV → zM → Prop} (sK : shK E) (K : zK) (hK : kTx m K) (p : Int) (p0 : 0 ≤ p) (hs : m 1 4 = p) : ∀ (j : Nat) (e : Int), (p ≤ e) → (e + j = K.2.1) → (∀ x, p ≤ x → x < e → kD K x = true) → (zA zX9_takeNumber (d + 1) E E P 88 [zP 1] [] (zu (zu m 1 7 (kNn K p (kNe K e - p).toNat)) 1 5 (kNe K e)) E) → zA zX9_takeNumber (d + 1) E E P 5 [zP 1] [] (zu (zu m 1 7 (kNn K p (e - p).toNat)) 1 5 e) E := by
  intro j
  induction j with
  | zero =>
    intro e e0 he hd hP
    have hb := hK.1.1
    refine z_aload_n dX9_takeNumber_5 rfl ?_
    refine z_gIv 5 rfl flX9_38 dX9_takeNumber_6 sK.1 rfl zu_s ?_
    refine z_aload_n dX9_takeNumber_9 rfl ?_
    refine z_gIv 2 rfl flX9_31 dX9_takeNumber_10 sK.1 rfl (Eq.trans (zu_j (by decide)) (Eq.trans (zu_j (by decide)) hK.2.2.2.1)) ?_
    refine z_icmp_ge (tgt := 88) dX9_takeNumber_13 rfl (fun h13 => ?_) (fun h => absurd (by omega) h)
    rw [kNe_f (kD_o hK.1 e (by omega))] at hP
    exact hP
  | succ j ih =>
    intro e e0 he hd hP
    have hb := hK.1.1
    have hk := hK.2.1 e (by omega) (by omega)
    refine z_aload_n dX9_takeNumber_5 rfl ?_
    refine z_gIv 5 rfl flX9_38 dX9_takeNumber_6 sK.1 rfl zu_s ?_
    refine z_aload_n dX9_takeNumber_9 rfl ?_
    refine z_gIv 2 rfl flX9_31 dX9_takeNumber_10 sK.1 rfl (Eq.trans (zu_j (by decide)) (Eq.trans (zu_j (by decide)) hK.2.2.2.1)) ?_
    refine z_icmp_ge (tgt := 88) dX9_takeNumber_13 rfl (fun h => absurd h (by omega)) (fun h13 => ?_)
    refine z_aload_n dX9_takeNumber_16 rfl ?_
    refine z_gP 0 rfl (r := 2) flX9_9 dX9_takeNumber_17 sK.1 rfl (Eq.trans (zu_j (by decide)) (Eq.trans (zu_j (by decide)) hK.2.2.1)) (by decide) ?_
    refine z_aload_n dX9_takeNumber_20 rfl ?_
    refine z_gIv 5 rfl flX9_38 dX9_takeNumber_21 sK.1 rfl zu_s ?_
    refine z_ialv dX9_takeNumber_24 sK.2 (by omega) (by omega) ((zu_a (by decide)).trans (zu_a (by decide))) ?_
    refine z_callS mlX9_57 dX9_takeNumber_25 (av := [_]) rfl rfl (Nat.le_of_ble_eq_true rfl) (c_isDigit _ (m 2 e)) (Nat.le_refl _) (Nat.le_refl _) (Nat.le_refl _) (Nat.le_refl _) ?_
    rintro _ _ ⟨rfl, rfl⟩
    refine z_ifz_eq (tgt := 88) dX9_takeNumber_28 rfl (fun h28 => ?_) (fun h28 => ?_)
    · rw [kNe_f (by unfold kD; rw [decide_eq_false_iff_not]; exact fun h => h28 ((kn_in hk (by decide) (by decide)).mp h))] at hP
      exact hP
    · have hD : kD K e = true := kD_iff.mpr ((kn_in hk (by decide) (by decide)).mpr h28)
      have hv := kn_v hk (by have := kD_iff.mp hD; omega)
      have hD2 := kD_iff.mp hD
      have hnb := kNn_bd (K := K) (p := p) (i := (e - p).toNat) (fun x hx => hd _ (by omega) (by omega))
      refine z_aload_n dX9_takeNumber_31 rfl ?_
      refine z_aload_n dX9_takeNumber_32 rfl ?_
      refine z_gIv 5 rfl flX9_38 dX9_takeNumber_33 sK.1 rfl zu_s ?_
      refine z_aload_n dX9_takeNumber_36 rfl ?_
      refine z_gIv 4 rfl flX9_44 dX9_takeNumber_37 sK.1 rfl (Eq.trans (zu_j (by decide)) (Eq.trans (zu_j (by decide)) hs)) ?_
      refine z_sub dX9_takeNumber_40 (by omega) ?_
      refine z_iconst dX9_takeNumber_41 (by decide) ?_
      refine z_icmp_ge (tgt := 68) dX9_takeNumber_42 rfl (fun h42 => ?_) (fun h42 => ?_)
      · refine z_aload_n dX9_takeNumber_68 rfl ?_
        refine z_gIv 7 rfl flX9_66 dX9_takeNumber_69 sK.1 rfl (Eq.trans (zu_j (by decide)) zu_s) ?_
        refine z_pI 7 rfl (fpX9_66 _) dX9_takeNumber_72 sK.1 rfl ?_
        refine z_aload_n dX9_takeNumber_75 rfl ?_
        refine z_dup dX9_takeNumber_76 rfl ?_
        refine z_gIv 5 rfl flX9_38 dX9_takeNumber_77 sK.1 rfl (Eq.trans (zu_j (by decide)) zu_s) ?_
        refine z_iconst dX9_takeNumber_80 (by decide) ?_
        refine z_add dX9_takeNumber_81 (by omega) ?_
        refine z_pI 5 rfl (fpX9_38 _) dX9_takeNumber_82 sK.1 rfl ?_
        rw [zu_two]
        refine z_goto (tgt := 5) dX9_takeNumber_85 rfl ?_
        rw [show kNn K p (e - p).toNat = kNn K p (e + 1 - p).toNat by rw [show (e + 1 - p).toNat = (e - p).toNat + 1 by omega]; symm; show (if (e - p).toNat < 2 then _ else _) = _; rw [if_neg (by omega)]]
        refine ih (e + 1) (by omega) (by omega) (fun x q0 q1 => ?_) ?_
        · by_cases ex : x = e
          · rw [ex]; exact hD
          · exact hd x q0 (by omega)
        · rw [← kNe_t hD (by omega)]
          exact hP
      · refine z_aload_n dX9_takeNumber_45 rfl ?_
        refine z_gIv 7 rfl flX9_66 dX9_takeNumber_46 sK.1 rfl (Eq.trans (zu_j (by decide)) zu_s) ?_
        refine z_bipush dX9_takeNumber_49 rfl (by decide) ?_
        refine z_mul dX9_takeNumber_51 (by omega) ?_
        refine z_aload_n dX9_takeNumber_52 rfl ?_
        refine z_gP 0 rfl (r := 2) flX9_9 dX9_takeNumber_53 sK.1 rfl (Eq.trans (zu_j (by decide)) (Eq.trans (zu_j (by decide)) hK.2.2.1)) (by decide) ?_
        refine z_aload_n dX9_takeNumber_56 rfl ?_
        refine z_gIv 5 rfl flX9_38 dX9_takeNumber_57 sK.1 rfl zu_s ?_
        refine z_ialv dX9_takeNumber_60 sK.2 (by omega) (by omega) ((zu_a (by decide)).trans (zu_a (by decide))) ?_
        refine z_add dX9_takeNumber_61 (by omega) ?_
        refine z_bipush dX9_takeNumber_62 rfl (by decide) ?_
        refine z_sub dX9_takeNumber_64 (by omega) ?_
        refine z_goto (tgt := 72) dX9_takeNumber_65 rfl ?_
        refine z_pI 7 rfl (fpX9_66 _) dX9_takeNumber_72 sK.1 rfl ?_
        refine z_aload_n dX9_takeNumber_75 rfl ?_
        refine z_dup dX9_takeNumber_76 rfl ?_
        refine z_gIv 5 rfl flX9_38 dX9_takeNumber_77 sK.1 rfl (Eq.trans (zu_j (by decide)) zu_s) ?_
        refine z_iconst dX9_takeNumber_80 (by decide) ?_
        refine z_add dX9_takeNumber_81 (by omega) ?_
        refine z_pI 5 rfl (fpX9_38 _) dX9_takeNumber_82 sK.1 rfl ?_
        rw [zu_two]
        refine z_goto (tgt := 5) dX9_takeNumber_85 rfl ?_
        rw [show kNn K p (e - p).toNat * 10 + m 2 e - 48 = kNn K p (e + 1 - p).toNat by rw [show (e + 1 - p).toNat = (e - p).toNat + 1 by omega]; symm; show (if (e - p).toNat < 2 then _ else _) = _; rw [if_pos (by omega), show p + (((e - p).toNat : Nat) : Int) = e by omega, hv]; omega]
        refine ih (e + 1) (by omega) (by omega) (fun x q0 q1 => ?_) ?_
        · by_cases ex : x = e
          · rw [ex]; exact hD
          · exact hd x q0 (by omega)
        · rw [← kNe_t hD (by omega)]
          exact hP

theorem c_takeNumber (d : Nat) {E : zE} {m : zM} (sK : shK E) (K : zK) (hK : kTx m K) (p : Int) (p0 : 0 ≤ p) (hs : m 1 4 = p) (he : m 1 5 = p) (hN : K.2.2 ≠ 0) (hD : kD K p = true) : zR zX9_takeNumber (d + 1) [zP 1] m E E (fun r m' => r = none ∧ zfr fTk m m' ∧ kAt m' K p) := by
  have hb := hK.1.1
  have hp := kD_in hK.1 hD
  have hne := kNe_gt hK.1 hD
  refine zR_go [zP 1] (by decide +kernel) (Nat.le_of_ble_eq_true rfl) rfl rfl ?_
  refine z_aload_n dX9_takeNumber_0 rfl ?_
  refine z_iconst dX9_takeNumber_1 (by decide) ?_
  refine z_pI 7 rfl (fpX9_66 _) dX9_takeNumber_2 sK.1 rfl ?_
  refine zA_m (m' := zu (zu m 1 7 (kNn K p (p - p).toNat)) 1 5 p) (by rw [show (p - p).toNat = 0 by omega]; rw [show kNn K p 0 = 0 from rfl, zu_com, ← he, zu_same]) ?_
  refine l_takeNumber d sK K hK p p0 hs (K.2.1 - p).toNat p (by omega) (by omega) (fun x q0 q1 => by omega) ?_
  refine z_aload_n dX9_takeNumber_88 rfl ?_
  refine z_aload_n dX9_takeNumber_89 rfl ?_
  refine z_gIv 5 rfl flX9_38 dX9_takeNumber_90 sK.1 rfl zu_s ?_
  refine z_aload_n dX9_takeNumber_93 rfl ?_
  refine z_gIv 4 rfl flX9_44 dX9_takeNumber_94 sK.1 rfl (Eq.trans (zu_j (by decide)) (Eq.trans (zu_j (by decide)) hs)) ?_
  refine z_sub dX9_takeNumber_97 (by omega) ?_
  refine z_iconst dX9_takeNumber_98 (by decide) ?_
  refine z_icmp_le (tgt := 106) dX9_takeNumber_99 rfl (fun h99 => ?_) (fun h99 => ?_)
  · refine z_iconst dX9_takeNumber_106 (by decide) ?_
    refine z_pI 6 rfl (fpX9_47 _) dX9_takeNumber_107 sK.1 rfl ?_
    refine z_vret dX9_takeNumber_110 rfl rfl ?_
    exact ⟨rfl, zfr_uj (zfr_uj (zfr_uj zfr_rf (by simp [fTk])) (by simp [fTk])) (by simp [fTk]), kAt_n hK.1 p0 hs hN hD (Or.inr ⟨by omega, rfl⟩)⟩
  · refine z_iconst dX9_takeNumber_102 (by decide) ?_
    refine z_goto (tgt := 107) dX9_takeNumber_103 rfl ?_
    refine z_pI 6 rfl (fpX9_47 _) dX9_takeNumber_107 sK.1 rfl ?_
    refine z_vret dX9_takeNumber_110 rfl rfl ?_
    exact ⟨rfl, zfr_uj (zfr_uj (zfr_uj zfr_rf (by simp [fTk])) (by simp [fTk])) (by simp [fTk]), kAt_n hK.1 p0 hs hN hD (Or.inl ⟨by omega, rfl⟩)⟩

theorem c_takeSign (d : Nat) {E : zE} {m : zM} (sK : shK E) (K : zK) (hK : kTx m K) (p : Int) (p0 : 0 ≤ p) (hp : p < K.2.1) (hs : m 1 4 = p) (hL : kL K p = false) (hD : K.2.2 = 0 ∨ kD K p = false) : zR zX9_takeSign (d) [zP 1] m E E (fun r m' => r = none ∧ zfr fTk m m' ∧ kAt m' K p) := by
  have hb := hK.1.1
  have hk := hK.2.1 p p0 hp
  have k39 := kn_eq hk (v := 39) (by decide) (by decide)
  have k45 := kn_eq hk (v := 45) (by decide) (by decide)
  have k62 := kn_eq hk (v := 62) (by decide) (by decide)
  have k59 := kn_eq hk (v := 59) (by decide) (by decide)
  refine zR_go [zP 1, zN] (by decide +kernel) (Nat.le_of_ble_eq_true rfl) rfl rfl ?_
  refine z_aload_n dX9_takeSign_0 rfl ?_
  refine z_aload_n dX9_takeSign_1 rfl ?_
  refine z_gP 0 rfl (r := 2) flX9_9 dX9_takeSign_2 sK.1 rfl hK.2.2.1 (by decide) ?_
  refine z_aload_n dX9_takeSign_5 rfl ?_
  refine z_gIv 4 rfl flX9_44 dX9_takeSign_6 sK.1 rfl hs ?_
  refine z_ialv dX9_takeSign_9 sK.2 (by omega) (by omega) rfl ?_
  refine z_pI 7 rfl (fpX9_66 _) dX9_takeSign_10 sK.1 rfl ?_
  refine z_aload_n dX9_takeSign_13 rfl ?_
  refine z_aload_n dX9_takeSign_14 rfl ?_
  refine z_gIv 4 rfl flX9_44 dX9_takeSign_15 sK.1 rfl (Eq.trans (zu_j (by decide)) hs) ?_
  refine z_iconst dX9_takeSign_18 (by decide) ?_
  refine z_add dX9_takeSign_19 (by omega) ?_
  refine z_pI 5 rfl (fpX9_38 _) dX9_takeSign_20 sK.1 rfl ?_
  obtain ⟨m1, em1⟩ : ∃ x, x = zu (zu m 1 7 (m 2 p)) 1 5 (p + 1) := ⟨_, rfl⟩
  rw [← em1]
  have v1 : m1 1 7 = m 2 p := by rw [em1, zu_j (by decide), zu_s]
  have n1 : m1 1 3 = K.2.2 := by rw [em1, zu_j (by decide), zu_j (by decide)]; exact hK.2.2.2.2.1
  refine z_aload_n dX9_takeSign_23 rfl ?_
  refine z_gIv 3 rfl flX9_34 dX9_takeSign_24 sK.1 rfl n1 ?_
  refine z_if_eq (tgt := 56) dX9_takeSign_27 rfl (fun h27 => ?_) (fun h27 => ?_)
  · refine z_aload_n dX9_takeSign_56 rfl ?_
    refine z_gIv 7 rfl flX9_66 dX9_takeSign_57 sK.1 rfl v1 ?_
    refine z_bipush dX9_takeSign_60 rfl (by decide) ?_
    refine z_icmp_ne (tgt := 69) dX9_takeSign_62 rfl (fun h62 => ?_) (fun h62 => ?_)
    · refine z_iconst dX9_takeSign_69 (by decide) ?_
      refine z_ist 1 dX9_takeSign_70 rfl (Nat.le_of_ble_eq_true rfl) ?_
      refine z_aload_n dX9_takeSign_71 rfl ?_
      refine z_iload_n dX9_takeSign_72 rfl ?_
      try dsimp only [zs0, zsI, zsP, zsN, zsJ, zsS, zst2, Nat.reduceAdd]
      refine z_if_ne (tgt := 85) dX9_takeSign_73 rfl (fun h => absurd h (by decide)) (fun h73 => ?_)
      refine z_aload_n dX9_takeSign_76 rfl ?_
      refine z_gIv 7 rfl flX9_66 dX9_takeSign_77 sK.1 rfl v1 ?_
      refine z_bipush dX9_takeSign_80 rfl (by decide) ?_
      refine z_icmp_ne (tgt := 89) dX9_takeSign_82 rfl (fun h82 => ?_) (fun h82 => ?_)
      · refine z_iconst dX9_takeSign_89 (by decide) ?_
        refine z_pI 6 rfl (fpX9_47 _) dX9_takeSign_90 sK.1 rfl ?_
        refine z_vret dX9_takeSign_93 rfl rfl ?_
        rw [em1]
        exact ⟨rfl, zfr_uj (zfr_uj (zfr_uj zfr_rf (by simp [fTk])) (by simp [fTk])) (by simp [fTk]), kAt_s hK.1 p0 hp hs hL hD (by have := hK.2.2.2.2.2; exact Or.inr ⟨by rw [if_pos (by omega)]; omega, rfl⟩)⟩
      · refine z_iconst dX9_takeSign_85 (by decide) ?_
        refine z_goto (tgt := 90) dX9_takeSign_86 rfl ?_
        refine z_pI 6 rfl (fpX9_47 _) dX9_takeSign_90 sK.1 rfl ?_
        refine z_vret dX9_takeSign_93 rfl rfl ?_
        rw [em1]
        exact ⟨rfl, zfr_uj (zfr_uj (zfr_uj zfr_rf (by simp [fTk])) (by simp [fTk])) (by simp [fTk]), kAt_s hK.1 p0 hp hs hL hD (by have := hK.2.2.2.2.2; exact Or.inl ⟨by rw [if_pos (by omega)]; omega, rfl, by omega⟩)⟩
    · refine z_iconst dX9_takeSign_65 (by decide) ?_
      refine z_goto (tgt := 70) dX9_takeSign_66 rfl ?_
      refine z_ist 1 dX9_takeSign_70 rfl (Nat.le_of_ble_eq_true rfl) ?_
      refine z_aload_n dX9_takeSign_71 rfl ?_
      refine z_iload_n dX9_takeSign_72 rfl ?_
      try dsimp only [zs0, zsI, zsP, zsN, zsJ, zsS, zst2, Nat.reduceAdd]
      refine z_if_ne (tgt := 85) dX9_takeSign_73 rfl (fun h73 => ?_) (fun h => absurd (by decide) h)
      refine z_iconst dX9_takeSign_85 (by decide) ?_
      refine z_goto (tgt := 90) dX9_takeSign_86 rfl ?_
      refine z_pI 6 rfl (fpX9_47 _) dX9_takeSign_90 sK.1 rfl ?_
      refine z_vret dX9_takeSign_93 rfl rfl ?_
      rw [em1]
      exact ⟨rfl, zfr_uj (zfr_uj (zfr_uj zfr_rf (by simp [fTk])) (by simp [fTk])) (by simp [fTk]), kAt_s hK.1 p0 hp hs hL hD (by have := hK.2.2.2.2.2; exact Or.inl ⟨by rw [if_pos (by omega)]; omega, rfl, by omega⟩)⟩
  · refine z_aload_n dX9_takeSign_30 rfl ?_
    refine z_gIv 7 rfl flX9_66 dX9_takeSign_31 sK.1 rfl v1 ?_
    refine z_bipush dX9_takeSign_34 rfl (by decide) ?_
    refine z_icmp_eq (tgt := 48) dX9_takeSign_36 rfl (fun h36 => ?_) (fun h36 => ?_)
    · refine z_iconst dX9_takeSign_48 (by decide) ?_
      refine z_goto (tgt := 70) dX9_takeSign_49 rfl ?_
      refine z_ist 1 dX9_takeSign_70 rfl (Nat.le_of_ble_eq_true rfl) ?_
      refine z_aload_n dX9_takeSign_71 rfl ?_
      refine z_iload_n dX9_takeSign_72 rfl ?_
      try dsimp only [zs0, zsI, zsP, zsN, zsJ, zsS, zst2, Nat.reduceAdd]
      refine z_if_ne (tgt := 85) dX9_takeSign_73 rfl (fun h73 => ?_) (fun h => absurd (by decide) h)
      refine z_iconst dX9_takeSign_85 (by decide) ?_
      refine z_goto (tgt := 90) dX9_takeSign_86 rfl ?_
      refine z_pI 6 rfl (fpX9_47 _) dX9_takeSign_90 sK.1 rfl ?_
      refine z_vret dX9_takeSign_93 rfl rfl ?_
      rw [em1]
      exact ⟨rfl, zfr_uj (zfr_uj (zfr_uj zfr_rf (by simp [fTk])) (by simp [fTk])) (by simp [fTk]), kAt_s hK.1 p0 hp hs hL hD (by have := hK.2.2.2.2.2; exact Or.inl ⟨by rw [if_neg (by omega)]; omega, rfl, by omega⟩)⟩
    · refine z_aload_n dX9_takeSign_39 rfl ?_
      refine z_gIv 7 rfl flX9_66 dX9_takeSign_40 sK.1 rfl v1 ?_
      refine z_bipush dX9_takeSign_43 rfl (by decide) ?_
      refine z_icmp_ne (tgt := 52) dX9_takeSign_45 rfl (fun h45 => ?_) (fun h45 => ?_)
      · refine z_iconst dX9_takeSign_52 (by decide) ?_
        refine z_goto (tgt := 70) dX9_takeSign_53 rfl ?_
        refine z_ist 1 dX9_takeSign_70 rfl (Nat.le_of_ble_eq_true rfl) ?_
        refine z_aload_n dX9_takeSign_71 rfl ?_
        refine z_iload_n dX9_takeSign_72 rfl ?_
        try dsimp only [zs0, zsI, zsP, zsN, zsJ, zsS, zst2, Nat.reduceAdd]
        refine z_if_ne (tgt := 85) dX9_takeSign_73 rfl (fun h => absurd h (by decide)) (fun h73 => ?_)
        refine z_aload_n dX9_takeSign_76 rfl ?_
        refine z_gIv 7 rfl flX9_66 dX9_takeSign_77 sK.1 rfl v1 ?_
        refine z_bipush dX9_takeSign_80 rfl (by decide) ?_
        refine z_icmp_ne (tgt := 89) dX9_takeSign_82 rfl (fun h82 => ?_) (fun h82 => ?_)
        · refine z_iconst dX9_takeSign_89 (by decide) ?_
          refine z_pI 6 rfl (fpX9_47 _) dX9_takeSign_90 sK.1 rfl ?_
          refine z_vret dX9_takeSign_93 rfl rfl ?_
          rw [em1]
          exact ⟨rfl, zfr_uj (zfr_uj (zfr_uj zfr_rf (by simp [fTk])) (by simp [fTk])) (by simp [fTk]), kAt_s hK.1 p0 hp hs hL hD (by have := hK.2.2.2.2.2; exact Or.inr ⟨by rw [if_neg (by omega)]; omega, rfl⟩)⟩
        · refine z_iconst dX9_takeSign_85 (by decide) ?_
          refine z_goto (tgt := 90) dX9_takeSign_86 rfl ?_
          refine z_pI 6 rfl (fpX9_47 _) dX9_takeSign_90 sK.1 rfl ?_
          refine z_vret dX9_takeSign_93 rfl rfl ?_
          rw [em1]
          exact ⟨rfl, zfr_uj (zfr_uj (zfr_uj zfr_rf (by simp [fTk])) (by simp [fTk])) (by simp [fTk]), kAt_s hK.1 p0 hp hs hL hD (by have := hK.2.2.2.2.2; exact Or.inl ⟨by rw [if_neg (by omega)]; omega, rfl, by omega⟩)⟩
      · refine z_iconst dX9_takeSign_48 (by decide) ?_
        refine z_goto (tgt := 70) dX9_takeSign_49 rfl ?_
        refine z_ist 1 dX9_takeSign_70 rfl (Nat.le_of_ble_eq_true rfl) ?_
        refine z_aload_n dX9_takeSign_71 rfl ?_
        refine z_iload_n dX9_takeSign_72 rfl ?_
        try dsimp only [zs0, zsI, zsP, zsN, zsJ, zsS, zst2, Nat.reduceAdd]
        refine z_if_ne (tgt := 85) dX9_takeSign_73 rfl (fun h73 => ?_) (fun h => absurd (by decide) h)
        refine z_iconst dX9_takeSign_85 (by decide) ?_
        refine z_goto (tgt := 90) dX9_takeSign_86 rfl ?_
        refine z_pI 6 rfl (fpX9_47 _) dX9_takeSign_90 sK.1 rfl ?_
        refine z_vret dX9_takeSign_93 rfl rfl ?_
        rw [em1]
        exact ⟨rfl, zfr_uj (zfr_uj (zfr_uj zfr_rf (by simp [fTk])) (by simp [fTk])) (by simp [fTk]), kAt_s hK.1 p0 hp hs hL hD (by have := hK.2.2.2.2.2; exact Or.inl ⟨by rw [if_neg (by omega)]; omega, rfl, by omega⟩)⟩

theorem l_advance (d : Nat) {E : zE} {m : zM} {P : Option zV → zM → Prop} (sK : shK E) (K : zK) (hK : kTx m K) : ∀ (j : Nat) (e : Int), (0 ≤ e) → (e + j = K.2.1) → (zA zX9_advance (d + 2) E E P 60 [zP 1] [] (zu m 1 4 (kSk K e)) E) → zA zX9_advance (d + 2) E E P 8 [zP 1] [] (zu m 1 4 e) E := by
  intro j
  induction j with
  | zero =>
    intro e e0 he hP
    have hb := hK.1.1
    refine z_aload_n dX9_advance_8 rfl ?_
    refine z_gIv 4 rfl flX9_44 dX9_advance_9 sK.1 rfl zu_s ?_
    refine z_aload_n dX9_advance_12 rfl ?_
    refine z_gIv 2 rfl flX9_31 dX9_advance_13 sK.1 rfl (Eq.trans (zu_j (by decide)) hK.2.2.2.1) ?_
    refine z_icmp_ge (tgt := 60) dX9_advance_16 rfl (fun h16 => ?_) (fun h => absurd (by omega) h)
    rw [kSk_f (kB_o hK.1 e (by omega))] at hP
    exact hP
  | succ j ih =>
    intro e e0 he hP
    have hb := hK.1.1
    have hk := hK.2.1 e e0 (by omega)
    have k10 := kn_eq hk (v := 10) (by decide) (by decide)
    have k32 := kn_eq hk (v := 32) (by decide) (by decide)
    refine z_aload_n dX9_advance_8 rfl ?_
    refine z_gIv 4 rfl flX9_44 dX9_advance_9 sK.1 rfl zu_s ?_
    refine z_aload_n dX9_advance_12 rfl ?_
    refine z_gIv 2 rfl flX9_31 dX9_advance_13 sK.1 rfl (Eq.trans (zu_j (by decide)) hK.2.2.2.1) ?_
    refine z_icmp_ge (tgt := 60) dX9_advance_16 rfl (fun h => absurd h (by omega)) (fun h16 => ?_)
    refine z_aload_n dX9_advance_19 rfl ?_
    refine z_gP 0 rfl (r := 2) flX9_9 dX9_advance_20 sK.1 rfl (Eq.trans (zu_j (by decide)) hK.2.2.1) (by decide) ?_
    refine z_aload_n dX9_advance_23 rfl ?_
    refine z_gIv 4 rfl flX9_44 dX9_advance_24 sK.1 rfl zu_s ?_
    refine z_ialv dX9_advance_27 sK.2 (by omega) (by omega) (zu_a (by decide)) ?_
    refine z_bipush dX9_advance_28 rfl (by decide) ?_
    refine z_icmp_eq (tgt := 47) dX9_advance_30 rfl (fun h30 => ?_) (fun h30 => ?_)
    · refine z_aload_n dX9_advance_47 rfl ?_
      refine z_dup dX9_advance_48 rfl ?_
      refine z_gIv 4 rfl flX9_44 dX9_advance_49 sK.1 rfl zu_s ?_
      refine z_iconst dX9_advance_52 (by decide) ?_
      refine z_add dX9_advance_53 (by omega) ?_
      refine z_pI 4 rfl (fpX9_44 _) dX9_advance_54 sK.1 rfl ?_
      rw [zu_zu]
      refine z_goto (tgt := 8) dX9_advance_57 rfl ?_
      refine ih (e + 1) (by omega) (by omega) ?_
      rw [← kSk_t (kB_iff.mpr (by omega)) (by omega)]
      exact hP
    · refine z_aload_n dX9_advance_33 rfl ?_
      refine z_gP 0 rfl (r := 2) flX9_9 dX9_advance_34 sK.1 rfl (Eq.trans (zu_j (by decide)) hK.2.2.1) (by decide) ?_
      refine z_aload_n dX9_advance_37 rfl ?_
      refine z_gIv 4 rfl flX9_44 dX9_advance_38 sK.1 rfl zu_s ?_
      refine z_ialv dX9_advance_41 sK.2 (by omega) (by omega) (zu_a (by decide)) ?_
      refine z_bipush dX9_advance_42 rfl (by decide) ?_
      refine z_icmp_ne (tgt := 60) dX9_advance_44 rfl (fun h44 => ?_) (fun h44 => ?_)
      · rw [kSk_f (by unfold kB; rw [decide_eq_false_iff_not]; omega)] at hP
        exact hP
      · refine z_aload_n dX9_advance_47 rfl ?_
        refine z_dup dX9_advance_48 rfl ?_
        refine z_gIv 4 rfl flX9_44 dX9_advance_49 sK.1 rfl zu_s ?_
        refine z_iconst dX9_advance_52 (by decide) ?_
        refine z_add dX9_advance_53 (by omega) ?_
        refine z_pI 4 rfl (fpX9_44 _) dX9_advance_54 sK.1 rfl ?_
        rw [zu_zu]
        refine z_goto (tgt := 8) dX9_advance_57 rfl ?_
        refine ih (e + 1) (by omega) (by omega) ?_
        rw [← kSk_t (kB_iff.mpr (by omega)) (by omega)]
        exact hP

theorem c_advance (d : Nat) {E : zE} {m : zM} (sK : shK E) (K : zK) (hK : kTx m K) (e : Int) (e0 : 0 ≤ e) (e1' : e ≤ K.2.1) (he : m 1 5 = e) : zR zX9_advance (d + 2) [zP 1] m E E (fun r m' => r = none ∧ zfr fTk m m' ∧ kAt m' K (kSk K e)) := by
  have hb := hK.1.1
  have hsk := kSk_ge (k := e) hK.1
  refine zR_go [zP 1] (by decide +kernel) (Nat.le_of_ble_eq_true rfl) rfl rfl ?_
  refine z_aload_n dX9_advance_0 rfl ?_
  refine z_aload_n dX9_advance_1 rfl ?_
  refine z_gIv 5 rfl flX9_38 dX9_advance_2 sK.1 rfl he ?_
  refine z_pI 4 rfl (fpX9_44 _) dX9_advance_5 sK.1 rfl ?_
  refine l_advance d sK K hK (K.2.1 - e).toNat e e0 (by omega) ?_
  refine z_aload_n dX9_advance_60 rfl ?_
  refine z_aload_n dX9_advance_61 rfl ?_
  refine z_gIv 4 rfl flX9_44 dX9_advance_62 sK.1 rfl zu_s ?_
  refine z_pI 5 rfl (fpX9_38 _) dX9_advance_65 sK.1 rfl ?_
  obtain ⟨m1, em1⟩ : ∃ x, x = zu (zu m 1 4 (kSk K e)) 1 5 (kSk K e) := ⟨_, rfl⟩
  rw [← em1]
  have f1 : zfr fTk m m1 := by rw [em1]; exact zfr_uj (zfr_uj zfr_rf (by simp [fTk])) (by simp [fTk])
  have hK1 := kTx_fr hK f1
  have s1 : m1 1 4 = kSk K e := by rw [em1, zu_j (by decide), zu_s]
  have e1 : m1 1 5 = kSk K e := by rw [em1, zu_s]
  refine z_aload_n dX9_advance_68 rfl ?_
  refine z_gIv 4 rfl flX9_44 dX9_advance_69 sK.1 rfl s1 ?_
  refine z_aload_n dX9_advance_72 rfl ?_
  refine z_gIv 2 rfl flX9_31 dX9_advance_73 sK.1 rfl hK1.2.2.2.1 ?_
  refine z_icmp_lt (tgt := 87) dX9_advance_76 rfl (fun h76 => ?_) (fun h76 => ?_)
  · have hk := hK1.2.1 (kSk K e) (by omega) (by omega)
    refine z_aload_n dX9_advance_87 rfl ?_
    refine z_gP 0 rfl (r := 2) flX9_9 dX9_advance_88 sK.1 rfl hK1.2.2.1 (by decide) ?_
    refine z_aload_n dX9_advance_91 rfl ?_
    refine z_gIv 4 rfl flX9_44 dX9_advance_92 sK.1 rfl s1 ?_
    refine z_ialv dX9_advance_95 sK.2 (by omega) (by omega) rfl ?_
    refine z_callS mlX9_50 dX9_advance_96 (av := [_]) rfl rfl (Nat.le_of_ble_eq_true rfl) (c_isSmall _ _) (Nat.le_refl _) (Nat.le_refl _) (Nat.le_refl _) (Nat.le_refl _) ?_
    rintro _ _ ⟨rfl, rfl⟩
    refine z_ifz_eq (tgt := 109) dX9_advance_99 rfl (fun h99 => ?_) (fun h99 => ?_)
    · refine z_aload_n dX9_advance_109 rfl ?_
      refine z_gIv 3 rfl flX9_34 dX9_advance_110 sK.1 rfl hK1.2.2.2.2.1 ?_
      refine z_if_eq (tgt := 138) dX9_advance_113 rfl (fun h113 => ?_) (fun h113 => ?_)
      · refine z_aload_n dX9_advance_138 rfl ?_
        refine z_callV mlX9_63 dX9_advance_139 sK.1 (av := _) rfl rfl (Nat.le_of_ble_eq_true rfl) (c_takeSign _ sK K hK1 _ (by omega) (by omega) s1 (by unfold kL; rw [decide_eq_false_iff_not]; exact fun h => h99 ((kn_in hk (by decide) (by decide)).mp h)) (Or.inl (by have := hK1.2.2.2.2.1; omega))) (Nat.le_refl _) (Nat.le_refl _) (Nat.le_refl _) (Nat.le_refl _) ?_
        rintro _ m2 ⟨rfl, f2, a2⟩
        refine z_vret dX9_advance_142 rfl rfl ?_
        exact ⟨rfl, zfr_tr f1 f2, a2⟩
      · refine z_aload_n dX9_advance_116 rfl ?_
        refine z_gP 0 rfl (r := 2) flX9_9 dX9_advance_117 sK.1 rfl hK1.2.2.1 (by decide) ?_
        refine z_aload_n dX9_advance_120 rfl ?_
        refine z_gIv 4 rfl flX9_44 dX9_advance_121 sK.1 rfl s1 ?_
        refine z_ialv dX9_advance_124 sK.2 (by omega) (by omega) rfl ?_
        refine z_callS mlX9_57 dX9_advance_125 (av := [_]) rfl rfl (Nat.le_of_ble_eq_true rfl) (c_isDigit _ _) (Nat.le_refl _) (Nat.le_refl _) (Nat.le_refl _) (Nat.le_refl _) ?_
        rintro _ _ ⟨rfl, rfl⟩
        refine z_ifz_eq (tgt := 138) dX9_advance_128 rfl (fun h128 => ?_) (fun h128 => ?_)
        · refine z_aload_n dX9_advance_138 rfl ?_
          refine z_callV mlX9_63 dX9_advance_139 sK.1 (av := _) rfl rfl (Nat.le_of_ble_eq_true rfl) (c_takeSign _ sK K hK1 _ (by omega) (by omega) s1 (by unfold kL; rw [decide_eq_false_iff_not]; exact fun h => h99 ((kn_in hk (by decide) (by decide)).mp h)) (Or.inr (by unfold kD; rw [decide_eq_false_iff_not]; exact fun h => h128 ((kn_in hk (by decide) (by decide)).mp h)))) (Nat.le_refl _) (Nat.le_refl _) (Nat.le_refl _) (Nat.le_refl _) ?_
          rintro _ m2 ⟨rfl, f2, a2⟩
          refine z_vret dX9_advance_142 rfl rfl ?_
          exact ⟨rfl, zfr_tr f1 f2, a2⟩
        · refine z_aload_n dX9_advance_131 rfl ?_
          refine z_callV mlX9_60 dX9_advance_132 sK.1 (av := _) rfl rfl (Nat.le_of_ble_eq_true rfl) (c_takeNumber d sK K hK1 _ (by omega) s1 e1 (by omega) (kD_iff.mpr ((kn_in hk (by decide) (by decide)).mpr h128))) (Nat.le_refl _) (Nat.le_refl _) (Nat.le_refl _) (Nat.le_refl _) ?_
          rintro _ m2 ⟨rfl, f2, a2⟩
          refine z_goto (tgt := 142) dX9_advance_135 rfl ?_
          refine z_vret dX9_advance_142 rfl rfl ?_
          exact ⟨rfl, zfr_tr f1 f2, a2⟩
    · refine z_aload_n dX9_advance_102 rfl ?_
      refine z_callV mlX9_54 dX9_advance_103 sK.1 (av := _) rfl rfl (Nat.le_of_ble_eq_true rfl) (c_takeWord d sK K hK1 _ (by omega) s1 e1 (kL_iff.mpr ((kn_in hk (by decide) (by decide)).mpr h99))) (Nat.le_refl _) (Nat.le_refl _) (Nat.le_refl _) (Nat.le_refl _) ?_
      rintro _ m2 ⟨rfl, f2, a2⟩
      refine z_goto (tgt := 142) dX9_advance_106 rfl ?_
      refine z_vret dX9_advance_142 rfl rfl ?_
      exact ⟨rfl, zfr_tr f1 f2, a2⟩
  · refine z_aload_n dX9_advance_79 rfl ?_
    refine z_iconst dX9_advance_80 (by decide) ?_
    refine z_pI 6 rfl (fpX9_47 _) dX9_advance_81 sK.1 rfl ?_
    refine z_goto (tgt := 142) dX9_advance_84 rfl ?_
    refine z_vret dX9_advance_142 rfl rfl ?_
    exact ⟨rfl, zfr_uj f1 (by simp [fTk]), kAt_e hK.1 (by omega) (by omega) ((zu_j (by decide)).trans s1) ((zu_j (by decide)).trans e1) zu_s⟩

theorem c_next (d : Nat) {E : zE} {m : zM} (sK : shK E) (K : zK) (hK : kTx m K) (p : Int) (hp : kAt m K p) (hne : kSo K p ≠ 0) : zR zX9_advance (d + 2) [zP 1] m E E (fun r m' => r = none ∧ zfr fTk m m' ∧ kAt m' K (kR K p)) := by
  have hlt := kSo_lt hK.1 hne
  have hx := kNx_gt (p := p) hK.1
  have he : m 1 5 = kNx K p := by rw [hp.2.2.1]; exact if_neg hne
  exact c_advance d sK K hK (kNx K p) (by have := hp.1; omega) (hx.2.1 hlt) he

theorem c_tbegin (d : Nat) {E : zE} {m : zM} (sK : shK E) (pK : m 1 0 = 2) (n b : Int) (hb : b = 0 ∨ b = 1) (n0 : 0 ≤ n) (n1 : n ≤ m 1 1) (ht : m 1 1 ≤ 400) : zR zX9_begin (d + 3) [zP 1, zI n, zI b] m E E (fun r m' => r = none ∧ zfr fBg m m' ∧ kTx m' (mV (m 2) n, n, b) ∧ kAt m' (mV (m 2) n, n, b) (kSk (mV (m 2) n, n, b) 0) ∧ m' 1 1 = 0 ∧ m' 1 8 = 0 ∧ m' 1 9 = -1) := by
  refine zR_go [zP 1, zI n, zI b] (by decide +kernel) (Nat.le_of_ble_eq_true rfl) rfl rfl ?_
  refine z_aload_n dX9_begin_0 rfl ?_
  refine z_iload_n dX9_begin_1 rfl ?_
  refine z_aload_n dX9_begin_2 rfl ?_
  refine z_gIv 1 rfl flX9_22 dX9_begin_3 sK.1 rfl rfl ?_
  refine z_min (zg2 212 (by decide +kernel) rfl) dX9_begin_6 (Nat.le_of_ble_eq_true rfl) (Nat.le_refl _) (Nat.le_refl _) ?_
  rw [if_neg (show ¬ m 1 1 < n by omega)]
  refine z_pI 2 rfl (fpX9_31 _) dX9_begin_9 sK.1 rfl ?_
  refine z_aload_n dX9_begin_12 rfl ?_
  refine z_iload_n dX9_begin_13 rfl ?_
  refine z_pZ 3 rfl (fpX9_34 _) dX9_begin_14 sK.1 rfl hb ?_
  refine z_aload_n dX9_begin_17 rfl ?_
  refine z_iconst dX9_begin_18 (by decide) ?_
  refine z_pI 1 rfl (fpX9_22 _) dX9_begin_19 sK.1 rfl ?_
  refine z_aload_n dX9_begin_22 rfl ?_
  refine z_iconst dX9_begin_23 (by decide) ?_
  refine z_pI 8 rfl (fpX9_15 _) dX9_begin_24 sK.1 rfl ?_
  refine z_aload_n dX9_begin_27 rfl ?_
  refine z_iconst dX9_begin_28 (by decide) ?_
  refine z_pI 9 rfl (fpX9_19 _) dX9_begin_29 sK.1 rfl ?_
  refine z_aload_n dX9_begin_32 rfl ?_
  refine z_iconst dX9_begin_33 (by decide) ?_
  refine z_pI 5 rfl (fpX9_38 _) dX9_begin_34 sK.1 rfl ?_
  obtain ⟨m1, em1⟩ : ∃ x, x = zu (zu (zu (zu (zu (zu m 1 2 n) 1 3 b) 1 1 0) 1 8 0) 1 9 (-1)) 1 5 0 := ⟨_, rfl⟩
  rw [← em1]
  have j1 : ∀ a j, ¬ (a = 1 ∧ (j = 2 ∨ j = 3 ∨ j = 1 ∨ j = 8 ∨ j = 9 ∨ j = 5)) → m1 a j = m a j := fun a j h => by
    rw [em1]; unfold zu
    rw [if_neg (by omega), if_neg (by omega), if_neg (by omega), if_neg (by omega), if_neg (by omega), if_neg (by omega)]
  have hK1 : kTx m1 (mV (m 2) n, n, b) := ⟨⟨by show 0 ≤ n ∧ n ≤ 400; omega, fun k hk => mV_o hk⟩, fun k q0 q1 => by show mV (m 2) n k = _; unfold mV; rw [if_pos ⟨q0, q1⟩, j1 _ _ (by omega)], by rw [j1 _ _ (by omega)]; exact pK, by rw [em1, zu_j (by decide), zu_j (by decide), zu_j (by decide), zu_j (by decide), zu_j (by decide), zu_s], by rw [em1, zu_j (by decide), zu_j (by decide), zu_j (by decide), zu_j (by decide), zu_s], hb⟩
  refine z_aload_n dX9_begin_37 rfl ?_
  refine z_callV mlX9_41 dX9_begin_38 sK.1 (av := _) rfl rfl (Nat.le_of_ble_eq_true rfl) (c_advance d sK _ hK1 0 (by omega) (by show 0 ≤ n; omega) (by rw [em1, zu_s])) (Nat.le_refl _) (Nat.le_refl _) (Nat.le_refl _) (Nat.le_refl _) ?_
  rintro _ m2 ⟨rfl, f2, a2⟩
  refine z_vret dX9_begin_41 rfl rfl ?_
  refine ⟨rfl, ?_, kTx_fr hK1 f2, a2, ?_, ?_, ?_⟩
  · refine zfr_tr ?_ (zfr_sub f2 (by simp [fTk, fBg]))
    rw [em1]
    exact zfr_uj (zfr_uj (zfr_uj (zfr_uj (zfr_uj (zfr_uj zfr_rf (by simp [fBg])) (by simp [fBg])) (by simp [fBg])) (by simp [fBg])) (by simp [fBg])) (by simp [fBg])
  · rw [fTk_at f2 (by omega), em1, zu_j (by decide), zu_j (by decide), zu_j (by decide), zu_s]
  · rw [fTk_at f2 (by omega), em1, zu_j (by decide), zu_j (by decide), zu_s]
  · rw [fTk_at f2 (by omega), em1, zu_j (by decide), zu_s]

theorem c_failAt (d : Nat) {E : zE} {m : zM} (sK : shK E) (p k : Int) : zR zX9_failAt (d) [zP 1, zI p, zI k] m E E (fun r m' => r = some (zI 0) ∧ m' = kBad m k p) := by
  refine zR_go [zP 1, zI p, zI k] (by decide +kernel) (Nat.le_of_ble_eq_true rfl) rfl rfl ?_
  refine z_aload_n dX9_failAt_0 rfl ?_
  refine z_iload_n dX9_failAt_1 rfl ?_
  refine z_pI 8 rfl (fpX9_15 _) dX9_failAt_2 sK.1 rfl ?_
  refine z_aload_n dX9_failAt_5 rfl ?_
  refine z_iload_n dX9_failAt_6 rfl ?_
  refine z_pI 9 rfl (fpX9_19 _) dX9_failAt_7 sK.1 rfl ?_
  refine z_iconst dX9_failAt_10 (by decide) ?_
  refine z_zret dX9_failAt_11 rfl (by first | omega | exact zb01 _) rfl ?_
  exact ⟨rfl, rfl⟩

theorem c_failHere (d : Nat) {E : zE} {m : zM} (sK : shK E) (K : zK) (p : Int) (hp : kAt m K p) (k : Int) : zR zX9_failHere (d + 1) [zP 1, zI k] m E E (fun r m' => r = some (zI 0) ∧ m' = kBad m k p) := by
  refine zR_go [zP 1, zI k] (by decide +kernel) (Nat.le_of_ble_eq_true rfl) rfl rfl ?_
  refine z_aload_n dX9_failHere_0 rfl ?_
  refine z_aload_n dX9_failHere_1 rfl ?_
  refine z_gIv 4 rfl flX9_44 dX9_failHere_2 sK.1 rfl hp.2.1 ?_
  refine z_iload_n dX9_failHere_5 rfl ?_
  refine z_callV mlX9_89 dX9_failHere_6 sK.1 (av := [_, _]) rfl rfl (Nat.le_of_ble_eq_true rfl) (c_failAt _ sK p k) (Nat.le_refl _) (Nat.le_refl _) (Nat.le_refl _) (Nat.le_refl _) ?_
  rintro _ _ ⟨rfl, rfl⟩
  refine z_zret dX9_failHere_9 rfl (by first | omega | exact zb01 _) rfl ?_
  exact ⟨rfl, rfl⟩

theorem c_misplaced (d : Nat) {E : zE} {m : zM} (sK : shK E) (K : zK) (p : Int) (hp : kAt m K p) : zR zX9_misplaced (d + 1) [zP 1] m E E (fun r m' => r = some (zI 0) ∧ m' = kBad m (kMis K p) p) := by
  have hso := kSo_rg K p
  have hto := kTo_is K p
  refine zR_go [zP 1] (by decide +kernel) (Nat.le_of_ble_eq_true rfl) rfl rfl ?_
  refine z_aload_n dX9_misplaced_0 rfl ?_
  refine z_aload_n dX9_misplaced_1 rfl ?_
  refine z_gIv 4 rfl flX9_44 dX9_misplaced_2 sK.1 rfl hp.2.1 ?_
  refine z_aload_n dX9_misplaced_5 rfl ?_
  refine z_gIv 6 rfl flX9_47 dX9_misplaced_6 sK.1 rfl hp.2.2.2.1 ?_
  refine z_iconst dX9_misplaced_9 (by decide) ?_
  refine z_icmp_ne (tgt := 17) dX9_misplaced_10 rfl (fun h10 => ?_) (fun h10 => ?_)
  · refine z_iconst dX9_misplaced_17 (by decide) ?_
    refine z_callV mlX9_89 dX9_misplaced_18 sK.1 (av := [_, _]) rfl rfl (Nat.le_of_ble_eq_true rfl) (c_failAt _ sK p 2) (Nat.le_refl _) (Nat.le_refl _) (Nat.le_refl _) (Nat.le_refl _) ?_
    rintro _ _ ⟨rfl, rfl⟩
    refine z_zret dX9_misplaced_21 rfl (by first | omega | exact zb01 _) rfl ?_
    exact ⟨rfl, by rw [show kMis K p = 2 from if_neg (by omega)]⟩
  · refine z_iconst dX9_misplaced_13 (by decide) ?_
    refine z_goto (tgt := 18) dX9_misplaced_14 rfl ?_
    refine z_callV mlX9_89 dX9_misplaced_18 sK.1 (av := [_, _]) rfl rfl (Nat.le_of_ble_eq_true rfl) (c_failAt _ sK p 1) (Nat.le_refl _) (Nat.le_refl _) (Nat.le_refl _) (Nat.le_refl _) ?_
    rintro _ _ ⟨rfl, rfl⟩
    refine z_zret dX9_misplaced_21 rfl (by first | omega | exact zb01 _) rfl ?_
    exact ⟨rfl, by rw [show kMis K p = 1 from if_pos (by omega)]⟩

theorem c_isSign (d : Nat) {E : zE} {m : zM} (sK : shK E) (K : zK) (p : Int) (hp : kAt m K p) (v : Int) : zR zX9_isSign (d) [zP 1, zI v] m E E (fun r m' => r = some (zI (zb (kSn K p v))) ∧ m = m') := by
  have hso := kSo_rg K p
  have hto := kTo_is K p
  refine zR_go [zP 1, zI v] (by decide +kernel) (Nat.le_of_ble_eq_true rfl) rfl rfl ?_
  refine z_aload_n dX9_isSign_0 rfl ?_
  refine z_gIv 6 rfl flX9_47 dX9_isSign_1 sK.1 rfl hp.2.2.2.1 ?_
  refine z_iconst dX9_isSign_4 (by decide) ?_
  refine z_icmp_ne (tgt := 20) dX9_isSign_5 rfl (fun h5 => ?_) (fun h5 => ?_)
  · refine z_iconst dX9_isSign_20 (by decide) ?_
    refine z_zret dX9_isSign_21 rfl (by first | omega | exact zb01 _) rfl ?_
    exact ⟨by rw [zb_f (fun h => by have := hp.2.2.2.2.2.2 h.1; omega)], rfl⟩
  · refine z_aload_n dX9_isSign_8 rfl ?_
    refine z_gIv 7 rfl flX9_66 dX9_isSign_9 sK.1 rfl rfl ?_
    refine z_iload_n dX9_isSign_12 rfl ?_
    refine z_icmp_ne (tgt := 20) dX9_isSign_13 rfl (fun h13 => ?_) (fun h13 => ?_)
    · refine z_iconst dX9_isSign_20 (by decide) ?_
      refine z_zret dX9_isSign_21 rfl (by first | omega | exact zb01 _) rfl ?_
      exact ⟨by rw [zb_f (fun h => by have := hp.2.2.2.2.2.2 h.1; omega)], rfl⟩
    · refine z_iconst dX9_isSign_16 (by decide) ?_
      refine z_goto (tgt := 21) dX9_isSign_17 rfl ?_
      refine z_zret dX9_isSign_21 rfl (by first | omega | exact zb01 _) rfl ?_
      exact ⟨by rw [zb_t ⟨by omega, by have := hp.2.2.2.2.2.2 (by omega); omega⟩], rfl⟩

theorem c_size (d : Nat) {E : zE} {m : zM} (sK : shK E) (K : zK) (p : Int) (hp : kAt m K p) (hk : kOk K) (hne : kSo K p ≠ 0) : zR zX9_size (d) [zP 1] m E E (fun r m' => r = some (zI (kSz K p)) ∧ m = m') := by
  have hx := kNx_gt (p := p) hk
  have hlt := kSo_lt hk hne
  have hb := hk.1
  have hpb := hp.1
  have hen : kEn K p = kNx K p := if_neg hne
  refine zR_go [zP 1] (by decide +kernel) (Nat.le_of_ble_eq_true rfl) rfl rfl ?_
  refine z_aload_n dX9_size_0 rfl ?_
  refine z_gIv 5 rfl flX9_38 dX9_size_1 sK.1 rfl hp.2.2.1 ?_
  refine z_aload_n dX9_size_4 rfl ?_
  refine z_gIv 4 rfl flX9_44 dX9_size_5 sK.1 rfl hp.2.1 ?_
  refine z_sub dX9_size_8 (by omega) ?_
  refine z_iret dX9_size_9 rfl rfl ?_
  exact ⟨by unfold kSz; rw [show kEn K p = kNx K p from if_neg hne], rfl⟩

theorem c_isSingle (d : Nat) {E : zE} {m : zM} (sK : shK E) (K : zK) (p : Int) (hp : kAt m K p) (hk : kOk K) : zR zX9_isSingle (d + 1) [zP 1] m E E (fun r m' => r = some (zI (zb (kSo K p = 1 ∧ kSz K p = 1))) ∧ m = m') := by
  have hso := kSo_rg K p
  have hto := kTo_is K p
  refine zR_go [zP 1] (by decide +kernel) (Nat.le_of_ble_eq_true rfl) rfl rfl ?_
  refine z_aload_n dX9_isSingle_0 rfl ?_
  refine z_gIv 6 rfl flX9_47 dX9_isSingle_1 sK.1 rfl hp.2.2.2.1 ?_
  refine z_iconst dX9_isSingle_4 (by decide) ?_
  refine z_icmp_ne (tgt := 20) dX9_isSingle_5 rfl (fun h5 => ?_) (fun h5 => ?_)
  · refine z_iconst dX9_isSingle_20 (by decide) ?_
    refine z_zret dX9_isSingle_21 rfl (by first | omega | exact zb01 _) rfl ?_
    exact ⟨by rw [zb_f (by omega)], rfl⟩
  · refine z_aload_n dX9_isSingle_8 rfl ?_
    refine z_callV mlX9_69 dX9_isSingle_9 sK.1 (av := _) rfl rfl (Nat.le_of_ble_eq_true rfl) (c_size _ sK K p hp hk (by omega)) (Nat.le_refl _) (Nat.le_refl _) (Nat.le_refl _) (Nat.le_refl _) ?_
    rintro _ _ ⟨rfl, rfl⟩
    refine z_iconst dX9_isSingle_12 (by decide) ?_
    refine z_icmp_ne (tgt := 20) dX9_isSingle_13 rfl (fun h13 => ?_) (fun h13 => ?_)
    · refine z_iconst dX9_isSingle_20 (by decide) ?_
      refine z_zret dX9_isSingle_21 rfl (by first | omega | exact zb01 _) rfl ?_
      exact ⟨by rw [zb_f (by omega)], rfl⟩
    · refine z_iconst dX9_isSingle_16 (by decide) ?_
      refine z_goto (tgt := 21) dX9_isSingle_17 rfl ?_
      refine z_zret dX9_isSingle_21 rfl (by first | omega | exact zb01 _) rfl ?_
      exact ⟨by rw [zb_t (by omega)], rfl⟩

theorem c_passSign (d : Nat) {E : zE} {m : zM} (sK : shK E) (K : zK) (hK : kTx m K) (p : Int) (hp : kAt m K p) (v : Int) : zR zX9_passSign (d + 3) [zP 1, zI v] m E E (fun r m' => (kSn K p v ∧ r = some (zI 1) ∧ zfr fTk m m' ∧ kAt m' K (kR K p)) ∨ (¬ kSn K p v ∧ r = some (zI 0) ∧ m' = kBad m (kMis K p) p)) := by
  refine zR_go [zP 1, zI v] (by decide +kernel) (Nat.le_of_ble_eq_true rfl) rfl rfl ?_
  refine z_aload_n dX9_passSign_0 rfl ?_
  refine z_iload_n dX9_passSign_1 rfl ?_
  refine z_callV mlX9_81 dX9_passSign_2 sK.1 (av := [_]) rfl rfl (Nat.le_of_ble_eq_true rfl) (c_isSign _ sK K p hp v) (Nat.le_refl _) (Nat.le_refl _) (Nat.le_refl _) (Nat.le_refl _) ?_
  rintro _ _ ⟨rfl, rfl⟩
  refine z_ifz_ne (tgt := 13) dX9_passSign_5 rfl (fun h5 => ?_) (fun h5 => ?_)
  · refine z_aload_n dX9_passSign_13 rfl ?_
    refine z_callV mlX9_41 dX9_passSign_14 sK.1 (av := _) rfl rfl (Nat.le_of_ble_eq_true rfl) (c_next d sK K hK p hp (by have := h5.1; omega)) (Nat.le_refl _) (Nat.le_refl _) (Nat.le_refl _) (Nat.le_refl _) ?_
    rintro _ m2 ⟨rfl, f2, a2⟩
    refine z_iconst dX9_passSign_17 (by decide) ?_
    refine z_zret dX9_passSign_18 rfl (by first | omega | exact zb01 _) rfl ?_
    exact Or.inl ⟨h5, rfl, f2, a2⟩
  · refine z_aload_n dX9_passSign_8 rfl ?_
    refine z_callV mlX9_85 dX9_passSign_9 sK.1 (av := _) rfl rfl (Nat.le_of_ble_eq_true rfl) (c_misplaced _ sK K p hp) (Nat.le_refl _) (Nat.le_refl _) (Nat.le_refl _) (Nat.le_refl _) ?_
    rintro _ m2 ⟨rfl, e2⟩
    refine z_zret dX9_passSign_12 rfl (by first | omega | exact zb01 _) rfl ?_
    exact Or.inr ⟨h5, rfl, e2⟩
