def qcd (i : Nat) : Int := [3369766, 315918, 357978, 11047, 9744, 209220123, 318702192, 8399691].getD i 0
/-- numbers of letters: 27 to a place -/
def wn (f : Nat → Int) : Nat → Int
  | 0 => 0
  | i + 1 => 27 * wn f i + f i
theorem wn_nn {f : Nat → Int} : ∀ {n : Nat}, (∀ x, x < n → 1 ≤ f x ∧ f x ≤ 26) → 0 ≤ wn f n
  | 0, _ => Int.le_refl _
  | n + 1, h => by
    have h1 := wn_nn (f := f) (n := n) (fun x hx => h x (by omega))
    have h2 := h n (by omega)
    show 0 ≤ 27 * wn f n + f n
    omega
theorem wn_inj {f g : Nat → Int} : ∀ {n k : Nat}, (∀ x, x < n → 1 ≤ f x ∧ f x ≤ 26) → (∀ x, x < k → 1 ≤ g x ∧ g x ≤ 26) → wn f n = wn g k → n = k ∧ ∀ x, x < n → f x = g x
  | 0, 0, _, _, _ => ⟨rfl, fun x hx => absurd hx (by omega)⟩
  | 0, k + 1, _, hg, h => by
    have h1 := wn_nn (f := g) (n := k) (fun x hx => hg x (by omega))
    have h2 := hg k (by omega)
    have h : (0 : Int) = 27 * wn g k + g k := h
    omega
  | n + 1, 0, hf, _, h => by
    have h1 := wn_nn (f := f) (n := n) (fun x hx => hf x (by omega))
    have h2 := hf n (by omega)
    have h : 27 * wn f n + f n = (0 : Int) := h
    omega
  | n + 1, k + 1, hf, hg, h => by
    have h1 := wn_nn (f := f) (n := n) (fun x hx => hf x (by omega))
    have h2 := hf n (by omega)
    have h3 := wn_nn (f := g) (n := k) (fun x hx => hg x (by omega))
    have h4 := hg k (by omega)
    have h : 27 * wn f n + f n = 27 * wn g k + g k := h
    obtain ⟨e1, e2⟩ := wn_inj (f := f) (g := g) (n := n) (k := k) (fun x hx => hf x (by omega)) (fun x hx => hg x (by omega)) (by omega)
    subst e1
    refine ⟨rfl, fun x hx => ?_⟩
    by_cases e : x = n
    · rw [e]; omega
    · exact e2 x (by omega)
theorem wn_congr {f g : Nat → Int} : ∀ {n : Nat}, (∀ x, x < n → f x = g x) → wn f n = wn g n
  | 0, _ => rfl
  | n + 1, h => by
    show 27 * wn f n + f n = 27 * wn g n + g n
    rw [wn_congr (fun x hx => h x (by omega)), h n (by omega)]
theorem kWn_wn (K : zK) (p : Int) : ∀ {n : Nat}, n ≤ 8 → kWn K p n = wn (fun x => K.1 (p + x) - 96) n
  | 0, _ => rfl
  | n + 1, h => by
    show (if n < 8 then 27 * kWn K p n + K.1 (p + n) - 96 else -1) = 27 * wn _ n + (K.1 (p + n) - 96)
    rw [if_pos (by omega), kWn_wn K p (by omega)]
    omega
theorem kWn_9 (K : zK) (p : Int) {n : Nat} (h : 8 < n) : kWn K p n = -1 := by
  obtain ⟨k, rfl⟩ : ∃ k, n = k + 1 := ⟨n - 1, by omega⟩
  show (if k < 8 then _ else -1) = _
  rw [if_neg (by omega)]
theorem qcd_wn : ∀ i : Nat, i < 8 → qcd i = wn (fun x => qch i x - 96) (zlen.getD i 0) ∧ 0 ≤ qcd i := by decide +kernel
theorem qch_in : ∀ i : Nat, i < 8 → ∀ x : Nat, x < 6 → x < zlen.getD i 0 → 1 ≤ qch i x - 96 ∧ qch i x - 96 ≤ 26 := by decide +kernel
theorem kSz_w {K : zK} {p : Int} (hk : kOk K) (h1 : kSo K p = 1) : kSz K p = kWe K p - p ∧ p + 1 ≤ kWe K p ∧ kWe K p ≤ K.2.1 := by
  have hL := kSo_1.mp h1
  have := kWe_gt hk hL
  refine ⟨?_, this.1, this.2⟩
  unfold kSz kNx
  rw [if_pos hL]
theorem wd_L {K : zK} {p : Int} (hk : kOk K) (h1 : kSo K p = 1) (x : Nat) (hx : (x : Int) < kSz K p) : kL K (p + x) = true := by
  have := kSz_w hk h1
  exact zrun_in (j := (400 - p).toNat) (k := p) (by omega) (by show p + (x : Int) < kWe K p; omega)
theorem wd_at {m : zM} {K : zK} {p : Int} (hK : kTx m K) (hp : kAt m K p) (h1 : kSo K p = 1) (x : Nat) (hx : (x : Int) < kSz K p) : m 2 (p + x) = K.1 (p + x) := by
  have h2 := wd_L hK.1 h1 x hx
  have h3 := kL_in hK.1 h2
  have := hp.1
  exact (kn_v (hK.2.1 _ (by omega) h3) (by have := kL_iff.mp h2; omega)).symm
theorem wd_iff {K : zK} {p : Int} {i : Nat} (hk : kOk K) (hi : i < 8) (h1 : kSo K p = 1) : kW K p = qcd i ↔ kSz K p = (zlen.getD i 0 : Nat) ∧ ∀ x : Nat, x < zlen.getD i 0 → K.1 (p + x) = qch i x := by
  have hz := kSz_w hk h1
  have hl6 := qlen_lt i hi
  have hd : ∀ x : Nat, x < (kWe K p - p).toNat → 1 ≤ K.1 (p + x) - 96 ∧ K.1 (p + x) - 96 ≤ 26 := fun x hx => by
    have := kL_iff.mp (wd_L hk h1 x (by omega))
    omega
  have hq : ∀ x : Nat, x < zlen.getD i 0 → 1 ≤ qch i x - 96 ∧ qch i x - 96 ≤ 26 := fun x hx => qch_in i hi x (by omega) hx
  have qw := qcd_wn i hi
  unfold kW
  constructor
  · intro h
    rcases Nat.lt_or_ge 8 (kWe K p - p).toNat with q | q
    · rw [kWn_9 K p q] at h; omega
    · rw [kWn_wn K p q, qw.1] at h
      obtain ⟨e1, e2⟩ := wn_inj (f := fun x => K.1 (p + x) - 96) hd hq h
      refine ⟨by omega, fun x hx => ?_⟩
      have : K.1 (p + x) - 96 = qch i x - 96 := e2 x (by omega)
      omega
  · rintro ⟨e1, e2⟩
    have e3 : (kWe K p - p).toNat = zlen.getD i 0 := by omega
    rw [e3, kWn_wn K p (by omega), qw.1]
    exact wn_congr (fun x hx => by rw [e2 x hx])
/-- the tape, bytes being added from the k-th on -/
def ap1 (m : zM) (v s : Int) : zM := zu (zu m 2 (m 1 1) (zand (zshr v s) 255)) 1 1 (m 1 1 + 1)
def apN (m : zM) (v : Int) (k : Nat) : zM := if k = 0 then ap1 (ap1 (ap1 (ap1 m v 24) v 16) v 8) v 0 else if k = 1 then ap1 (ap1 (ap1 m v 16) v 8) v 0 else if k = 2 then ap1 (ap1 m v 8) v 0 else if k = 3 then ap1 m v 0 else m
theorem l_isWord (d : Nat) {E : zE} {m : zM} {P : Option zV → zM → Prop} (sK : shK E) (K : zK) (hK : kTx m K) (p : Int) (hp : kAt m K p) (i : Nat) (hi : i < 8) (h1 : kSo K p = 1) (hz : kSz K p = (zlen.getD i 0 : Nat)) : ∀ (j : Nat) (k : Nat), (k + j = zlen.getD i 0) → (∀ x : Nat, x < k → K.1 (p + x) = qch i x) → (P (some (zI (zb (kWd K p (qcd i))))) m) → zA zX9_isWord (d + 4) E E P 23 [zP 1, zQ (i + 1), zI (k : Nat)] [] m E := by
  intro j
  induction j with
  | zero =>
    intro k hk hno hP
    have hl6 := qlen_lt i hi
    have hso := kSo_rg K p
    have hto := kTo_is K p
    have hb := hK.1.1
    have hpb := hp.1
    have hwt := wd_at hK hp h1
    rw [hz] at hwt
    have hwe := kSz_w hK.1 h1
    refine z_iload_n dX9_isWord_23 rfl ?_
    refine z_aload_q dX9_isWord_24 rfl ?_
    refine z_callQ hi (⟨Or.inl (zg3 37 (by decide +kernel) rfl), mbJ0_length_8abf5.1⟩) mbJ0_length_8abf5.2 rfl dX9_isWord_25 (av := []) rfl rfl (Nat.le_of_ble_eq_true rfl) (c_length _ i hi) (Nat.le_refl _) (Nat.le_refl _) (Nat.le_refl _) (Nat.le_refl _) ?_
    rintro _ _ ⟨rfl, rfl⟩
    refine z_icmp_ge (tgt := 58) dX9_isWord_28 rfl (fun h28 => ?_) (fun h => absurd (by omega) h)
    refine z_iconst dX9_isWord_58 (by decide) ?_
    refine z_zret dX9_isWord_59 rfl (by first | omega | exact zb01 _) rfl ?_
    rw [zb_t ⟨h1, (wd_iff hK.1 hi h1).mpr ⟨hz, fun x hx => hno x (by omega)⟩⟩] at hP
    exact hP
  | succ j ih =>
    intro k hk hno hP
    have hl6 := qlen_lt i hi
    have hso := kSo_rg K p
    have hto := kTo_is K p
    have hb := hK.1.1
    have hpb := hp.1
    have hwt := wd_at hK hp h1
    rw [hz] at hwt
    have hwe := kSz_w hK.1 h1
    refine z_iload_n dX9_isWord_23 rfl ?_
    refine z_aload_q dX9_isWord_24 rfl ?_
    refine z_callQ hi (⟨Or.inl (zg3 37 (by decide +kernel) rfl), mbJ0_length_8abf5.1⟩) mbJ0_length_8abf5.2 rfl dX9_isWord_25 (av := []) rfl rfl (Nat.le_of_ble_eq_true rfl) (c_length _ i hi) (Nat.le_refl _) (Nat.le_refl _) (Nat.le_refl _) (Nat.le_refl _) ?_
    rintro _ _ ⟨rfl, rfl⟩
    refine z_icmp_ge (tgt := 58) dX9_isWord_28 rfl (fun h => absurd h (by omega)) (fun h28 => ?_)
    refine z_aload_n dX9_isWord_31 rfl ?_
    refine z_gP 0 rfl (r := 2) flX9_9 dX9_isWord_32 sK.1 rfl hK.2.2.1 (by decide) ?_
    refine z_aload_n dX9_isWord_35 rfl ?_
    refine z_gIv 4 rfl flX9_44 dX9_isWord_36 sK.1 rfl hp.2.1 ?_
    refine z_iload_n dX9_isWord_39 rfl ?_
    refine z_add dX9_isWord_40 (by omega) ?_
    refine z_ialv dX9_isWord_41 sK.2 (by omega) (by omega) (hwt k (by omega)) ?_
    refine z_aload_q dX9_isWord_42 rfl ?_
    refine z_iload_n dX9_isWord_43 rfl ?_
    refine z_callQ hi (⟨Or.inl (zg3 47 (by decide +kernel) rfl), mbJ0_charAt_5068e.1⟩) mbJ0_charAt_5068e.2 rfl dX9_isWord_44 (av := [_]) rfl rfl (Nat.le_of_ble_eq_true rfl) (c_charAt _ i hi k (by omega)) (Nat.le_refl _) (Nat.le_refl _) (Nat.le_refl _) (Nat.le_refl _) ?_
    rintro _ _ ⟨rfl, rfl⟩
    refine z_icmp_eq (tgt := 52) dX9_isWord_47 rfl (fun h47 => ?_) (fun h47 => ?_)
    · refine z_inc dX9_isWord_52 rfl (by omega) ?_
      refine z_goto (tgt := 23) dX9_isWord_55 rfl ?_
      try dsimp only [zs0, zsI, zsP, zsN, zsJ, zsS, zst2, Nat.reduceAdd]
      rw [show (k : Int) + 1 = ((k + 1 : Nat) : Int) by omega]
      exact ih (k + 1) (by omega) (fun x hx => by
        by_cases e : x = k
        · rw [e]; exact h47
        · exact hno x (by omega)) hP
    · refine z_iconst dX9_isWord_50 (by decide) ?_
      refine z_zret dX9_isWord_51 rfl (by first | omega | exact zb01 _) rfl ?_
      rw [zb_f (fun h => h47 (((wd_iff hK.1 hi h1).mp h.2).2 k (by omega)))] at hP
      exact hP

theorem c_isWord (d : Nat) {E : zE} {m : zM} (sK : shK E) (K : zK) (hK : kTx m K) (p : Int) (hp : kAt m K p) (i : Nat) (hi : i < 8) : zR zX9_isWord (d + 4) [zP 1, zQ (i + 1)] m E E (fun r m' => r = some (zI (zb (kWd K p (qcd i)))) ∧ m = m') := by
  have hl6 := qlen_lt i hi
  have hso := kSo_rg K p
  have hto := kTo_is K p
  have hb := hK.1.1
  have hpb := hp.1
  refine zR_go [zP 1, zQ (i + 1), zN] (by decide +kernel) (Nat.le_of_ble_eq_true rfl) rfl rfl ?_
  refine z_aload_n dX9_isWord_0 rfl ?_
  refine z_gIv 6 rfl flX9_47 dX9_isWord_1 sK.1 rfl hp.2.2.2.1 ?_
  refine z_iconst dX9_isWord_4 (by decide) ?_
  refine z_icmp_ne (tgt := 19) dX9_isWord_5 rfl (fun h5 => ?_) (fun h5 => ?_)
  · refine z_iconst dX9_isWord_19 (by decide) ?_
    refine z_zret dX9_isWord_20 rfl (by first | omega | exact zb01 _) rfl ?_
    exact ⟨by rw [zb_f (fun h => by have := h.1; omega)], rfl⟩
  · refine z_aload_n dX9_isWord_8 rfl ?_
    refine z_callV mlX9_69 dX9_isWord_9 sK.1 (av := _) rfl rfl (Nat.le_of_ble_eq_true rfl) (c_size _ sK K p hp hK.1 (by omega)) (Nat.le_refl _) (Nat.le_refl _) (Nat.le_refl _) (Nat.le_refl _) ?_
    rintro _ _ ⟨rfl, rfl⟩
    refine z_aload_q dX9_isWord_12 rfl ?_
    refine z_callQ hi (⟨Or.inl (zg3 37 (by decide +kernel) rfl), mbJ0_length_8abf5.1⟩) mbJ0_length_8abf5.2 rfl dX9_isWord_13 (av := []) rfl rfl (Nat.le_of_ble_eq_true rfl) (c_length _ i hi) (Nat.le_refl _) (Nat.le_refl _) (Nat.le_refl _) (Nat.le_refl _) ?_
    rintro _ _ ⟨rfl, rfl⟩
    refine z_icmp_eq (tgt := 21) dX9_isWord_16 rfl (fun h16 => ?_) (fun h16 => ?_)
    · refine z_iconst dX9_isWord_21 (by decide) ?_
      refine z_ist 2 dX9_isWord_22 rfl (Nat.le_of_ble_eq_true rfl) ?_
      try dsimp only [zs0, zsI, zsP, zsN, zsJ, zsS, zst2, Nat.reduceAdd]
      exact l_isWord d sK K hK p hp i hi (by omega) h16 (zlen.getD i 0) 0 (by omega) (fun x hx => absurd hx (by omega)) ⟨rfl, rfl⟩
    · refine z_iconst dX9_isWord_19 (by decide) ?_
      refine z_zret dX9_isWord_20 rfl (by first | omega | exact zb01 _) rfl ?_
      exact ⟨by rw [zb_f (fun h => h16 ((wd_iff hK.1 hi h.1).mp h.2).1)], rfl⟩

theorem c_letterAt (d : Nat) {E : zE} {m : zM} (sK : shK E) (K : zK) (hK : kTx m K) (p : Int) (hp : kAt m K p) (h1 : kSo K p = 1) (k : Nat) (hz : (k : Int) < kSz K p) : zR zX9_letterAt (d) [zP 1, zI (k : Nat)] m E E (fun r m' => r = some (zI (K.1 (p + k) - 96)) ∧ m = m') := by
  have hb := hK.1.1
  have hpb := hp.1
  have hwt := wd_at hK hp h1
  have hen : kEn K p = kNx K p := if_neg (by omega)
  have hx := kNx_gt (p := p) hK.1
  have hlt := kSo_lt hK.1 (show kSo K p ≠ 0 by omega)
  have hsz : kSz K p = kNx K p - p := rfl
  have hkl := kL_iff.mp (wd_L hK.1 h1 k hz)
  refine zR_go [zP 1, zI (k : Nat)] (by decide +kernel) (Nat.le_of_ble_eq_true rfl) rfl rfl ?_
  refine z_aload_n dX9_letterAt_0 rfl ?_
  refine z_gIv 4 rfl flX9_44 dX9_letterAt_1 sK.1 rfl hp.2.1 ?_
  refine z_iload_n dX9_letterAt_4 rfl ?_
  refine z_add dX9_letterAt_5 (by omega) ?_
  refine z_aload_n dX9_letterAt_6 rfl ?_
  refine z_gIv 5 rfl flX9_38 dX9_letterAt_7 sK.1 rfl hp.2.2.1 ?_
  refine z_icmp_ge (tgt := 32) dX9_letterAt_10 rfl (fun h => absurd h (by omega)) (fun h10 => ?_)
  refine z_aload_n dX9_letterAt_13 rfl ?_
  refine z_gP 0 rfl (r := 2) flX9_9 dX9_letterAt_14 sK.1 rfl hK.2.2.1 (by decide) ?_
  refine z_aload_n dX9_letterAt_17 rfl ?_
  refine z_gIv 4 rfl flX9_44 dX9_letterAt_18 sK.1 rfl hp.2.1 ?_
  refine z_iload_n dX9_letterAt_21 rfl ?_
  refine z_add dX9_letterAt_22 (by omega) ?_
  refine z_ialv dX9_letterAt_23 sK.2 (by omega) (by omega) (hwt k hz) ?_
  refine z_bipush dX9_letterAt_24 rfl (by decide) ?_
  refine z_sub dX9_letterAt_26 (by omega) ?_
  refine z_iconst dX9_letterAt_27 (by decide) ?_
  refine z_add dX9_letterAt_28 (by omega) ?_
  refine z_goto (tgt := 33) dX9_letterAt_29 rfl ?_
  refine z_iret dX9_letterAt_33 rfl rfl ?_
  exact ⟨by congr 2; omega, rfl⟩

theorem l_app4 (d : Nat) {E : zE} {P : Option zV → zM → Prop} (sK : shK E) (v : Int) (m : zM) (pK : m 1 0 = 2) (h0 : 0 ≤ m 1 1) (h1 : m 1 1 + 0 ≤ 400) (hP : P none (apN m v 4)) : zA zX9_append d E E P 3 [zP 1, zI v, zI (-8)] [] m E := by
  refine z_iload_n dX9_append_3 rfl ?_
  refine z_if_lt (tgt := 49) dX9_append_4 rfl (fun h4 => ?_) (fun h => absurd (by omega) h)
  refine z_vret dX9_append_49 rfl rfl ?_
  exact hP

theorem l_app3 (d : Nat) {E : zE} {P : Option zV → zM → Prop} (sK : shK E) (v : Int) (m : zM) (pK : m 1 0 = 2) (h0 : 0 ≤ m 1 1) (h1 : m 1 1 + 1 ≤ 400) (hP : P none (apN m v 3)) : zA zX9_append d E E P 3 [zP 1, zI v, zI 0] [] m E := by
  refine z_iload_n dX9_append_3 rfl ?_
  refine z_if_lt (tgt := 49) dX9_append_4 rfl (fun h => absurd h (by omega)) (fun h4 => ?_)
  refine z_aload_n dX9_append_7 rfl ?_
  refine z_gIv 1 rfl flX9_22 dX9_append_8 sK.1 rfl rfl ?_
  refine z_sipush dX9_append_11 rfl (by decide) ?_
  refine z_icmp_ge (tgt := 49) dX9_append_14 rfl (fun h => absurd h (by omega)) (fun h14 => ?_)
  refine z_aload_n dX9_append_17 rfl ?_
  refine z_gP 0 rfl (r := 2) flX9_9 dX9_append_18 sK.1 rfl pK (by decide) ?_
  refine z_aload_n dX9_append_21 rfl ?_
  refine z_gIv 1 rfl flX9_22 dX9_append_22 sK.1 rfl rfl ?_
  refine z_iload_n dX9_append_25 rfl ?_
  refine z_iload_n dX9_append_26 rfl ?_
  refine z_ishr dX9_append_27 ?_
  refine z_sipush dX9_append_28 rfl (by decide) ?_
  refine z_iand dX9_append_31 ?_
  refine z_iast dX9_append_32 sK.2 (by omega) (by omega) ?_
  refine z_aload_n dX9_append_33 rfl ?_
  refine z_dup dX9_append_34 rfl ?_
  refine z_gIv 1 rfl flX9_22 dX9_append_35 sK.1 rfl (zu_a (by decide)) ?_
  refine z_iconst dX9_append_38 (by decide) ?_
  refine z_add dX9_append_39 (by omega) ?_
  refine z_pI 1 rfl (fpX9_22 _) dX9_append_40 sK.1 rfl ?_
  refine z_inc dX9_append_43 rfl (by omega) ?_
  refine z_goto (tgt := 3) dX9_append_46 rfl ?_
  try dsimp only [zs0, zsI, zsP, zsN, zsJ, zsS, zst2, Nat.reduceAdd]
  exact l_app4 d sK v _ ((zu_j (by decide)).trans ((zu_a (by decide)).trans pK)) (by rw [zu_s]; omega) (by rw [zu_s]; omega) hP

theorem l_app2 (d : Nat) {E : zE} {P : Option zV → zM → Prop} (sK : shK E) (v : Int) (m : zM) (pK : m 1 0 = 2) (h0 : 0 ≤ m 1 1) (h1 : m 1 1 + 2 ≤ 400) (hP : P none (apN m v 2)) : zA zX9_append d E E P 3 [zP 1, zI v, zI 8] [] m E := by
  refine z_iload_n dX9_append_3 rfl ?_
  refine z_if_lt (tgt := 49) dX9_append_4 rfl (fun h => absurd h (by omega)) (fun h4 => ?_)
  refine z_aload_n dX9_append_7 rfl ?_
  refine z_gIv 1 rfl flX9_22 dX9_append_8 sK.1 rfl rfl ?_
  refine z_sipush dX9_append_11 rfl (by decide) ?_
  refine z_icmp_ge (tgt := 49) dX9_append_14 rfl (fun h => absurd h (by omega)) (fun h14 => ?_)
  refine z_aload_n dX9_append_17 rfl ?_
  refine z_gP 0 rfl (r := 2) flX9_9 dX9_append_18 sK.1 rfl pK (by decide) ?_
  refine z_aload_n dX9_append_21 rfl ?_
  refine z_gIv 1 rfl flX9_22 dX9_append_22 sK.1 rfl rfl ?_
  refine z_iload_n dX9_append_25 rfl ?_
  refine z_iload_n dX9_append_26 rfl ?_
  refine z_ishr dX9_append_27 ?_
  refine z_sipush dX9_append_28 rfl (by decide) ?_
  refine z_iand dX9_append_31 ?_
  refine z_iast dX9_append_32 sK.2 (by omega) (by omega) ?_
  refine z_aload_n dX9_append_33 rfl ?_
  refine z_dup dX9_append_34 rfl ?_
  refine z_gIv 1 rfl flX9_22 dX9_append_35 sK.1 rfl (zu_a (by decide)) ?_
  refine z_iconst dX9_append_38 (by decide) ?_
  refine z_add dX9_append_39 (by omega) ?_
  refine z_pI 1 rfl (fpX9_22 _) dX9_append_40 sK.1 rfl ?_
  refine z_inc dX9_append_43 rfl (by omega) ?_
  refine z_goto (tgt := 3) dX9_append_46 rfl ?_
  try dsimp only [zs0, zsI, zsP, zsN, zsJ, zsS, zst2, Nat.reduceAdd]
  exact l_app3 d sK v _ ((zu_j (by decide)).trans ((zu_a (by decide)).trans pK)) (by rw [zu_s]; omega) (by rw [zu_s]; omega) hP

theorem l_app1 (d : Nat) {E : zE} {P : Option zV → zM → Prop} (sK : shK E) (v : Int) (m : zM) (pK : m 1 0 = 2) (h0 : 0 ≤ m 1 1) (h1 : m 1 1 + 3 ≤ 400) (hP : P none (apN m v 1)) : zA zX9_append d E E P 3 [zP 1, zI v, zI 16] [] m E := by
  refine z_iload_n dX9_append_3 rfl ?_
  refine z_if_lt (tgt := 49) dX9_append_4 rfl (fun h => absurd h (by omega)) (fun h4 => ?_)
  refine z_aload_n dX9_append_7 rfl ?_
  refine z_gIv 1 rfl flX9_22 dX9_append_8 sK.1 rfl rfl ?_
  refine z_sipush dX9_append_11 rfl (by decide) ?_
  refine z_icmp_ge (tgt := 49) dX9_append_14 rfl (fun h => absurd h (by omega)) (fun h14 => ?_)
  refine z_aload_n dX9_append_17 rfl ?_
  refine z_gP 0 rfl (r := 2) flX9_9 dX9_append_18 sK.1 rfl pK (by decide) ?_
  refine z_aload_n dX9_append_21 rfl ?_
  refine z_gIv 1 rfl flX9_22 dX9_append_22 sK.1 rfl rfl ?_
  refine z_iload_n dX9_append_25 rfl ?_
  refine z_iload_n dX9_append_26 rfl ?_
  refine z_ishr dX9_append_27 ?_
  refine z_sipush dX9_append_28 rfl (by decide) ?_
  refine z_iand dX9_append_31 ?_
  refine z_iast dX9_append_32 sK.2 (by omega) (by omega) ?_
  refine z_aload_n dX9_append_33 rfl ?_
  refine z_dup dX9_append_34 rfl ?_
  refine z_gIv 1 rfl flX9_22 dX9_append_35 sK.1 rfl (zu_a (by decide)) ?_
  refine z_iconst dX9_append_38 (by decide) ?_
  refine z_add dX9_append_39 (by omega) ?_
  refine z_pI 1 rfl (fpX9_22 _) dX9_append_40 sK.1 rfl ?_
  refine z_inc dX9_append_43 rfl (by omega) ?_
  refine z_goto (tgt := 3) dX9_append_46 rfl ?_
  try dsimp only [zs0, zsI, zsP, zsN, zsJ, zsS, zst2, Nat.reduceAdd]
  exact l_app2 d sK v _ ((zu_j (by decide)).trans ((zu_a (by decide)).trans pK)) (by rw [zu_s]; omega) (by rw [zu_s]; omega) hP

theorem l_app0 (d : Nat) {E : zE} {P : Option zV → zM → Prop} (sK : shK E) (v : Int) (m : zM) (pK : m 1 0 = 2) (h0 : 0 ≤ m 1 1) (h1 : m 1 1 + 4 ≤ 400) (hP : P none (apN m v 0)) : zA zX9_append d E E P 3 [zP 1, zI v, zI 24] [] m E := by
  refine z_iload_n dX9_append_3 rfl ?_
  refine z_if_lt (tgt := 49) dX9_append_4 rfl (fun h => absurd h (by omega)) (fun h4 => ?_)
  refine z_aload_n dX9_append_7 rfl ?_
  refine z_gIv 1 rfl flX9_22 dX9_append_8 sK.1 rfl rfl ?_
  refine z_sipush dX9_append_11 rfl (by decide) ?_
  refine z_icmp_ge (tgt := 49) dX9_append_14 rfl (fun h => absurd h (by omega)) (fun h14 => ?_)
  refine z_aload_n dX9_append_17 rfl ?_
  refine z_gP 0 rfl (r := 2) flX9_9 dX9_append_18 sK.1 rfl pK (by decide) ?_
  refine z_aload_n dX9_append_21 rfl ?_
  refine z_gIv 1 rfl flX9_22 dX9_append_22 sK.1 rfl rfl ?_
  refine z_iload_n dX9_append_25 rfl ?_
  refine z_iload_n dX9_append_26 rfl ?_
  refine z_ishr dX9_append_27 ?_
  refine z_sipush dX9_append_28 rfl (by decide) ?_
  refine z_iand dX9_append_31 ?_
  refine z_iast dX9_append_32 sK.2 (by omega) (by omega) ?_
  refine z_aload_n dX9_append_33 rfl ?_
  refine z_dup dX9_append_34 rfl ?_
  refine z_gIv 1 rfl flX9_22 dX9_append_35 sK.1 rfl (zu_a (by decide)) ?_
  refine z_iconst dX9_append_38 (by decide) ?_
  refine z_add dX9_append_39 (by omega) ?_
  refine z_pI 1 rfl (fpX9_22 _) dX9_append_40 sK.1 rfl ?_
  refine z_inc dX9_append_43 rfl (by omega) ?_
  refine z_goto (tgt := 3) dX9_append_46 rfl ?_
  try dsimp only [zs0, zsI, zsP, zsN, zsJ, zsS, zst2, Nat.reduceAdd]
  exact l_app1 d sK v _ ((zu_j (by decide)).trans ((zu_a (by decide)).trans pK)) (by rw [zu_s]; omega) (by rw [zu_s]; omega) hP

theorem c_append (d : Nat) {E : zE} {m : zM} (sK : shK E) (v : Int) (pK : m 1 0 = 2) (h0 : 0 ≤ m 1 1) (h1 : m 1 1 + 4 ≤ 400) : zR zX9_append (d) [zP 1, zI v] m E E (fun r m' => r = none ∧ m' = apN m v 0) := by
  refine zR_go [zP 1, zI v, zN] (by decide +kernel) (Nat.le_of_ble_eq_true rfl) rfl rfl ?_
  refine z_bipush dX9_append_0 rfl (by decide) ?_
  refine z_ist 2 dX9_append_2 rfl (Nat.le_of_ble_eq_true rfl) ?_
  try dsimp only [zs0, zsI, zsP, zsN, zsJ, zsS, zst2, Nat.reduceAdd]
  exact l_app0 d sK v m pK h0 h1 ⟨rfl, rfl⟩
