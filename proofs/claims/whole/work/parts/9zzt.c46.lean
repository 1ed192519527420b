theorem tA_v {T : zT} {X : Int → Int} (h : tA T X) : zsum (fun p => zb (T.1 (32 + 9 * p + 1) = 1)) (T.1 2).toNat 0 ≤ 5 := by
  have hv := h.1.1.2.2
  unfold cVx at hv
  rw [zsum_congr (g := fun p => T.1 (32 + 9 * p + 1)) (fun p p0 p1 => ?_)]
  · exact hv
  · have := (h.1.1.1.2.2.2.2.2 p p0 (by omega)).2.1
    rcases this with e | e
    · rw [e]; rfl
    · rw [e]; rfl
theorem dj_of {E : zE} {t a cap a2 cap2 ka kcap b bcap : Int} (ht : t = 39 ∨ t = 67) (o : ((a = 9 ∨ 121 ≤ a) ∧ a + 2 ≤ E.2.1) ∧ ((a2 = 12 ∨ 121 ≤ a2) ∧ a2 + 2 ≤ E.2.1) ∧ ((ka = 16 ∨ 121 ≤ ka) ∧ ka + 2 ≤ E.2.1) ∧ ((b = 25 ∨ 121 ≤ b) ∧ b + 8 ≤ E.2.1) ∧ (16 ≤ cap ∧ cap ≤ 10395) ∧ (16 ≤ cap2 ∧ cap2 ≤ 10395) ∧ (32 ≤ kcap ∧ kcap ≤ 16384) ∧ (16 ≤ bcap ∧ bcap ≤ 10395)) (d : (a + 1 < a2 ∨ a2 + 1 < a) ∧ (a + 1 < ka ∨ ka + 1 < a) ∧ (a2 + 1 < ka ∨ ka + 1 < a2) ∧ (a + 1 < b ∨ b + 8 ≤ a) ∧ (a2 + 1 < b ∨ b + 8 ≤ a2) ∧ (ka + 1 < b ∨ b + 8 ≤ ka)) : dDj t 8 a ka b := by
  obtain ⟨o1, o2, o3, o4, _⟩ := o
  obtain ⟨d1, d2, d3, d4, d5, d6⟩ := d
  exact ⟨by omega, by omega, by omega, by omega, d6, by omega, by omega, by omega, by omega, d2⟩
theorem hN_of {E : zE} {t a cap a2 cap2 ka kcap b bcap : Int} (ht : t = 39 ∨ t = 67) (o : ((a = 9 ∨ 121 ≤ a) ∧ a + 2 ≤ E.2.1) ∧ ((a2 = 12 ∨ 121 ≤ a2) ∧ a2 + 2 ≤ E.2.1) ∧ ((ka = 16 ∨ 121 ≤ ka) ∧ ka + 2 ≤ E.2.1) ∧ ((b = 25 ∨ 121 ≤ b) ∧ b + 8 ≤ E.2.1) ∧ (16 ≤ cap ∧ cap ≤ 10395) ∧ (16 ≤ cap2 ∧ cap2 ≤ 10395) ∧ (32 ≤ kcap ∧ kcap ≤ 16384) ∧ (16 ≤ bcap ∧ bcap ≤ 10395)) (hN : 121 ≤ E.2.1) : 95 < E.2.1 ∧ t + 28 ≤ E.2.1 ∧ a + 2 ≤ E.2.1 ∧ ka + 2 ≤ E.2.1 ∧ b + 8 ≤ E.2.1 := ⟨by omega, by omega, o.1.2, o.2.2.1.2, o.2.2.2.1.2⟩
theorem ab_of {a b : Int} (h : a + 1 < 14 ∨ (24 < a ∧ (a + 1 < b ∨ b + 8 ≤ a))) (hb : 24 < b) : a + 1 < b ∨ b + 8 ≤ a := by omega
theorem kc_ge {kcap x kc1 : Int} (e : kc1 = (if kcap < ((2 ^ (kEx x 10 0) : Nat) : Int) then kRm kcap x else kcap)) : ((2 ^ (kEx x 10 0) : Nat) : Int) ≤ kc1 := by
  rw [e]
  split
  · unfold kRm
    generalize ((2 ^ (kEx x 10 0) : Nat) : Int) = y
    split <;> omega
  · omega
theorem bc_ge {bcap R bc1 : Int} (e : bc1 = (if bcap < R then R else bcap)) : R ≤ bc1 := by
  rw [e]
  split <;> omega
theorem fr_build {m m' : zM} {E : zE} {ka b : Int} (k1 : ka = 16 ∨ 121 ≤ ka) (b1 : b = 25 ∨ 121 ≤ b) (hN : 121 ≤ E.2.1) (x13 : ∀ c k : Int, c < (E.2.1 : Int) → (c < 14 ∨ (15 < c ∧ c < 22) ∨ 24 < c) → (c < ka ∨ ka + 1 < c) → (c < b ∨ b + 8 ≤ c) → m' c k = m c k) : ∀ x k : Int, (x < 14 ∨ (32 < x ∧ x < 121) ∨ (17 < x ∧ x < 22)) → m' x k = m x k := fun x k q => x13 x k (by omega) (by omega) (by omega) (by omega)
theorem fr_buildA {m m' : zM} {E : zE} {ka b a : Int} (a1 : (a = 9 ∨ 121 ≤ a) ∧ a + 2 ≤ E.2.1) (k1 : ka = 16 ∨ 121 ≤ ka) (b1 : b = 25 ∨ 121 ≤ b) (d2 : a + 1 < ka ∨ ka + 1 < a) (d4 : a + 1 < b ∨ b + 8 ≤ a) (x13 : ∀ c k : Int, c < (E.2.1 : Int) → (c < 14 ∨ (15 < c ∧ c < 22) ∨ 24 < c) → (c < ka ∨ ka + 1 < c) → (c < b ∨ b + 8 ≤ c) → m' c k = m c k) : ∀ x k : Int, (x = a ∨ x = a + 1) → m' x k = m x k := fun x k q => x13 x k (by omega) (by omega) (by omega) (by omega)
theorem cJ_bfr {m m' : zM} {E : zE} {T : zT} {X : Int → Int} {t s a cap a2 cap2 ka kcap b bcap : Int} (h : cJ m E T X t s a cap a2 cap2 ka kcap b bcap) (f : ∀ x k : Int, (x < 14 ∨ (32 < x ∧ x < 121) ∨ (17 < x ∧ x < 22)) → m' x k = m x k) (fa : ∀ x k : Int, (x = a ∨ x = a + 1) → m' x k = m x k) : bA m' t s ∧ bT m' t T X ∧ bW m' T ∧ bQ m' T a cap ∧ bU m' a2 ∧ ptG m' 18 ∧ ptG m' 33 ∧ qFr m m' ∧ m' 8 5 = m 8 5 := by
  obtain ⟨hA, hT, hW, hQ, hU, hD, hG, hE, hP, hR⟩ := h
  have ht := hA.2.2.2.2.2.2.1
  refine ⟨bA_in hA (fun x k q => f x k (by omega)), bT_in hT hA.2.2.2.2.1 hP.1.1.1 (fun x k q0 q1 => f x k (by omega)), bW_in hW (fun x k q => f x k (by omega)), bQ_in hQ ?_, bU_in hU (fun k q => f 11 k (by omega)), ptG_in hD.2.1 (fun k hk => f 18 k (by omega)), ptG_in hG (fun k q => f 33 k (by omega)), fun x k q => f x k (by omega), f 8 5 (by omega)⟩
  intro x k q
  by_cases e : x = 8
  · exact f x k (by omega)
  · exact fa x k (by omega)
theorem cJ_build {m m' : zM} {E : zE} {T : zT} {X : Int → Int} {t s a cap a2 cap2 ka kcap b bcap b1 bc1 ka1 kc1 : Int} (h : cJ m E T X t s a cap a2 cap2 ka kcap b bcap) (h5 : m 8 5 = 1) (x1 : shDg (kE1 (dE1 E bcap (rm (lT T))) kcap (lT T)) b1 bc1) (x2 : (kE1 (dE1 E bcap (rm (lT T))) kcap (lT T)).1 ka1 = (2, kc1)) (x3 : (kE1 (dE1 E bcap (rm (lT T))) kcap (lT T)).1 (ka1 + 1) = (1, kc1)) (x4 : dDj t 8 a ka1 b1) (x5 : (b1 = b ∨ E.2.1 ≤ b1) ∧ (ka1 = ka ∨ E.2.1 ≤ ka1) ∧ (b1 + 8 ≤ (kE1 (dE1 E bcap (rm (lT T))) kcap (lT T)).2.1 ∧ ka1 + 2 ≤ (kE1 (dE1 E bcap (rm (lT T))) kcap (lT T)).2.1)) (x6 : bc1 = (if bcap < rm (lT T) then rm (lT T) else bcap) ∧ (tPairs T).length ≤ bc1 ∧ kc1 = (if kcap < ((2 ^ (kEx (lT T) 10 0) : Nat) : Int) then kRm kcap (lT T) else kcap) ∧ 32 ≤ kc1 ∧ kc1 ≤ 16384) (x7 : qDg m' 14 b1) (x8 : m' 14 19 = 1) (x9 : m' 14 14 = (tH T : Int) ∧ m' 14 15 = ((tAll T.1 : Nat) : Int) ∧ m' 14 16 = ((tOut T.1 : Nat) : Int) ∧ m' 14 17 = oTh T.1 (T.1 2).toNat) (x10 : m' 15 0 = ka1) (x11 : m' 15 1 = ka1 + 1) (x12 : m' 15 2 = ((2 ^ (kEx (lT T) 10 0) : Nat) : Int)) (x13 : (∀ c k : Int, c < (E.2.1 : Int) → (c < 14 ∨ (15 < c ∧ c < 22) ∨ 24 < c) → (c < ka ∨ ka + 1 < c) → (c < b ∨ b + 8 ≤ c) → m' c k = m c k) ∧ ∀ k : Int, k < 5 → m' 14 k = m 14 k) (x14 : ∃ D F cc, dRw m' b1 ka1 (kEx (lT T) 10 0) T D F cc) : cJ m' (kE1 (dE1 E bcap (rm (lT T))) kcap (lT T)) T X t s a cap a2 cap2 ka1 kc1 b1 bc1 ∧ qFr m m' := by
  have hE := h.2.2.2.2.2.2.2.1
  have hP := h.2.2.2.2.2.2.2.2.1
  have hD := h.2.2.2.2.2.1
  have ho := bE_pos hE
  have hN := hE.2.2.2.2.2.2.2.2.1
  have hd := hE.2.2.2.2.2.2.2.1
  have hlen := prs_len hP
  have hke := kEx_rg (x := lT T) (by unfold lT; omega) 10 0 rfl (Or.inl rfl)
  have f := fr_build ho.2.2.1.1 ho.2.2.2.1.1 hN x13.1
  have fa := fr_buildA ho.1 ho.2.2.1.1 ho.2.2.2.1.1 hd.2.1 hd.2.2.2.1 x13.1
  obtain ⟨kA, kTh, kW, kQ, kU, k18, k33, kq, k85⟩ := cJ_bfr h f fa
  have e5 : m' 8 5 = 1 := k85.trans h5
  obtain ⟨D, F, cc, hr⟩ := x14
  have hg := dG_of (tA_w hP) (tA_l hP) hr
  have e1 : m' 14 1 = 18 := (x13.2 1 (by decide)).trans hD.1.2.1
  obtain ⟨y1, y2, y3, y4, y5, y6, y7, y8, y9, y10⟩ := x4
  have y9' : a + 1 < b1 ∨ b1 + 8 ≤ a := ab_of y9 y3
  exact ⟨⟨kA, kTh, kW, kQ, kU, ⟨⟨(x13.2 0 (by decide)).trans hD.1.1, e1, (x13.2 2 (by decide)).trans hD.1.2.2.1, (x13.2 3 (by decide)).trans hD.1.2.2.2.1, (x13.2 4 (by decide)).trans hD.1.2.2.2.2⟩, k18, x10, x11, x7, Or.inr x8, fun _ => ⟨⟨D, F, cc, ⟨hg, x7, e1, k18, x9⟩, hr.1, hr.2.1⟩, x12, kc_ge x6.2.2.1, bc_ge x6.1⟩⟩, k33, bE_build hE hke.1 x1 x2 x3 ⟨y5, y10, y9'⟩ x5.1 x5.2.1 x5.2.2 x6.1 x6.2.2.1, hP, fun _ => e5⟩, kq⟩
def qF0 (m m' : zM) : Prop := ∀ a k : Int, ((a = 0 ∧ k ≠ 11) ∨ (1 ≤ a ∧ a ≤ 5) ∨ (37 ≤ a ∧ a < 121)) → m' a k = m a k
def cQ (m m' : zM) (E' : zE) (T : zT) (X : Int → Int) (st : Int) : Prop := (∃ t s a cap a2 cap2 ka kcap b bcap, cJ m' E' T X t s a cap a2 cap2 ka kcap b bcap) ∧ qF0 m m' ∧ m' 0 11 = st
theorem cJ_st {m : zM} {E : zE} {T : zT} {X : Int → Int} {t s a cap a2 cap2 ka kcap b bcap : Int} (h : cJ m E T X t s a cap a2 cap2 ka kcap b bcap) (v : Int) : cJ (zu m 0 11 v) E T X t s a cap a2 cap2 ka kcap b bcap := cJ_loc h (fun x k q => by
  by_cases e : x = 0
  · rw [e, zu_j (by omega)]
  · rw [zu_a e])
theorem cQ_st {m m1 : zM} {E : zE} {T : zT} {X : Int → Int} {t s a cap a2 cap2 ka kcap b bcap : Int} (h : cJ m1 E T X t s a cap a2 cap2 ka kcap b bcap) (q : qFr m m1) (v : Int) : cQ m (zu m1 0 11 v) E T X v := ⟨⟨t, s, a, cap, a2, cap2, ka, kcap, b, bcap, cJ_st h v⟩, fun x k g => (by
  by_cases e : x = 0
  · rw [e, zu_j (by omega)]; exact q 0 k (by omega)
  · rw [zu_a e]; exact q x k (by omega)), zu_s⟩
theorem c_kD1 (d : Nat) {E : zE} {m : zM} (T : zT) (X : Int → Int) (t s a cap a2 cap2 ka kcap b bcap : Int) (hJ : cJ m E T X t s a cap a2 cap2 ka kcap b bcap) (h9 : m 14 19 = 1) : zR zX11_knownDiagrams (d) [zP 0] m E E (fun r m' => r = some (zP 14) ∧ m = m') := by
  refine zR_go [zP 0] (by decide +kernel) (Nat.le_of_ble_eq_true rfl) rfl rfl ?_
  refine z_aload_n dX11_knownDiagrams_0 rfl ?_
  refine z_gP 6 rfl (r := 14) flX11_50 dX11_knownDiagrams_1 (sx_0 hJ.2.2.2.2.2.2.2.1.1) rfl (hJ.1.1.2.2.2.2.2.2.1) (by omega) ?_
  refine z_gI 19 rfl flX11_381 dX11_knownDiagrams_4 (sx_14 hJ.2.2.2.2.2.2.2.1.1) rfl ?_
  refine z_if_ne (tgt := 25) dX11_knownDiagrams_7 rfl (fun h7 => ?_) (fun h => absurd (by omega) h)
  refine z_aload_n dX11_knownDiagrams_25 rfl ?_
  refine z_gP 6 rfl (r := 14) flX11_50 dX11_knownDiagrams_26 (sx_0 hJ.2.2.2.2.2.2.2.1.1) rfl (hJ.1.1.2.2.2.2.2.2.1) (by omega) ?_
  refine z_aret dX11_knownDiagrams_29 rfl rfl ?_
  exact ⟨rfl, rfl⟩

theorem c_kD0 (d : Nat) {E : zE} {m : zM} (T : zT) (X : Int → Int) (t s a cap a2 cap2 ka kcap b bcap : Int) (hJ : cJ m E T X t s a cap a2 cap2 ka kcap b bcap) (h9 : m 14 19 = 0) : ∃ (E1 : zE) (a1 cap1 : Int), (E.2.1 ≤ E1.2.1 ∧ E.2.2 ≤ E1.2.2) ∧ zR zX11_knownDiagrams (d + 12) [zP 0] m E E1 (fun r m' => r = some (zP 14) ∧ ∃ ka1 kc1 b1 bc1 : Int, cJ m' E1 T X t s a1 cap1 a2 cap2 ka1 kc1 b1 bc1 ∧ m' 14 19 = 1 ∧ qFr m m') := by
  have htt := cJ_t hJ
  obtain ⟨E1, a1, cap1, le, he, hk⟩ := c_kP d T X t s a cap a2 cap2 ka kcap b bcap hJ
  have lE : E1.2.1 ≤ (kE1 (dE1 E1 bcap (rm (lT T))) kcap (lT T)).2.1 ∧ E1.2.2 ≤ (kE1 (dE1 E1 bcap (rm (lT T))) kcap (lT T)).2.2 := by
    have l1 := dE1_le E1 bcap (rm (lT T))
    have l2 := kE1_le (dE1 E1 bcap (rm (lT T))) kcap (lT T)
    omega
  have lC := lE.1
  have lD := lE.2
  refine ⟨(kE1 (dE1 E1 bcap (rm (lT T))) kcap (lT T)), a1, cap1, ⟨by omega, by omega⟩, ?_⟩
  refine zR_go [zP 0] (by decide +kernel) (Nat.le_of_ble_eq_true rfl) rfl rfl ?_
  refine z_aload_n dX11_knownDiagrams_0 rfl ?_
  refine z_gP 6 rfl (r := 14) flX11_50 dX11_knownDiagrams_1 (sx_0 hJ.2.2.2.2.2.2.2.1.1) rfl (hJ.1.1.2.2.2.2.2.2.1) (by omega) ?_
  refine z_gI 19 rfl flX11_381 dX11_knownDiagrams_4 (sx_14 hJ.2.2.2.2.2.2.2.1.1) rfl ?_
  refine z_if_ne (tgt := 25) dX11_knownDiagrams_7 rfl (fun h => absurd h (by omega)) (fun h7 => ?_)
  refine z_aload_n dX11_knownDiagrams_10 rfl ?_
  refine z_gP 6 rfl (r := 14) flX11_50 dX11_knownDiagrams_11 (sx_0 hJ.2.2.2.2.2.2.2.1.1) rfl (hJ.1.1.2.2.2.2.2.2.1) (by omega) ?_
  refine z_aload_n dX11_knownDiagrams_14 rfl ?_
  refine z_gP 9 rfl (r := t) flX11_71 dX11_knownDiagrams_15 (sx_0 hJ.2.2.2.2.2.2.2.1.1) rfl (hJ.1.1.2.2.2.2.2.2.2.2.2.1) (by omega) ?_
  refine z_aload_n dX11_knownDiagrams_18 rfl ?_
  refine z_callV mlX11_124 dX11_knownDiagrams_19 (sx_0 hJ.2.2.2.2.2.2.2.1.1) (av := _) rfl rfl (Nat.le_of_ble_eq_true rfl) hk le.1 le.2 lC lD ?_
  rintro _ m1 ⟨rfl, j1, h51, q1⟩
  have z1 := j1.2.2.2.1.2.2.2.1 h51
  have oo := bE_pos j1.2.2.2.2.2.2.2.1
  have od := j1.2.2.2.2.2.2.2.1.2.2.2.2.2.2.2.1
  have hN := j1.2.2.2.2.2.2.2.1.2.2.2.2.2.2.2.2.1
  refine z_callV mlX11_392 dX11_knownDiagrams_22 (sx_14 j1.2.2.2.2.2.2.2.1.1) (av := [_, _]) rfl rfl (Nat.le_of_ble_eq_true rfl) (c_build (d + 1) (sx_14 j1.2.2.2.2.2.2.2.1.1) (sx_22 j1.2.2.2.2.2.2.2.1.1) (sx_23 j1.2.2.2.2.2.2.2.1.1) (sx_24 j1.2.2.2.2.2.2.2.1.1) j1.2.2.2.2.2.1.1.2.2.1 j1.2.2.2.2.2.1.1.2.2.2.1 j1.2.2.2.2.2.1.1.2.2.2.2 j1.2.2.2.2.2.1.1.1 t (by omega) (sx_T j1.2.2.2.2.2.2.2.1.1 (cJ_t j1)) j1.1.2.2.2.2.1 T (tA_w j1.2.2.2.2.2.2.2.2.1) (tA_l j1.2.2.2.2.2.2.2.2.1) j1.2.2.2.2.2.2.2.2.1.2.1 j1.2.1.1 j1.2.1.2.1 (odd_of j1.2.2.2.2.2.2.2.2.1.1.2.2) (tA_v j1.2.2.2.2.2.2.2.2.1) j1.2.2.2.2.2.2.2.2.1.1.1.2.1 8 a1 cap1 (sx_8 j1.2.2.2.2.2.2.2.1.1) j1.2.2.2.2.2.2.2.1.2.1.1 j1.2.2.2.2.2.2.2.1.2.1.2 (m1 8 6) z1.2.1 (prs_ok j1.2.2.2.2.2.2.2.2.1) (prs_cap j1.2.2.2.2.2.2.2.2.1 z1.2.2) (prs_len j1.2.2.2.2.2.2.2.2.1) z1.1 (sx_15 j1.2.2.2.2.2.2.2.1.1) ka kcap j1.2.2.2.2.2.2.2.1.2.2.2.1.1 j1.2.2.2.2.2.2.2.1.2.2.2.1.2 j1.2.2.2.2.2.1.2.2.1 j1.2.2.2.2.2.1.2.2.2.1 oo.2.2.2.2.2.2.1 b bcap j1.2.2.2.2.2.2.2.1.2.2.2.2.1 j1.2.2.2.2.2.1.2.2.2.2.1 (dj_of htt oo od) (hN_of htt oo hN)) lE.1 lE.2 (Nat.le_refl _) (Nat.le_refl _) ?_
  rintro _ m2 ⟨rfl, bp⟩
  obtain ⟨b1, bc1, ka1, kc1, x1, x2, x3, x4, x5, x6, x7, x8, x9, x10, x11, x12, x13, x14⟩ := bp
  have j2 := cJ_build j1 h51 x1 x2 x3 x4 x5 x6 x7 x8 x9 x10 x11 x12 x13 x14
  refine z_aload_n dX11_knownDiagrams_25 rfl ?_
  refine z_gP 6 rfl (r := 14) flX11_50 dX11_knownDiagrams_26 (sx_0 j2.1.2.2.2.2.2.2.2.1.1) rfl (j2.1.1.1.2.2.2.2.2.2.1) (by omega) ?_
  refine z_aret dX11_knownDiagrams_29 rfl rfl ?_
  exact ⟨rfl, ka1, kc1, b1, bc1, j2.1, x8, qFr_tr q1.1 j2.2⟩

theorem c_kD (d : Nat) {E : zE} {m : zM} (T : zT) (X : Int → Int) (t s a cap a2 cap2 ka kcap b bcap : Int) (hJ : cJ m E T X t s a cap a2 cap2 ka kcap b bcap) : ∃ (E1 : zE) (a1 cap1 : Int), (E.2.1 ≤ E1.2.1 ∧ E.2.2 ≤ E1.2.2) ∧ zR zX11_knownDiagrams (d + 12) [zP 0] m E E1 (fun r m' => r = some (zP 14) ∧ ∃ ka1 kc1 b1 bc1 : Int, cJ m' E1 T X t s a1 cap1 a2 cap2 ka1 kc1 b1 bc1 ∧ m' 14 19 = 1 ∧ qFr m m') := by
  rcases hJ.2.2.2.2.2.1.2.2.2.2.2.1 with h9 | h9
  · exact c_kD0 d T X t s a cap a2 cap2 ka kcap b bcap hJ h9
  · refine ⟨E, a, cap, ⟨Nat.le_refl _, Nat.le_refl _⟩, zR_imp (c_kD1 (d + 12) T X t s a cap a2 cap2 ka kcap b bcap hJ h9) ?_⟩
    rintro r m' ⟨rfl, rfl⟩
    exact ⟨rfl, ka, kcap, b, bcap, hJ, h9, qFr_rf⟩

theorem c_hD0 (d : Nat) {E : zE} {m : zM} (dd : Int) (h : dd < 0) : zR zX11_hasDiagram (d) [zP 0, zI dd] m E E (fun r m' => r = some (zI 0) ∧ m = m') := by
  refine zR_go [zP 0, zI dd] (by decide +kernel) (Nat.le_of_ble_eq_true rfl) rfl rfl ?_
  refine z_iload_n dX11_hasDiagram_0 rfl ?_
  refine z_if_lt (tgt := 19) dX11_hasDiagram_1 rfl (fun h1 => ?_) (fun h => absurd (by omega) h)
  refine z_iconst dX11_hasDiagram_19 (by decide) ?_
  refine z_zret dX11_hasDiagram_20 rfl (by first | omega | exact zb01 _) rfl ?_
  exact ⟨rfl, rfl⟩

theorem c_hD (d : Nat) {E : zE} {m : zM} (T : zT) (X : Int → Int) (t s a cap a2 cap2 ka kcap b bcap : Int) (hJ : cJ m E T X t s a cap a2 cap2 ka kcap b bcap) (dd : Int) (hd0 : 0 ≤ dd) : ∃ (E1 : zE) (a1 cap1 : Int), (E.2.1 ≤ E1.2.1 ∧ E.2.2 ≤ E1.2.2) ∧ zR zX11_hasDiagram (d + 13) [zP 0, zI dd] m E E1 (fun r m' => r = some (zI (zb (0 ≤ dd ∧ dd < ((tD T).length : Int)))) ∧ ∃ ka1 kc1 b1 bc1 : Int, cJ m' E1 T X t s a1 cap1 a2 cap2 ka1 kc1 b1 bc1 ∧ m' 14 19 = 1 ∧ qFr m m') := by
  have htt := cJ_t hJ
  obtain ⟨E1, a1, cap1, le, hk⟩ := c_kD d T X t s a cap a2 cap2 ka kcap b bcap hJ
  refine ⟨E1, a1, cap1, le, ?_⟩
  refine zR_go [zP 0, zI dd] (by decide +kernel) (Nat.le_of_ble_eq_true rfl) rfl rfl ?_
  refine z_iload_n dX11_hasDiagram_0 rfl ?_
  refine z_if_lt (tgt := 19) dX11_hasDiagram_1 rfl (fun h => absurd h (by omega)) (fun h1 => ?_)
  refine z_iload_n dX11_hasDiagram_4 rfl ?_
  refine z_aload_n dX11_hasDiagram_5 rfl ?_
  refine z_callV mlX11_142 dX11_hasDiagram_6 (sx_0 hJ.2.2.2.2.2.2.2.1.1) (av := _) rfl rfl (Nat.le_of_ble_eq_true rfl) hk le.1 le.2 (Nat.le_refl _) (Nat.le_refl _) ?_
  rintro _ m1 ⟨rfl, ka1, kc1, b1, bc1, j1, h91, q1⟩
  obtain ⟨⟨D, F, cc, z1, z2, z3⟩, z4⟩ := j1.2.2.2.2.2.1.2.2.2.2.2.2 h91
  have ed := (dG_ord z1.1).1
  have e18 : m1 14 18 = ((tD T).length : Int) := by rw [← ed]; exact z1.1.2.2.2.1
  refine z_gIv 18 rfl flX11_172 dX11_hasDiagram_9 (sx_14 j1.2.2.2.2.2.2.2.1.1) rfl e18 ?_
  refine z_icmp_ge (tgt := 19) dX11_hasDiagram_12 rfl (fun h12 => ?_) (fun h12 => ?_)
  · refine z_iconst dX11_hasDiagram_19 (by decide) ?_
    refine z_zret dX11_hasDiagram_20 rfl (by first | omega | exact zb01 _) rfl ?_
    exact ⟨by rw [zb_f (by omega)], ka1, kc1, b1, bc1, j1, h91, q1⟩
  · refine z_iconst dX11_hasDiagram_15 (by decide) ?_
    refine z_goto (tgt := 20) dX11_hasDiagram_16 rfl ?_
    refine z_zret dX11_hasDiagram_20 rfl (by first | omega | exact zb01 _) rfl ?_
    exact ⟨by rw [zb_t (by omega)], ka1, kc1, b1, bc1, j1, h91, q1⟩

theorem c_hD1 (d : Nat) {E : zE} {m : zM} (T : zT) (X : Int → Int) (t s a cap a2 cap2 ka kcap b bcap : Int) (hJ : cJ m E T X t s a cap a2 cap2 ka kcap b bcap) (h9 : m 14 19 = 1) (dd : Int) : zR zX11_hasDiagram (d + 1) [zP 0, zI dd] m E E (fun r m' => r = some (zI (zb (0 ≤ dd ∧ dd < ((tD T).length : Int)))) ∧ m = m') := by
  obtain ⟨⟨D, F, cc, z1, z2, z3⟩, z4⟩ := hJ.2.2.2.2.2.1.2.2.2.2.2.2 h9
  have ed := (dG_ord z1.1).1
  have e18 : m 14 18 = ((tD T).length : Int) := by rw [← ed]; exact z1.1.2.2.2.1
  refine zR_go [zP 0, zI dd] (by decide +kernel) (Nat.le_of_ble_eq_true rfl) rfl rfl ?_
  refine z_iload_n dX11_hasDiagram_0 rfl ?_
  refine z_if_lt (tgt := 19) dX11_hasDiagram_1 rfl (fun h1 => ?_) (fun h1 => ?_)
  · refine z_iconst dX11_hasDiagram_19 (by decide) ?_
    refine z_zret dX11_hasDiagram_20 rfl (by first | omega | exact zb01 _) rfl ?_
    exact ⟨by rw [zb_f (by omega)], rfl⟩
  · refine z_iload_n dX11_hasDiagram_4 rfl ?_
    refine z_aload_n dX11_hasDiagram_5 rfl ?_
    refine z_callV mlX11_142 dX11_hasDiagram_6 (sx_0 hJ.2.2.2.2.2.2.2.1.1) (av := _) rfl rfl (Nat.le_of_ble_eq_true rfl) (c_kD1 _ T X t s a cap a2 cap2 ka kcap b bcap hJ h9) (Nat.le_refl _) (Nat.le_refl _) (Nat.le_refl _) (Nat.le_refl _) ?_
    rintro _ _ ⟨rfl, rfl⟩
    refine z_gIv 18 rfl flX11_172 dX11_hasDiagram_9 (sx_14 hJ.2.2.2.2.2.2.2.1.1) rfl e18 ?_
    refine z_icmp_ge (tgt := 19) dX11_hasDiagram_12 rfl (fun h12 => ?_) (fun h12 => ?_)
    · refine z_iconst dX11_hasDiagram_19 (by decide) ?_
      refine z_zret dX11_hasDiagram_20 rfl (by first | omega | exact zb01 _) rfl ?_
      exact ⟨by rw [zb_f (by omega)], rfl⟩
    · refine z_iconst dX11_hasDiagram_15 (by decide) ?_
      refine z_goto (tgt := 20) dX11_hasDiagram_16 rfl ?_
      refine z_zret dX11_hasDiagram_20 rfl (by first | omega | exact zb01 _) rfl ?_
      exact ⟨by rw [zb_t (by omega)], rfl⟩

theorem c_forgetAll (d : Nat) {E : zE} {m : zM} (sX : shX E) (t s : Int) (hA : bA m t s) : zR zX11_forgetAll (d) [zP 0] m E E (fun r m' => r = none ∧ m' = zu (zu (zu (zu m 6 2 0) 8 5 0) 8 6 0) 14 19 0) := by
  refine zR_go [zP 0] (by decide +kernel) (Nat.le_of_ble_eq_true rfl) rfl rfl ?_
  refine z_aload_n dX11_forgetAll_0 rfl ?_
  refine z_gP 3 rfl (r := 6) flX11_33 dX11_forgetAll_1 (sx_0 sX) rfl (hA.1.2.2.2.1) (by omega) ?_
  refine z_iconst dX11_forgetAll_4 (by decide) ?_
  refine z_pZ 2 rfl (fpX11_374 _) dX11_forgetAll_5 (sx_6 sX) rfl (by first | omega | exact zb01 _) ?_
  refine z_aload_n dX11_forgetAll_8 rfl ?_
  refine z_gP 4 rfl (r := 8) flX11_40 dX11_forgetAll_9 (sx_0 sX) rfl (Eq.trans (zu_a (by omega)) (hA.1.2.2.2.2.1)) (by omega) ?_
  refine z_iconst dX11_forgetAll_12 (by decide) ?_
  refine z_pZ 5 rfl (fpX11_377 _) dX11_forgetAll_13 (sx_8 sX) rfl (by first | omega | exact zb01 _) ?_
  refine z_aload_n dX11_forgetAll_16 rfl ?_
  refine z_gP 4 rfl (r := 8) flX11_40 dX11_forgetAll_17 (sx_0 sX) rfl (Eq.trans (zu_a (by omega)) (Eq.trans (zu_a (by omega)) (hA.1.2.2.2.2.1))) (by omega) ?_
  refine z_iconst dX11_forgetAll_20 (by decide) ?_
  refine z_pZ 6 rfl (fpX11_378 _) dX11_forgetAll_21 (sx_8 sX) rfl (by first | omega | exact zb01 _) ?_
  refine z_aload_n dX11_forgetAll_24 rfl ?_
  refine z_gP 6 rfl (r := 14) flX11_50 dX11_forgetAll_25 (sx_0 sX) rfl (Eq.trans (zu_a (by omega)) (Eq.trans (zu_a (by omega)) (Eq.trans (zu_a (by omega)) (hA.1.2.2.2.2.2.2.1)))) (by omega) ?_
  refine z_iconst dX11_forgetAll_28 (by decide) ?_
  refine z_pZ 19 rfl (fpX11_381 _) dX11_forgetAll_29 (sx_14 sX) rfl (by first | omega | exact zb01 _) ?_
  refine z_vret dX11_forgetAll_32 rfl rfl ?_
  exact ⟨rfl, rfl⟩
