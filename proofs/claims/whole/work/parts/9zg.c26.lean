/-- a table of pairings -/
def pTb (m : zM) (p a : Int) (n : Nat) (od br : Int → Bool) (A : Nat) (L : zLr) (ρ : Int) : Prop := m p 0 = a ∧ m p 1 = a + 1 ∧ m p 2 = (L.length : Int) ∧ m p 3 = (A : Int) ∧ m p 4 = (n : Int) ∧ m p 6 = ρ ∧ ∀ (t : Nat) (mt : Int → Int), L[t]? = some mt → m a (t : Int) = ((pkN (dg (sMk A mt) n) 12 : Nat) : Int) ∧ m (a + 1) (t : Int) = pF n od br (sMk A mt) + 32 * (ρ * sRounds n (sMk A mt))
def fPt (p a : Int) : List (Int × Option Int) := [(a, none), (a + 1, none), (p, none)]
theorem rm_ge {x : Int} (h : x ≤ 10395) : x ≤ rm x := by unfold rm; repeat' split <;> omega
theorem rm_le (x : Int) : rm x ≤ 10395 := by unfold rm; repeat' split <;> omega
theorem rm_16 (x : Int) : 16 ≤ rm x := by unfold rm; repeat' split <;> omega
theorem znew_o {E : zE} {kd : Nat} {n : Int} {sl : Nat} {a : Int} (h : a ≠ (E.2.1 : Int)) : (znew E kd n sl).1 a = E.1 a := if_neg h
theorem znew_n {E : zE} {kd : Nat} {n : Int} {sl : Nat} : (znew E kd n sl).1 (E.2.1 : Int) = (kd, n) := if_pos rfl
theorem zfill_o {m : zM} {a b j : Int} {f : Int → Int} (h : b ≠ a) : zfill m a f b j = m b j := by unfold zfill; rw [if_neg h]
theorem shT_in {E E' : zE} {t : Int} (h : shT E t) (hs : ∀ b, t ≤ b → b < t + 28 → E'.1 b = E.1 b) : shT E' t := by
  obtain ⟨h0, h1, h2, h3, h4, h5, h6, h7, h8, h9, h10, h11, h12⟩ := h
  refine ⟨?_, ?_, ?_, ?_, ?_, ?_, ?_, ?_, ?_, ?_, ?_, ?_, fun i q0 q1 => ?_⟩
  all_goals first | (rw [hs _ (by omega) (by omega)]; assumption) | (rw [hs _ (by omega) (by omega), hs _ (by omega) (by omega)]; exact h12 i q0 q1)
theorem fill_end {m0 m2 : zM} {p a n : Int} {od br : Int → Bool} {A : Nat} {L : zLr} {v : Int} (f : zfr (fXt p a) (zu (zu (zu m0 p 2 v) p 3 (A : Int)) p 4 n) m2) (x : xT m2 p a n.toNat od br A L) (pa : p ≠ a) (pb : p ≠ a + 1) (hn : 0 ≤ n) (q0 : (zu (zu (zu m0 p 2 v) p 3 (A : Int)) p 4 n) p 0 = a) (q1 : (zu (zu (zu m0 p 2 v) p 3 (A : Int)) p 4 n) p 1 = a + 1) (q3 : (zu (zu (zu m0 p 2 v) p 3 (A : Int)) p 4 n) p 3 = (A : Int)) (q4 : (zu (zu (zu m0 p 2 v) p 3 (A : Int)) p 4 n) p 4 = n) : zfr (fPt p a) m0 (zu (zu m2 p 5 1) p 6 0) ∧ pTb (zu (zu m2 p 5 1) p 6 0) p a n.toNat od br A L 0 ∧ (zu (zu m2 p 5 1) p 6 0) p 5 = 1 := by
  refine ⟨?_, ⟨?_, ?_, ?_, ?_, ?_, zu_s, fun t mt ht => ?_⟩, (zu_j (by decide)).trans zu_s⟩
  · refine zfr_ua (zfr_ua (zfr_tr (m1 := zu (zu (zu m0 p 2 v) p 3 (A : Int)) p 4 n) ?_ ?_) (by simp [fPt])) (by simp [fPt])
    · exact zfr_ua (zfr_ua (zfr_ua zfr_rf (by simp [fPt])) (by simp [fPt])) (by simp [fPt])
    · intro b j g1 g2
      exact fXt_o f (by simp [fPt] at g1; omega) (by simp [fPt] at g1; omega) (by simp [fPt] at g1; omega)
  · exact (zu_j (by decide)).trans ((zu_j (by decide)).trans (fXt_n f q0 (by decide) pa pb))
  · exact (zu_j (by decide)).trans ((zu_j (by decide)).trans (fXt_n f q1 (by decide) pa pb))
  · exact (zu_j (by decide)).trans ((zu_j (by decide)).trans x.1)
  · exact (zu_j (by decide)).trans ((zu_j (by decide)).trans (fXt_n f q3 (by decide) pa pb))
  · exact (zu_j (by decide)).trans ((zu_j (by decide)).trans ((fXt_n f q4 (by decide) pa pb).trans (by omega)))
  · rw [zu_a (Ne.symm pa), zu_a (Ne.symm pa), zu_a (Ne.symm pb), zu_a (Ne.symm pb), Int.zero_mul, Int.mul_zero, Int.add_zero]
    exact x.2 t mt ht
theorem c_ext0 (d : Nat) {E : zE} {m : zM} (p a cap : Int) (sp : E.1 p = (10, 7)) (sa : E.1 a = (2, cap)) (sb : E.1 (a + 1) = (1, cap)) (a0 : 0 < a) (kb : cap ≤ 10395) (pa : p ≠ a) (pb : p ≠ a + 1) (p7 : 7 < p) (a7 : 7 < a) (s6 : E.1 6 = (16, 3)) (s7 : E.1 7 = (1, 4096)) (t : Int) (t7 : 7 < t) (sT : shT E t) (pt0 : p < t ∨ t + 28 ≤ p) (at0 : a + 1 < t ∨ t + 28 ≤ a) (c w q : Int → Int) (n : Int) (hw : wfD c) (hl : wfL c w q n) (hev : ∀ x, 0 ≤ x → x < n → w x % 2 = 1 → c (4 + 3 * (w x / 2) + 1) = 1) (A : Nat) (hA : A < 2 ^ n.toNat) (q0 : m p 0 = a) (q1 : m p 1 = a + 1) (q3 : m p 3 = (A : Int)) (q4 : m p 4 = n) (pW : m 6 0 = 7) (hW : wT m n.toNat (cMay c w q)) (pT : ptT m t) (hF : cFl m t c w q n) (hs : m p 2 = 0) (hcap : ((sLay n.toNat (cMay c w q) 6 (mtA A)).length : Int) ≤ cap) : zR zX4_extend (d + 9) [zP p, zP t, zP 6, zI (A : Nat), zJ 0, zI 0, zI 0] m E E (fun r m' => r = none ∧ zfr (fXt p a) m m' ∧ xT m' p a n.toNat (cOd c w) (cBr c w) A ((sLay n.toNat (cMay c w q) 6 (mtA A)))) := by
  have hx := xI_0 (n := n.toNat) (by have := hl.1; omega) hA
  have h := c_extend d p a cap sp sa sb a0 kb pa pb p7 a7 s6 s7 t t7 sT pt0 at0 c w q n hw hl hev A hA q0 q1 q3 q4 pW hW pT hF 6 m A 0 (mtA A) [] rfl zfr_rf ⟨hs, fun t mt ht => by cases ht⟩ hx.1 (by rw [List.length_nil]; omega)
  unfold pF at h
  rw [hx.2.1, hx.2.2.1, hx.2.2.2] at h
  exact h

theorem l_fill36 (d : Nat) {E0 E : zE} {m : zM} {P : Option zV → zM → Prop} (p a cap : Int) (sp : E.1 p = (10, 7)) (sa : E.1 a = (2, cap)) (sb : E.1 (a + 1) = (1, cap)) (a0 : 0 < a) (kb : cap ≤ 10395) (pa : p ≠ a) (pb : p ≠ a + 1) (p7 : 7 < p) (a7 : 7 < a) (s6 : E.1 6 = (16, 3)) (s7 : E.1 7 = (1, 4096)) (t : Int) (t7 : 7 < t) (sT : shT E t) (pt0 : p < t ∨ t + 28 ≤ p) (at0 : a + 1 < t ∨ t + 28 ≤ a) (c w q : Int → Int) (n : Int) (hw : wfD c) (hl : wfL c w q n) (hev : ∀ x, 0 ≤ x → x < n → w x % 2 = 1 → c (4 + 3 * (w x / 2) + 1) = 1) (A : Nat) (hA : A < 2 ^ n.toNat) (q0 : m p 0 = a) (q1 : m p 1 = a + 1) (pW : m 6 0 = 7) (hW : wT m n.toNat (cMay c w q)) (pT : ptT m t) (hF : cFl m t c w q n) (hcap : ((sLay n.toNat (cMay c w q) 6 (mtA A)).length : Int) ≤ cap) (room : Int) (hP : ∀ m', zfr (fPt p a) m m' ∧ pTb m' p a n.toNat (cOd c w) (cBr c w) A (sLay n.toNat (cMay c w q) 6 (mtA A)) 0 ∧ m' p 5 = 1 → P none m') : zA zX4_fill (d + 10) E0 E P 36 [zP p, zP t, zP 6, zI (A : Nat), zI room] [] m E := by
  have h3 : ∀ b j v, b ≠ p → m b j = v → (zu (zu (zu m p 2 0) p 3 (A : Int)) p 4 n) b j = v := fun b j v hb hv => (zu_a hb).trans ((zu_a hb).trans ((zu_a hb).trans hv))
  have h3t : ∀ b j, t ≤ b → b < t + 28 → (zu (zu (zu m p 2 0) p 3 (A : Int)) p 4 n) b j = m b j := fun b j q0 q1 => h3 b j _ (by omega) rfl
  have hW1 : wT (zu (zu (zu m p 2 0) p 3 (A : Int)) p 4 n) n.toNat (cMay c w q) := ⟨h3 6 1 _ (by omega) hW.1, fun x hx => h3 7 _ _ (by omega) (hW.2 x hx)⟩
  refine z_aload_n dX4_fill_36 rfl ?_
  refine z_iconst dX4_fill_37 (by decide) ?_
  refine z_pI 2 rfl (fpX4_28 _) dX4_fill_38 sp rfl ?_
  refine z_aload_n dX4_fill_41 rfl ?_
  refine z_iload_n dX4_fill_42 rfl ?_
  refine z_pI 3 rfl (fpX4_32 _) dX4_fill_43 sp rfl ?_
  refine z_aload_n dX4_fill_46 rfl ?_
  refine z_aload_n dX4_fill_47 rfl ?_
  refine z_gIv 14 rfl flX4_35 dX4_fill_48 (sT0 sT) rfl ((zu_a (by omega)).trans ((zu_a (by omega)).trans hF.1)) ?_
  refine z_pI 4 rfl (fpX4_40 _) dX4_fill_51 sp rfl ?_
  refine z_aload_n dX4_fill_54 rfl ?_
  refine z_aload_n dX4_fill_55 rfl ?_
  refine z_aload_n dX4_fill_56 rfl ?_
  refine z_iload_n dX4_fill_57 rfl ?_
  refine z_lconst0 dX4_fill_58 ?_
  refine z_iconst dX4_fill_59 (by decide) ?_
  refine z_iconst dX4_fill_60 (by decide) ?_
  refine z_callV mlX4_41 dX4_fill_61 sp (av := [_, _, _, _, _, _]) rfl rfl (Nat.le_of_ble_eq_true rfl) (c_ext0 d p a cap sp sa sb a0 kb pa pb p7 a7 s6 s7 t t7 sT pt0 at0 c w q n hw hl hev A hA (m := (zu (zu (zu m p 2 0) p 3 (A : Int)) p 4 n)) ((zu_j (by decide)).trans ((zu_j (by decide)).trans ((zu_j (by decide)).trans q0))) ((zu_j (by decide)).trans ((zu_j (by decide)).trans ((zu_j (by decide)).trans q1))) ((zu_j (by decide)).trans zu_s) zu_s (h3 6 0 _ (by omega) pW) hW1 (ptT_in pT h3t) (cFl_in hF h3t) ((zu_j (by decide)).trans ((zu_j (by decide)).trans zu_s)) hcap) (Nat.le_refl _) (Nat.le_refl _) (Nat.le_refl _) (Nat.le_refl _) ?_
  rintro _ m2 ⟨rfl, f2, x2⟩
  refine z_aload_n dX4_fill_64 rfl ?_
  refine z_iconst dX4_fill_65 (by decide) ?_
  refine z_pZ 5 rfl (fpX4_45 _) dX4_fill_66 sp rfl (by first | omega | exact zb01 _) ?_
  refine z_aload_n dX4_fill_69 rfl ?_
  refine z_iconst dX4_fill_70 (by decide) ?_
  refine z_pZ 6 rfl (fpX4_49 _) dX4_fill_71 sp rfl (by first | omega | exact zb01 _) ?_
  refine z_vret dX4_fill_74 rfl rfl ?_
  exact hP _ (fill_end f2 x2 pa pb hl.1.1 ((zu_j (by decide)).trans ((zu_j (by decide)).trans ((zu_j (by decide)).trans q0))) ((zu_j (by decide)).trans ((zu_j (by decide)).trans ((zu_j (by decide)).trans q1))) ((zu_j (by decide)).trans zu_s) zu_s)

theorem c_fill0 (d : Nat) {E : zE} {m : zM} (p a cap : Int) (sp : E.1 p = (10, 7)) (sa : E.1 a = (2, cap)) (sb : E.1 (a + 1) = (1, cap)) (a0 : 0 < a) (kb : cap ≤ 10395) (pa : p ≠ a) (pb : p ≠ a + 1) (p7 : 7 < p) (a7 : 7 < a) (s6 : E.1 6 = (16, 3)) (s7 : E.1 7 = (1, 4096)) (t : Int) (t7 : 7 < t) (sT : shT E t) (pt0 : p < t ∨ t + 28 ≤ p) (at0 : a + 1 < t ∨ t + 28 ≤ a) (c w q : Int → Int) (n : Int) (hw : wfD c) (hl : wfL c w q n) (hev : ∀ x, 0 ≤ x → x < n → w x % 2 = 1 → c (4 + 3 * (w x / 2) + 1) = 1) (A : Nat) (hA : A < 2 ^ n.toNat) (q0 : m p 0 = a) (q1 : m p 1 = a + 1) (pW : m 6 0 = 7) (hW : wT m n.toNat (cMay c w q)) (pT : ptT m t) (hF : cFl m t c w q n) (hr : rm (tb n.toNat (cMay c w q) A) ≤ cap) : zR zX4_fill (d + 10) [zP p, zP t, zP 6, zI (A : Nat)] m E E (fun r m' => r = none ∧ zfr (fPt p a) m m' ∧ pTb m' p a n.toNat (cOd c w) (cBr c w) A (sLay n.toNat (cMay c w q) 6 (mtA A)) 0 ∧ m' p 5 = 1) := by
  refine zR_go [zP p, zP t, zP 6, zI (A : Nat), zN] (by decide +kernel) (Nat.le_of_ble_eq_true rfl) rfl rfl ?_
  refine z_aload_n dX4_fill_0 rfl ?_
  refine z_iload_n dX4_fill_1 rfl ?_
  refine z_callV mlX4_19 dX4_fill_2 s6 (av := [_]) rfl rfl (Nat.le_of_ble_eq_true rfl) (c_of _ s6 s7 pW n.toNat (by have := hl.1; omega) (cMay c w q) hW A hA) (Nat.le_refl _) (Nat.le_refl _) (Nat.le_refl _) (Nat.le_refl _) ?_
  rintro _ _ ⟨rfl, rfl⟩
  refine z_callS mlX4_25 dX4_fill_5 (av := [_]) rfl rfl (Nat.le_of_ble_eq_true rfl) (c_roomFor _ (tb n.toNat (cMay c w q) A) (tb_rg (by have := hl.1; omega) A).2) (Nat.le_refl _) (Nat.le_refl _) (Nat.le_refl _) (Nat.le_refl _) ?_
  rintro _ _ ⟨rfl, rfl⟩
  refine z_istore dX4_fill_8 (Nat.le_of_ble_eq_true rfl) ?_
  refine z_iload dX4_fill_10 rfl ?_
  refine z_aload_n dX4_fill_12 rfl ?_
  refine z_gP 0 rfl (r := a) flX4_9 dX4_fill_13 sp rfl q0 (by omega) ?_
  refine z_alen dX4_fill_16 sa (by decide) ?_
  try dsimp only [zs0, zsI, zsP, zsN, zsJ, zsS, zst2, Nat.reduceAdd]
  refine z_icmp_le (tgt := 36) dX4_fill_17 rfl (fun h17 => ?_) (fun h => absurd (by omega) h)
  exact l_fill36 d p a cap sp sa sb a0 kb pa pb p7 a7 s6 s7 t t7 sT pt0 at0 c w q n hw hl hev A hA q0 q1 pW hW pT hF (by rw [show ((sLay n.toNat (cMay c w q) 6 (mtA A)).length : Int) = tb n.toNat (cMay c w q) A from rfl]; exact Int.le_trans (rm_ge (tb_rg (by have := hl.1; omega) A).2) hr) _ (fun m2 h2 => ⟨rfl, h2⟩)

theorem c_fill1 (d : Nat) {E : zE} {m : zM} (p a cap : Int) (sp : E.1 p = (10, 7)) (sa : E.1 a = (2, cap)) (sb : E.1 (a + 1) = (1, cap)) (a0 : 0 < a) (kb : cap ≤ 10395) (pa : p ≠ a) (pb : p ≠ a + 1) (p7 : 7 < p) (a7 : 7 < a) (s6 : E.1 6 = (16, 3)) (s7 : E.1 7 = (1, 4096)) (t : Int) (t7 : 7 < t) (sT : shT E t) (pt0 : p < t ∨ t + 28 ≤ p) (at0 : a + 1 < t ∨ t + 28 ≤ a) (c w q : Int → Int) (n : Int) (hw : wfD c) (hl : wfL c w q n) (hev : ∀ x, 0 ≤ x → x < n → w x % 2 = 1 → c (4 + 3 * (w x / 2) + 1) = 1) (A : Nat) (hA : A < 2 ^ n.toNat) (q0 : m p 0 = a) (q1 : m p 1 = a + 1) (pW : m 6 0 = 7) (hW : wT m n.toNat (cMay c w q)) (pT : ptT m t) (hF : cFl m t c w q n) (hN : 95 < E.2.1) (hpN : p < 95) (htN : t + 28 ≤ E.2.1) (R : Int) (hRt : R = rm (tb n.toNat (cMay c w q) A)) (hr : cap < R) : zR zX4_fill (d + 10) [zP p, zP t, zP 6, zI (A : Nat)] m E (znew (znew E 2 R R.toNat) 1 R R.toNat) (fun r m' => r = none ∧ zfr (fPt p (E.2.1 : Int)) m m' ∧ pTb m' p (E.2.1 : Int) n.toNat (cOd c w) (cBr c w) A (sLay n.toNat (cMay c w q) 6 (mtA A)) 0 ∧ m' p 5 = 1) := by
  have hR2 : R ≤ 10395 := by rw [hRt]; exact rm_le _
  have hR0 : 16 ≤ R := by rw [hRt]; exact rm_16 _
  refine zR_go [zP p, zP t, zP 6, zI (A : Nat), zN] (by decide +kernel) (Nat.le_of_ble_eq_true rfl) rfl rfl ?_
  refine z_aload_n dX4_fill_0 rfl ?_
  refine z_iload_n dX4_fill_1 rfl ?_
  refine z_callV mlX4_19 dX4_fill_2 s6 (av := [_]) rfl rfl (Nat.le_of_ble_eq_true rfl) (c_of _ s6 s7 pW n.toNat (by have := hl.1; omega) (cMay c w q) hW A hA) (Nat.le_refl _) (Nat.le_refl _) (by show E.2.1 ≤ E.2.1 + 1 + 1; omega) (by show E.2.2 ≤ E.2.2 + R.toNat + R.toNat; omega) ?_
  rintro _ _ ⟨rfl, rfl⟩
  refine z_callS mlX4_25 dX4_fill_5 (av := [_]) rfl rfl (Nat.le_of_ble_eq_true rfl) (c_roomFor _ (tb n.toNat (cMay c w q) A) (tb_rg (by have := hl.1; omega) A).2) (Nat.le_refl _) (Nat.le_refl _) (by show E.2.1 ≤ E.2.1 + 1 + 1; omega) (by show E.2.2 ≤ E.2.2 + R.toNat + R.toNat; omega) ?_
  rintro _ _ ⟨rfl, rfl⟩
  rw [← hRt]
  refine z_istore dX4_fill_8 (Nat.le_of_ble_eq_true rfl) ?_
  refine z_iload dX4_fill_10 rfl ?_
  refine z_aload_n dX4_fill_12 rfl ?_
  refine z_gP 0 rfl (r := a) flX4_9 dX4_fill_13 sp rfl q0 (by omega) ?_
  refine z_alen dX4_fill_16 sa (by decide) ?_
  try dsimp only [zs0, zsI, zsP, zsN, zsJ, zsS, zst2, Nat.reduceAdd]
  refine z_icmp_le (tgt := 36) dX4_fill_17 rfl (fun h => absurd h (by omega)) (fun h17 => ?_)
  refine z_aload_n dX4_fill_20 rfl ?_
  refine z_iload dX4_fill_21 rfl ?_
  refine z_newl dX4_fill_23 ac_long (by omega) (by omega) (by show E.2.1 + 1 ≤ E.2.1 + 1 + 1; omega) (by show E.2.2 + R.toNat ≤ E.2.2 + R.toNat + R.toNat; omega) ?_
  have sp1 : (znew E 2 R R.toNat).1 p = (10, 7) := (znew_o (by omega)).trans sp
  have sp2 : (znew (znew E 2 R R.toNat) 1 R R.toNat).1 p = (10, 7) := (znew_o (by show p ≠ ((E.2.1 + 1 : Nat) : Int); omega)).trans sp1
  refine z_pP 0 rfl (fpX4_9 _) dX4_fill_25 sp1 rfl (by omega) ?_
  refine z_aload_n dX4_fill_28 rfl ?_
  refine z_iload dX4_fill_29 rfl ?_
  refine z_newi dX4_fill_31 ac_int (by omega) (by omega) (by show E.2.1 + 1 + 1 ≤ E.2.1 + 1 + 1; omega) (by show E.2.2 + R.toNat + R.toNat ≤ E.2.2 + R.toNat + R.toNat; omega) ?_
  refine z_pP 1 rfl (fpX4_15 _) dX4_fill_33 sp2 rfl (by show (0 : Int) ≤ ((E.2.1 + 1 : Nat) : Int); omega) ?_
  have eN : (((znew E 2 R R.toNat).2.1 : Nat) : Int) = E.2.1 + 1 := by show ((E.2.1 + 1 : Nat) : Int) = _; omega
  rw [eN]
  obtain ⟨m1, em1⟩ : ∃ x, x = zu (zfill (zu (zfill m E.2.1 fun _ => 0) p 0 E.2.1) (E.2.1 + 1) fun _ => 0) p 1 (E.2.1 + 1) := ⟨_, rfl⟩
  rw [← em1]
  have ho : ∀ b j : Int, b < E.2.1 → b ≠ p → m1 b j = m b j := fun b j h1 h2 => by
    rw [em1, zu_a h2, zfill_o (by omega), zu_a h2, zfill_o (by omega)]
  have hE2 : ∀ b : Int, b < E.2.1 → (znew (znew E 2 R R.toNat) 1 R R.toNat).1 b = E.1 b := fun b hb => (znew_o (by show b ≠ ((E.2.1 + 1 : Nat) : Int); omega)).trans (znew_o (by omega))
  refine l_fill36 d p E.2.1 R sp2 ((znew_o (by show (E.2.1 : Int) ≠ ((E.2.1 + 1 : Nat) : Int); omega)).trans znew_n) (by rw [← eN]; exact znew_n) (by omega) hR2 (by omega) (by omega) p7 (by omega) ((hE2 6 (by omega)).trans s6) ((hE2 7 (by omega)).trans s7) t t7 (shT_in sT (fun b h1 h2 => hE2 b (by omega))) pt0 (Or.inr (by omega)) c w q n hw hl hev A hA (by rw [em1, zu_j (by decide), zfill_o (by omega), zu_s]) (by rw [em1, zu_s]) ((ho 6 0 (by omega) (by omega)).trans pW) ⟨(ho 6 1 (by omega) (by omega)).trans hW.1, fun x hx => (ho 7 _ (by omega) (by omega)).trans (hW.2 x hx)⟩ (ptT_in pT (fun b j h1 h2 => ho b j (by omega) (by omega))) (cFl_in hF (fun b j h1 h2 => ho b j (by omega) (by omega))) (by rw [hRt]; exact rm_ge (tb_rg (by have := hl.1; omega) A).2) _ (fun m2 h2 => ⟨rfl, ?_, h2.2⟩)
  intro b j q1 q2
  rw [h2.1 b j q1 q2, em1]
  have hb : b ≠ E.2.1 ∧ b ≠ E.2.1 + 1 ∧ b ≠ p := by simp [fPt] at q1; omega
  rw [zu_a hb.2.2, zfill_o hb.2.1, zu_a hb.2.2, zfill_o hb.1]
