theorem pOd {m : zM} {t p : Int} (pT : ptT m t) (h0 : 0 ≤ p) (h1 : p < 8) : ∃ i : Int, m (t + 6) p = t + 12 + 2 * i ∧ 0 ≤ i ∧ i < 8 := by
  obtain ⟨i, i0, i1, i2⟩ := pT.2.2.1 p h0 h1
  exact ⟨i, i2, i0, i1⟩
def fO (o : Int) : List (Int × Option Int) := [(o + 1, none), (o, some 1), (o, some 2), (o, some 3)]
theorem fO_at {m m' : zM} {o a j : Int} (h : zfr (fO o) m m') (ha : a ≠ o + 1) (hj : a ≠ o ∨ j < 1 ∨ 3 < j) : m' a j = m a j := h a j (by simp only [fO, List.mem_cons, Prod.mk.injEq, reduceCtorEq, and_false, and_true, List.not_mem_nil, or_false]; omega) (by simp only [fO, List.mem_cons, Prod.mk.injEq, reduceCtorEq, and_false, and_true, List.not_mem_nil, or_false, false_or, Option.some.injEq]; omega)
/-- a point becomes as another, k letters so far -/
def bcI (m m' : zM) (o u k : Int) : Prop := zfr (fO o) m m' ∧ m' o 1 = k ∧ m' o 2 = m u 2 ∧ m' o 3 = m u 3 ∧ ∀ x, 0 ≤ x → x < k → m' (o + 1) x = m (u + 1) x
theorem bcI_0 {m m' : zM} {o u : Int} (e : m' = zu (zu (zu m o 1 0) o 2 (m u 2)) o 3 (m u 3)) : bcI m m' o u 0 := by
  subst e
  exact ⟨zfr_uj (zfr_uj (zfr_uj zfr_rf (by simp [fO])) (by simp [fO])) (by simp [fO]), by rw [zu_j (by decide), zu_j (by decide), zu_s], by rw [zu_j (by decide), zu_s], zu_s, fun x q0 q1 => by omega⟩
theorem bcI_step {m m1 m2 : zM} {o u k : Int} (h : bcI m m1 o u k) (e : m2 = zu (zu m1 (o + 1) k (m (u + 1) k)) o 1 (k + 1)) : bcI m m2 o u (k + 1) := by
  obtain ⟨h1, h2, h3, h4, h5⟩ := h
  subst e
  refine ⟨zfr_uj (zfr_ua h1 (by simp [fO])) (by simp [fO]), zu_s, by rw [zu_j (by decide), zu_a (by omega)]; exact h3, by rw [zu_j (by decide), zu_a (by omega)]; exact h4, fun x q0 q1 => ?_⟩
  rw [zu_a (by omega)]
  by_cases e : x = k
  · rw [e, zu_s]
  · rw [zu_j e]; exact h5 x q0 (by omega)
/-- what a change of the theory at t may touch -/
def fE (t : Int) : List (Int × Option Int) := [(t, some 11), (t, some 12), (t, some 13), (t, some 14), (t, some 15), (t + 1, none), (t + 2, none), (t + 3, none), (t + 4, none), (t + 5, none), (t + 6, none), (t + 7, none), (t + 8, none), (t + 9, none), (t + 10, none), (t + 11, none), (t + 12, none), (t + 13, none), (t + 14, none), (t + 15, none), (t + 16, none), (t + 17, none), (t + 18, none), (t + 19, none), (t + 20, none), (t + 21, none), (t + 22, none), (t + 23, none), (t + 24, none), (t + 25, none), (t + 26, none), (t + 27, none)]
theorem fR_sub {t : Int} : ∀ q ∈ fR t, q ∈ fE t := by simp [fR, fE]
theorem fE_in {t a : Int} (h0 : t + 1 ≤ a) (h1 : a ≤ t + 27) : (a, none) ∈ fE t := by
  simp only [fE, List.mem_cons, Prod.mk.injEq, reduceCtorEq, and_false, and_true, List.not_mem_nil, or_false, false_or]
  omega
theorem fE_at {m m' : zM} {t a j : Int} (h : zfr (fE t) m m') (ha : a < t ∨ t + 27 < a ∨ (a = t ∧ j < 11)) : m' a j = m a j := h a j (by simp only [fE, List.mem_cons, Prod.mk.injEq, reduceCtorEq, and_false, and_true, List.not_mem_nil, or_false, false_or]; omega) (by simp only [fE, List.mem_cons, Prod.mk.injEq, reduceCtorEq, and_false, and_true, List.not_mem_nil, or_false, false_or, Option.some.injEq]; omega)
theorem zfr_ut {m m1 : zM} {t j x : Int} (h : zfr (fE t) m m1) (hj : 11 ≤ j ∧ j ≤ 15) : zfr (fE t) m (zu m1 t j x) := zfr_uj h (by
  simp only [fE, List.mem_cons, Prod.mk.injEq, reduceCtorEq, and_false, and_true, List.not_mem_nil, or_false, false_or, Option.some.injEq, true_and]
  omega)
theorem zfr_uO {m m1 : zM} {t o j x : Int} (h : zfr (fE t) m m1) (ho : t + 12 ≤ o ∧ o ≤ t + 26) : zfr (fE t) m (zu m1 o j x) := zfr_ua h (fE_in (by omega) (by omega))
theorem zfr_uO' {m m1 : zM} {t o j x : Int} (h : zfr (fE t) m m1) (ho : t + 12 ≤ o ∧ o ≤ t + 26) : zfr (fE t) m (zu m1 (o + 1) j x) := zfr_ua h (fE_in (by omega) (by omega))
theorem zfr_O {m m1 : zM} {t o : Int} (h : zfr (fO o) m m1) (ho : t + 12 ≤ o ∧ o ≤ t + 26) : zfr (fE t) m m1 := fun a j q1 q2 => by
  have hn : ¬ (t + 1 ≤ a ∧ a ≤ t + 27) := fun hh => q1 (fE_in hh.1 hh.2)
  exact fO_at h (by omega) (by omega)
/-- pointers stand, if they are the same -/
theorem ptT_ag {m m' : zM} {t : Int} (h : ptT m t) (h1 : ∀ j, 0 ≤ j → j ≤ 10 → m' t j = m t j) (h2 : ∀ i : Int, 0 ≤ i → i < 8 → m' (t + 12 + 2 * i) 0 = m (t + 12 + 2 * i) 0) (h3 : ∀ p : Int, 0 ≤ p → p < 8 → m' (t + 6) p = m (t + 6) p) : ptT m' t := by
  obtain ⟨⟨a1, a2, a3, a4, a5, a6, a7, a8, a9, a10, a11⟩, g2, g3, g4⟩ := h
  refine ⟨⟨?_, ?_, ?_, ?_, ?_, ?_, ?_, ?_, ?_, ?_, ?_⟩, fun i q0 q1 => by rw [h2 i q0 q1]; exact g2 i q0 q1, fun p q0 q1 => by rw [h3 p q0 q1]; exact g3 p q0 q1, fun p q b1 b2 b3 b4 => by rw [h3 p b1 b2, h3 q b3 b4]; exact g4 p q b1 b2 b3 b4⟩ <;> (rw [h1 _ (by decide) (by decide)]; assumption)
theorem ptT_o {m : zM} {t o j x : Int} (h : ptT m t) (ho : t + 12 ≤ o ∧ o ≤ t + 27) (hj : j ≠ 0) : ptT (zu m o j x) t := ptT_ag h (fun k _ _ => zu_a (by omega)) (fun i _ _ => zu_j (by omega)) (fun p _ _ => zu_a (by omega))
theorem ptT_r {m : zM} {t o j x : Int} (h : ptT m t) (ho : ∃ i : Int, o = t + 12 + 2 * i ∧ 0 ≤ i ∧ i < 8) : ptT (zu m (o + 1) j x) t := by
  obtain ⟨i, e, i0, i1⟩ := ho
  exact ptT_ag h (fun k _ _ => zu_a (by omega)) (fun k _ _ => zu_a (by omega)) (fun p _ _ => zu_a (by omega))
theorem ptT_t {m : zM} {t j x : Int} (h : ptT m t) (hj : 11 ≤ j) : ptT (zu m t j x) t := ptT_ag h (fun k _ _ => zu_j (by omega)) (fun k _ _ => zu_a (by omega)) (fun p _ _ => zu_a (by omega))
theorem ptT_O {m m1 : zM} {t o : Int} (h : ptT m t) (f : zfr (fO o) m m1) (ho : ∃ i : Int, o = t + 12 + 2 * i ∧ 0 ≤ i ∧ i < 8) : ptT m1 t := by
  obtain ⟨i, e, i0, i1⟩ := ho
  exact ptT_ag h (fun k _ _ => fO_at f (by omega) (by omega)) (fun k _ _ => fO_at f (by omega) (by omega)) (fun p _ _ => fO_at f (by omega) (by omega))
theorem cTh_nil {m : zM} {t : Int} {c : Int → Int} (z0 : c 0 = 0) (z1 : c 1 = 0) (z2 : c 2 = 0) : cTh (zu (zu (zu m t 11 0) t 12 0) t 13 0) t c :=
  ⟨by rw [zu_j (by decide), zu_j (by decide), zu_s, z0], by rw [zu_j (by decide), zu_s, z1], by rw [zu_s, z2], fun f q0 q1 => by omega, fun k q0 q1 => by omega, fun p q0 q1 => by omega⟩
/-- one point changes, and how many there are; the others stand -/
theorem cTh_pt {m m' : zM} {t p : Int} {c c' : Int → Int} (hp : ptT m t) (hw : wfD c) (h : cTh m t c) (e0 : c' 0 = c 0) (e1 : c' 1 = c 1) (ef : ∀ x, 4 ≤ x → x < 32 → c' x = c x) (h11 : m' t 11 = m t 11) (h12 : m' t 12 = m t 12) (h13 : m' t 13 = c' 2) (hb : c' 2 ≤ 8)
    (hs : ∀ a j, t + 1 ≤ a → a ≤ t + 6 → m' a j = m a j) (p0 : 0 ≤ p) (p1 : p < 8) (hpt : p < c' 2 → cPt m' (m (t + 6) p) c' p)
    (ho : ∀ b, 0 ≤ b → b < c' 2 → b ≠ p → b < c 2 ∧ (∀ k, 0 ≤ k → k < 9 → c' (32 + 9 * b + k) = c (32 + 9 * b + k)))
    (hm : ∀ a j, t + 12 ≤ a → a ≤ t + 27 → a ≠ m (t + 6) p → a ≠ m (t + 6) p + 1 → m' a j = m a j) : cTh m' t c' := by
  have w1 := hw.1
  have w2 := hw.2.1
  have w3 := hw.2.2.1
  obtain ⟨h1, h2, h3, h4, h5, h6⟩ := h
  refine ⟨by rw [h11, h1, e0], by rw [h12, h2, e1], h13, fun f q0 q1 => ?_, fun k q0 q1 => ?_, fun b q0 q1 => ?_⟩
  · rw [hs _ _ (by omega) (by omega), hs _ _ (by omega) (by omega), hs _ _ (by omega) (by omega), ef _ (by omega) (by omega), ef _ (by omega) (by omega), ef _ (by omega) (by omega)]
    exact h4 f q0 (by omega)
  · rw [hs _ _ (by omega) (by omega), hs _ _ (by omega) (by omega), ef _ (by omega) (by omega), ef _ (by omega) (by omega)]
    exact h5 k q0 (by omega)
  · rw [hs (t + 6) _ (by omega) (by omega)]
    by_cases e : b = p
    · rw [e]; exact hpt (by omega)
    · obtain ⟨b2, bk⟩ := ho b q0 q1 e
      have hb := h6 b q0 b2
      obtain ⟨i, i0, i1, i2⟩ := hp.2.2.1 b q0 (by omega)
      obtain ⟨i', j0, j1, j2⟩ := hp.2.2.1 p p0 p1
      have hne : i ≠ i' := fun hh => e (hp.2.2.2 b p q0 (by omega) p0 p1 (by rw [i2, j2, hh]))
      have hbw := hw.2.2.2.2.2 b q0 b2
      unfold cPt at hb ⊢
      rw [hm _ _ (by omega) (by omega) (by omega) (by omega), hm _ _ (by omega) (by omega) (by omega) (by omega), hm _ _ (by omega) (by omega) (by omega) (by omega)]
      have k0 := bk 0 (by omega) (by omega)
      rw [Int.add_zero] at k0
      rw [k0, bk 1 (by omega) (by omega), bk 2 (by omega) (by omega)]
      refine ⟨hb.1, hb.2.1, hb.2.2.1, fun k r0 r1 => ?_⟩
      rw [hm _ _ (by omega) (by omega) (by omega) (by omega), hb.2.2.2 k r0 r1, Int.add_assoc, bk (3 + k) (by omega) (by omega), ← Int.add_assoc]
theorem cTh_no {m : zM} {t p v : Int} {c : Int → Int} (hp : ptT m t) (hw : wfD c) (h : cTh m t c) (p0 : 0 ≤ p) (p1 : p < c 2) : cTh (zu m (m (t + 6) p) 3 v) t (eU c (32 + 9 * p + 2) v) := by
  have w3 := hw.2.2.1
  obtain ⟨i, i0, i1, i2⟩ := hp.2.2.1 p p0 (by omega)
  have hb := h.2.2.2.2.2 p p0 p1
  have e2 : eU c (32 + 9 * p + 2) v 2 = c 2 := eU_o (by omega)
  refine cTh_pt (p := p) hp hw h (eU_o (by omega)) (eU_o (by omega)) (fun x q0 q1 => eU_o (by omega)) (zu_a (by omega)) (zu_a (by omega)) (by rw [zu_a (by omega), e2]; exact h.2.2.1) (by omega) (fun a j q0 q1 => zu_a (by omega)) p0 (by omega) (fun _ => ?_) (fun b q0 q1 q2 => ⟨by omega, fun k r0 r1 => eU_o (by omega)⟩) (fun a j q0 q1 q2 q3 => zu_a q2)
  unfold cPt at hb ⊢
  rw [zu_j (by decide), zu_j (by decide), zu_s, eU_o (show (32 : Int) + 9 * p ≠ 32 + 9 * p + 2 by omega), eU_o (show (32 : Int) + 9 * p + 1 ≠ 32 + 9 * p + 2 by omega), eU_s]
  exact ⟨hb.1, hb.2.1, rfl, fun k r0 r1 => by rw [zu_a (by omega), eU_o (by omega)]; exact hb.2.2.2 k r0 r1⟩
theorem cTh_sw {m : zM} {t p k : Int} {c : Int → Int} (hp : ptT m t) (hw : wfD c) (h : cTh m t c) (p0 : 0 ≤ p) (p1 : p < c 2) (k0 : 0 ≤ k) (k1 : k + 1 < c (32 + 9 * p)) : cTh (zu (zu m (m (t + 6) p + 1) k (c (32 + 9 * p + 3 + (k + 1)))) (m (t + 6) p + 1) (k + 1) (c (32 + 9 * p + 3 + k))) t (eSw c (32 + 9 * p + 3 + k)) := by
  have w3 := hw.2.2.1
  obtain ⟨i, i0, i1, i2⟩ := hp.2.2.1 p p0 (by omega)
  have hb := h.2.2.2.2.2 p p0 p1
  have hbw := hw.2.2.2.2.2 p p0 p1
  have e2 : eSw c (32 + 9 * p + 3 + k) 2 = c 2 := eSw_o (by omega) (by omega)
  refine cTh_pt (p := p) hp hw h (eSw_o (by omega) (by omega)) (eSw_o (by omega) (by omega)) (fun x q0 q1 => eSw_o (by omega) (by omega)) ((zu_a (by omega)).trans (zu_a (by omega))) ((zu_a (by omega)).trans (zu_a (by omega))) (by rw [zu_a (by omega), zu_a (by omega), e2]; exact h.2.2.1) (by omega) (fun a j q0 q1 => (zu_a (by omega)).trans (zu_a (by omega))) p0 (by omega) (fun _ => ?_) (fun b q0 q1 q2 => ⟨by omega, fun k' r0 r1 => eSw_o (by omega) (by omega)⟩) (fun a j q0 q1 q2 q3 => (zu_a q3).trans (zu_a q3))
  unfold cPt at hb ⊢
  rw [zu_a (by omega), zu_a (by omega), zu_a (by omega), zu_a (by omega), zu_a (by omega), zu_a (by omega), eSw_o (show (32 : Int) + 9 * p ≠ _ by omega) (by omega), eSw_o (show (32 : Int) + 9 * p + 1 ≠ _ by omega) (by omega), eSw_o (show (32 : Int) + 9 * p + 2 ≠ _ by omega) (by omega)]
  refine ⟨hb.1, hb.2.1, hb.2.2.1, fun x r0 r1 => ?_⟩
  by_cases ex : x = k + 1
  · rw [ex, zu_s]; unfold eSw; rw [if_pos (by omega)]
  · rw [zu_j ex]
    by_cases ey : x = k
    · rw [ey, zu_s]; unfold eSw; rw [if_neg (by omega), if_pos rfl]; congr 1; omega
    · rw [zu_j ey, eSw_o (by omega) (by omega)]; exact hb.2.2.2 x r0 r1
theorem cTh_cp {m m0 : zM} {t p : Int} {c : Int → Int} (hp : ptT m t) (hw : wfD c) (h : cTh m t c) (p0 : 0 ≤ p) (p1 : p < c 2) (h8 : c 2 < 8) (b0 : bcI m m0 (m (t + 6) (c 2)) (m (t + 6) p) (c (32 + 9 * p))) : cTh (zu m0 t 13 (c 2 + 1)) t (eN (eBlk c (fun b => if b = c 2 then p else b)) (c 2 + 1)) := by
  have w3 := hw.2.2.1
  obtain ⟨i, i0, i1, i2⟩ := hp.2.2.1 (c 2) (by omega) h8
  have hb := h.2.2.2.2.2 p p0 p1
  have hbw := hw.2.2.2.2.2 p p0 p1
  have hat : ∀ b k, 0 ≤ b → b < 8 → 0 ≤ k → k < 9 → eN (eBlk c (fun b => if b = c 2 then p else b)) (c 2 + 1) (32 + 9 * b + k) = c (32 + 9 * (if b = c 2 then p else b) + k) := fun b k q0 q1 r0 r1 => by rw [eN_o (by omega), eBlk_at q0 q1 r0 r1]
  refine cTh_pt (p := c 2) hp hw h (by rw [eN_o (by omega), eBlk_o (by omega)]) (by rw [eN_o (by omega), eBlk_o (by omega)]) (fun x q0 q1 => by rw [eN_o (by omega), eBlk_o (by omega)]) ((zu_j (by decide)).trans (fO_at b0.1 (by omega) (by omega))) ((zu_j (by decide)).trans (fO_at b0.1 (by omega) (by omega))) (by rw [zu_s, eN_2]) (by rw [eN_2]; omega) (fun a j q0 q1 => (zu_a (by omega)).trans (fO_at b0.1 (by omega) (by omega))) (by omega) h8 (fun _ => ?_) (fun b q0 q1 q2 => ⟨by rw [eN_2] at q1; omega, fun k r0 r1 => by rw [eN_2] at q1; rw [hat b k q0 (by omega) r0 r1, if_neg q2]⟩) (fun a j q0 q1 q2 q3 => (zu_a (by omega)).trans (fO_at b0.1 q3 (Or.inl q2)))
  obtain ⟨b1, b2, b3, b4, b5⟩ := b0
  have k0 := hat (c 2) 0 (by omega) h8 (by omega) (by omega)
  rw [Int.add_zero, if_pos rfl, Int.add_zero] at k0
  have k1 := hat (c 2) 1 (by omega) h8 (by omega) (by omega)
  have k2 := hat (c 2) 2 (by omega) h8 (by omega) (by omega)
  rw [if_pos rfl] at k1 k2
  unfold cPt at hb ⊢
  rw [zu_a (by omega), zu_a (by omega), zu_a (by omega), k0, k1, k2, b2, b3, b4]
  refine ⟨rfl, hb.2.1, hb.2.2.1, fun x r0 r1 => ?_⟩
  have k3 := hat (c 2) (3 + x) (by omega) h8 (by omega) (by omega)
  rw [if_pos rfl] at k3
  rw [zu_a (by omega), b5 x r0 r1, hb.2.2.2 x r0 r1, show 32 + 9 * c 2 + 3 + x = 32 + 9 * c 2 + (3 + x) by omega, k3, Int.add_assoc]
theorem c_begin (d : Nat) {E : zE} {m : zM} (o : Int) (o0 : 0 < o) (so : E.1 o = (11, 4)) (v n : Int) (hv : v = 0 ∨ v = 1) (hn : n = 0 ∨ n = 1) : zR zX5_begin (d) [zP o, zI v, zI n] m E E (fun r m' => r = none ∧ m' = zu (zu (zu m o 1 0) o 2 v) o 3 n) := by
  refine zR_go [zP o, zI v, zI n] (by decide +kernel) (Nat.le_of_ble_eq_true rfl) rfl rfl ?_
  refine z_aload_n dX5_begin_0 rfl ?_
  refine z_iconst dX5_begin_1 (by decide) ?_
  refine z_pI 1 rfl (fpX5_15 _) dX5_begin_2 so rfl ?_
  refine z_aload_n dX5_begin_5 rfl ?_
  refine z_iload_n dX5_begin_6 rfl ?_
  refine z_pZ 2 rfl (fpX5_19 _) dX5_begin_7 so rfl hv ?_
  refine z_aload_n dX5_begin_10 rfl ?_
  refine z_iload_n dX5_begin_11 rfl ?_
  refine z_pZ 3 rfl (fpX5_23 _) dX5_begin_12 so rfl hn ?_
  refine z_vret dX5_begin_15 rfl rfl ?_
  exact ⟨rfl, rfl⟩

theorem c_addKind (d : Nat) {E : zE} {m : zM} (o : Int) (o0 : 0 < o) (so : E.1 o = (11, 4)) (sr : E.1 (o + 1) = (1, 6)) (po : m o 0 = o + 1) (k s : Int) (hs : m o 1 = s) (s0 : 0 ≤ s) (s1 : s < 6) : zR zX5_addKind (d) [zP o, zI k] m E E (fun r m' => r = none ∧ m' = zu (zu m (o + 1) s k) o 1 (s + 1)) := by
  refine zR_go [zP o, zI k] (by decide +kernel) (Nat.le_of_ble_eq_true rfl) rfl rfl ?_
  refine z_aload_n dX5_addKind_0 rfl ?_
  refine z_gIv 1 rfl flX5_15 dX5_addKind_1 so rfl hs ?_
  refine z_bipush dX5_addKind_4 rfl (by decide) ?_
  refine z_icmp_ge (tgt := 29) dX5_addKind_6 rfl (fun h => absurd h (by omega)) (fun h6 => ?_)
  refine z_aload_n dX5_addKind_9 rfl ?_
  refine z_gP 0 rfl (r := o + 1) flX5_9 dX5_addKind_10 so rfl po (by omega) ?_
  refine z_aload_n dX5_addKind_13 rfl ?_
  refine z_gIv 1 rfl flX5_15 dX5_addKind_14 so rfl hs ?_
  refine z_iload_n dX5_addKind_17 rfl ?_
  refine z_iast dX5_addKind_18 sr (by omega) (by omega) ?_
  refine z_aload_n dX5_addKind_19 rfl ?_
  refine z_dup dX5_addKind_20 rfl ?_
  refine z_gIv 1 rfl flX5_15 dX5_addKind_21 so rfl ((zu_a (by omega)).trans hs) ?_
  refine z_iconst dX5_addKind_24 (by decide) ?_
  refine z_add dX5_addKind_25 (by omega) ?_
  refine z_pI 1 rfl (fpX5_15 _) dX5_addKind_26 so rfl ?_
  refine z_vret dX5_addKind_29 rfl rfl ?_
  exact ⟨rfl, rfl⟩

theorem l_become (d : Nat) {E : zE} {m : zM} {P : Option zV → zM → Prop} (o : Int) (o0 : 0 < o) (so : E.1 o = (11, 4)) (sr : E.1 (o + 1) = (1, 6)) (po : m o 0 = o + 1) (u : Int) (u0 : 0 < u) (su : E.1 u = (11, 4)) (sv : E.1 (u + 1) = (1, 6)) (pu : m u 0 = u + 1) (hou : o + 1 < u ∨ u + 1 < o) (s : Int) (hs : m u 1 = s) (s0 : 0 ≤ s) (s1 : s ≤ 6) : ∀ (j : Nat) (k : Int) (m1 : zM), (0 ≤ k) → (k + j = s) → (bcI m m1 o u k) → (∀ m2, bcI m m2 o u s → P none m2) → zA zX5_become (d + 1) E E P 14 [zP o, zP u, zI k] [] m1 E := by
  intro j
  induction j with
  | zero =>
    intro k m1 k0 hk hb hP
    refine z_iload_n dX5_become_14 rfl ?_
    refine z_aload_n dX5_become_15 rfl ?_
    refine z_gIv 1 rfl flX5_15 dX5_become_16 su rfl ((fO_at hb.1 (by omega) (by omega)).trans hs) ?_
    refine z_icmp_ge (tgt := 38) dX5_become_19 rfl (fun h19 => ?_) (fun h => absurd (by omega) h)
    refine z_vret dX5_become_38 rfl rfl ?_
    rw [show k = s by omega] at hb
    exact hP m1 hb
  | succ j ih =>
    intro k m1 k0 hk hb hP
    refine z_iload_n dX5_become_14 rfl ?_
    refine z_aload_n dX5_become_15 rfl ?_
    refine z_gIv 1 rfl flX5_15 dX5_become_16 su rfl ((fO_at hb.1 (by omega) (by omega)).trans hs) ?_
    refine z_icmp_ge (tgt := 38) dX5_become_19 rfl (fun h => absurd h (by omega)) (fun h19 => ?_)
    refine z_aload_n dX5_become_22 rfl ?_
    refine z_aload_n dX5_become_23 rfl ?_
    refine z_gP 0 rfl (r := u + 1) flX5_9 dX5_become_24 su rfl ((fO_at hb.1 (by omega) (by omega)).trans pu) (by omega) ?_
    refine z_iload_n dX5_become_27 rfl ?_
    refine z_iald dX5_become_28 sv (by omega) (by omega) ?_
    rw [fO_at hb.1 (by omega) (by omega)]
    refine z_callV mlX5_30 dX5_become_29 so (av := [_]) rfl rfl (Nat.le_of_ble_eq_true rfl) (c_addKind _ o o0 so sr ((fO_at hb.1 (by omega) (by omega)).trans po) _ k hb.2.1 k0 (by omega)) (Nat.le_refl _) (Nat.le_refl _) (Nat.le_refl _) (Nat.le_refl _) ?_
    rintro _ m2 ⟨rfl, e2⟩
    have hb2 := bcI_step hb e2
    refine z_inc dX5_become_32 rfl (by omega) ?_
    refine z_goto (tgt := 14) dX5_become_35 rfl ?_
    try dsimp only [zs0, zsI, zsP, zsN, zsJ, zsS, zst2, Nat.reduceAdd]
    exact ih (k + 1) m2 (by omega) (by omega) hb2 hP

theorem c_become (d : Nat) {E : zE} {m : zM} (o : Int) (o0 : 0 < o) (so : E.1 o = (11, 4)) (sr : E.1 (o + 1) = (1, 6)) (po : m o 0 = o + 1) (u : Int) (u0 : 0 < u) (su : E.1 u = (11, 4)) (sv : E.1 (u + 1) = (1, 6)) (pu : m u 0 = u + 1) (hou : o + 1 < u ∨ u + 1 < o) (s : Int) (hs : m u 1 = s) (s0 : 0 ≤ s) (s1 : s ≤ 6) (hv : m u 2 = 0 ∨ m u 2 = 1) (hn : m u 3 = 0 ∨ m u 3 = 1) : zR zX5_become (d + 1) [zP o, zP u] m E E (fun r m' => r = none ∧ bcI m m' o u s) := by
  refine zR_go [zP o, zP u, zN] (by decide +kernel) (Nat.le_of_ble_eq_true rfl) rfl rfl ?_
  refine z_aload_n dX5_become_0 rfl ?_
  refine z_aload_n dX5_become_1 rfl ?_
  refine z_gI 2 rfl flX5_19 dX5_become_2 su rfl ?_
  refine z_aload_n dX5_become_5 rfl ?_
  refine z_gI 3 rfl flX5_23 dX5_become_6 su rfl ?_
  refine z_callV mlX5_26 dX5_become_9 so (av := [_, _]) rfl rfl (Nat.le_of_ble_eq_true rfl) (c_begin _ o o0 so _ _ hv hn) (Nat.le_refl _) (Nat.le_refl _) (Nat.le_refl _) (Nat.le_refl _) ?_
  rintro _ m1 ⟨rfl, e1⟩
  refine z_iconst dX5_become_12 (by decide) ?_
  refine z_ist 2 dX5_become_13 rfl (Nat.le_of_ble_eq_true rfl) ?_
  try dsimp only [zs0, zsI, zsP, zsN, zsJ, zsS, zst2, Nat.reduceAdd]
  exact l_become d o o0 so sr po u u0 su sv pu hou s hs s0 s1 s.toNat 0 m1 (by omega) (by omega) (bcI_0 e1) (fun m2 h2 => ⟨rfl, h2⟩)

theorem c_setNormal (d : Nat) {E : zE} {m : zM} (t : Int) (t0 : 0 < t) (sT : shT E t) (pT : ptT m t) (c : Int → Int) (hw : wfD c) (hc : cTh m t c) (p v : Int) (p0 : 0 ≤ p) (p1' : p < c 2) (hv : v = 0 ∨ v = 1) (c' : Int → Int) (hw' : wfD c') (hx' : cMz c') (w q : Int → Int) (n : Int) (hfl : isFlat c' w q n) (hn : n ≤ 12) (ec : c' = eU c (32 + 9 * p + 2) v) : zR zX7_setNormal (d + 4) [zP t, zI p, zI v] m E E (fun r m' => r = none ∧ zfr (fE t) m m' ∧ ptT m' t ∧ cTh m' t c' ∧ cFl m' t c' w q n ∧ ∀ i, 0 ≤ i → i < 800 → m' (t + 11) i = 1) := by
  have b1 := hw.1
  have b2 := hw.2.1
  have b3 := hw.2.2.1
  refine zR_go [zP t, zI p, zI v] (by decide +kernel) (Nat.le_of_ble_eq_true rfl) rfl rfl ?_
  refine z_aload_n dX7_setNormal_0 rfl ?_
  refine z_gP 5 rfl (r := (t + 6)) flX7_30 dX7_setNormal_1 (sT0 sT) rfl (pT5 pT) (by omega) ?_
  refine z_iload_n dX7_setNormal_4 rfl ?_
  have hO := pO sT pT (p := p) (by omega) (by omega)
  have hPt := hc.2.2.2.2.2 p (by omega) (by omega)
  have hPw := hw.2.2.2.2.2 p (by omega) (by omega)
  refine z_aald dX7_setNormal_5 (sT6 sT) (by omega) (by omega) rfl (by omega) ?_
  refine z_iload_n dX7_setNormal_6 rfl ?_
  refine z_pZ 3 rfl (fpX7_85 _) dX7_setNormal_7 hO.1 rfl hv ?_
  obtain ⟨m1, em1⟩ : ∃ x, x = zu m (m (t + 6) p) 3 v := ⟨_, rfl⟩
  rw [← em1]
  have f1 : zfr (fE t) m m1 := by rw [em1]; exact zfr_uO zfr_rf hO.2.2.2
  have p1 : ptT m1 t := by rw [em1]; exact ptT_o pT ⟨by omega, by omega⟩ (by decide)
  have c1 : cTh m1 t c' := by rw [em1, ec]; exact cTh_no pT hw hc p0 p1'
  
  refine z_aload_n dX7_setNormal_10 rfl ?_
  refine z_callV mlX7_60 dX7_setNormal_11 (sT0 sT) (av := _) rfl rfl (Nat.le_of_ble_eq_true rfl) (c_renumber d t t0 sT p1 c' hw' c1 hx' w q n hfl hn) (Nat.le_refl _) (Nat.le_refl _) (Nat.le_refl _) (Nat.le_refl _) ?_
  rintro _ m9 ⟨rfl, f9, p9, c9, l9, v9⟩
  refine z_vret dX7_setNormal_14 rfl rfl ?_
  exact ⟨rfl, zfr_tr f1 (zfr_sub f9 fR_sub), p9, c9, l9, v9⟩

theorem c_tclear (d : Nat) {E : zE} {m : zM} (t : Int) (t0 : 0 < t) (sT : shT E t) (pT : ptT m t) (c' : Int → Int) (hw' : wfD c') (hx' : cMz c') (w q : Int → Int) (n : Int) (hfl : isFlat c' w q n) (hn : n ≤ 12) (z0 : c' 0 = 0) (z1 : c' 1 = 0) (z2 : c' 2 = 0) : zR zX7_clear (d + 4) [zP t] m E E (fun r m' => r = none ∧ zfr (fE t) m m' ∧ ptT m' t ∧ cTh m' t c' ∧ cFl m' t c' w q n ∧ ∀ i, 0 ≤ i → i < 800 → m' (t + 11) i = 1) := by
  refine zR_go [zP t] (by decide +kernel) (Nat.le_of_ble_eq_true rfl) rfl rfl ?_
  refine z_aload_n dX7_clear_0 rfl ?_
  refine z_iconst dX7_clear_1 (by decide) ?_
  refine z_pI 11 rfl (fpX7_50 _) dX7_clear_2 (sT0 sT) rfl ?_
  refine z_aload_n dX7_clear_5 rfl ?_
  refine z_iconst dX7_clear_6 (by decide) ?_
  refine z_pI 12 rfl (fpX7_54 _) dX7_clear_7 (sT0 sT) rfl ?_
  refine z_aload_n dX7_clear_10 rfl ?_
  refine z_iconst dX7_clear_11 (by decide) ?_
  refine z_pI 13 rfl (fpX7_57 _) dX7_clear_12 (sT0 sT) rfl ?_
  obtain ⟨m1, em1⟩ : ∃ x, x = zu (zu (zu m t 11 0) t 12 0) t 13 0 := ⟨_, rfl⟩
  rw [← em1]
  have f1 : zfr (fE t) m m1 := by rw [em1]; exact zfr_ut (zfr_ut (zfr_ut zfr_rf (by decide)) (by decide)) (by decide)
  have p1 : ptT m1 t := by rw [em1]; exact ptT_t (ptT_t (ptT_t pT (by decide)) (by decide)) (by decide)
  have c1 : cTh m1 t c' := by rw [em1]; exact cTh_nil z0 z1 z2
  refine z_aload_n dX7_clear_15 rfl ?_
  refine z_callV mlX7_60 dX7_clear_16 (sT0 sT) (av := _) rfl rfl (Nat.le_of_ble_eq_true rfl) (c_renumber d t t0 sT p1 c' hw' c1 hx' w q n hfl hn) (Nat.le_refl _) (Nat.le_refl _) (Nat.le_refl _) (Nat.le_refl _) ?_
  rintro _ m9 ⟨rfl, f9, p9, c9, l9, v9⟩
  refine z_vret dX7_clear_19 rfl rfl ?_
  exact ⟨rfl, zfr_tr f1 (zfr_sub f9 fR_sub), p9, c9, l9, v9⟩

theorem c_exchange (d : Nat) {E : zE} {m : zM} (t : Int) (t0 : 0 < t) (sT : shT E t) (pT : ptT m t) (c : Int → Int) (hw : wfD c) (hc : cTh m t c) (w0 q0 : Int → Int) (n0 : Int) (hl0 : wfL c w0 q0 n0) (hk0 : ∀ i, 0 ≤ i → i < n0 → m (t + 7) i = w0 i ∧ m (t + 8) i = q0 i) (i k : Int) (i0 : 0 ≤ i) (i1 : i < n0) (hk : k = i - cPre c (q0 i).toNat) (k0 : 0 ≤ k) (k1 : k + 1 < c (32 + 9 * q0 i)) (c' : Int → Int) (hw' : wfD c') (hx' : cMz c') (w q : Int → Int) (n : Int) (hfl : isFlat c' w q n) (hn : n ≤ 12) (ec : c' = eSw c (32 + 9 * q0 i + 3 + k)) : zR zX7_exchangeLetters (d + 4) [zP t, zI i] m E E (fun r m' => r = none ∧ zfr (fE t) m m' ∧ ptT m' t ∧ cTh m' t c' ∧ cFl m' t c' w q n ∧ ∀ i, 0 ≤ i → i < 800 → m' (t + 11) i = 1) := by
  have b1 := hw.1
  have b2 := hw.2.1
  have b3 := hw.2.2.1
  have hn0 := hl0.1
  have hqi : (0 ≤ w0 i ∧ w0 i < 2 * c 0) ∧ 0 ≤ q0 i ∧ q0 i < c 2 := hl0.2 i i0 i1
  have hki := hk0 i i0 i1
  have hpm := cPre_monoD hw (a := (q0 i).toNat) (b := (c 2).toNat) (by omega) (by omega)
  have hpn := cPre_nn hw (a := (q0 i).toNat) (by omega)
  refine zR_go [zP t, zI i, zN, zN, zN] (by decide +kernel) (Nat.le_of_ble_eq_true rfl) rfl rfl ?_
  refine z_aload_n dX7_exchangeLetters_0 rfl ?_
  refine z_gP 5 rfl (r := (t + 6)) flX7_30 dX7_exchangeLetters_1 (sT0 sT) rfl (pT5 pT) (by omega) ?_
  refine z_aload_n dX7_exchangeLetters_4 rfl ?_
  refine z_gP 7 rfl (r := (t + 8)) flX7_37 dX7_exchangeLetters_5 (sT0 sT) rfl (pT7 pT) (by omega) ?_
  refine z_iload_n dX7_exchangeLetters_8 rfl ?_
  refine z_ialv dX7_exchangeLetters_9 (sT8 sT) (by omega) (by omega) hki.2 ?_
  have hO := pO sT pT (p := (q0 i)) (by omega) (by omega)
  have hPt := hc.2.2.2.2.2 (q0 i) (by omega) (by omega)
  have hPw := hw.2.2.2.2.2 (q0 i) (by omega) (by omega)
  have hOd := pOd pT (p := q0 i) (by omega) (by omega)
  refine z_aald dX7_exchangeLetters_10 (sT6 sT) (by omega) (by omega) rfl (by omega) ?_
  refine z_ast 2 dX7_exchangeLetters_11 rfl (Nat.le_of_ble_eq_true rfl) ?_
  refine z_iload_n dX7_exchangeLetters_12 rfl ?_
  refine z_aload_n dX7_exchangeLetters_13 rfl ?_
  refine z_aload_n dX7_exchangeLetters_14 rfl ?_
  refine z_gP 7 rfl (r := (t + 8)) flX7_37 dX7_exchangeLetters_15 (sT0 sT) rfl (pT7 pT) (by omega) ?_
  refine z_iload_n dX7_exchangeLetters_18 rfl ?_
  refine z_ialv dX7_exchangeLetters_19 (sT8 sT) (by omega) (by omega) hki.2 ?_
  try dsimp only [zs0, zsI, zsP, zsN, zsJ, zsS, zst2, Nat.reduceAdd]
  refine z_callV mlX7_114 dX7_exchangeLetters_20 (sT0 sT) (av := [_]) rfl rfl (Nat.le_of_ble_eq_true rfl) (c_firstLetter _ t t0 sT pT c hw hc (q0 i) (by omega) (by omega)) (Nat.le_refl _) (Nat.le_refl _) (Nat.le_refl _) (Nat.le_refl _) ?_
  rintro _ _ ⟨rfl, rfl⟩
  refine z_sub dX7_exchangeLetters_23 (by omega) ?_
  rw [← hk]
  refine z_ist 3 dX7_exchangeLetters_24 rfl (Nat.le_of_ble_eq_true rfl) ?_
  refine z_iload_n dX7_exchangeLetters_25 rfl ?_
  try dsimp only [zs0, zsI, zsP, zsN, zsJ, zsS, zst2, Nat.reduceAdd]
  refine z_if_lt (tgt := 71) dX7_exchangeLetters_26 rfl (fun h => absurd h (by omega)) (fun h26 => ?_)
  refine z_iload_n dX7_exchangeLetters_29 rfl ?_
  refine z_iconst dX7_exchangeLetters_30 (by decide) ?_
  refine z_add dX7_exchangeLetters_31 (by omega) ?_
  refine z_aload_n dX7_exchangeLetters_32 rfl ?_
  refine z_gIv 1 rfl flX7_75 dX7_exchangeLetters_33 hO.1 rfl hPt.1 ?_
  refine z_icmp_ge (tgt := 71) dX7_exchangeLetters_36 rfl (fun h => absurd h (by omega)) (fun h36 => ?_)
  refine z_aload_n dX7_exchangeLetters_39 rfl ?_
  refine z_gP 0 rfl (r := m (t + 6) (q0 i) + 1) flX7_78 dX7_exchangeLetters_40 hO.1 rfl hO.2.2.1 (by omega) ?_
  refine z_iload_n dX7_exchangeLetters_43 rfl ?_
  refine z_ialv dX7_exchangeLetters_44 hO.2.1 (by omega) (by omega) (hPt.2.2.2 k k0 (by omega)) ?_
  refine z_istore dX7_exchangeLetters_45 (Nat.le_of_ble_eq_true rfl) ?_
  refine z_aload_n dX7_exchangeLetters_47 rfl ?_
  refine z_gP 0 rfl (r := m (t + 6) (q0 i) + 1) flX7_78 dX7_exchangeLetters_48 hO.1 rfl hO.2.2.1 (by omega) ?_
  refine z_iload_n dX7_exchangeLetters_51 rfl ?_
  refine z_aload_n dX7_exchangeLetters_52 rfl ?_
  refine z_gP 0 rfl (r := m (t + 6) (q0 i) + 1) flX7_78 dX7_exchangeLetters_53 hO.1 rfl hO.2.2.1 (by omega) ?_
  refine z_iload_n dX7_exchangeLetters_56 rfl ?_
  refine z_iconst dX7_exchangeLetters_57 (by decide) ?_
  refine z_add dX7_exchangeLetters_58 (by omega) ?_
  refine z_ialv dX7_exchangeLetters_59 hO.2.1 (by omega) (by omega) (hPt.2.2.2 (k + 1) (by omega) k1) ?_
  refine z_iast dX7_exchangeLetters_60 hO.2.1 (by omega) (by omega) ?_
  refine z_aload_n dX7_exchangeLetters_61 rfl ?_
  refine z_gP 0 rfl (r := m (t + 6) (q0 i) + 1) flX7_78 dX7_exchangeLetters_62 hO.1 rfl ((zu_a (by omega)).trans hO.2.2.1) (by omega) ?_
  refine z_iload_n dX7_exchangeLetters_65 rfl ?_
  refine z_iconst dX7_exchangeLetters_66 (by decide) ?_
  refine z_add dX7_exchangeLetters_67 (by omega) ?_
  refine z_iload dX7_exchangeLetters_68 rfl ?_
  refine z_iast dX7_exchangeLetters_70 hO.2.1 (by omega) (by omega) ?_
  obtain ⟨m1, em1⟩ : ∃ x, x = zu (zu m (m (t + 6) (q0 i) + 1) k (c (32 + 9 * q0 i + 3 + (k + 1)))) (m (t + 6) (q0 i) + 1) (k + 1) (c (32 + 9 * q0 i + 3 + k)) := ⟨_, rfl⟩
  rw [← em1]
  have f1 : zfr (fE t) m m1 := by rw [em1]; exact zfr_uO' (zfr_uO' zfr_rf hO.2.2.2) hO.2.2.2
  have p1 : ptT m1 t := by rw [em1]; exact ptT_r (ptT_r pT hOd) hOd
  have c1 : cTh m1 t c' := by rw [em1, ec]; exact cTh_sw pT hw hc hqi.2.1 hqi.2.2 k0 k1
  refine z_aload_n dX7_exchangeLetters_71 rfl ?_
  try dsimp only [zs0, zsI, zsP, zsN, zsJ, zsS, zst2, Nat.reduceAdd]
  refine z_callV mlX7_60 dX7_exchangeLetters_72 (sT0 sT) (av := _) rfl rfl (Nat.le_of_ble_eq_true rfl) (c_renumber d t t0 sT p1 c' hw' c1 hx' w q n hfl hn) (Nat.le_refl _) (Nat.le_refl _) (Nat.le_refl _) (Nat.le_refl _) ?_
  rintro _ m9 ⟨rfl, f9, p9, c9, l9, v9⟩
  refine z_vret dX7_exchangeLetters_75 rfl rfl ?_
  exact ⟨rfl, zfr_tr f1 (zfr_sub f9 fR_sub), p9, c9, l9, v9⟩

theorem c_hasRoom (d : Nat) {E : zE} {m : zM} (t : Int) (t0 : 0 < t) (sT : shT E t) (pT : ptT m t) (c : Int → Int) (hw : wfD c) (hc : cTh m t c) (n : Int) (nb : 0 ≤ n ∧ n ≤ 12) (hn : m t 14 = n) (p : Int) (p0 : 0 ≤ p) (p1 : p < c 2) (hv : cVx c ≤ 5) : zR zX7_hasRoomForCopy (d + 2) [zP t, zI p] m E E (fun r m' => r = some (zI (zb (¬ (c 2 = 8 ∨ (c (32 + 9 * p + 1) = 1 ∧ cVx c = 5) ∨ 12 < n + c (32 + 9 * p))))) ∧ m = m') := by
  have b1 := hw.1
  have b2 := hw.2.1
  have b3 := hw.2.2.1
  refine zR_go [zP t, zI p] (by decide +kernel) (Nat.le_of_ble_eq_true rfl) rfl rfl ?_
  refine z_aload_n dX7_hasRoomForCopy_0 rfl ?_
  refine z_gIv 13 rfl flX7_57 dX7_hasRoomForCopy_1 (sT0 sT) rfl hc.2.2.1 ?_
  refine z_bipush dX7_hasRoomForCopy_4 rfl (by decide) ?_
  refine z_icmp_ge (tgt := 28) dX7_hasRoomForCopy_6 rfl (fun h6 => ?_) (fun h6 => ?_)
  · refine z_iconst dX7_hasRoomForCopy_28 (by decide) ?_
    refine z_zret dX7_hasRoomForCopy_29 rfl (by first | omega | exact zb01 _) rfl ?_
    exact ⟨by rw [zb_f (by omega)], rfl⟩
  · refine z_aload_n dX7_hasRoomForCopy_9 rfl ?_
    refine z_gIv 14 rfl flX7_69 dX7_hasRoomForCopy_10 (sT0 sT) rfl hn ?_
    refine z_aload_n dX7_hasRoomForCopy_13 rfl ?_
    refine z_gP 5 rfl (r := (t + 6)) flX7_30 dX7_hasRoomForCopy_14 (sT0 sT) rfl (pT5 pT) (by omega) ?_
    refine z_iload_n dX7_hasRoomForCopy_17 rfl ?_
    have hO := pO sT pT (p := p) (by omega) (by omega)
    have hPt := hc.2.2.2.2.2 p (by omega) (by omega)
    have hPw := hw.2.2.2.2.2 p (by omega) (by omega)
    refine z_aald dX7_hasRoomForCopy_18 (sT6 sT) (by omega) (by omega) rfl (by omega) ?_
    refine z_gIv 1 rfl flX7_75 dX7_hasRoomForCopy_19 hO.1 rfl hPt.1 ?_
    refine z_add dX7_hasRoomForCopy_22 (by omega) ?_
    refine z_bipush dX7_hasRoomForCopy_23 rfl (by decide) ?_
    refine z_icmp_le (tgt := 30) dX7_hasRoomForCopy_25 rfl (fun h25 => ?_) (fun h25 => ?_)
    · refine z_aload_n dX7_hasRoomForCopy_30 rfl ?_
      refine z_gP 5 rfl (r := (t + 6)) flX7_30 dX7_hasRoomForCopy_31 (sT0 sT) rfl (pT5 pT) (by omega) ?_
      refine z_iload_n dX7_hasRoomForCopy_34 rfl ?_
      refine z_aald dX7_hasRoomForCopy_35 (sT6 sT) (by omega) (by omega) rfl (by omega) ?_
      refine z_gIv 2 rfl flX7_101 dX7_hasRoomForCopy_36 hO.1 rfl hPt.2.1 ?_
      refine z_if_eq (tgt := 50) dX7_hasRoomForCopy_39 rfl (fun h39 => ?_) (fun h39 => ?_)
      · refine z_iconst dX7_hasRoomForCopy_50 (by decide) ?_
        refine z_goto (tgt := 55) dX7_hasRoomForCopy_51 rfl ?_
        refine z_zret dX7_hasRoomForCopy_55 rfl (by first | omega | exact zb01 _) rfl ?_
        exact ⟨by rw [zb_t (by omega)], rfl⟩
      · refine z_aload_n dX7_hasRoomForCopy_42 rfl ?_
        refine z_callV mlX7_140 dX7_hasRoomForCopy_43 (sT0 sT) (av := _) rfl rfl (Nat.le_of_ble_eq_true rfl) (c_vertexCount _ t t0 sT pT c hw hc) (Nat.le_refl _) (Nat.le_refl _) (Nat.le_refl _) (Nat.le_refl _) ?_
        rintro _ _ ⟨rfl, rfl⟩
        refine z_iconst dX7_hasRoomForCopy_46 (by decide) ?_
        refine z_icmp_ge (tgt := 54) dX7_hasRoomForCopy_47 rfl (fun h47 => ?_) (fun h47 => ?_)
        · refine z_iconst dX7_hasRoomForCopy_54 (by decide) ?_
          refine z_zret dX7_hasRoomForCopy_55 rfl (by first | omega | exact zb01 _) rfl ?_
          exact ⟨by rw [zb_f (by omega)], rfl⟩
        · refine z_iconst dX7_hasRoomForCopy_50 (by decide) ?_
          refine z_goto (tgt := 55) dX7_hasRoomForCopy_51 rfl ?_
          refine z_zret dX7_hasRoomForCopy_55 rfl (by first | omega | exact zb01 _) rfl ?_
          exact ⟨by rw [zb_t (by omega)], rfl⟩
    · refine z_iconst dX7_hasRoomForCopy_28 (by decide) ?_
      refine z_zret dX7_hasRoomForCopy_29 rfl (by first | omega | exact zb01 _) rfl ?_
      exact ⟨by rw [zb_f (by omega)], rfl⟩

theorem c_copyPoint (d : Nat) {E : zE} {m : zM} (t : Int) (t0 : 0 < t) (sT : shT E t) (pT : ptT m t) (c : Int → Int) (hw : wfD c) (hc : cTh m t c) (p : Int) (p0 : 0 ≤ p) (p1' : p < c 2) (h8 : c 2 < 8) (c' : Int → Int) (hw' : wfD c') (hx' : cMz c') (w q : Int → Int) (n : Int) (hfl : isFlat c' w q n) (hn : n ≤ 12) (ec : c' = eN (eBlk c (fun b => if b = c 2 then p else b)) (c 2 + 1)) : zR zX7_copyPoint (d + 4) [zP t, zI p] m E E (fun r m' => r = none ∧ zfr (fE t) m m' ∧ ptT m' t ∧ cTh m' t c' ∧ cFl m' t c' w q n ∧ ∀ i, 0 ≤ i → i < 800 → m' (t + 11) i = 1) := by
  have b1 := hw.1
  have b2 := hw.2.1
  have b3 := hw.2.2.1
  have hO := pO sT pT (p := p) (by omega) (by omega)
  have hPt := hc.2.2.2.2.2 p (by omega) (by omega)
  have hPw := hw.2.2.2.2.2 p (by omega) (by omega)
  have hOb := pO sT pT (p := c 2) (by omega) (by omega)
  have hOd := pOd pT (p := p) (by omega) (by omega)
  have hOe := pOd pT (p := c 2) (by omega) (by omega)
  have hne : m (t + 6) (c 2) ≠ m (t + 6) p := fun e => by have := pT.2.2.2 _ _ (by omega) (by omega) p0 (by omega) e; omega
  obtain ⟨ia, ea, ia0, ia1⟩ := pOd pT (p := p) (by omega) (by omega)
  obtain ⟨ib, eb, ib0, ib1⟩ := pOd pT (p := c 2) (by omega) (by omega)
  refine zR_go [zP t, zI p] (by decide +kernel) (Nat.le_of_ble_eq_true rfl) rfl rfl ?_
  refine z_aload_n dX7_copyPoint_0 rfl ?_
  refine z_gIv 13 rfl flX7_57 dX7_copyPoint_1 (sT0 sT) rfl hc.2.2.1 ?_
  refine z_bipush dX7_copyPoint_4 rfl (by decide) ?_
  refine z_icmp_ge (tgt := 37) dX7_copyPoint_6 rfl (fun h => absurd h (by omega)) (fun h6 => ?_)
  refine z_aload_n dX7_copyPoint_9 rfl ?_
  refine z_gP 5 rfl (r := (t + 6)) flX7_30 dX7_copyPoint_10 (sT0 sT) rfl (pT5 pT) (by omega) ?_
  refine z_aload_n dX7_copyPoint_13 rfl ?_
  refine z_gIv 13 rfl flX7_57 dX7_copyPoint_14 (sT0 sT) rfl hc.2.2.1 ?_
  refine z_aald dX7_copyPoint_17 (sT6 sT) (by omega) (by omega) rfl (by omega) ?_
  refine z_aload_n dX7_copyPoint_18 rfl ?_
  refine z_gP 5 rfl (r := (t + 6)) flX7_30 dX7_copyPoint_19 (sT0 sT) rfl (pT5 pT) (by omega) ?_
  refine z_iload_n dX7_copyPoint_22 rfl ?_
  refine z_aald dX7_copyPoint_23 (sT6 sT) (by omega) (by omega) rfl (by omega) ?_
  refine z_callV mlX7_143 dX7_copyPoint_24 hOb.1 (av := [_]) rfl rfl (Nat.le_of_ble_eq_true rfl) (c_become _ (m (t + 6) (c 2)) (by omega) hOb.1 hOb.2.1 hOb.2.2.1 (m (t + 6) p) (by omega) hO.1 hO.2.1 hO.2.2.1 (by omega) _ hPt.1 (by omega) (by omega) (by rw [hPt.2.1]; exact hPw.2.1) (by rw [hPt.2.2.1]; exact hPw.2.2.1)) (Nat.le_refl _) (Nat.le_refl _) (Nat.le_refl _) (Nat.le_refl _) ?_
  rintro _ m0 ⟨rfl, b0⟩
  refine z_aload_n dX7_copyPoint_27 rfl ?_
  refine z_dup dX7_copyPoint_28 rfl ?_
  refine z_gIv 13 rfl flX7_57 dX7_copyPoint_29 (sT0 sT) rfl ((fO_at b0.1 (by omega) (by omega)).trans hc.2.2.1) ?_
  refine z_iconst dX7_copyPoint_32 (by decide) ?_
  refine z_add dX7_copyPoint_33 (by omega) ?_
  refine z_pI 13 rfl (fpX7_57 _) dX7_copyPoint_34 (sT0 sT) rfl ?_
  obtain ⟨m1, em1⟩ : ∃ x, x = zu m0 t 13 (c 2 + 1) := ⟨_, rfl⟩
  rw [← em1]
  have f1 : zfr (fE t) m m1 := by rw [em1]; exact zfr_ut (zfr_O b0.1 hOb.2.2.2) (by decide)
  have p1 : ptT m1 t := by rw [em1]; exact ptT_t (ptT_O pT b0.1 hOe) (by decide)
  have c1 : cTh m1 t c' := by rw [em1, ec]; exact cTh_cp pT hw hc p0 p1' h8 b0
  refine z_aload_n dX7_copyPoint_37 rfl ?_
  refine z_callV mlX7_60 dX7_copyPoint_38 (sT0 sT) (av := _) rfl rfl (Nat.le_of_ble_eq_true rfl) (c_renumber d t t0 sT p1 c' hw' c1 hx' w q n hfl hn) (Nat.le_refl _) (Nat.le_refl _) (Nat.le_refl _) (Nat.le_refl _) ?_
  rintro _ m9 ⟨rfl, f9, p9, c9, l9, v9⟩
  refine z_vret dX7_copyPoint_41 rfl rfl ?_
  exact ⟨rfl, zfr_tr f1 (zfr_sub f9 fR_sub), p9, c9, l9, v9⟩
