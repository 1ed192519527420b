def shB (p q b : Int) : Int := if q < b ∧ b ≤ p then b - 1 else b
theorem f6_at {m m' : zM} {t a j : Int} (h : zfr [(t + 6, none)] m m') (ha : a ≠ t + 6) : m' a j = m a j := h a j (by simp; exact ha) (by simp)
theorem gM_rg {p u b k : Int} (p0 : 0 ≤ p) (p1 : p < k) (u0 : 0 ≤ u) (u1 : u < k) (b0 : 0 ≤ b) (b1 : b < k) : 0 ≤ gM p u b ∧ gM p u b < k := by
  unfold gM
  repeat' split
  all_goals omega
theorem gM_inj {p u a b : Int} (h : gM p u a = gM p u b) : a = b := by
  unfold gM at h
  repeat' split at h
  all_goals omega
theorem ptT_mv {m m' : zM} {t p u : Int} (h : ptT m t) (f : zfr [(t + 6, none)] m m') (g : ∀ b, 0 ≤ b → b < 8 → m' (t + 6) b = m (t + 6) (gM p u b)) (p0 : 0 ≤ p) (p1 : p < 8) (u0 : 0 ≤ u) (u1 : u < 8) : ptT m' t := by
  obtain ⟨⟨a1, a2, a3, a4, a5, a6, a7, a8, a9, a10, a11⟩, g2, g3, g4⟩ := h
  refine ⟨⟨?_, ?_, ?_, ?_, ?_, ?_, ?_, ?_, ?_, ?_, ?_⟩, fun i q0 q1 => by rw [f6_at f (by omega)]; exact g2 i q0 q1, fun b q0 q1 => ?_, fun a b b1 b2 b3 b4 e => ?_⟩
  · rw [f6_at f (by omega)]; assumption
  · rw [f6_at f (by omega)]; assumption
  · rw [f6_at f (by omega)]; assumption
  · rw [f6_at f (by omega)]; assumption
  · rw [f6_at f (by omega)]; assumption
  · rw [f6_at f (by omega)]; assumption
  · rw [f6_at f (by omega)]; assumption
  · rw [f6_at f (by omega)]; assumption
  · rw [f6_at f (by omega)]; assumption
  · rw [f6_at f (by omega)]; assumption
  · rw [f6_at f (by omega)]; assumption
  · rw [g b q0 q1]
    have := gM_rg (b := b) p0 p1 u0 u1 q0 q1
    exact g3 _ this.1 this.2
  · rw [g a b1 b2, g b b3 b4] at e
    have ha := gM_rg (b := a) p0 p1 u0 u1 b1 b2
    have hb := gM_rg (b := b) p0 p1 u0 u1 b3 b4
    exact gM_inj (g4 _ _ ha.1 ha.2 hb.1 hb.2 e)
theorem eB_at {c g : Int → Int} {v b k : Int} (b0 : 0 ≤ b) (b1 : b < 8) (k0 : 0 ≤ k) (k1 : k < 9) : eN (eBlk c g) v (32 + 9 * b + k) = c (32 + 9 * g b + k) := by rw [eN_o (by omega), eBlk_at b0 b1 k0 k1]
theorem eB_0 {c g : Int → Int} {v b : Int} (b0 : 0 ≤ b) (b1 : b < 8) : eN (eBlk c g) v (32 + 9 * b) = c (32 + 9 * g b) := by
  have := eB_at (c := c) (g := g) (v := v) (k := 0) b0 b1 (by omega) (by omega)
  simpa using this
theorem cTh_mv {m m' : zM} {t p u : Int} {c : Int → Int} (hp : ptT m t) (hw : wfD c) (h : cTh m t c) (f : zfr [(t + 6, none)] m m') (g : ∀ b, 0 ≤ b → b < 8 → m' (t + 6) b = m (t + 6) (gM p u b)) (p0 : 0 ≤ p) (p1 : p < c 2) (u0 : 0 ≤ u) (u1 : u < c 2) : cTh m' t (eN (eBlk c (gM p u)) (c 2)) := by
  have w1 := hw.1
  have w2 := hw.2.1
  have w3 := hw.2.2.1
  obtain ⟨h1, h2, h3, h4, h5, h6⟩ := h
  have eo : ∀ x, x ≠ 2 → x < 32 → eN (eBlk c (gM p u)) (c 2) x = c x := fun x q0 q1 => by rw [eN_o q0, eBlk_o (by omega)]
  refine ⟨by rw [f6_at f (by omega), h1, eo 0 (by omega) (by omega)], by rw [f6_at f (by omega), h2, eo 1 (by omega) (by omega)], by rw [f6_at f (by omega), h3, eN_2], fun x q0 q1 => ?_, fun k q0 q1 => ?_, fun b q0 q1 => ?_⟩
  · rw [eo 0 (by omega) (by omega)] at q1
    rw [f6_at f (by omega), f6_at f (by omega), f6_at f (by omega), eo _ (by omega) (by omega), eo _ (by omega) (by omega), eo _ (by omega) (by omega)]
    exact h4 x q0 q1
  · rw [eo 1 (by omega) (by omega)] at q1
    rw [f6_at f (by omega), f6_at f (by omega), eo _ (by omega) (by omega), eo _ (by omega) (by omega)]
    exact h5 k q0 q1
  · rw [eN_2] at q1
    have hb := gM_rg (b := b) p0 p1 u0 u1 q0 q1
    have hq := h6 _ hb.1 hb.2
    have hbw := hw.2.2.2.2.2 _ hb.1 hb.2
    obtain ⟨i, i0, i1, i2⟩ := hp.2.2.1 (gM p u b) hb.1 (by omega)
    rw [g b q0 (by omega)]
    unfold cPt at hq ⊢
    rw [eB_0 q0 (by omega), eB_at q0 (by omega) (by omega) (by omega), eB_at q0 (by omega) (by omega) (by omega), f6_at f (by omega), f6_at f (by omega), f6_at f (by omega)]
    refine ⟨hq.1, hq.2.1, hq.2.2.1, fun k r0 r1 => ?_⟩
    rw [f6_at f (by omega), Int.add_assoc, eB_at q0 (by omega) (by omega) (by omega), ← Int.add_assoc]
    exact hq.2.2.2 k r0 r1
theorem eN_wfD {c g : Int → Int} {v : Int} (hw : wfD c) (hv : 0 ≤ v ∧ v ≤ 8) (hg : ∀ b, 0 ≤ b → b < v → 0 ≤ g b ∧ g b < c 2) : wfD (eN (eBlk c g) v) := by
  obtain ⟨w1, w2, w3, w4, w5, w6⟩ := hw
  have e0 : eN (eBlk c g) v 0 = c 0 := by rw [eN_o (by decide), eBlk_o (by omega)]
  have e1 : eN (eBlk c g) v 1 = c 1 := by rw [eN_o (by decide), eBlk_o (by omega)]
  refine ⟨by rw [e0]; exact w1, by rw [e1]; exact w2, by rw [eN_2]; exact hv, fun f q0 q1 => ?_, fun k q0 q1 => ?_, fun p q0 q1 => ?_⟩
  · rw [e0] at q1
    rw [eN_o (by omega), eN_o (by omega), eN_o (by omega), eBlk_o (by omega), eBlk_o (by omega), eBlk_o (by omega)]
    exact w4 f q0 q1
  · rw [e1] at q1
    rw [e0, eN_o (by omega), eN_o (by omega), eBlk_o (by omega), eBlk_o (by omega)]
    exact w5 k q0 q1
  · rw [eN_2] at q1
    have hb := hg p q0 q1
    have h := w6 (g p) hb.1 hb.2
    rw [e0, eB_0 q0 (by omega), eB_at q0 (by omega) (by omega) (by omega), eB_at q0 (by omega) (by omega) (by omega)]
    refine ⟨h.1, h.2.1, h.2.2.1, fun k r0 r1 => ?_⟩
    rw [Int.add_assoc, eB_at q0 (by omega) (by omega) (by omega), ← Int.add_assoc]
    exact h.2.2.2 k r0 r1
theorem eN_cMz {c g : Int → Int} {v : Int} (hw : wfD c) (hx : cMz c) : cMz (eN (eBlk c g) v) := by
  have w1 := hw.1
  have w2 := hw.2.1
  have eo : ∀ x, x ≠ 2 → x < 32 → eN (eBlk c g) v x = c x := fun x q0 q1 => by rw [eN_o q0, eBlk_o (by omega)]
  intro k q0 q1
  rw [eo 1 (by omega) (by omega)] at q1
  have hk := hw.2.2.2.2.1 k q0 q1
  rw [eo (24 + 2 * k) (by omega) (by omega), eo (24 + 2 * k + 1) (by omega) (by omega), eo _ (by omega) (by omega), eo _ (by omega) (by omega)]
  exact hx k q0 q1
theorem cTh_less {m : zM} {t p : Int} {c : Int → Int} (hw : wfD c) (h : cTh m t (eN (eBlk c (gM p (c 2 - 1))) (c 2))) (p0 : 0 ≤ p) (p1 : p < c 2) : cTh (zu m t 13 (c 2 - 1)) t (eN (eBlk c (gD p (c 2 - 1))) (c 2 - 1)) := by
  have w1 := hw.1
  have w2 := hw.2.1
  have w3 := hw.2.2.1
  obtain ⟨h1, h2, h3, h4, h5, h6⟩ := h
  have eo : ∀ (g : Int → Int) (v x : Int), x ≠ 2 → x < 32 → eN (eBlk c g) v x = c x := fun g v x q0 q1 => by rw [eN_o q0, eBlk_o (by omega)]
  rw [eo _ _ 0 (by omega) (by omega)] at h1 h4
  rw [eo _ _ 1 (by omega) (by omega)] at h2 h5
  rw [eN_2] at h3 h6
  refine ⟨by rw [zu_j (by decide), eo _ _ 0 (by omega) (by omega)]; exact h1, by rw [zu_j (by decide), eo _ _ 1 (by omega) (by omega)]; exact h2, by rw [zu_s, eN_2], fun x q0 q1 => ?_, fun k q0 q1 => ?_, fun b q0 q1 => ?_⟩
  · rw [eo _ _ 0 (by omega) (by omega)] at q1
    have := h4 x q0 q1
    rw [eo _ _ _ (by omega) (by omega), eo _ _ _ (by omega) (by omega), eo _ _ _ (by omega) (by omega)] at this
    rw [zu_a (by omega), zu_a (by omega), zu_a (by omega), eo _ _ _ (by omega) (by omega), eo _ _ _ (by omega) (by omega), eo _ _ _ (by omega) (by omega)]
    exact this
  · rw [eo _ _ 1 (by omega) (by omega)] at q1
    have := h5 k q0 q1
    rw [eo _ _ _ (by omega) (by omega), eo _ _ _ (by omega) (by omega)] at this
    rw [zu_a (by omega), zu_a (by omega), eo _ _ _ (by omega) (by omega), eo _ _ _ (by omega) (by omega)]
    exact this
  · rw [eN_2] at q1
    have hg : gM p (c 2 - 1) b = gD p (c 2 - 1) b := by unfold gM gD; repeat' split; all_goals omega
    have hgr : 0 ≤ gD p (c 2 - 1) b ∧ gD p (c 2 - 1) b < c 2 := by unfold gD; split <;> omega
    have hbw := hw.2.2.2.2.2 _ hgr.1 hgr.2
    have hq := h6 b q0 (by omega)
    rw [zu_a (b := t + 6) (by omega)]
    unfold cPt at hq ⊢
    rw [eB_0 q0 (by omega), eB_at q0 (by omega) (by omega) (by omega), eB_at q0 (by omega) (by omega) (by omega), hg] at hq
    rw [eB_0 q0 (by omega), eB_at q0 (by omega) (by omega) (by omega), eB_at q0 (by omega) (by omega) (by omega)]
    by_cases et : m (t + 6) b = t
    · rw [et] at hq ⊢
      rw [zu_j (by decide), zu_j (by decide), zu_j (by decide)]
      refine ⟨hq.1, hq.2.1, hq.2.2.1, fun k r0 r1 => ?_⟩
      have := hq.2.2.2 k r0 r1
      rw [Int.add_assoc, eB_at q0 (by omega) (by omega) (by omega), hg, ← Int.add_assoc] at this
      rw [zu_a (by omega), Int.add_assoc, eB_at q0 (by omega) (by omega) (by omega), ← Int.add_assoc]
      exact this
    · rw [zu_a et, zu_a et, zu_a et]
      refine ⟨hq.1, hq.2.1, hq.2.2.1, fun k r0 r1 => ?_⟩
      have := hq.2.2.2 k r0 r1
      rw [Int.add_assoc, eB_at q0 (by omega) (by omega) (by omega), hg, ← Int.add_assoc] at this
      rw [Int.add_assoc, eB_at q0 (by omega) (by omega) (by omega), ← Int.add_assoc]
      by_cases ey : m (t + 6) b + 1 = t
      · rw [ey] at this ⊢; rw [zu_j (by omega)]; exact this
      · rw [zu_a ey]; exact this
theorem ptT_x {m : zM} {t a j x : Int} (h : ptT m t) (ha : t + 1 ≤ a ∧ a ≤ t + 5) : ptT (zu m a j x) t := ptT_ag h (fun k _ _ => zu_a (by omega)) (fun k _ _ => zu_a (by omega)) (fun p _ _ => zu_a (by omega))
/-- fields and mixes change, points stand -/
theorem cTh_fm {m m' : zM} {t : Int} {c c' : Int → Int} (hp : ptT m t) (hw : wfD c) (h : cTh m t c) (e2 : c' 2 = c 2) (ep : ∀ x, 32 ≤ x → c' x = c x) (h11 : m' t 11 = c' 0) (h12 : m' t 12 = c' 1) (h13 : m' t 13 = m t 13)
    (hf : ∀ f, 0 ≤ f → f < c' 0 → m' (t + 1) f = c' (4 + 3 * f) ∧ m' (t + 2) f = c' (4 + 3 * f + 1) ∧ m' (t + 3) f = c' (4 + 3 * f + 2)) (hk : ∀ k, 0 ≤ k → k < c' 1 → m' (t + 4) k = c' (24 + 2 * k) ∧ m' (t + 5) k = c' (24 + 2 * k + 1))
    (hs : ∀ a j, t + 6 ≤ a → m' a j = m a j) : cTh m' t c' := by
  have w3 := hw.2.2.1
  refine ⟨h11, h12, by rw [h13, e2]; exact h.2.2.1, hf, hk, fun p q0 q1 => ?_⟩
  rw [e2] at q1
  have hb := h.2.2.2.2.2 p q0 q1
  obtain ⟨i, i0, i1, i2⟩ := hp.2.2.1 p q0 (by omega)
  rw [hs (t + 6) _ (by omega)]
  unfold cPt at hb ⊢
  rw [hs _ _ (by omega), hs _ _ (by omega), hs _ _ (by omega), ep _ (by omega), ep _ (by omega), ep _ (by omega)]
  exact ⟨hb.1, hb.2.1, hb.2.2.1, fun k r0 r1 => by rw [hs _ _ (by omega), ep _ (by omega)]; exact hb.2.2.2 k r0 r1⟩
theorem cTh_aF {m : zM} {t l a b : Int} {c : Int → Int} (hp : ptT m t) (hw : wfD c) (h : cTh m t c) (h6 : c 0 < 6) : cTh (zu (zu (zu (zu m (t + 1) (c 0) l) (t + 2) (c 0) a) (t + 3) (c 0) b) t 11 (c 0 + 1)) t (cAddF c l a b) := by
  have w1 := hw.1
  have w2 := hw.2.1
  have w3 := hw.2.2.1
  have e0 : cAddF c l a b 0 = c 0 + 1 := if_pos rfl
  have eo : ∀ x, x ≠ 0 → x ≠ 4 + 3 * c 0 + 2 → x ≠ 4 + 3 * c 0 + 1 → x ≠ 4 + 3 * c 0 → cAddF c l a b x = c x := fun x q0 q1 q2 q3 => by unfold cAddF; rw [if_neg q0, if_neg q1, if_neg q2, if_neg q3]
  refine cTh_fm hp hw h (eo 2 (by omega) (by omega) (by omega) (by omega)) (fun x q => eo x (by omega) (by omega) (by omega) (by omega)) (by rw [zu_s, e0]) (by rw [zu_j (by decide), zu_a (by omega), zu_a (by omega), zu_a (by omega), eo 1 (by omega) (by omega) (by omega) (by omega)]; exact h.2.1) (by rw [zu_j (by decide), zu_a (by omega), zu_a (by omega), zu_a (by omega)]) (fun f q0 q1 => ?_) (fun k q0 q1 => ?_) (fun x j q => by rw [zu_a (by omega), zu_a (by omega), zu_a (by omega), zu_a (by omega)])
  · rw [e0] at q1
    have v1 : zu (zu (zu (zu m (t + 1) (c 0) l) (t + 2) (c 0) a) (t + 3) (c 0) b) t 11 (c 0 + 1) (t + 1) f = zu m (t + 1) (c 0) l (t + 1) f := by rw [zu_a (by omega), zu_a (by omega), zu_a (by omega)]
    have v2 : zu (zu (zu (zu m (t + 1) (c 0) l) (t + 2) (c 0) a) (t + 3) (c 0) b) t 11 (c 0 + 1) (t + 2) f = zu m (t + 2) (c 0) a (t + 2) f := by
      rw [zu_a (by omega), zu_a (by omega)]
      by_cases e : f = c 0
      · rw [e, zu_s, zu_s]
      · rw [zu_j e, zu_j e, zu_j e]
    have v3 : zu (zu (zu (zu m (t + 1) (c 0) l) (t + 2) (c 0) a) (t + 3) (c 0) b) t 11 (c 0 + 1) (t + 3) f = zu m (t + 3) (c 0) b (t + 3) f := by
      rw [zu_a (by omega)]
      by_cases e : f = c 0
      · rw [e, zu_s, zu_s]
      · rw [zu_j e, zu_j e, zu_j e, zu_j e]
    rw [v1, v2, v3]
    by_cases e : f = c 0
    · subst e
      rw [zu_s, zu_s, zu_s]
      refine ⟨?_, ?_, ?_⟩
      · unfold cAddF; rw [if_neg (by omega), if_neg (by omega), if_neg (by omega), if_pos rfl]
      · unfold cAddF; rw [if_neg (by omega), if_neg (by omega), if_pos rfl]
      · unfold cAddF; rw [if_neg (by omega), if_pos rfl]
    · rw [zu_j e, zu_j e, zu_j e, eo _ (by omega) (by omega) (by omega) (by omega), eo _ (by omega) (by omega) (by omega) (by omega), eo _ (by omega) (by omega) (by omega) (by omega)]
      exact h.2.2.2.1 f q0 (by omega)
  · rw [eo 1 (by omega) (by omega) (by omega) (by omega)] at q1
    rw [zu_a (by omega), zu_a (by omega), zu_a (by omega), zu_a (by omega), zu_a (by omega), zu_a (by omega), zu_a (by omega), zu_a (by omega), eo _ (by omega) (by omega) (by omega) (by omega), eo _ (by omega) (by omega) (by omega) (by omega)]
    exact h.2.2.2.2.1 k q0 q1
theorem cTh_aM {m : zM} {t f g : Int} {c : Int → Int} (hp : ptT m t) (hw : wfD c) (h : cTh m t c) (h4 : c 1 < 4) : cTh (zu (zu (zu m (t + 4) (c 1) f) (t + 5) (c 1) g) t 12 (c 1 + 1)) t (cAddM c f g) := by
  have w1 := hw.1
  have w2 := hw.2.1
  have w3 := hw.2.2.1
  have e1 : cAddM c f g 1 = c 1 + 1 := if_pos rfl
  have eo : ∀ x, x ≠ 1 → x ≠ 24 + 2 * c 1 + 1 → x ≠ 24 + 2 * c 1 → cAddM c f g x = c x := fun x q0 q1 q2 => by unfold cAddM; rw [if_neg q0, if_neg q1, if_neg q2]
  refine cTh_fm hp hw h (eo 2 (by omega) (by omega) (by omega)) (fun x q => eo x (by omega) (by omega) (by omega)) (by rw [zu_j (by decide), zu_a (by omega), zu_a (by omega), eo 0 (by omega) (by omega) (by omega)]; exact h.1) (by rw [zu_s, e1]) (by rw [zu_j (by decide), zu_a (by omega), zu_a (by omega)]) (fun x q0 q1 => ?_) (fun k q0 q1 => ?_) (fun x j q => by rw [zu_a (by omega), zu_a (by omega), zu_a (by omega)])
  · rw [eo 0 (by omega) (by omega) (by omega)] at q1
    rw [zu_a (by omega), zu_a (by omega), zu_a (by omega), zu_a (by omega), zu_a (by omega), zu_a (by omega), zu_a (by omega), zu_a (by omega), zu_a (by omega), eo _ (by omega) (by omega) (by omega), eo _ (by omega) (by omega) (by omega), eo _ (by omega) (by omega) (by omega)]
    exact h.2.2.2.1 x q0 q1
  · rw [e1] at q1
    rw [zu_a (by omega), zu_a (b := t + 4) (by omega), zu_a (b := t + 5) (a := t) (by omega)]
    by_cases e : k = c 1
    · subst e
      rw [zu_s, zu_s]
      refine ⟨?_, ?_⟩
      · unfold cAddM; rw [if_neg (by omega), if_neg (by omega), if_pos rfl]
      · unfold cAddM; rw [if_neg (by omega), if_pos rfl]
    · rw [zu_j e, zu_j e, zu_a (by omega), eo _ (by omega) (by omega) (by omega), eo _ (by omega) (by omega) (by omega)]
      exact h.2.2.2.2.1 k q0 (by omega)
theorem cAddP_o {c : Int → Int} {n v o x : Int} (h0 : x ≠ 2) (h1 : x < 32 + 9 * c 2 ∨ 32 + 9 * c 2 + 2 < x) : cAddP c (32 + 9 * c 2) n v o x = c x := by unfold cAddP; rw [if_neg h0, if_neg (by omega), if_neg (by omega), if_neg (by omega)]
theorem cAddP_2 {c : Int → Int} {b n v o : Int} : cAddP c b n v o 2 = c 2 + 1 := if_pos rfl
theorem cAddP_b {c : Int → Int} {b n v o : Int} (hb : 32 ≤ b) : cAddP c b n v o b = n := by unfold cAddP; rw [if_neg (by omega), if_neg (by omega), if_neg (by omega), if_pos rfl]
theorem cAddP_b1 {c : Int → Int} {b n v o : Int} (hb : 32 ≤ b) : cAddP c b n v o (b + 1) = v := by unfold cAddP; rw [if_neg (by omega), if_neg (by omega), if_pos rfl]
theorem cAddP_b2 {c : Int → Int} {b n v o : Int} (hb : 32 ≤ b) : cAddP c b n v o (b + 2) = o := by unfold cAddP; rw [if_neg (by omega), if_pos rfl]
theorem cTh_op {m : zM} {t v o : Int} {c : Int → Int} (hp : ptT m t) (hw : wfD c) (h : cTh m t c) (h8 : c 2 < 8) : cTh (zu (zu (zu (zu m (m (t + 6) (c 2)) 1 0) (m (t + 6) (c 2)) 2 v) (m (t + 6) (c 2)) 3 o) t 13 (c 2 + 1)) t (cAddP c (32 + 9 * c 2) 0 v o) := by
  have w3 := hw.2.2.1
  obtain ⟨i, i0, i1, i2⟩ := hp.2.2.1 (c 2) (by omega) h8
  have e2 : cAddP c (32 + 9 * c 2) 0 v o 2 = c 2 + 1 := if_pos rfl
  refine cTh_pt (p := c 2) hp hw h (cAddP_o (by omega) (by omega)) (cAddP_o (by omega) (by omega)) (fun x q0 q1 => cAddP_o (by omega) (by omega)) (by rw [zu_j (by decide), zu_a (by omega), zu_a (by omega), zu_a (by omega)]) (by rw [zu_j (by decide), zu_a (by omega), zu_a (by omega), zu_a (by omega)]) (by rw [zu_s, e2]) (by rw [e2]; omega) (fun a j q0 q1 => by rw [zu_a (by omega), zu_a (by omega), zu_a (by omega), zu_a (by omega)]) (by omega) h8 (fun _ => ?_) (fun b q0 q1 q2 => ⟨by rw [e2] at q1; omega, fun k r0 r1 => cAddP_o (by omega) (by rw [e2] at q1; omega)⟩) (fun a j q0 q1 q2 q3 => by rw [zu_a (by omega), zu_a q2, zu_a q2, zu_a q2])
  unfold cPt
  have k0 : cAddP c (32 + 9 * c 2) 0 v o (32 + 9 * c 2) = 0 := cAddP_b (by omega)
  have k1 : cAddP c (32 + 9 * c 2) 0 v o (32 + 9 * c 2 + 1) = v := cAddP_b1 (by omega)
  have k2 : cAddP c (32 + 9 * c 2) 0 v o (32 + 9 * c 2 + 2) = o := cAddP_b2 (by omega)
  rw [k0, k1, k2, zu_a (by omega), zu_j (by decide), zu_j (by decide), zu_s, zu_a (by omega), zu_j (by decide), zu_s, zu_a (by omega), zu_s]
  exact ⟨rfl, rfl, rfl, fun k r0 r1 => by omega⟩
theorem l_shA (d : Nat) {E : zE} {m : zM} {P : Option zV → zM → Prop} (t : Int) (t0 : 0 < t) (sT : shT E t) (pT : ptT m t) (p u : Int) (p0 : 0 ≤ p) (p8 : p < 8) (u0 : 0 ≤ u) (u8 : u < 8) (o : Int) : ∀ (j : Nat) (x : Int) (m1 : zM), (p ≤ x) → (x + j = u) → (zfr [(t + 6, none)] m m1) → (∀ b, 0 ≤ b → b < 8 → m1 (t + 6) b = m (t + 6) (gD p x b)) → (∀ m2, zfr [(t + 6, none)] m m2 → (∀ b, 0 ≤ b → b < 8 → m2 (t + 6) b = m (t + 6) (gD p u b)) → zA zX7_shiftPoint (d + 4) E E P 38 [zP t, zI p, zI u, zP o, zN] [] m2 E) → zA zX7_shiftPoint (d + 4) E E P 10 [zP t, zI p, zI u, zP o, zI x] [] m1 E := by
  intro j
  induction j with
  | zero =>
    intro x m1 x0 hx hf hg hP
    refine z_iload dX7_shiftPoint_10 rfl ?_
    refine z_iload_n dX7_shiftPoint_12 rfl ?_
    refine z_icmp_ge (tgt := 38) dX7_shiftPoint_13 rfl (fun h13 => ?_) (fun h => absurd (by omega) h)
    refine zA_wk [_, _, _, _, zN] (by exact ⟨Or.inr rfl, Or.inr rfl, Or.inr rfl, Or.inr rfl, Or.inl rfl, trivial⟩) ?_
    rw [show x = u by omega] at hg
    exact hP m1 hf hg
  | succ j ih =>
    intro x m1 x0 hx hf hg hP
    refine z_iload dX7_shiftPoint_10 rfl ?_
    refine z_iload_n dX7_shiftPoint_12 rfl ?_
    refine z_icmp_ge (tgt := 38) dX7_shiftPoint_13 rfl (fun h => absurd h (by omega)) (fun h13 => ?_)
    refine z_aload_n dX7_shiftPoint_16 rfl ?_
    refine z_gP 5 rfl (r := (t + 6)) flX7_30 dX7_shiftPoint_17 (sT0 sT) rfl ((f6_at hf (by omega)).trans (pT5 pT)) (by omega) ?_
    refine z_iload dX7_shiftPoint_20 rfl ?_
    refine z_aload_n dX7_shiftPoint_22 rfl ?_
    refine z_gP 5 rfl (r := (t + 6)) flX7_30 dX7_shiftPoint_23 (sT0 sT) rfl ((f6_at hf (by omega)).trans (pT5 pT)) (by omega) ?_
    refine z_iload dX7_shiftPoint_26 rfl ?_
    refine z_iconst dX7_shiftPoint_28 (by decide) ?_
    refine z_add dX7_shiftPoint_29 (by omega) ?_
    have hO := pO sT pT (p := x + 1) (by omega) (by omega)
    refine z_aald dX7_shiftPoint_30 (sT6 sT) (by omega) (by omega) (r := m (t + 6) (x + 1)) (by rw [hg (x + 1) (by omega) (by omega), show gD p x (x + 1) = x + 1 from if_neg (by omega)]) (by omega) ?_
    refine z_aast dX7_shiftPoint_31 (sT6 sT) (by omega) (by omega) hO.1 ?_
    refine z_inc dX7_shiftPoint_32 rfl (by omega) ?_
    refine z_goto (tgt := 10) dX7_shiftPoint_35 rfl ?_
    try dsimp only [zs0, zsI, zsP, zsN, zsJ, zsS, zst2, Nat.reduceAdd]
    refine ih (x + 1) _ (by omega) (by omega) (zfr_ua hf (by simp)) (fun b q0 q1 => ?_) hP
    by_cases e : b = x
    · rw [e, zu_s, show gD p (x + 1) x = x + 1 from if_pos (by omega)]
    · rw [zu_j e, hg b q0 q1]; unfold gD; congr 1; split <;> split <;> omega

theorem l_shB (d : Nat) {E : zE} {m : zM} {P : Option zV → zM → Prop} (t : Int) (t0 : 0 < t) (sT : shT E t) (pT : ptT m t) (p u : Int) (p0 : 0 ≤ p) (p8 : p < 8) (u0 : 0 ≤ u) (u8 : u < 8) (o : Int) : ∀ (j : Nat) (x : Int) (m1 : zM), (x ≤ p) → (x = u + j) → (zfr [(t + 6, none)] m m1) → (∀ b, 0 ≤ b → b < 8 → m1 (t + 6) b = m (t + 6) (shB p x b)) → (∀ m2, zfr [(t + 6, none)] m m2 → (∀ b, 0 ≤ b → b < 8 → m2 (t + 6) b = m (t + 6) (shB p u b)) → zA zX7_shiftPoint (d + 4) E E P 69 [zP t, zI p, zI u, zP o, zN] [] m2 E) → zA zX7_shiftPoint (d + 4) E E P 41 [zP t, zI p, zI u, zP o, zI x] [] m1 E := by
  intro j
  induction j with
  | zero =>
    intro x m1 x0 hx hf hg hP
    refine z_iload dX7_shiftPoint_41 rfl ?_
    refine z_iload_n dX7_shiftPoint_43 rfl ?_
    refine z_icmp_le (tgt := 69) dX7_shiftPoint_44 rfl (fun h44 => ?_) (fun h => absurd (by omega) h)
    refine zA_wk [_, _, _, _, zN] (by exact ⟨Or.inr rfl, Or.inr rfl, Or.inr rfl, Or.inr rfl, Or.inl rfl, trivial⟩) ?_
    rw [show x = u by omega] at hg
    exact hP m1 hf hg
  | succ j ih =>
    intro x m1 x0 hx hf hg hP
    refine z_iload dX7_shiftPoint_41 rfl ?_
    refine z_iload_n dX7_shiftPoint_43 rfl ?_
    refine z_icmp_le (tgt := 69) dX7_shiftPoint_44 rfl (fun h => absurd h (by omega)) (fun h44 => ?_)
    refine z_aload_n dX7_shiftPoint_47 rfl ?_
    refine z_gP 5 rfl (r := (t + 6)) flX7_30 dX7_shiftPoint_48 (sT0 sT) rfl ((f6_at hf (by omega)).trans (pT5 pT)) (by omega) ?_
    refine z_iload dX7_shiftPoint_51 rfl ?_
    refine z_aload_n dX7_shiftPoint_53 rfl ?_
    refine z_gP 5 rfl (r := (t + 6)) flX7_30 dX7_shiftPoint_54 (sT0 sT) rfl ((f6_at hf (by omega)).trans (pT5 pT)) (by omega) ?_
    refine z_iload dX7_shiftPoint_57 rfl ?_
    refine z_iconst dX7_shiftPoint_59 (by decide) ?_
    refine z_sub dX7_shiftPoint_60 (by omega) ?_
    have hO := pO sT pT (p := x - 1) (by omega) (by omega)
    refine z_aald dX7_shiftPoint_61 (sT6 sT) (by omega) (by omega) (r := m (t + 6) (x - 1)) (by rw [hg (x - 1) (by omega) (by omega), show shB p x (x - 1) = x - 1 from if_neg (by omega)]) (by omega) ?_
    refine z_aast dX7_shiftPoint_62 (sT6 sT) (by omega) (by omega) hO.1 ?_
    refine z_inc dX7_shiftPoint_63 rfl (by omega) ?_
    refine z_goto (tgt := 41) dX7_shiftPoint_66 rfl ?_
    try dsimp only [zs0, zsI, zsP, zsN, zsJ, zsS, zst2, Nat.reduceAdd]
    rw [show x + -1 = x - 1 by omega]
    refine ih (x - 1) _ (by omega) (by omega) (zfr_ua hf (by simp)) (fun b q0 q1 => ?_) hP
    by_cases e : b = x
    · rw [e, zu_s, show shB p (x - 1) x = x - 1 from if_pos (by omega)]
    · rw [zu_j e, hg b q0 q1]; unfold shB; congr 1; split <;> split <;> omega

theorem l_shE (d : Nat) {E : zE} {m : zM} {P : Option zV → zM → Prop} (t : Int) (t0 : 0 < t) (sT : shT E t) (pT : ptT m t) (c : Int → Int) (hw : wfD c) (hc : cTh m t c) (p u : Int) (p0 : 0 ≤ p) (p1 : p < c 2) (u0 : 0 ≤ u) (u1 : u < c 2) (c' : Int → Int) (hw' : wfD c') (hx' : cMz c') (w q : Int → Int) (n : Int) (hfl : isFlat c' w q n) (hn : n ≤ 12) (ec : c' = eN (eBlk c (gM p u)) (c 2)) (m1 : zM) (g : Int → Int) (hf : zfr [(t + 6, none)] m m1) (hg : ∀ b, 0 ≤ b → b < 8 → m1 (t + 6) b = m (t + 6) (g b)) (hgm : ∀ b, b ≠ u → g b = if p ≤ b ∧ b < u then b + 1 else if u < b ∧ b ≤ p then b - 1 else b) (hP : ∀ m', zfr (fE t) m m' → ptT m' t → cTh m' t c' → cFl m' t c' w q n → (∀ i, 0 ≤ i → i < 800 → m' (t + 11) i = 1) → P none m') : zA zX7_shiftPoint (d + 4) E E P 69 [zP t, zI p, zI u, zP (m (t + 6) p), zN] [] m1 E := by
  have b3 := hw.2.2.1
  refine z_aload_n dX7_shiftPoint_69 rfl ?_
  refine z_gP 5 rfl (r := (t + 6)) flX7_30 dX7_shiftPoint_70 (sT0 sT) rfl ((f6_at hf (by omega)).trans (pT5 pT)) (by omega) ?_
  refine z_iload_n dX7_shiftPoint_73 rfl ?_
  refine z_aload_n dX7_shiftPoint_74 rfl ?_
  have hO := pO sT pT (p := p) (by omega) (by omega)
  refine z_aast dX7_shiftPoint_75 (sT6 sT) (by omega) (by omega) hO.1 ?_
  obtain ⟨m2, em2⟩ : ∃ x, x = zu m1 (t + 6) u (m (t + 6) p) := ⟨_, rfl⟩
  rw [← em2]
  have f2 : zfr [(t + 6, none)] m m2 := by rw [em2]; exact zfr_ua hf (by simp)
  have g2 : ∀ b, 0 ≤ b → b < 8 → m2 (t + 6) b = m (t + 6) (gM p u b) := fun b q0 q1 => by
    rw [em2]
    by_cases e : b = u
    · rw [e, zu_s]; unfold gM; rw [if_pos rfl]
    · rw [zu_j e, hg b q0 q1]; congr 1; unfold gM; rw [if_neg e]; exact hgm b e
  have p2 := ptT_mv pT f2 g2 p0 (by omega) u0 (by omega)
  have c2 : cTh m2 t c' := by rw [ec]; exact cTh_mv pT hw hc f2 g2 p0 p1 u0 u1
  refine z_aload_n dX7_shiftPoint_76 rfl ?_
  refine z_callV mlX7_60 dX7_shiftPoint_77 (sT0 sT) (av := _) rfl rfl (Nat.le_of_ble_eq_true rfl) (c_renumber d t t0 sT p2 c' hw' c2 hx' w q n hfl hn) (Nat.le_refl _) (Nat.le_refl _) (Nat.le_refl _) (Nat.le_refl _) ?_
  rintro _ m9 ⟨rfl, f9, p9, c9, l9, v9⟩
  refine z_vret dX7_shiftPoint_80 rfl rfl ?_
  exact hP m9 (zfr_tr (zfr_sub f2 (fun q hq => by simp at hq; rw [hq]; exact fE_in (by omega) (by omega))) (zfr_sub f9 fR_sub)) p9 c9 l9 v9

theorem c_shiftPoint (d : Nat) {E : zE} {m : zM} (t : Int) (t0 : 0 < t) (sT : shT E t) (pT : ptT m t) (c : Int → Int) (hw : wfD c) (hc : cTh m t c) (p u : Int) (p0 : 0 ≤ p) (p1 : p < c 2) (u0 : 0 ≤ u) (u1 : u < c 2) (c' : Int → Int) (hw' : wfD c') (hx' : cMz c') (w q : Int → Int) (n : Int) (hfl : isFlat c' w q n) (hn : n ≤ 12) (ec : c' = eN (eBlk c (gM p u)) (c 2)) : zR zX7_shiftPoint (d + 4) [zP t, zI p, zI u] m E E (fun r m' => r = none ∧ zfr (fE t) m m' ∧ ptT m' t ∧ cTh m' t c' ∧ cFl m' t c' w q n ∧ ∀ i, 0 ≤ i → i < 800 → m' (t + 11) i = 1) := by
  have b1 := hw.1
  have b2 := hw.2.1
  have b3 := hw.2.2.1
  refine zR_go [zP t, zI p, zI u, zN, zN] (by decide +kernel) (Nat.le_of_ble_eq_true rfl) rfl rfl ?_
  refine z_aload_n dX7_shiftPoint_0 rfl ?_
  refine z_gP 5 rfl (r := (t + 6)) flX7_30 dX7_shiftPoint_1 (sT0 sT) rfl (pT5 pT) (by omega) ?_
  refine z_iload_n dX7_shiftPoint_4 rfl ?_
  have hO := pO sT pT (p := p) (by omega) (by omega)
  have hPt := hc.2.2.2.2.2 p (by omega) (by omega)
  have hPw := hw.2.2.2.2.2 p (by omega) (by omega)
  refine z_aald dX7_shiftPoint_5 (sT6 sT) (by omega) (by omega) rfl (by omega) ?_
  refine z_ast 3 dX7_shiftPoint_6 rfl (Nat.le_of_ble_eq_true rfl) ?_
  refine z_iload_n dX7_shiftPoint_7 rfl ?_
  refine z_istore dX7_shiftPoint_8 (Nat.le_of_ble_eq_true rfl) ?_
  try dsimp only [zs0, zsI, zsP, zsN, zsJ, zsS, zst2, Nat.reduceAdd]
  have fin : ∀ (m1 : zM) (g : Int → Int), zfr [(t + 6, none)] m m1 → (∀ b, 0 ≤ b → b < 8 → m1 (t + 6) b = m (t + 6) (g b)) → (∀ b, b ≠ u → g b = if p ≤ b ∧ b < u then b + 1 else if u < b ∧ b ≤ p then b - 1 else b) → zA zX7_shiftPoint (d + 4) E E (fun r m' => r = none ∧ zfr (fE t) m m' ∧ ptT m' t ∧ cTh m' t c' ∧ cFl m' t c' w q n ∧ ∀ i, 0 ≤ i → i < 800 → m' (t + 11) i = 1) 69 [zP t, zI p, zI u, zP (m (t + 6) p), zN] [] m1 E := fun m1 g h1 h2 h3 => l_shE d t t0 sT pT c hw hc p u p0 p1 u0 u1 c' hw' hx' w q n hfl hn ec m1 g h1 h2 h3 (fun m' a1 a2 a3 a4 a5 => ⟨rfl, a1, a2, a3, a4, a5⟩)
  by_cases hpu : p < u
  · refine l_shA d t t0 sT pT p u p0 (by omega) u0 (by omega) (m (t + 6) p) (u - p).toNat p m (by omega) (by omega) zfr_rf (fun b q0 q1 => by rw [show gD p p b = b from if_neg (by omega)]) (fun m1 h1 h2 => ?_)
    refine z_iload_n dX7_shiftPoint_38 rfl ?_
    refine z_istore dX7_shiftPoint_39 (Nat.le_of_ble_eq_true rfl) ?_
    refine z_iload dX7_shiftPoint_41 rfl ?_
    refine z_iload_n dX7_shiftPoint_43 rfl ?_
    try dsimp only [zs0, zsI, zsP, zsN, zsJ, zsS, zst2, Nat.reduceAdd]
    refine z_icmp_le (tgt := 69) dX7_shiftPoint_44 rfl (fun h44 => ?_) (fun h => absurd (by omega) h)
    refine zA_wk [_, _, _, _, zN] (by exact ⟨Or.inr rfl, Or.inr rfl, Or.inr rfl, Or.inr rfl, Or.inl rfl, trivial⟩) ?_
    exact fin m1 _ h1 h2 (fun b hb => by unfold gD; split; rfl; rw [if_neg (by omega)])
  · refine z_iload dX7_shiftPoint_10 rfl ?_
    refine z_iload_n dX7_shiftPoint_12 rfl ?_
    refine z_icmp_ge (tgt := 38) dX7_shiftPoint_13 rfl (fun h13 => ?_) (fun h => absurd (by omega) h)
    refine z_iload_n dX7_shiftPoint_38 rfl ?_
    refine z_istore dX7_shiftPoint_39 (Nat.le_of_ble_eq_true rfl) ?_
    try dsimp only [zs0, zsI, zsP, zsN, zsJ, zsS, zst2, Nat.reduceAdd]
    refine l_shB d t t0 sT pT p u p0 (by omega) u0 (by omega) (m (t + 6) p) (p - u).toNat p m (by omega) (by omega) zfr_rf (fun b q0 q1 => by rw [show shB p p b = b from if_neg (by omega)]) (fun m1 h1 h2 => ?_)
    exact fin m1 _ h1 h2 (fun b hb => by unfold shB; rw [if_neg (show ¬ (p ≤ b ∧ b < u) by omega)])

theorem c_removePoint (d : Nat) {E : zE} {m : zM} (t : Int) (t0 : 0 < t) (sT : shT E t) (pT : ptT m t) (c : Int → Int) (hw : wfD c) (hc : cTh m t c) (hx : cMz c) (hc12 : cPre c (c 2).toNat ≤ 12) (p : Int) (p0 : 0 ≤ p) (p1 : p < c 2) (c' : Int → Int) (hw' : wfD c') (hx' : cMz c') (w q : Int → Int) (n : Int) (hfl : isFlat c' w q n) (hn : n ≤ 12) (ec : c' = eN (eBlk c (gD p (c 2 - 1))) (c 2 - 1)) : zR zX7_removePoint (d + 5) [zP t, zI p] m E E (fun r m' => r = none ∧ zfr (fE t) m m' ∧ ptT m' t ∧ cTh m' t c' ∧ cFl m' t c' w q n ∧ ∀ i, 0 ≤ i → i < 800 → m' (t + 11) i = 1) := by
  have b1 := hw.1
  have b2 := hw.2.1
  have b3 := hw.2.2.1
  have hw1 : wfD (eN (eBlk c (gM p (c 2 - 1))) (c 2)) := eN_wfD hw (by omega) (fun b q0 q1 => by unfold gM; repeat' split; all_goals omega)
  have hx1 : cMz (eN (eBlk c (gM p (c 2 - 1))) (c 2)) := eN_cMz hw hx
  obtain ⟨w1, q1, hf1⟩ := flat_ex hw1
  have hn1 : cPre (eN (eBlk c (gM p (c 2 - 1))) (c 2)) (eN (eBlk c (gM p (c 2 - 1))) (c 2) 2).toNat ≤ 12 := by
    rw [eN_2, eN_pre (by omega), sum_move (f := fun b => c (32 + 9 * b)) p0 p1 (by omega) (by omega)]
    exact hc12
  refine zR_go [zP t, zI p] (by decide +kernel) (Nat.le_of_ble_eq_true rfl) rfl rfl ?_
  refine z_aload_n dX7_removePoint_0 rfl ?_
  refine z_iload_n dX7_removePoint_1 rfl ?_
  refine z_aload_n dX7_removePoint_2 rfl ?_
  refine z_gIv 13 rfl flX7_57 dX7_removePoint_3 (sT0 sT) rfl hc.2.2.1 ?_
  refine z_iconst dX7_removePoint_6 (by decide) ?_
  refine z_sub dX7_removePoint_7 (by omega) ?_
  refine z_callV mlX7_137 dX7_removePoint_8 (sT0 sT) (av := [_, _]) rfl rfl (Nat.le_of_ble_eq_true rfl) (c_shiftPoint d t t0 sT pT c hw hc p (c 2 - 1) p0 p1 (by omega) (by omega) _ hw1 hx1 w1 q1 _ hf1 hn1 rfl) (Nat.le_refl _) (Nat.le_refl _) (Nat.le_refl _) (Nat.le_refl _) ?_
  rintro _ m1 ⟨rfl, f1, p1', h1, -, -⟩
  refine z_aload_n dX7_removePoint_11 rfl ?_
  refine z_dup dX7_removePoint_12 rfl ?_
  refine z_gIv 13 rfl flX7_57 dX7_removePoint_13 (sT0 sT) rfl (h1.2.2.1.trans eN_2) ?_
  refine z_iconst dX7_removePoint_16 (by decide) ?_
  refine z_sub dX7_removePoint_17 (by omega) ?_
  refine z_pI 13 rfl (fpX7_57 _) dX7_removePoint_18 (sT0 sT) rfl ?_
  obtain ⟨m2, em2⟩ : ∃ x, x = zu m1 t 13 (c 2 - 1) := ⟨_, rfl⟩
  rw [← em2]
  have f2 : zfr (fE t) m m2 := by rw [em2]; exact zfr_ut f1 (by decide)
  have p2 : ptT m2 t := by rw [em2]; exact ptT_t p1' (by decide)
  have c2 : cTh m2 t c' := by rw [em2, ec]; exact cTh_less hw h1 p0 p1
  refine z_aload_n dX7_removePoint_21 rfl ?_
  refine z_callV mlX7_60 dX7_removePoint_22 (sT0 sT) (av := _) rfl rfl (Nat.le_of_ble_eq_true rfl) (c_renumber (d + 1) t t0 sT p2 c' hw' c2 hx' w q n hfl hn) (Nat.le_refl _) (Nat.le_refl _) (Nat.le_refl _) (Nat.le_refl _) ?_
  rintro _ m9 ⟨rfl, f9, p9, c9, l9, v9⟩
  refine z_vret dX7_removePoint_25 rfl rfl ?_
  exact ⟨rfl, zfr_tr f2 (zfr_sub f9 fR_sub), p9, c9, l9, v9⟩

theorem c_addField (d : Nat) {E : zE} {m : zM} (t : Int) (t0 : 0 < t) (sT : shT E t) (pT : ptT m t) (c : Int → Int) (hw : wfD c) (hc : cTh m t c) (l a b : Int) (hlt : c 0 < 6) (ha : a = 0 ∨ a = 1) (hb : b = 0 ∨ b = 1) : zR zX7_addField (d) [zP t, zI l, zI a, zI b] m E E (fun r m' => r = none ∧ zfr (fE t) m m' ∧ ptT m' t ∧ cTh m' t (cAddF c l a b) ∧ m' t 14 = m t 14) := by
  have b1 := hw.1
  have b2 := hw.2.1
  have b3 := hw.2.2.1
  refine zR_go [zP t, zI l, zI a, zI b] (by decide +kernel) (Nat.le_of_ble_eq_true rfl) rfl rfl ?_
  refine z_aload_n dX7_addField_0 rfl ?_
  refine z_gIv 11 rfl flX7_50 dX7_addField_1 (sT0 sT) rfl hc.1 ?_
  refine z_bipush dX7_addField_4 rfl (by decide) ?_
  refine z_icmp_ge (tgt := 49) dX7_addField_6 rfl (fun h => absurd h (by omega)) (fun h6 => ?_)
  refine z_aload_n dX7_addField_9 rfl ?_
  refine z_gP 0 rfl (r := (t + 1)) flX7_9 dX7_addField_10 (sT0 sT) rfl (pT0 pT) (by omega) ?_
  refine z_aload_n dX7_addField_13 rfl ?_
  refine z_gIv 11 rfl flX7_50 dX7_addField_14 (sT0 sT) rfl hc.1 ?_
  refine z_iload_n dX7_addField_17 rfl ?_
  refine z_iast dX7_addField_18 (sT1 sT) (by omega) (by omega) ?_
  refine z_aload_n dX7_addField_19 rfl ?_
  refine z_gP 1 rfl (r := (t + 2)) flX7_15 dX7_addField_20 (sT0 sT) rfl ((zu_a (by omega)).trans (pT1 pT)) (by omega) ?_
  refine z_aload_n dX7_addField_23 rfl ?_
  refine z_gIv 11 rfl flX7_50 dX7_addField_24 (sT0 sT) rfl ((zu_a (by omega)).trans hc.1) ?_
  refine z_iload_n dX7_addField_27 rfl ?_
  refine z_zast dX7_addField_28 (sT2 sT) (by omega) (by omega) ha ?_
  refine z_aload_n dX7_addField_29 rfl ?_
  refine z_gP 2 rfl (r := (t + 3)) flX7_19 dX7_addField_30 (sT0 sT) rfl ((zu_a (by omega)).trans ((zu_a (by omega)).trans (pT2 pT))) (by omega) ?_
  refine z_aload_n dX7_addField_33 rfl ?_
  refine z_gIv 11 rfl flX7_50 dX7_addField_34 (sT0 sT) rfl ((zu_a (by omega)).trans ((zu_a (by omega)).trans hc.1)) ?_
  refine z_iload_n dX7_addField_37 rfl ?_
  refine z_zast dX7_addField_38 (sT3 sT) (by omega) (by omega) hb ?_
  refine z_aload_n dX7_addField_39 rfl ?_
  refine z_dup dX7_addField_40 rfl ?_
  refine z_gIv 11 rfl flX7_50 dX7_addField_41 (sT0 sT) rfl ((zu_a (by omega)).trans ((zu_a (by omega)).trans ((zu_a (by omega)).trans hc.1))) ?_
  refine z_iconst dX7_addField_44 (by decide) ?_
  refine z_add dX7_addField_45 (by omega) ?_
  refine z_pI 11 rfl (fpX7_50 _) dX7_addField_46 (sT0 sT) rfl ?_
  refine z_vret dX7_addField_49 rfl rfl ?_
  refine ⟨rfl, ?_, ?_, ?_, ?_⟩
  · exact zfr_ut (zfr_ua (zfr_ua (zfr_ua zfr_rf (fE_in (by omega) (by omega))) (fE_in (by omega) (by omega))) (fE_in (by omega) (by omega))) (by decide)
  · exact ptT_t (ptT_x (ptT_x (ptT_x pT (by omega)) (by omega)) (by omega)) (by decide)
  · exact cTh_aF pT hw hc hlt
  · rw [zu_j (by decide), zu_a (by omega), zu_a (by omega), zu_a (by omega)]

theorem c_addMix (d : Nat) {E : zE} {m : zM} (t : Int) (t0 : 0 < t) (sT : shT E t) (pT : ptT m t) (c : Int → Int) (hw : wfD c) (hc : cTh m t c) (f g : Int) (hlt : c 1 < 4) : zR zX7_addMix (d) [zP t, zI f, zI g] m E E (fun r m' => r = none ∧ zfr (fE t) m m' ∧ ptT m' t ∧ cTh m' t (cAddM c f g) ∧ m' t 14 = m t 14) := by
  have b1 := hw.1
  have b2 := hw.2.1
  have b3 := hw.2.2.1
  refine zR_go [zP t, zI f, zI g] (by decide +kernel) (Nat.le_of_ble_eq_true rfl) rfl rfl ?_
  refine z_aload_n dX7_addMix_0 rfl ?_
  refine z_gIv 12 rfl flX7_54 dX7_addMix_1 (sT0 sT) rfl hc.2.1 ?_
  refine z_iconst dX7_addMix_4 (by decide) ?_
  refine z_icmp_ge (tgt := 38) dX7_addMix_5 rfl (fun h => absurd h (by omega)) (fun h5 => ?_)
  refine z_aload_n dX7_addMix_8 rfl ?_
  refine z_gP 3 rfl (r := (t + 4)) flX7_22 dX7_addMix_9 (sT0 sT) rfl (pT3 pT) (by omega) ?_
  refine z_aload_n dX7_addMix_12 rfl ?_
  refine z_gIv 12 rfl flX7_54 dX7_addMix_13 (sT0 sT) rfl hc.2.1 ?_
  refine z_iload_n dX7_addMix_16 rfl ?_
  refine z_iast dX7_addMix_17 (sT4 sT) (by omega) (by omega) ?_
  refine z_aload_n dX7_addMix_18 rfl ?_
  refine z_gP 4 rfl (r := (t + 5)) flX7_25 dX7_addMix_19 (sT0 sT) rfl (Eq.trans (zu_a (by omega)) (pT4 pT)) (by omega) ?_
  refine z_aload_n dX7_addMix_22 rfl ?_
  refine z_gIv 12 rfl flX7_54 dX7_addMix_23 (sT0 sT) rfl ((zu_a (by omega)).trans hc.2.1) ?_
  refine z_iload_n dX7_addMix_26 rfl ?_
  refine z_iast dX7_addMix_27 (sT5 sT) (by omega) (by omega) ?_
  refine z_aload_n dX7_addMix_28 rfl ?_
  refine z_dup dX7_addMix_29 rfl ?_
  refine z_gIv 12 rfl flX7_54 dX7_addMix_30 (sT0 sT) rfl ((zu_a (by omega)).trans ((zu_a (by omega)).trans hc.2.1)) ?_
  refine z_iconst dX7_addMix_33 (by decide) ?_
  refine z_add dX7_addMix_34 (by omega) ?_
  refine z_pI 12 rfl (fpX7_54 _) dX7_addMix_35 (sT0 sT) rfl ?_
  refine z_vret dX7_addMix_38 rfl rfl ?_
  refine ⟨rfl, ?_, ?_, ?_, ?_⟩
  · exact zfr_ut (zfr_ua (zfr_ua zfr_rf (fE_in (by omega) (by omega))) (fE_in (by omega) (by omega))) (by decide)
  · exact ptT_t (ptT_x (ptT_x pT (by omega)) (by omega)) (by decide)
  · exact cTh_aM pT hw hc hlt
  · rw [zu_j (by decide), zu_a (by omega), zu_a (by omega)]

theorem c_openPoint (d : Nat) {E : zE} {m : zM} (t : Int) (t0 : 0 < t) (sT : shT E t) (pT : ptT m t) (c : Int → Int) (hw : wfD c) (hc : cTh m t c) (v o : Int) (h8 : c 2 < 8) (hv : v = 0 ∨ v = 1) (ho : o = 0 ∨ o = 1) : zR zX7_openPoint (d + 1) [zP t, zI v, zI o] m E E (fun r m' => r = some (zP (m (t + 6) (c 2))) ∧ zfr (fE t) m m' ∧ ptT m' t ∧ cTh m' t (cAddP c (32 + 9 * c 2) 0 v o) ∧ m' t 14 = m t 14 ∧ m' (m (t + 6) (c 2)) 1 = 0 ∧ m' (t + 6) (c 2) = m (t + 6) (c 2)) := by
  have b1 := hw.1
  have b2 := hw.2.1
  have b3 := hw.2.2.1
  have hO := pO sT pT (p := c 2) (by omega) (by omega)
  refine zR_go [zP t, zI v, zI o, zN] (by decide +kernel) (Nat.le_of_ble_eq_true rfl) rfl rfl ?_
  refine z_aload_n dX7_openPoint_0 rfl ?_
  refine z_gIv 13 rfl flX7_57 dX7_openPoint_1 (sT0 sT) rfl hc.2.2.1 ?_
  refine z_bipush dX7_openPoint_4 rfl (by decide) ?_
  refine z_min (zg3 157 (by decide +kernel) rfl) dX7_openPoint_6 (Nat.le_of_ble_eq_true rfl) (Nat.le_refl _) (Nat.le_refl _) ?_
  rw [if_neg (show ¬ (7 : Int) < c 2 by omega)]
  refine z_ist 3 dX7_openPoint_9 rfl (Nat.le_of_ble_eq_true rfl) ?_
  refine z_aload_n dX7_openPoint_10 rfl ?_
  refine z_gP 5 rfl (r := (t + 6)) flX7_30 dX7_openPoint_11 (sT0 sT) rfl (pT5 pT) (by omega) ?_
  refine z_iload_n dX7_openPoint_14 rfl ?_
  refine z_aald dX7_openPoint_15 (sT6 sT) (by omega) (by omega) rfl (by omega) ?_
  refine z_iload_n dX7_openPoint_16 rfl ?_
  refine z_iload_n dX7_openPoint_17 rfl ?_
  try dsimp only [zs0, zsI, zsP, zsN, zsJ, zsS, zst2, Nat.reduceAdd]
  refine z_callV mlX7_152 dX7_openPoint_18 hO.1 (av := [_, _]) rfl rfl (Nat.le_of_ble_eq_true rfl) (c_begin _ (m (t + 6) (c 2)) (by omega) hO.1 v o hv ho) (Nat.le_refl _) (Nat.le_refl _) (Nat.le_refl _) (Nat.le_refl _) ?_
  rintro _ m1 ⟨rfl, e1⟩
  refine z_aload_n dX7_openPoint_21 rfl ?_
  refine z_iload_n dX7_openPoint_22 rfl ?_
  refine z_iconst dX7_openPoint_23 (by decide) ?_
  refine z_add dX7_openPoint_24 (by omega) ?_
  refine z_pI 13 rfl (fpX7_57 _) dX7_openPoint_25 (sT0 sT) rfl ?_
  obtain ⟨m2, em2⟩ : ∃ x, x = zu m1 t 13 (c 2 + 1) := ⟨_, rfl⟩
  rw [← em2]
  refine z_aload_n dX7_openPoint_28 rfl ?_
  refine z_gP 5 rfl (r := (t + 6)) flX7_30 dX7_openPoint_29 (sT0 sT) rfl (by rw [em2, zu_j (by decide), e1, zu_a (by omega), zu_a (by omega), zu_a (by omega)]; exact pT5 pT) (by omega) ?_
  refine z_iload_n dX7_openPoint_32 rfl ?_
  refine z_aald dX7_openPoint_33 (sT6 sT) (by omega) (by omega) (r := (m (t + 6) (c 2))) (by rw [em2, zu_a (by omega), e1, zu_a (by omega), zu_a (by omega), zu_a (by omega)]) (by omega) ?_
  refine z_aret dX7_openPoint_34 rfl rfl ?_
  rw [e1] at em2
  refine ⟨rfl, ?_, ?_, ?_, ?_, ?_, ?_⟩
  · rw [em2]; exact zfr_ut (zfr_uO (zfr_uO (zfr_uO zfr_rf hO.2.2.2) hO.2.2.2) hO.2.2.2) (by decide)
  · rw [em2]; exact ptT_t (ptT_o (ptT_o (ptT_o pT ⟨by omega, by omega⟩ (by decide)) ⟨by omega, by omega⟩ (by decide)) ⟨by omega, by omega⟩ (by decide)) (by decide)
  · rw [em2]; exact cTh_op pT hw hc h8
  · rw [em2, zu_j (by decide), zu_a (by omega), zu_a (by omega), zu_a (by omega)]
  · rw [em2, zu_a (by omega), zu_j (by decide), zu_j (by decide), zu_s]
  · rw [em2, zu_a (by omega), zu_a (by omega), zu_a (by omega), zu_a (by omega)]
