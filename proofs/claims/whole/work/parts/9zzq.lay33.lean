/-! what a told table keeps: cIn2 under reading and under edits; vertices -/
theorem cZ_i2 (c : Int → Int) : cIn2 (cZ c) := ⟨fun k q0 q1 => (by rw [cZ_0 (x := 1) (by decide) (by decide)] at q1; omega), fun p k q0 q1 _ _ => (by rw [cZ_0 (x := 2) (by decide) (by decide)] at q1; omega)⟩
theorem cAddF_i2 {c : Int → Int} {l a b : Int} (hw : wfC c) (h6 : c 0 < 6) (h : cIn2 c) : cIn2 (cAddF c l a b) := by
  obtain ⟨w1, w2, w3, w4, w5, w6⟩ := hw
  have eo : ∀ x, x ≠ 0 → x ≠ 4 + 3 * c 0 + 2 → x ≠ 4 + 3 * c 0 + 1 → x ≠ 4 + 3 * c 0 → cAddF c l a b x = c x := fun x q0 q1 q2 q3 => by unfold cAddF; rw [if_neg q0, if_neg q1, if_neg q2, if_neg q3]
  have e1 : cAddF c l a b 1 = c 1 := eo 1 (by omega) (by omega) (by omega) (by omega)
  have e2 : cAddF c l a b 2 = c 2 := eo 2 (by omega) (by omega) (by omega) (by omega)
  have ep : ∀ x, 24 ≤ x → cAddF c l a b x = c x := fun x q => eo x (by omega) (by omega) (by omega) (by omega)
  refine ⟨fun k q0 q1 => ?_, fun p k p0 p1 k0 k1 => ?_⟩
  · rw [e1] at q1
    have hk := w5 k q0 q1
    rw [ep (24 + 2 * k) (by omega), ep (24 + 2 * k + 1) (by omega), eo _ (by omega) (by omega) (by omega) (by omega), eo _ (by omega) (by omega) (by omega) (by omega)]
    exact h.1 k q0 q1
  · rw [e2] at p1
    have hp := w6 p p0 p1
    rw [ep (32 + 9 * p) (by omega)] at k1
    have hl := hp.2.2.2 k k0 k1
    rw [ep (32 + 9 * p + 3 + k) (by omega), eo (4 + 3 * (c (32 + 9 * p + 3 + k) / 2) + 1) (by omega) (by omega) (by omega) (by omega)]
    exact h.2 p k p0 p1 k0 k1
theorem cAddM_i2 {c : Int → Int} {f g : Int} (hw : wfC c) (h4 : c 1 < 4) (h : cIn2 c) (hf : 0 ≤ f ∧ f < c 0) (hg : 0 ≤ g ∧ g < c 0) (ho : c (4 + 3 * f + 2) = c (4 + 3 * g + 2)) : cIn2 (cAddM c f g) := by
  obtain ⟨w1, w2, w3, w4, w5, w6⟩ := hw
  have e1 : cAddM c f g 1 = c 1 + 1 := if_pos rfl
  have eo : ∀ x, x ≠ 1 → x ≠ 24 + 2 * c 1 + 1 → x ≠ 24 + 2 * c 1 → cAddM c f g x = c x := fun x q0 q1 q2 => by unfold cAddM; rw [if_neg q0, if_neg q1, if_neg q2]
  have e2 : cAddM c f g 2 = c 2 := eo 2 (by omega) (by omega) (by omega)
  have ep : ∀ x, 32 ≤ x → cAddM c f g x = c x := fun x q => eo x (by omega) (by omega) (by omega)
  refine ⟨fun k q0 q1 => ?_, fun p k p0 p1 k0 k1 => ?_⟩
  · rw [e1] at q1
    by_cases e : k = c 1
    · subst e
      have k1 : cAddM c f g (24 + 2 * c 1) = f := by unfold cAddM; rw [if_neg (by omega), if_neg (by omega), if_pos rfl]
      have k2 : cAddM c f g (24 + 2 * c 1 + 1) = g := by unfold cAddM; rw [if_neg (by omega), if_pos rfl]
      rw [k1, k2, eo _ (by omega) (by omega) (by omega), eo _ (by omega) (by omega) (by omega)]
      exact ho
    · have hk := w5 k q0 (by omega)
      rw [eo (24 + 2 * k) (by omega) (by omega) (by omega), eo (24 + 2 * k + 1) (by omega) (by omega) (by omega), eo _ (by omega) (by omega) (by omega), eo _ (by omega) (by omega) (by omega)]
      exact h.1 k q0 (by omega)
  · rw [e2] at p1
    have hp := w6 p p0 p1
    rw [ep (32 + 9 * p) (by omega)] at k1
    have hl := hp.2.2.2 k k0 k1
    rw [ep (32 + 9 * p + 3 + k) (by omega), eo (4 + 3 * (c (32 + 9 * p + 3 + k) / 2) + 1) (by omega) (by omega) (by omega)]
    exact h.2 p k p0 p1 k0 k1
/-- a half read point's bars -/
def cHb (c0 c : Int → Int) (n : Int) : Prop := ∀ k, 0 ≤ k → k < n → c (32 + 9 * c0 2 + 3 + k) % 2 = 1 → c0 (4 + 3 * (c (32 + 9 * c0 2 + 3 + k) / 2) + 1) = 1
theorem half_i2 {c0 c : Int → Int} {n ve no : Int} (hw : wfC c0) (h2 : c0 2 < 8) (hc : cHalf c0 c n) (hb : cHb c0 c n) (hn : n ≤ 6) (h : cIn2 c0) : cIn2 (cAddP c (32 + 9 * c0 2) n ve no) := by
  obtain ⟨w1, w2, w3, w4, w5, w6⟩ := hw
  obtain ⟨ho, hk⟩ := hc
  have c2 : c 2 = c0 2 := ho 2 (by omega)
  have e2 : cAddP c (32 + 9 * c0 2) n ve no 2 = c0 2 + 1 := by unfold cAddP; rw [if_pos rfl, c2]
  have eo : ∀ x, x ≠ 2 → (x < 32 + 9 * c0 2 ∨ 32 + 9 * c0 2 + 9 ≤ x) → cAddP c (32 + 9 * c0 2) n ve no x = c0 x := fun x q0 q1 => by unfold cAddP; rw [if_neg q0, if_neg (by omega), if_neg (by omega), if_neg (by omega)]; exact ho x (by omega)
  have b0 : cAddP c (32 + 9 * c0 2) n ve no (32 + 9 * c0 2) = n := by unfold cAddP; rw [if_neg (by omega), if_neg (by omega), if_neg (by omega), if_pos rfl]
  have b3 : ∀ k, 0 ≤ k → k < 6 → cAddP c (32 + 9 * c0 2) n ve no (32 + 9 * c0 2 + 3 + k) = c (32 + 9 * c0 2 + 3 + k) := fun k q0 q1 => by unfold cAddP; rw [if_neg (by omega), if_neg (by omega), if_neg (by omega), if_neg (by omega)]
  have e1 : cAddP c (32 + 9 * c0 2) n ve no 1 = c0 1 := eo 1 (by omega) (by omega)
  refine ⟨fun k q0 q1 => ?_, fun p k p0 p1 k0 k1 => ?_⟩
  · rw [e1] at q1
    have hk := w5 k q0 q1
    rw [eo (24 + 2 * k) (by omega) (by omega), eo (24 + 2 * k + 1) (by omega) (by omega), eo _ (by omega) (by omega), eo _ (by omega) (by omega)]
    exact h.1 k q0 q1
  · rw [e2] at p1
    by_cases e : p = c0 2
    · subst e
      rw [b0] at k1
      have hl := hk k k0 k1
      rw [b3 k k0 (by omega), eo (4 + 3 * (c (32 + 9 * c0 2 + 3 + k) / 2) + 1) (by omega) (by omega)]
      exact hb k k0 k1
    · have hp := w6 p p0 (by omega)
      rw [eo (32 + 9 * p) (by omega) (by omega)] at k1
      have hl := hp.2.2.2 k k0 k1
      rw [eo (32 + 9 * p + 3 + k) (by omega) (by omega), eo (4 + 3 * (c0 (32 + 9 * p + 3 + k) / 2) + 1) (by omega) (by omega)]
      exact h.2 p k p0 (by omega) k0 k1
theorem pField_i2 {K : zK} {c : Int → Int} {p : Int} (hI : cInv c) (hz : cIn2 c) (e : (pField K c p).1 = 0) : cIn2 (pField K c p).2.2.1 := by
  revert e
  unfold pField
  split
  · intro e; exact hz
  · split
    · intro e; exact hz
    · split
      · intro e; exact hz
      · split
        · intro e; exact hz
        · rename_i q1 q2 q3 q4
          intro e
          exact cAddF_i2 hI.1 (by omega) hz
theorem pMix_i2 {K : zK} {c : Int → Int} {p : Int} (hI : cInv c) (hz : cIn2 c) (e : (pMix K c p).1 = 0) : cIn2 (pMix K c p).2.2.1 := by
  have hw := wfD_of hI.1
  have l1 := cFld_lt (c := c) (v := kW K (kR K p)) hw
  have l2 := cFld_lt (c := c) (v := kW K (kR K (kR K p))) hw
  revert e
  unfold pMix
  split
  · intro e; exact hz
  · split
    · intro e; exact hz
    · split
      · intro e; exact hz
      · split
        · intro e; exact hz
        · split
          · intro e; exact hz
          · split
            · intro e; exact hz
            · split
              · intro e; exact hz
              · rename_i q1 q2 q3 q4 q5 q6 q7
                intro e
                have q7 := Decidable.not_not.mp q7
                have hb := zb_iff01 q7.2.2.1
                have f1 := (hI.1.2.2.2.1 (cFld c (kW K (kR K p))) (by omega) (by omega)).2.2
                have f2 := (hI.1.2.2.2.1 (cFld c (kW K (kR K (kR K p)))) (by omega) (by omega)).2.2
                exact cAddM_i2 hI.1 (by omega) hz (by omega) (by omega) (by omega)
theorem pRow_i2 {K : zK} {c0 : Int → Int} {ve no : Int} (hI : cInv c0) (hz : cIn2 c0) (h2 : c0 2 < 8) : ∀ (j : Nat) (c : Int → Int) (n p : Int), n + j = 7 → 0 ≤ n ∧ n ≤ 6 → cHalf c0 c n → cHb c0 c n → cPre c0 (c0 2).toNat + n ≤ 12 → (pRow K (32 + 9 * c0 2) (cPre c0 (c0 2).toNat) ve no j c n p).1 = 0 → cIn2 (pRow K (32 + 9 * c0 2) (cPre c0 (c0 2).toNat) ve no j c n p).2.2.1
  | 0, c, n, p, hn, hn6, _, _, _ => by omega
  | j + 1, c, n, p, hn, hn6, hc, hb, h12 => by
    have w0 := hI.1.1
    have w3 := hI.1.2.2.1
    have hcl := cFld_lt0 (c := c) (v := kW K p) (by rw [hc.1 0 (by omega)]; exact w0.1)
    rw [hc.1 0 (by omega)] at hcl
    rw [pRow_s]
    split
    · intro _; exact half_i2 hI.1 h2 hc hb hn6.2 hz
    · split
      · intro e; exact absurd e kMis_ne
      · split
        · intro e; simp at e
        · split
          · intro e; simp at e
          · split
            · intro e; simp at e
            · rename_i q1 q2 q3 q4 q5
              intro e
              have hb1 := zb01 (kSn K (kR K p) 39)
              refine pRow_i2 hI hz h2 j _ (n + 1) _ (by omega) (by omega) (half_next hc (by omega) (by omega) (by omega) (by omega)) (fun k k0 k1 => ?_) (by omega) e
              by_cases ek : k = n
              · subst ek
                rw [eU_s]
                intro hm
                have hs : kSn K (kR K p) 39 := by
                  by_cases hs : kSn K (kR K p) 39
                  · exact hs
                  · rw [zb_f hs] at hm; omega
                have h1 : c (4 + 3 * cFld c (kW K p) + 1) = 1 := by
                  by_cases g : c (4 + 3 * cFld c (kW K p) + 1) = 1
                  · exact g
                  · exact absurd ⟨hs, g⟩ q5
                rw [zb_t hs, show (2 * cFld c (kW K p) + 1) / 2 = cFld c (kW K p) by omega, ← hc.1 _ (by omega)]
                exact h1
              · rw [eU_o (by omega)]
                exact hb k k0 (by omega)
theorem pPoint_i2 {K : zK} {c : Int → Int} {p : Int} (hI : cInv c) (hz : cIn2 c) (e : (pPoint K c p).1 = 0) : cIn2 (pPoint K c p).2.2.1 := by
  revert e
  unfold pPoint
  split
  · intro e; simp at e
  · split
    · intro e; exact absurd e kMis_ne
    · rename_i q1 q2
      intro e
      have q1 := Decidable.not_not.mp q1
      exact pRow_i2 hI hz q1.1 7 c 0 _ (by omega) (by omega) half_0 (fun k k0 k1 => by omega) (by have := hI.2.1; omega) e
theorem pLine_i2 {K : zK} {c : Int → Int} {p : Int} (hI : cInv c) (hz : cIn2 c) (e : (pLine K c p).1 = 0) : cIn2 (pLine K c p).2.2.1 := by
  revert e
  unfold pLine pEnd
  split
  · rename_i h; intro e; exact absurd e h
  · rename_i h
    have hb : cIn2 (pBody K c p).2.2.1 := by
      have h := Decidable.not_not.mp h
      revert h
      unfold pBody
      split
      · exact pField_i2 hI hz
      · split
        · exact pMix_i2 hI hz
        · split
          · exact pPoint_i2 hI hz
          · intro e; exact hz
    split
    · intro _; exact hb
    · intro _; exact hb
theorem pText_i2 {K : zK} (hk : kOk K) : ∀ (j : Nat) (c : Int → Int) (p : Int), cInv c → cIn2 c → (pText K j c p).1 = 0 → cIn2 (pText K j c p).2.2.1
  | 0, _, _, _, hz, _ => hz
  | j + 1, c, p, h, hz, e => by
    rw [pText_s] at e ⊢
    by_cases a : kSo K p = 0
    · rw [if_pos a]; exact hz
    rw [if_neg a] at e ⊢
    by_cases b : (pLine K c p).1 ≠ 0
    · rw [if_pos b] at e; exact absurd e b
    rw [if_neg b] at e ⊢
    exact pText_i2 hk j _ _ (pLine_ok hk h (Decidable.not_not.mp b)).1 (pLine_i2 h hz (Decidable.not_not.mp b)) e
/-- ALL that a told table keeps -/
def tI (c : Int → Int) : Prop := cInv c ∧ cMz c ∧ cIn2 c
theorem tI_load {K : zK} (hk : kOk K) {c : Int → Int} {p : Int} (h0 : cInv (cZ c)) (e : (pText K 401 (cZ c) p).1 = 0) : tI (pText K 401 (cZ c) p).2.2.1 := ⟨pText_ok hk 401 _ _ h0 e, pText_mz 401 _ _ h0 (cZ_mz c) hk e, pText_i2 hk 401 _ _ h0 (cZ_i2 c) e⟩
theorem tI_no {c : Int → Int} {p v : Int} (h : tI c) (p0 : 0 ≤ p) (p1 : p < c 2) (hv : v = 0 ∨ v = 1) : tI (eU c (32 + 9 * p + 2) v) := by
  obtain ⟨⟨hw, hp, hx⟩, hz, h1, h2⟩ := h
  have w := hw
  obtain ⟨w1, w2, w3, w4, w5, w6⟩ := w
  have e2 : eU c (32 + 9 * p + 2) v 2 = c 2 := eU_o (by omega)
  have e1 : eU c (32 + 9 * p + 2) v 1 = c 1 := eU_o (by omega)
  refine ⟨⟨eU_wfC hw p0 p1 hv, ?_, ?_⟩, fun k q0 q1 => ?_, fun k q0 q1 => ?_, fun p' k p0' p1' k0 k1 => ?_⟩
  · rw [e2, show cPre (eU c (32 + 9 * p + 2) v) (c 2).toNat = cPre c (c 2).toNat from zsum_congr (fun i q0 q1 => eU_o (by omega))]
    exact hp
  · unfold cVx at hx ⊢
    rw [e2, show zsum (fun p' => eU c (32 + 9 * p + 2) v (32 + 9 * p' + 1)) (c 2).toNat 0 = zsum (fun p' => c (32 + 9 * p' + 1)) (c 2).toNat 0 from zsum_congr (fun i q0 q1 => eU_o (by omega))]
    exact hx
  · rw [e1] at q1
    have hk := w5 k q0 q1
    rw [eU_o (y := 24 + 2 * k) (by omega), eU_o (y := 24 + 2 * k + 1) (by omega), eU_o (by omega), eU_o (by omega)]
    exact hz k q0 q1
  · rw [e1] at q1
    have hk := w5 k q0 q1
    rw [eU_o (y := 24 + 2 * k) (by omega), eU_o (y := 24 + 2 * k + 1) (by omega), eU_o (by omega), eU_o (by omega)]
    exact h1 k q0 q1
  · rw [e2] at p1'
    have hq := w6 p' p0' p1'
    rw [eU_o (by omega)] at k1
    have hl := hq.2.2.2 k k0 k1
    rw [eU_o (y := 32 + 9 * p' + 3 + k) (by omega), eU_o (by omega)]
    exact h2 p' k p0' p1' k0 k1
theorem tI_sw {c : Int → Int} {p k : Int} (h : tI c) (p0 : 0 ≤ p) (p1 : p < c 2) (k0 : 0 ≤ k) (k1 : k + 1 < c (32 + 9 * p)) : tI (eSw c (32 + 9 * p + 3 + k)) := by
  obtain ⟨⟨hw, hp, hx⟩, hz, h1, h2⟩ := h
  have hs := eSw_wfC hw p0 p1 k0 k1
  have w := hw
  obtain ⟨w1, w2, w3, w4, w5, w6⟩ := w
  have hq := w6 p p0 p1
  have e1 : eSw c (32 + 9 * p + 3 + k) 1 = c 1 := eSw_o (by omega) (by omega)
  refine ⟨⟨hs.1, by rw [hs.2.1, hs.2.2]; exact hp, ?_⟩, fun k' q0 q1 => ?_, fun k' q0 q1 => ?_, fun p' k' p0' p1' k0' k1' => ?_⟩
  · unfold cVx at hx ⊢
    rw [hs.2.1, show zsum (fun p' => eSw c (32 + 9 * p + 3 + k) (32 + 9 * p' + 1)) (c 2).toNat 0 = zsum (fun p' => c (32 + 9 * p' + 1)) (c 2).toNat 0 from zsum_congr (fun i q0 q1 => eSw_o (by omega) (by omega))]
    exact hx
  · rw [e1] at q1
    have hk := w5 k' q0 q1
    rw [eSw_o (y := 24 + 2 * k') (by omega) (by omega), eSw_o (y := 24 + 2 * k' + 1) (by omega) (by omega), eSw_o (by omega) (by omega), eSw_o (by omega) (by omega)]
    exact hz k' q0 q1
  · rw [e1] at q1
    have hk := w5 k' q0 q1
    rw [eSw_o (y := 24 + 2 * k') (by omega) (by omega), eSw_o (y := 24 + 2 * k' + 1) (by omega) (by omega), eSw_o (by omega) (by omega), eSw_o (by omega) (by omega)]
    exact h1 k' q0 q1
  · rw [hs.2.1] at p1'
    have hq' := w6 p' p0' p1'
    rw [eSw_o (by omega) (by omega)] at k1'
    have gen : ∀ x : Int, (∃ k2 : Int, 0 ≤ k2 ∧ k2 < c (32 + 9 * p') ∧ x = 32 + 9 * p' + 3 + k2) → c x % 2 = 1 → eSw c (32 + 9 * p + 3 + k) (4 + 3 * (c x / 2) + 1) = 1 := fun x hxx hm => by
      obtain ⟨k2, a0, a1, a2⟩ := hxx
      subst a2
      have hl := hq'.2.2.2 k2 a0 a1
      rw [eSw_o (by omega) (by omega)]
      exact h2 p' k2 p0' p1' a0 a1 hm
    by_cases ea : 32 + 9 * p' + 3 + k' = 32 + 9 * p + 3 + k + 1
    · have ep : p' = p := by omega
      subst ep
      rw [show eSw c (32 + 9 * p' + 3 + k) (32 + 9 * p' + 3 + k') = c (32 + 9 * p' + 3 + k) by unfold eSw; rw [if_pos ea]]
      exact gen _ ⟨k, k0, by omega, rfl⟩
    · by_cases eb : 32 + 9 * p' + 3 + k' = 32 + 9 * p + 3 + k
      · have ep : p' = p := by omega
        subst ep
        rw [show eSw c (32 + 9 * p' + 3 + k) (32 + 9 * p' + 3 + k') = c (32 + 9 * p' + 3 + k + 1) by unfold eSw; rw [if_neg ea, if_pos eb]]
        exact gen _ ⟨k + 1, by omega, k1, by omega⟩
      · rw [eSw_o eb ea]
        exact gen _ ⟨k', k0', k1', rfl⟩
theorem tI_blk {c g : Int → Int} {v : Int} (h : tI c) (hv : 0 ≤ v ∧ v ≤ 8) (hg : ∀ b, 0 ≤ b → b < v → 0 ≤ g b ∧ g b < c 2) (hp : zsum (fun q => c (32 + 9 * g q)) v.toNat 0 ≤ 12) (hx : zsum (fun q => c (32 + 9 * g q + 1)) v.toNat 0 ≤ 5) : tI (eN (eBlk c g) v) := by
  obtain ⟨⟨hw, _, _⟩, hz, h1, h2⟩ := h
  have w := hw
  obtain ⟨w1, w2, w3, w4, w5, w6⟩ := w
  have e2 : eN (eBlk c g) v 2 = v := if_pos rfl
  have eo : ∀ x, x ≠ 2 → x < 32 → eN (eBlk c g) v x = c x := fun x q0 q1 => by rw [eN_o q0, eBlk_o (Or.inl q1)]
  refine ⟨⟨eN_wfC hw hv hg, ?_, ?_⟩, eN_cMz (wfD_of hw) hz, fun k q0 q1 => ?_, fun p k p0 p1 k0 k1 => ?_⟩
  · rw [e2, eN_pre (by omega)]; exact hp
  · unfold cVx
    rw [e2, show zsum (fun p => eN (eBlk c g) v (32 + 9 * p + 1)) v.toNat 0 = zsum (fun q => c (32 + 9 * g q + 1)) v.toNat 0 from zsum_congr (fun i q0 q1 => eB_at q0 (by omega) (by omega) (by omega))]
    exact hx
  · rw [eo 1 (by omega) (by omega)] at q1
    have hk := w5 k q0 q1
    rw [eo (24 + 2 * k) (by omega) (by omega), eo (24 + 2 * k + 1) (by omega) (by omega), eo _ (by omega) (by omega), eo _ (by omega) (by omega)]
    exact h1 k q0 q1
  · rw [e2] at p1
    have hb := hg p p0 p1
    have hq := w6 (g p) hb.1 hb.2
    rw [eB_0 p0 (by omega)] at k1
    have hl := hq.2.2.2 k k0 k1
    rw [show 32 + 9 * p + 3 + k = 32 + 9 * p + (3 + k) by omega, eB_at p0 (by omega) (by omega) (by omega), show 32 + 9 * g p + (3 + k) = 32 + 9 * g p + 3 + k by omega, eo (4 + 3 * (c (32 + 9 * g p + 3 + k) / 2) + 1) (by omega) (by omega)]
    exact h2 (g p) k hb.1 hb.2 k0 k1
theorem tI_drop {c : Int → Int} {p : Int} (h : tI c) (p0 : 0 ≤ p) (p1 : p < c 2) : tI (eN (eBlk c (gD p (c 2 - 1))) (c 2 - 1)) := by
  have w3 := h.1.1.2.2.1
  have w6 := h.1.1.2.2.2.2.2 p p0 p1
  have hp := h.1.2.1
  have hx := h.1.2.2
  unfold cPre at hp
  unfold cVx at hx
  refine tI_blk h (by omega) (fun b b0 b1 => by unfold gD; split <;> omega) ?_ ?_
  · have := sum_drop (f := fun q => c (32 + 9 * q)) p0 p1
    omega
  · have := sum_drop (f := fun q => c (32 + 9 * q + 1)) p0 p1
    omega
theorem tI_move {c : Int → Int} {p u : Int} (h : tI c) (p0 : 0 ≤ p) (p1 : p < c 2) (u0 : 0 ≤ u) (u1 : u < c 2) : tI (eN (eBlk c (gM p u)) (c 2)) := by
  have w3 := h.1.1.2.2.1
  have hp := h.1.2.1
  have hx := h.1.2.2
  unfold cPre at hp
  unfold cVx at hx
  refine tI_blk h (by omega) (fun b b0 b1 => gM_rg p0 p1 u0 u1 b0 b1) ?_ ?_
  · have := sum_move (f := fun q => c (32 + 9 * q)) p0 p1 u0 u1
    omega
  · have := sum_move (f := fun q => c (32 + 9 * q + 1)) p0 p1 u0 u1
    omega
theorem tI_copy {c : Int → Int} {p : Int} (h : tI c) (p0 : 0 ≤ p) (p1 : p < c 2) (h8 : c 2 < 8) (hn : cPre c (c 2).toNat + c (32 + 9 * p) ≤ 12) (hv : ¬ (c (32 + 9 * p + 1) = 1 ∧ cVx c = 5)) : tI (eN (eBlk c (fun b => if b = c 2 then p else b)) (c 2 + 1)) := by
  have w3 := h.1.1.2.2.1
  have w6 := h.1.1.2.2.2.2.2 p p0 p1
  have hx := h.1.2.2
  unfold cPre at hn
  unfold cVx at hx hv
  have key : ∀ o : Int, zsum (fun q => c (32 + 9 * (fun b => if b = c 2 then p else b) q + o)) (c 2 + 1).toNat 0 = zsum (fun q => c (32 + 9 * q + o)) (c 2).toNat 0 + c (32 + 9 * p + o) := fun o => by
    rw [show (c 2 + 1).toNat = (c 2).toNat + 1 by omega, zsum_app, zsum_s, zsum_0, show (0 : Int) + (((c 2).toNat : Nat) : Int) = c 2 by omega]
    rw [zsum_congr (j := (c 2).toNat) (g := fun q => c (32 + 9 * q + o)) (fun i q0 q1 => by dsimp only; rw [if_neg (show ¬ i = c 2 by omega)])]
    dsimp only
    rw [if_pos rfl]
    omega
  refine tI_blk h (by omega) (fun b b0 b1 => by split <;> omega) ?_ ?_
  · have := key 0
    simp only [Int.add_zero] at this
    omega
  · refine Int.le_trans (Int.le_of_eq (key 1)) ?_
    omega
theorem zmask_congr {f g : Nat → Bool} {n : Nat} (h : ∀ i, i < n → f i = g i) : zmask f n = zmask g n := zset_ext (fun i => by
  rw [zmask_bit, zmask_bit]
  by_cases hi : i < n
  · rw [h i hi]
  · rw [decide_eq_false hi, Bool.false_and, Bool.false_and])
/-- two flat lists of one table are one -/
theorem flat_same {c w q w' q' : Int → Int} {n n' : Int} (hw : wfC c) (h : isFlat c w q n) (h' : isFlat c w' q' n') : n = n' ∧ ∀ i, 0 ≤ i → i < n → w i = w' i ∧ q i = q' i := by
  refine ⟨by rw [h.1, h'.1], fun i i0 i1 => ?_⟩
  obtain ⟨p, k, a1, a2, a3, a4, a5⟩ := lt_at hw h i0 i1
  have := h'.2 p k a1 a2
  rw [← a3] at this
  rw [a4, a5, this.1, this.2]
  exact ⟨rfl, rfl⟩
theorem cMay_wq {c w q w' q' : Int → Int} {i j : Int} (hi : w i = w' i ∧ q i = q' i) (hj : w j = w' j ∧ q j = q' j) : cMay c w q i j = cMay c w' q' i j := by
  unfold cMay
  rw [hi.1, hi.2, hj.1, hj.2]
theorem cCode_wq {c w q w' q' : Int → Int} {i j : Int} (hi : w i = w' i ∧ q i = q' i) (hj : w j = w' j ∧ q j = q' j) : cCode c w q i j = cCode c w' q' i j := by
  unfold cCode
  rw [hi.1, hi.2, hj.1, hj.2]
theorem cFl_wq {m : zM} {t : Int} {c w q w' q' : Int → Int} {n : Int} (h : cFl m t c w q n) (hs : ∀ i, 0 ≤ i → i < n → w i = w' i ∧ q i = q' i) : cFl m t c w' q' n := by
  obtain ⟨h1, h2, h3, h4⟩ := h
  refine ⟨h1, fun i i0 i1 => ?_, fun i j i0 i1 j0 j1 hm => ?_, ?_⟩
  · have a := h2 i i0 i1
    have e := hs i i0 i1
    refine ⟨by rw [← e.1]; exact a.1, by rw [← e.2]; exact a.2.1, ?_⟩
    rw [a.2.2]
    congr 1
    exact zmask_congr (fun j hj => cMay_wq e (hs j (by omega) (by omega)))
  · have ei := hs i i0 i1
    have ej := hs j j0 j1
    rw [← cMay_wq ei ej] at hm
    rw [h3 i j i0 i1 j0 j1 hm]
    exact cCode_wq ei ej
  · rw [h4]
    congr 1
    refine zmask_congr (fun j hj => ?_)
    unfold cOd
    rw [(hs j (by omega) (by omega)).1]
