/-! what a line of a theory leaves -/
theorem kMis_nn {K : zK} {p : Int} : 0 ≤ kMis K p := by have := kMis_pos (K := K) (p := p); omega
theorem pField_nn (K : zK) (c : Int → Int) (p : Int) : 0 ≤ (pField K c p).1 := by
  unfold pField
  split
  · show (0 : Int) ≤ 6; decide
  · split
    · exact kMis_nn
    · split
      · show (0 : Int) ≤ 5; decide
      · split
        · exact kMis_nn
        · exact Int.le_refl _
theorem pMix_nn (K : zK) (c : Int → Int) (p : Int) : 0 ≤ (pMix K c p).1 := by
  unfold pMix
  split
  · show (0 : Int) ≤ 6; decide
  · split
    · exact kMis_nn
    · split
      · show (0 : Int) ≤ 3; decide
      · split
        · show (0 : Int) ≤ 4; decide
        · split
          · exact kMis_nn
          · split
            · show (0 : Int) ≤ 3; decide
            · split
              · show (0 : Int) ≤ 4; decide
              · exact Int.le_refl _
theorem pRow_nn (K : zK) (b o ve no : Int) : ∀ (j : Nat) (c : Int → Int) (n p : Int), 0 ≤ (pRow K b o ve no j c n p).1
  | 0, _, _, _ => Int.le_refl _
  | j + 1, c, n, p => by
    rw [pRow_s]
    split
    · exact Int.le_refl _
    · split
      · exact kMis_nn
      · split
        · show (0 : Int) ≤ 3; decide
        · split
          · show (0 : Int) ≤ 6; decide
          · split
            · show (0 : Int) ≤ 4; decide
            · exact pRow_nn K b o ve no j _ _ _
theorem pPoint_nn (K : zK) (c : Int → Int) (p : Int) : 0 ≤ (pPoint K c p).1 := by
  unfold pPoint
  split
  · show (0 : Int) ≤ 6; decide
  · split
    · exact kMis_nn
    · exact pRow_nn _ _ _ _ _ _ _ _ _
/-- a line but its end -/
def pBody (K : zK) (c : Int → Int) (p : Int) : zPr := if kWd K p 3369766 then pField K c p else if kWd K p 9744 then pMix K c p else if kWd K p 209220123 ∨ kWd K p 8399691 ∨ kWd K p 318702192 then pPoint K c p else (kMis K p, p, c, p)
def pEnd (K : zK) (r : zPr) : zPr := if r.1 ≠ 0 then r else if kSn K r.2.2.2 59 then (0, 0, r.2.2.1, kR K r.2.2.2) else (kMis K r.2.2.2, r.2.2.2, r.2.2.1, r.2.2.2)
def pLine (K : zK) (c : Int → Int) (p : Int) : zPr := pEnd K (pBody K c p)
/-- all lines -/
def pText (K : zK) : Nat → (Int → Int) → Int → zPr
  | 0, c, p => (0, 0, c, p)
  | j + 1, c, p => if kSo K p = 0 then (0, 0, c, p) else if (pLine K c p).1 ≠ 0 then pLine K c p else pText K j (pLine K c p).2.2.1 (pLine K c p).2.2.2
theorem pText_s (K : zK) (j : Nat) (c : Int → Int) (p : Int) : pText K (j + 1) c p = if kSo K p = 0 then (0, 0, c, p) else if (pLine K c p).1 ≠ 0 then pLine K c p else pText K j (pLine K c p).2.2.1 (pLine K c p).2.2.2 := rfl
theorem pBody_nn (K : zK) (c : Int → Int) (p : Int) : 0 ≤ (pBody K c p).1 := by
  unfold pBody
  split
  · exact pField_nn _ _ _
  · split
    · exact pMix_nn _ _ _
    · split
      · exact pPoint_nn _ _ _
      · exact kMis_nn
theorem pLine_nn (K : zK) (c : Int → Int) (p : Int) : 0 ≤ (pLine K c p).1 := by
  unfold pLine pEnd
  split
  · exact pBody_nn _ _ _
  · split
    · exact Int.le_refl _
    · exact kMis_nn
theorem pText_nn (K : zK) : ∀ (j : Nat) (c : Int → Int) (p : Int), 0 ≤ (pText K j c p).1
  | 0, _, _ => Int.le_refl _
  | j + 1, c, p => by
    rw [pText_s]
    split
    · exact Int.le_refl _
    · split
      · exact pLine_nn _ _ _
      · exact pText_nn K j _ _
theorem kR_ge {K : zK} {p : Int} (h : kOk K) : p + 1 ≤ kR K p := by
  have h1 := kNx_gt (p := p) h
  have h2 := kSk_ge (k := kNx K p) h
  unfold kR
  omega
/-- a theory as it is read: its table, its letters, its vertices -/
def cInv (c : Int → Int) : Prop := wfC c ∧ cPre c (c 2).toNat ≤ 12 ∧ cVx c ≤ 5
theorem cAddF_ok {c : Int → Int} {l a b : Int} (h : cInv c) (h0 : c 0 < 6) (hl : 1 ≤ l ∧ l ≤ 26) (ha : a = 0 ∨ a = 1) (hb : b = 0 ∨ b = 1) : cInv (cAddF c l a b) := by
  obtain ⟨⟨w1, w2, w3, w4, w5, w6⟩, hp, hv⟩ := h
  have e0 : cAddF c l a b 0 = c 0 + 1 := if_pos rfl
  have eo : ∀ x, x ≠ 0 → x ≠ 4 + 3 * c 0 + 2 → x ≠ 4 + 3 * c 0 + 1 → x ≠ 4 + 3 * c 0 → cAddF c l a b x = c x := fun x q0 q1 q2 q3 => by unfold cAddF; rw [if_neg q0, if_neg q1, if_neg q2, if_neg q3]
  have e1 : cAddF c l a b 1 = c 1 := eo 1 (by omega) (by omega) (by omega) (by omega)
  have e2 : cAddF c l a b 2 = c 2 := eo 2 (by omega) (by omega) (by omega) (by omega)
  have ep : ∀ x, 24 ≤ x → cAddF c l a b x = c x := fun x q => eo x (by omega) (by omega) (by omega) (by omega)
  refine ⟨⟨by rw [e0]; omega, by rw [e1]; exact w2, by rw [e2]; exact w3, fun f q0 q1 => ?_, fun k q0 q1 => ?_, fun p q0 q1 => ?_⟩, ?_, ?_⟩
  · rw [e0] at q1
    by_cases e : f = c 0
    · subst e
      have k1 : cAddF c l a b (4 + 3 * c 0) = l := by unfold cAddF; rw [if_neg (by omega), if_neg (by omega), if_neg (by omega), if_pos rfl]
      have k2 : cAddF c l a b (4 + 3 * c 0 + 1) = a := by unfold cAddF; rw [if_neg (by omega), if_neg (by omega), if_pos rfl]
      have k3 : cAddF c l a b (4 + 3 * c 0 + 2) = b := by unfold cAddF; rw [if_neg (by omega), if_pos rfl]
      rw [k1, k2, k3]
      exact ⟨hl, ha, hb⟩
    · rw [eo _ (by omega) (by omega) (by omega) (by omega), eo _ (by omega) (by omega) (by omega) (by omega), eo _ (by omega) (by omega) (by omega) (by omega)]
      exact w4 f q0 (by omega)
  · rw [e1] at q1
    rw [e0, ep _ (by omega), ep _ (by omega)]
    have := w5 k q0 q1
    omega
  · rw [e2] at q1
    have h := w6 p q0 q1
    rw [ep (32 + 9 * p) (by omega), ep (32 + 9 * p + 1) (by omega), ep (32 + 9 * p + 2) (by omega), e0]
    refine ⟨h.1, h.2.1, h.2.2.1, fun k r0 r1 => ?_⟩
    rw [ep _ (by omega)]
    have := h.2.2.2 k r0 r1
    omega
  · rw [e2]
    rw [show cPre (cAddF c l a b) (c 2).toNat = cPre c (c 2).toNat from zsum_congr (fun i q0 q1 => ep _ (by omega))]
    exact hp
  · unfold cVx at hv ⊢
    rw [e2, show zsum (fun p => cAddF c l a b (32 + 9 * p + 1)) (c 2).toNat 0 = zsum (fun p => c (32 + 9 * p + 1)) (c 2).toNat 0 from zsum_congr (fun i q0 q1 => ep _ (by omega))]
    exact hv
theorem cAddM_ok {c : Int → Int} {f g : Int} (h : cInv c) (h1 : c 1 < 4) (hf : 0 ≤ f ∧ f < c 0) (hg : 0 ≤ g ∧ g < c 0) : cInv (cAddM c f g) := by
  obtain ⟨⟨w1, w2, w3, w4, w5, w6⟩, hp, hv⟩ := h
  have e1 : cAddM c f g 1 = c 1 + 1 := if_pos rfl
  have eo : ∀ x, x ≠ 1 → x ≠ 24 + 2 * c 1 + 1 → x ≠ 24 + 2 * c 1 → cAddM c f g x = c x := fun x q0 q1 q2 => by unfold cAddM; rw [if_neg q0, if_neg q1, if_neg q2]
  have e0 : cAddM c f g 0 = c 0 := eo 0 (by omega) (by omega) (by omega)
  have e2 : cAddM c f g 2 = c 2 := eo 2 (by omega) (by omega) (by omega)
  have ep : ∀ x, 32 ≤ x → cAddM c f g x = c x := fun x q => eo x (by omega) (by omega) (by omega)
  refine ⟨⟨by rw [e0]; exact w1, by rw [e1]; omega, by rw [e2]; exact w3, fun k q0 q1 => ?_, fun k q0 q1 => ?_, fun p q0 q1 => ?_⟩, ?_, ?_⟩
  · rw [e0] at q1
    rw [eo _ (by omega) (by omega) (by omega), eo _ (by omega) (by omega) (by omega), eo _ (by omega) (by omega) (by omega)]
    exact w4 k q0 q1
  · rw [e1] at q1
    rw [e0]
    by_cases e : k = c 1
    · subst e
      have k1 : cAddM c f g (24 + 2 * c 1) = f := by unfold cAddM; rw [if_neg (by omega), if_neg (by omega), if_pos rfl]
      have k2 : cAddM c f g (24 + 2 * c 1 + 1) = g := by unfold cAddM; rw [if_neg (by omega), if_pos rfl]
      rw [k1, k2]
      exact ⟨hf, hg⟩
    · rw [eo _ (by omega) (by omega) (by omega), eo _ (by omega) (by omega) (by omega)]
      exact w5 k q0 (by omega)
  · rw [e2] at q1
    have h := w6 p q0 q1
    rw [ep (32 + 9 * p) (by omega), ep (32 + 9 * p + 1) (by omega), ep (32 + 9 * p + 2) (by omega), e0]
    refine ⟨h.1, h.2.1, h.2.2.1, fun k r0 r1 => ?_⟩
    rw [ep _ (by omega)]
    exact h.2.2.2 k r0 r1
  · rw [e2]
    rw [show cPre (cAddM c f g) (c 2).toNat = cPre c (c 2).toNat from zsum_congr (fun i q0 q1 => ep _ (by omega))]
    exact hp
  · unfold cVx at hv ⊢
    rw [e2, show zsum (fun p => cAddM c f g (32 + 9 * p + 1)) (c 2).toNat 0 = zsum (fun p => c (32 + 9 * p + 1)) (c 2).toNat 0 from zsum_congr (fun i q0 q1 => ep _ (by omega))]
    exact hv
theorem pField_ok {K : zK} {c : Int → Int} {p : Int} (hk : kOk K) (h : cInv c) (e : (pField K c p).1 = 0) : cInv (pField K c p).2.2.1 ∧ p ≤ (pField K c p).2.2.2 := by
  unfold pField at e ⊢
  by_cases a1 : ¬ c 0 < 6
  · rw [if_pos a1] at e; exact absurd e (by show ¬ (6 : Int) = 0; decide)
  rw [if_neg a1] at e ⊢
  by_cases a2 : ¬ (kSo K (kR K p) = 1 ∧ kSz K (kR K p) = 1)
  · rw [if_pos a2] at e; exact absurd e kMis_ne
  rw [if_neg a2] at e ⊢
  by_cases a3 : 0 ≤ cFld c (kW K (kR K p))
  · rw [if_pos a3] at e; exact absurd e (by show ¬ (5 : Int) = 0; decide)
  rw [if_neg a3] at e ⊢
  by_cases a4 : ¬ (kWd K (kR K (kR K p)) 315918 ∨ kWd K (kR K (kR K p)) 357978)
  · rw [if_pos a4] at e; exact absurd e kMis_ne
  rw [if_neg a4] at e ⊢
  have hw := kW_1 (Decidable.not_not.mp a2)
  refine ⟨cAddF_ok h (by omega) (by omega) (zb01 _) (zb01 _), ?_⟩
  have g1 := kR_ge (p := p) hk
  have g2 := kR_ge (p := kR K p) hk
  have g3 := kR_ge (p := kR K (kR K p)) hk
  have g4 := kR_ge (p := kR K (kR K (kR K p))) hk
  show p ≤ if kWd K (kR K (kR K (kR K p))) 11047 then kR K (kR K (kR K (kR K p))) else kR K (kR K (kR K p))
  split <;> omega
theorem pMix_ok {K : zK} {c : Int → Int} {p : Int} (hk : kOk K) (h : cInv c) (e : (pMix K c p).1 = 0) : cInv (pMix K c p).2.2.1 ∧ p ≤ (pMix K c p).2.2.2 := by
  unfold pMix at e ⊢
  by_cases a1 : ¬ c 1 < 4
  · rw [if_pos a1] at e; exact absurd e (by show ¬ (6 : Int) = 0; decide)
  rw [if_neg a1] at e ⊢
  by_cases a2 : ¬ (kSo K (kR K p) = 1 ∧ kSz K (kR K p) = 1)
  · rw [if_pos a2] at e; exact absurd e kMis_ne
  rw [if_neg a2] at e ⊢
  by_cases a3 : ¬ 0 ≤ cFld c (kW K (kR K p))
  · rw [if_pos a3] at e; exact absurd e (by show ¬ (3 : Int) = 0; decide)
  rw [if_neg a3] at e ⊢
  by_cases a4 : c (4 + 3 * cFld c (kW K (kR K p)) + 1) = 1
  · rw [if_pos a4] at e; exact absurd e (by show ¬ (4 : Int) = 0; decide)
  rw [if_neg a4] at e ⊢
  by_cases a5 : ¬ (kSo K (kR K (kR K p)) = 1 ∧ kSz K (kR K (kR K p)) = 1)
  · rw [if_pos a5] at e; exact absurd e kMis_ne
  rw [if_neg a5] at e ⊢
  by_cases a6 : ¬ 0 ≤ cFld c (kW K (kR K (kR K p)))
  · rw [if_pos a6] at e; exact absurd e (by show ¬ (3 : Int) = 0; decide)
  rw [if_neg a6] at e ⊢
  split at e
  · exact absurd e (by show ¬ (4 : Int) = 0; decide)
  · rename_i a7
    rw [if_neg a7]
    have r1 := cFld_rg h.1.1 (Decidable.not_not.mp a3)
    have r2 := cFld_rg h.1.1 (Decidable.not_not.mp a6)
    refine ⟨cAddM_ok h (by omega) ⟨by omega, r1.1⟩ ⟨by omega, r2.1⟩, ?_⟩
    have g1 := kR_ge (p := p) hk
    have g2 := kR_ge (p := kR K p) hk
    have g3 := kR_ge (p := kR K (kR K p)) hk
    show p ≤ kR K (kR K (kR K p))
    omega
/-- a point that is half read -/
def cHalf (c0 c : Int → Int) (n : Int) : Prop := (∀ x, (x < 32 + 9 * c0 2 + 3 ∨ 32 + 9 * c0 2 + 9 ≤ x) → c x = c0 x) ∧ ∀ k, 0 ≤ k → k < n → 0 ≤ c (32 + 9 * c0 2 + 3 + k) ∧ c (32 + 9 * c0 2 + 3 + k) < 2 * c0 0
theorem cHalf_ok {c0 c : Int → Int} {n ve no : Int} (h : cInv c0) (h2 : c0 2 < 8) (hc : cHalf c0 c n) (hn : 1 ≤ n ∧ n ≤ 6) (ht : cPre c0 (c0 2).toNat + n ≤ 12) (hve : ve = 0 ∨ ve = 1) (hno : no = 0 ∨ no = 1) (hv : ¬ (ve = 1 ∧ cVx c0 = 5)) : cInv (cAddP c (32 + 9 * c0 2) n ve no) := by
  obtain ⟨⟨w1, w2, w3, w4, w5, w6⟩, hp, hv5⟩ := h
  obtain ⟨ho, hk⟩ := hc
  have c2 : c 2 = c0 2 := ho 2 (by omega)
  have e2 : cAddP c (32 + 9 * c0 2) n ve no 2 = c0 2 + 1 := by unfold cAddP; rw [if_pos rfl, c2]
  have eo : ∀ x, x ≠ 2 → (x < 32 + 9 * c0 2 ∨ 32 + 9 * c0 2 + 9 ≤ x) → cAddP c (32 + 9 * c0 2) n ve no x = c0 x := fun x q0 q1 => by unfold cAddP; rw [if_neg q0, if_neg (by omega), if_neg (by omega), if_neg (by omega)]; exact ho x (by omega)
  have b0 : cAddP c (32 + 9 * c0 2) n ve no (32 + 9 * c0 2) = n := by unfold cAddP; rw [if_neg (by omega), if_neg (by omega), if_neg (by omega), if_pos rfl]
  have b1 : cAddP c (32 + 9 * c0 2) n ve no (32 + 9 * c0 2 + 1) = ve := by unfold cAddP; rw [if_neg (by omega), if_neg (by omega), if_pos rfl]
  have b2 : cAddP c (32 + 9 * c0 2) n ve no (32 + 9 * c0 2 + 2) = no := by unfold cAddP; rw [if_neg (by omega), if_pos rfl]
  have b3 : ∀ k, 0 ≤ k → k < 6 → cAddP c (32 + 9 * c0 2) n ve no (32 + 9 * c0 2 + 3 + k) = c (32 + 9 * c0 2 + 3 + k) := fun k q0 q1 => by unfold cAddP; rw [if_neg (by omega), if_neg (by omega), if_neg (by omega), if_neg (by omega)]
  have e0 : cAddP c (32 + 9 * c0 2) n ve no 0 = c0 0 := eo 0 (by omega) (by omega)
  have e1 : cAddP c (32 + 9 * c0 2) n ve no 1 = c0 1 := eo 1 (by omega) (by omega)
  refine ⟨⟨by rw [e0]; exact w1, by rw [e1]; exact w2, by rw [e2]; omega, fun f q0 q1 => ?_, fun k q0 q1 => ?_, fun p q0 q1 => ?_⟩, ?_, ?_⟩
  · rw [e0] at q1
    rw [eo _ (by omega) (by omega), eo _ (by omega) (by omega), eo _ (by omega) (by omega)]
    exact w4 f q0 q1
  · rw [e1] at q1
    rw [e0, eo _ (by omega) (by omega), eo _ (by omega) (by omega)]
    exact w5 k q0 q1
  · rw [e2] at q1
    rw [e0]
    by_cases e : p = c0 2
    · subst e
      rw [b0, b1, b2]
      refine ⟨hn, hve, hno, fun k r0 r1 => ?_⟩
      rw [b3 k r0 (by omega)]
      exact hk k r0 r1
    · have h := w6 p q0 (by omega)
      rw [eo (32 + 9 * p) (by omega) (by omega), eo (32 + 9 * p + 1) (by omega) (by omega), eo (32 + 9 * p + 2) (by omega) (by omega)]
      refine ⟨h.1, h.2.1, h.2.2.1, fun k r0 r1 => ?_⟩
      rw [eo _ (by omega) (by omega)]
      exact h.2.2.2 k r0 r1
  · rw [e2, show (c0 2 + 1).toNat = (c0 2).toNat + 1 by omega, cPre_s, show (((c0 2).toNat : Nat) : Int) = c0 2 by omega, b0]
    rw [show cPre (cAddP c (32 + 9 * c0 2) n ve no) (c0 2).toNat = cPre c0 (c0 2).toNat from zsum_congr (fun i q0 q1 => eo _ (by omega) (by omega))]
    exact ht
  · unfold cVx at hv hv5 ⊢
    rw [e2, show (c0 2 + 1).toNat = (c0 2).toNat + 1 by omega, zsum_app, zsum_s, zsum_0, show (0 : Int) + (((c0 2).toNat : Nat) : Int) = c0 2 by omega, b1]
    rw [show zsum (fun p => cAddP c (32 + 9 * c0 2) n ve no (32 + 9 * p + 1)) (c0 2).toNat 0 = zsum (fun p => c0 (32 + 9 * p + 1)) (c0 2).toNat 0 from zsum_congr (fun i q0 q1 => eo _ (by omega) (by omega))]
    omega
theorem pRow_ok {K : zK} {c0 : Int → Int} {ve no : Int} (hk : kOk K) (h : cInv c0) (h2 : c0 2 < 8) (hve : ve = 0 ∨ ve = 1) (hno : no = 0 ∨ no = 1) (hv : ¬ (ve = 1 ∧ cVx c0 = 5)) : ∀ (j : Nat) (c : Int → Int) (n p : Int), n + j = 7 → 0 ≤ n ∧ n ≤ 6 → cHalf c0 c n → cPre c0 (c0 2).toNat + n ≤ 12 → (pRow K (32 + 9 * c0 2) (cPre c0 (c0 2).toNat) ve no j c n p).1 = 0 → cInv (pRow K (32 + 9 * c0 2) (cPre c0 (c0 2).toNat) ve no j c n p).2.2.1 ∧ p ≤ (pRow K (32 + 9 * c0 2) (cPre c0 (c0 2).toNat) ve no j c n p).2.2.2
  | 0, c, n, p, hj, hn, _, _, _ => by omega
  | j + 1, c, n, p, hj, hn, hc, ht, e => by
    rw [pRow_s] at e ⊢
    by_cases a1 : n ≠ 0 ∧ kSo K p ≠ 1
    · rw [if_pos a1]
      exact ⟨cHalf_ok h h2 hc (by omega) ht hve hno hv, Int.le_refl _⟩
    rw [if_neg a1] at e ⊢
    by_cases a2 : ¬ (kSo K p = 1 ∧ kSz K p = 1)
    · rw [if_pos a2] at e; exact absurd e kMis_ne
    rw [if_neg a2] at e ⊢
    by_cases a3 : ¬ 0 ≤ cFld c (kW K p)
    · rw [if_pos a3] at e; exact absurd e (by show ¬ (3 : Int) = 0; decide)
    rw [if_neg a3] at e ⊢
    by_cases a4 : ¬ (n < 6 ∧ cPre c0 (c0 2).toNat + n < 12)
    · rw [if_pos a4] at e; exact absurd e (by show ¬ (6 : Int) = 0; decide)
    rw [if_neg a4] at e ⊢
    split at e
    · exact absurd e (by show ¬ (4 : Int) = 0; decide)
    · rename_i a5
      rw [if_neg a5]
      have w1 := h.1.1
      have w3 := h.1.2.2.1
      have cc0 : c 0 = c0 0 := hc.1 0 (by omega)
      have r1 := cFld_rg (c := c) (by rw [cc0]; exact w1) (Decidable.not_not.mp a3)
      have zz := zb01 (kSn K (kR K p) 39)
      have hq := pRow_ok hk h h2 hve hno hv j _ (n + 1) (if kSn K (kR K p) 39 then kR K (kR K p) else kR K p) (by omega) (by omega) ⟨fun x hx => by rw [eU_o (by omega)]; exact hc.1 x hx, fun k q0 q1 => ?_⟩ (by omega) e
      · refine ⟨hq.1, Int.le_trans ?_ hq.2⟩
        have g1 := kR_ge (p := p) hk
        have g2 := kR_ge (p := kR K p) hk
        split <;> omega
      · by_cases ek : k = n
        · subst ek
          rw [eU_s]
          omega
        · rw [eU_o (by omega)]
          exact hc.2 k q0 (by omega)
theorem pPoint_ok {K : zK} {c : Int → Int} {p : Int} (hk : kOk K) (h : cInv c) (e : (pPoint K c p).1 = 0) : cInv (pPoint K c p).2.2.1 ∧ p ≤ (pPoint K c p).2.2.2 := by
  unfold pPoint at e ⊢
  by_cases a1 : ¬ (c 2 < 8 ∧ ¬ (pVe K p = 1 ∧ zsum (fun p => c (32 + 9 * p + 1)) (c 2).toNat 0 = 5))
  · rw [if_pos a1] at e; exact absurd e (by show ¬ (6 : Int) = 0; decide)
  rw [if_neg a1] at e ⊢
  by_cases a2 : ¬ (kWd K (pP1 K p) 318702192 ∨ kWd K (pP1 K p) 8399691)
  · rw [if_pos a2] at e; exact absurd e kMis_ne
  rw [if_neg a2] at e ⊢
  have b := Decidable.not_not.mp a1
  have hq := pRow_ok hk h b.1 (by unfold pVe; split <;> exact zb01 _) (zb01 _) b.2 7 c 0 (kR K (pP1 K p)) (by omega) (by omega) ⟨fun _ _ => rfl, fun k q0 q1 => by omega⟩ (by have := h.2.1; omega) e
  refine ⟨hq.1, Int.le_trans ?_ hq.2⟩
  have g1 := kR_ge (p := p) hk
  have g2 := kR_ge (p := pP1 K p) hk
  have g3 : p ≤ pP1 K p := by unfold pP1; split <;> omega
  omega
theorem pLine_ok {K : zK} {c : Int → Int} {p : Int} (hk : kOk K) (h : cInv c) (e : (pLine K c p).1 = 0) : cInv (pLine K c p).2.2.1 ∧ p + 1 ≤ (pLine K c p).2.2.2 := by
  unfold pLine pEnd at e ⊢
  by_cases a : (pBody K c p).1 ≠ 0
  · rw [if_pos a] at e; exact absurd e a
  rw [if_neg a] at e ⊢
  by_cases b : kSn K (pBody K c p).2.2.2 59
  · rw [if_pos b]
    have a := Decidable.not_not.mp a
    have key : cInv (pBody K c p).2.2.1 ∧ p ≤ (pBody K c p).2.2.2 := by
      unfold pBody at a ⊢
      by_cases c1 : kWd K p 3369766
      · rw [if_pos c1] at a ⊢; exact pField_ok hk h a
      rw [if_neg c1] at a ⊢
      by_cases c2 : kWd K p 9744
      · rw [if_pos c2] at a ⊢; exact pMix_ok hk h a
      rw [if_neg c2] at a ⊢
      by_cases c3 : kWd K p 209220123 ∨ kWd K p 8399691 ∨ kWd K p 318702192
      · rw [if_pos c3] at a ⊢; exact pPoint_ok hk h a
      rw [if_neg c3] at a
      exact absurd a kMis_ne
    have g := kR_ge (p := (pBody K c p).2.2.2) hk
    exact ⟨key.1, by show p + 1 ≤ kR K (pBody K c p).2.2.2; have := key.2; omega⟩
  · rw [if_neg b] at e; exact absurd e kMis_ne
theorem pText_ok {K : zK} (hk : kOk K) : ∀ (j : Nat) (c : Int → Int) (p : Int), cInv c → (pText K j c p).1 = 0 → cInv (pText K j c p).2.2.1
  | 0, _, _, h, _ => h
  | j + 1, c, p, h, e => by
    rw [pText_s] at e ⊢
    by_cases a : kSo K p = 0
    · rw [if_pos a]; exact h
    rw [if_neg a] at e ⊢
    by_cases b : (pLine K c p).1 ≠ 0
    · rw [if_pos b] at e; exact absurd e b
    rw [if_neg b] at e ⊢
    exact pText_ok hk j _ _ (pLine_ok hk h (Decidable.not_not.mp b)).1 e
