/-! another row of kinds and points that says the same -/
theorem sLay_cg {n : Nat} {may may' : Int → Int → Bool} (h : ∀ i j : Int, 0 ≤ i → i < n → 0 ≤ j → j < n → may i j = may' i j) : ∀ (u : Nat) (mt : Int → Int), sLay n may u mt = sLay n may' u mt
  | 0, mt => rfl
  | u + 1, mt => by
    rw [sLay_s, sLay_s]
    split
    · rfl
    · rename_i hf
      have hl := sFst_lt hf
      refine sCat_congr (fun j j0 j1 => ?_)
      rw [h _ _ hl.1 hl.2.1 (by omega) (by omega), sLay_cg h u]
theorem tb_cg {n : Nat} {may may' : Int → Int → Bool} (h : ∀ i j : Int, 0 ≤ i → i < n → 0 ≤ j → j < n → may i j = may' i j) (S : Nat) : tb n may S = tb n may' S := by
  unfold tb
  rw [sLay_cg h]
theorem trR_cg {n : Nat} {od od' br br' : Int → Bool} {M : Int → Int} (h : ∀ i : Int, 0 ≤ i → i < n → od i = od' i ∧ br i = br' i) : trR n od br M = trR n od' br' M := by
  unfold trR
  refine zsum_congr (fun i i0 i1 => ?_)
  have hi := h i i0 (by omega)
  rw [hi.1, hi.2]
  split
  · congr 1
    refine zsum_congr (fun r r0 r1 => ?_)
    unfold trT
    rw [(h r r0 (by omega)).1]
  · rfl
theorem turn_cg2 {n : Nat} {od od' br br' : Int → Bool} {M : Int → Int} (h : ∀ i : Int, 0 ≤ i → i < n → od i = od' i ∧ br i = br' i) : sTurn n od br M = sTurn n od' br' M := by
  unfold sTurn
  refine zsum_congr (fun i i0 i1 => ?_)
  have hi := h i i0 (by omega)
  rw [hi.1, hi.2]
  split
  · congr 1
    refine zsum_congr (fun r r0 r1 => ?_)
    rw [(h r (by omega) (by omega)).1]
  · rfl
section ZTR
variable {c w q w' q' : Int → Int} {n : Int}
theorem pairs_cg (hs : ∀ i, 0 ≤ i → i < n → w i = w' i ∧ q i = q' i) : tPairs (c, w, q, n) = tPairs (c, w', q', n) := by
  show sLay n.toNat (cMay c w q) 6 mt0 = sLay n.toNat (cMay c w' q') 6 mt0
  exact sLay_cg (fun i j i0 i1 j0 j1 => cMay_wq (hs i i0 (by omega)) (hs j j0 (by omega))) 6 mt0
theorem ob_cg (hs : ∀ i, 0 ≤ i → i < n → w i = w' i ∧ q i = q' i) : ∀ i : Int, 0 ≤ i → i < n.toNat → cOd c w i = cOd c w' i ∧ cBr c w i = cBr c w' i := fun i i0 i1 => by
  unfold cOd cBr
  rw [(hs i i0 (by omega)).1]
  exact ⟨rfl, rfl⟩
theorem sign_cg (hs : ∀ i, 0 ≤ i → i < n → w i = w' i ∧ q i = q' i) (r : Int → Int) : tSign (c, w, q, n) r = tSign (c, w', q', n) r := by
  unfold tSign sSign
  rw [turn_cg2 (ob_cg hs)]
theorem cJ_tr0 {m : zM} {E : zE} {X X' : Int → Int} {t s a cap a2 cap2 ka kcap b bcap : Int} (h : cJ m E (c, w, q, n) X t s a cap a2 cap2 ka kcap b bcap) (hs : ∀ i, 0 ≤ i → i < n → w i = w' i ∧ q i = q' i) (hf : isFlat c w' q' n) (hX : ∀ i : Int, 0 ≤ i → i < 800 → X i = X' i) (h9 : m 14 19 = 0) : cJ m E (c, w', q', n) X' t s a cap a2 cap2 ka kcap b bcap := by
  obtain ⟨hA, hT, hW, hQ, hU, hD, hG, hE, hP, hR⟩ := h
  have ep := pairs_cg (c := c) hs
  refine ⟨hA, ⟨hT.1, cFl_wq hT.2.1 hs, fun i i0 i1 => (hT.2.2 i i0 i1).trans (hX i i0 i1)⟩, ⟨hW.1, hW.2.1, fun e => ⟨(hW.2.2 e).1, fun x hx => ?_⟩⟩, ⟨hQ.1, hQ.2.1, hQ.2.2.1, fun e => ?_, hQ.2.2.2.2⟩, hU, ⟨hD.1, hD.2.1, hD.2.2.1, hD.2.2.2.1, hD.2.2.2.2.1, hD.2.2.2.2.2.1, fun e => absurd (h9.symm.trans e) (by decide)⟩, hG, hE, ⟨hP.1, hf, fun k k0 k1 => by rw [← hX k k0 k1]; exact hP.2.2 k k0 k1⟩, hR⟩
  · rw [(hW.2.2 e).2 x hx]
    exact tb_cg (n := n.toNat) (may := cMay c w q) (may' := cMay c w' q') (fun i j i0 i1 j0 j1 => cMay_wq (hs i i0 (by omega)) (hs j j0 (by omega))) x
  · obtain ⟨q1, q2, q3⟩ := hQ.2.2.2.1 e
    obtain ⟨p0, p1, p2, p3, p4, p5, p6⟩ := q2
    refine ⟨q1, ⟨p0, p1, by rw [← ep]; exact p2, p3, p4, p5, fun t mt ht => ?_⟩, ?_⟩
    · rw [← ep] at ht
      have := p6 t mt ht
      refine ⟨this.1, this.2.trans ?_⟩
      show pF n.toNat (cOd c w) (cBr c w) _ + _ = pF n.toNat (cOd c w') (cBr c w') _ + _
      unfold pF
      rw [trR_cg (ob_cg hs)]
    · show rm ((tPairs (c, w', q', n)).length : Int) ≤ cap
      rw [← ep]
      exact q3
end ZTR
theorem cJ_tr {m : zM} {E : zE} {T T' : zT} {X X' : Int → Int} {t s a cap a2 cap2 ka kcap b bcap : Int} (h : cJ m E T X t s a cap a2 cap2 ka kcap b bcap) (hc : T'.1 = T.1) (hf : isFlat T'.1 T'.2.1 T'.2.2.1 T'.2.2.2) (hX : ∀ i : Int, 0 ≤ i → i < 800 → X i = X' i) (h9 : m 14 19 = 0) : cJ m E T' X' t s a cap a2 cap2 ka kcap b bcap ∧ lT T = lT T' ∧ tS T (tSign T) = tS T' (tSign T') := by
  have hP := h.2.2.2.2.2.2.2.2.1
  have hw := tA_w hP
  have hf0 := hP.2.1
  obtain ⟨c, w, q, n⟩ := T
  obtain ⟨c', w', q', n'⟩ := T'
  dsimp only at hc hf hf0 hw
  subst hc
  obtain ⟨e, hs⟩ := flat_same hw hf0 hf
  subst e
  refine ⟨cJ_tr0 h hs hf hX h9, ?_, ?_⟩
  · unfold lT
    rw [pairs_cg hs]
  · unfold tS
    rw [pairs_cg hs]
    exact lS_mem (fun r _ => sign_cg hs r)
