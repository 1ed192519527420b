/-! what a change makes of a pairing is a pairing -/
theorem mixP_sy (c : Int → Int) (f g k : Int) : cMixP c f g k = cMixP c g f k := by
  unfold cMixP
  exact decide_eq_decide.mpr ⟨fun h => h.symm, fun h => h.symm⟩
theorem mix_sy (c : Int → Int) (f g : Int) : cMix c f g = cMix c g f := by
  unfold cMix
  exact zfst_congr (fun i _ _ => mixP_sy c f g i)
theorem mix_at {c : Int → Int} {f g : Int} (h : 0 ≤ cMix c f g) : (c (24 + 2 * cMix c f g) = f ∧ c (24 + 2 * cMix c f g + 1) = g) ∨ (c (24 + 2 * cMix c f g) = g ∧ c (24 + 2 * cMix c f g + 1) = f) := by
  have e : cMixP c f g (cMix c f g) = true := by
    unfold cMix at h ⊢
    rcases zfst_ge (p := cMixP c f g) (j := (c 1).toNat) (k := 0) (by decide) with z | z
    · omega
    · exact z.2.2.1
  exact of_decide_eq_true e
theorem may_sy {c w q : Int → Int} {i j : Int} (h : cMay c w q i j = true) : cMay c w q j i = true := by
  unfold cMay at *
  have h := of_decide_eq_true h
  refine decide_eq_true ⟨fun z => h.1 ?_, ?_⟩
  · rcases z with z | z
    · exact Or.inl z.symm
    · refine Or.inr ⟨z.1.symm, ?_⟩
      rw [← z.1]; exact z.2
  · by_cases e : w i / 2 = w j / 2
    · have h2 := h.2
      rw [if_pos e] at h2
      rw [if_pos e.symm, ← e]
      rcases h2 with y | y
      · exact Or.inl y
      · exact Or.inr (Ne.symm y)
    · have h2 := h.2
      rw [if_neg e] at h2
      rw [if_neg (Ne.symm e), mix_sy]
      exact ⟨h2.2.1, h2.1, h2.2.2⟩
theorem code_sy {c w q : Int → Int} {i j : Int} (h : cMay c w q i j = true) : cCode c w q j i = cCode c w q i j := by
  unfold cMay at h
  have h := of_decide_eq_true h
  unfold cCode
  by_cases e : w i / 2 = w j / 2
  · have h2 := h.2
    rw [if_pos e] at h2
    rw [if_pos e, if_pos e.symm, ← e]
    by_cases e2 : c (4 + 3 * (w i / 2) + 1) = 1
    · rw [if_pos e2, if_pos e2]
      rcases h2 with y | y
      · exact absurd e2 y
      · by_cases e3 : w i % 2 = 0
        · rw [if_pos e3, if_neg (by omega)]
        · rw [if_neg e3, if_pos (by omega)]
    · rw [if_neg e2, if_neg e2]
      rcases Int.lt_trichotomy (q i) (q j) with z | z | z
      · rw [if_pos z, if_neg (by omega)]
      · rw [if_neg (by omega), if_neg (by omega), z]
      · rw [if_pos z, if_neg (by omega)]
  · have h2 := h.2
    rw [if_neg e] at h2
    rw [if_neg e, if_neg (Ne.symm e), mix_sy c (w j / 2) (w i / 2)]
    rcases mix_at h2.2.2 with z | z
    · rw [if_pos z.1, if_neg (by rw [z.1]; exact e)]
    · rw [if_pos z.1, if_neg (by rw [z.1]; exact Ne.symm e)]
theorem full_op {n : Nat} {r : Int → Int} (h : ∀ i : Int, 0 ≤ i → i < n → 0 ≤ r i ∧ r i < n ∧ r i ≠ i ∧ r (r i) = i) : 2 * sOp r n = n := by
  have e1 : sOp r n = zsum (fun x => zb (r x < x)) n 0 := by
    unfold sOp
    rw [← zsum_inv (σ := r) (G := fun i => zb (i < r i)) (fun x x0 x1 => ⟨⟨(h x x0 x1).1, (h x x0 x1).2.1⟩, (h x x0 x1).2.2.2⟩)]
    exact zsum_congr (fun x x0 x1 => by show zb (r x < r (r x)) = _; rw [(h x x0 (by omega)).2.2.2])
  have e2 : zsum (fun x => zb (x < r x) + zb (r x < x)) n 0 = zsum (fun _ => 1) n 0 := zsum_congr (fun x x0 x1 => by
    have g := (h x x0 (by omega)).2.2.1
    rcases Int.lt_trichotomy x (r x) with z | z | z
    · rw [zb_t z, zb_f (by omega)]; rfl
    · exact absurd z.symm g
    · rw [zb_f (by omega), zb_t z]; rfl)
  rw [zsum_add, zsum_k1] at e2
  have e3 : sOp r n = zsum (fun i => zb (i < r i)) n 0 := rfl
  omega
theorem full_may {n : Nat} {c w q : Int → Int} {r : Int → Int} (h : sFull n (cMay c w q) r) {i : Int} (h0 : 0 ≤ i) (h1 : i < n) : cMay c w q i (r i) = true := by
  have a := h.1 i h0 h1
  rcases Int.lt_trichotomy i (r i) with z | z | z
  · exact a.2.2.2.2 z
  · exact absurd z.symm a.2.2.1
  · have b := (h.1 (r i) a.1 a.2.1).2.2.2.2
    rw [a.2.2.2.1] at b
    exact may_sy (b z)
theorem lS_cat {α : Type} (f : α → Int) (g : Int → List α) : ∀ (s : Nat) (k : Int), lS f (sCat g s k) = zsum (fun i => lS f (g i)) s k
  | 0, _ => rfl
  | s + 1, k => by rw [sCat_s, lS_app, lS_cat f g s (k + 1), zsum_s]
theorem pCnt_lf (P : Int → Bool) (l : List Int) : pCnt P (lf l) l.length = lS (fun v => zb (P v = true)) l := by
  unfold pCnt
  refine zsum_lS0 rfl (fun t x ht => ?_)
  unfold lf
  rw [Int.toNat_natCast, List.getD_eq_getElem?_getD, ht]
  rfl
theorem cnt_code {n : Nat} {c w q : Int → Int} {r : Int → Int} (h : sFull n (cMay c w q) r) (P : Int → Bool) : 2 * pCnt P (lf (sCL n (cCode c w q) r n 0)) (sCL n (cCode c w q) r n 0).length = zsum (fun i => zb (P (cCode c w q i (r i)) = true)) n 0 := by
  rw [pCnt_lf]
  unfold sCL
  rw [lS_cat]
  have e1 : zsum (fun i => lS (fun v => zb (P v = true)) (if r i < i then [] else [cCode c w q i (r i)])) n 0 = zsum (fun i => if r i < i then 0 else zb (P (cCode c w q i (r i)) = true)) n 0 := zsum_congr (fun i i0 i1 => by
    split
    · rfl
    · show zb _ + 0 = _
      omega)
  have e2 : zsum (fun i => if r i < i then 0 else zb (P (cCode c w q i (r i)) = true)) n 0 = zsum (fun i => if r i < i then zb (P (cCode c w q i (r i)) = true) else 0) n 0 := by
    rw [← zsum_inv (σ := r) (G := fun i => if r i < i then zb (P (cCode c w q i (r i)) = true) else 0) (fun x x0 x1 => ⟨⟨(h.1 x x0 x1).1, (h.1 x x0 x1).2.1⟩, (h.1 x x0 x1).2.2.2.1⟩)]
    refine zsum_congr (fun i i0 i1 => ?_)
    have a := h.1 i i0 (by omega)
    show _ = if r (r i) < r i then zb (P (cCode c w q (r i) (r (r i))) = true) else 0
    rw [a.2.2.2.1, code_sy (full_may h i0 (by omega))]
    rcases Int.lt_trichotomy i (r i) with z | z | z
    · rw [if_neg (by omega), if_pos z]
    · exact absurd z.symm a.2.2.1
    · rw [if_pos z, if_neg (by omega)]
  have e3 : zsum (fun i => zb (P (cCode c w q i (r i)) = true)) n 0 = zsum (fun i => (if r i < i then 0 else zb (P (cCode c w q i (r i)) = true)) + (if r i < i then zb (P (cCode c w q i (r i)) = true) else 0)) n 0 := zsum_congr (fun i i0 i1 => by split <;> omega)
  rw [zsum_add] at e3
  omega
theorem sCL_h {n : Nat} {c w q : Int → Int} {r : Int → Int} (h : sFull n (cMay c w q) r) : 2 * (sCL n (cCode c w q) r n 0).length = n := by
  have := sCL_len (code := cCode c w q) h (Nat.le_refl n)
  have h2 := h.2
  unfold sOp at h2
  omega
/-- the pairing that comes of it -/
theorem lm_pair {c w q π : Int → Int} {n : Int} {r : Int → Int} (hw : wfC c) (hf : isFlat c w q n) (hn : n ≤ 12) (hπ : gPA c π) (h : sFull n.toNat (cMay c w q) r) : ∃ r', sFull n.toNat (cMay c w q) r' ∧ sKeyOf c w q n r' = sV c (lf (sCL n.toNat (cCode c w q) r n.toNat 0)) (n / 2).toNat π := by
  have hl := flat_wfL hw hf hn
  obtain ⟨σ, hσ, hi⟩ := gPA_iv hπ
  have hi2 : ∀ x : Int, 0 ≤ x → x < c 2 → π (σ x) = x := fun x x0 x1 => by
    obtain ⟨y, y0, y1, ey⟩ := gPA_on hπ x0 x1
    rw [← ey, hi y y0 y1]
  have L : ∀ x : Int, 0 ≤ x → x < n → (0 ≤ lm c q π x ∧ lm c q π x < n) ∧ lm c q σ (lm c q π x) = x := fun x x0 x1 => ⟨(lm_at hw hf hπ x0 x1).1, lm_iv hw hf hπ hi x0 x1⟩
  have S : ∀ x : Int, 0 ≤ x → x < n → (0 ≤ lm c q σ x ∧ lm c q σ x < n) ∧ lm c q π (lm c q σ x) = x := fun x x0 x1 => ⟨(lm_at hw hf hσ x0 x1).1, lm_iv hw hf hσ hi2 x0 x1⟩
  have R : ∀ x : Int, 0 ≤ x → x < n → (0 ≤ r x ∧ r x < n) ∧ r x ≠ x ∧ r (r x) = x ∧ cMay c w q x (r x) = true := fun x x0 x1 => by
    have a := h.1 x x0 (by omega)
    exact ⟨⟨a.1, by omega⟩, a.2.2.1, a.2.2.2.1, full_may h x0 (by omega)⟩
  have A : ∀ x : Int, 0 ≤ x → x < n → (0 ≤ lm c q π (r (lm c q σ x)) ∧ lm c q π (r (lm c q σ x)) < n) ∧ lm c q π (r (lm c q σ x)) ≠ x ∧ lm c q π (r (lm c q σ (lm c q π (r (lm c q σ x))))) = x ∧ cMay c w q x (lm c q π (r (lm c q σ x))) = true := fun x x0 x1 => by
    have s := S x x0 x1
    have a := R _ s.1.1 s.1.2
    have l := L _ a.1.1 a.1.2
    refine ⟨l.1, fun e => a.2.1 ?_, ?_, ?_⟩
    · rw [← l.2, e]
    · rw [l.2, a.2.2.1, s.2]
    · have m := may_lm hw hf hπ s.1.1 s.1.2 a.1.1 a.1.2
      rw [s.2] at m
      rw [m]
      exact a.2.2.2
  have hfull : sFull n.toNat (cMay c w q) (fun x => lm c q π (r (lm c q σ x))) := by
    refine ⟨fun i i0 i1 => ?_, full_op (fun i i0 i1 => ?_)⟩
    · have a := A i i0 (by omega)
      exact ⟨a.1.1, by show lm c q π (r (lm c q σ i)) < _; omega, a.2.1, a.2.2.1, fun _ => a.2.2.2⟩
    · have a := A i i0 (by omega)
      exact ⟨a.1.1, by show lm c q π (r (lm c q σ i)) < _; omega, a.2.1, a.2.2.1⟩
  refine ⟨_, hfull, ?_⟩
  unfold sKeyOf sV
  refine sKey_pm (fun P => ?_)
  have l1 := sCL_h hfull
  have l2 := sCL_h h
  have c1 := cnt_code hfull P
  have c2 := cnt_code h (fun x => P (cImg c π x))
  rw [show (sCL n.toNat (cCode c w q) (fun x => lm c q π (r (lm c q σ x))) n.toNat 0).length = (n / 2).toNat by omega] at c1
  rw [show (sCL n.toNat (cCode c w q) r n.toNat 0).length = (n / 2).toNat by omega] at c2
  have c3 : pCnt P (fun k => cImg c π (lf (sCL n.toNat (cCode c w q) r n.toNat 0) k)) (n / 2).toNat = pCnt (fun x => P (cImg c π x)) (lf (sCL n.toNat (cCode c w q) r n.toNat 0)) (n / 2).toNat := rfl
  have c4 : zsum (fun x => zb (P (cCode c w q x (lm c q π (r (lm c q σ x)))) = true)) n.toNat 0 = zsum (fun i => zb (P (cImg c π (cCode c w q i (r i))) = true)) n.toNat 0 := by
    rw [← zsum_bij (σ := lm c q π) (τ := lm c q σ) (G := fun x => zb (P (cCode c w q x (lm c q π (r (lm c q σ x)))) = true)) (fun x x0 x1 => by have := L x x0 (by omega); exact ⟨⟨this.1.1, by omega⟩, this.2⟩) (fun x x0 x1 => by have := S x x0 (by omega); exact ⟨⟨this.1.1, by omega⟩, this.2⟩)]
    refine zsum_congr (fun i i0 i1 => ?_)
    have a := R i i0 (by omega)
    show zb (P (cCode c w q (lm c q π i) (lm c q π (r (lm c q σ (lm c q π i))))) = true) = _
    rw [(L i i0 (by omega)).2, code_lm hw hf hl hπ i0 (by omega) a.1.1 a.1.2 a.2.2.2]
  rw [c3]
  omega
/-- no pairing is left out -/
theorem sLay_all {n : Nat} {may : Int → Int → Bool} {r : Int → Int} (h : sFull n may r) : ∀ (u : Nat) (mt : Int → Int), pIv n mt → (∀ x : Int, 0 ≤ x → x < n → 0 ≤ mt x → r x = mt x) → sFr mt n ≤ 2 * u → ∃ s ∈ sLay n may u mt, agF n s r := by
  have fin : ∀ mt : Int → Int, sFst mt n < 0 → (∀ x : Int, 0 ≤ x → x < n → 0 ≤ mt x → r x = mt x) → agF n mt r := fun mt hf hm x x0 x1 => by
    rcases Int.lt_or_le (mt x) 0 with z | z
    · unfold sFst at hf
      rcases zfst_ge (p := fun i => decide (mt i < 0)) (j := n) (k := 0) (by decide) with y | y
      · have := y.2 x x0 (by omega)
        rw [decide_eq_false_iff_not] at this
        exact absurd z this
      · omega
    · exact (hm x x0 x1 z).symm
  intro u
  induction u with
  | zero =>
    intro mt hp hm hfr
    have hz : sFst mt n < 0 := by
      rcases Int.lt_or_le (sFst mt n) 0 with q | q
      · exact q
      · have := sFr_split (mt := mt) (n := n) (by omega)
        have h2 := zsum_bd (f := fun i => zb (mt i < 0)) (b := 1) (j := n - 1 - (sFst mt n).toNat) (k := sFst mt n + 1) (fun i _ _ => by have := zb01 (mt i < 0); omega)
        omega
    rw [sLay_0, if_pos hz]
    exact ⟨mt, List.mem_singleton.mpr rfl, fin mt hz hm⟩
  | succ u ih =>
    intro mt hp hm hfr
    by_cases hz : sFst mt n < 0
    · rw [sLay_s, if_pos hz]
      exact ⟨mt, List.mem_singleton.mpr rfl, fin mt hz hm⟩
    · have hl := sFst_lt hz
      have a := h.1 (sFst mt n) hl.1 hl.2.1
      have hj : mt (r (sFst mt n)) < 0 := by
        rcases Int.lt_or_le (mt (r (sFst mt n))) 0 with z | z
        · exact z
        · have e := hm _ a.1 a.2.1 z
          rw [a.2.2.2.1] at e
          have := (hp _ a.1 a.2.1 z).2.2
          rw [← e] at this
          omega
      have hij : sFst mt n < r (sFst mt n) := by
        rcases Int.lt_trichotomy (sFst mt n) (r (sFst mt n)) with z | z | z
        · exact z
        · exact absurd z.symm a.2.2.1
        · exact absurd hj (hl.2.2.2 _ a.1 z)
      obtain ⟨s, s1, s2⟩ := ih (sUp mt (sFst mt n) (r (sFst mt n))) (pIv_up hp hl.1 hij a.2.1 hl.2.2.1 hj) (fun x x0 x1 x2 => by
        unfold sUp at x2 ⊢
        by_cases e1 : x = r (sFst mt n)
        · rw [if_pos e1, e1]; exact a.2.2.2.1
        · rw [if_neg e1] at x2 ⊢
          by_cases e2 : x = sFst mt n
          · rw [if_pos e2, e2]
          · rw [if_neg e2] at x2 ⊢; exact hm x x0 x1 x2) (by rw [sFr_up hl.1 hl.2.1 a.1 a.2.1 (by omega) hl.2.2.1 hj]; omega)
      refine ⟨s, ?_, s2⟩
      rw [sLay_s, if_neg hz]
      refine sCat_mem' (j := r (sFst mt n)) (by omega) (by omega) ?_
      rw [if_pos ⟨hj, a.2.2.2.2 hij⟩]
      exact s1
