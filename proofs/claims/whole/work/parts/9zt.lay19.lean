/-! changes of places make a group, and rows go about in it -/
theorem alike_sy {c : Int → Int} {p q : Int} (h : cAlike c p q = true) : cAlike c q p = true := by
  rw [cAlike_iff] at h ⊢
  obtain ⟨⟨h1, h2, h3, h4⟩, h5⟩ := h
  refine ⟨⟨h2, h1, h3.symm, h4.symm⟩, ?_⟩
  rw [← h3]
  rw [← h5]
  exact zfst_congr (fun k _ _ => decide_eq_decide.mpr ⟨fun z e => z e.symm, fun z e => z e.symm⟩)
theorem alike_eq {c : Int → Int} {p q : Int} (h : cAlike c p q = true) : ∀ k : Int, 0 ≤ k → k < c (32 + 9 * p) → c (32 + 9 * p + 3 + k) = c (32 + 9 * q + 3 + k) := by
  rw [cAlike_iff] at h
  intro k k0 k1
  apply Classical.byContradiction
  intro z
  rcases zfst_ge (p := fun k => decide (c (32 + 9 * p + 3 + k) ≠ c (32 + 9 * q + 3 + k))) (j := (c (32 + 9 * p)).toNat) (k := 0) (by decide) with g | g
  · have := g.2 k k0 (by omega)
    rw [decide_eq_false_iff_not] at this
    exact this z
  · rw [h.2] at g
    omega
theorem alike_tr {c : Int → Int} {p q r : Int} (h : cAlike c p q = true) (g : cAlike c q r = true) : cAlike c p r = true := by
  have e1 := alike_eq h
  have e2 := alike_eq g
  rw [cAlike_iff] at h g ⊢
  obtain ⟨⟨h1, h2, h3, h4⟩, h5⟩ := h
  obtain ⟨⟨g1, g2, g3, g4⟩, g5⟩ := g
  refine ⟨⟨h1, g2, h3.trans g3, h4.trans g4⟩, ?_⟩
  exact zfst_none (fun k hk => by
    rw [decide_eq_false_iff_not]
    exact fun z => z ((e1 k (by omega) (by omega)).trans (e2 k (by omega) (by omega))))
theorem gPA_at {c pl : Int → Int} (h : gPA c pl) {x : Int} (h0 : 0 ≤ x) (h1 : x < c 2) : (0 ≤ pl x ∧ pl x < c 2) ∧ (pl x = x ∨ cAlike c x (pl x) = true) ∧ ∀ y : Int, 0 ≤ y → y < c 2 → pl x = pl y → x = y := by
  have g := h x (by omega) (by omega)
  exact ⟨⟨g.1.1, by omega⟩, g.1.2.2.1, fun y y0 y1 e => g.2 y (by omega) (by omega) e⟩
theorem gPA_mk {c pl : Int → Int} (h : ∀ x : Int, 0 ≤ x → x < c 2 → (0 ≤ pl x ∧ pl x < c 2) ∧ (pl x = x ∨ cAlike c x (pl x) = true) ∧ ∀ y : Int, 0 ≤ y → y < c 2 → pl x = pl y → x = y) : gPA c pl := fun x q1 q2 => by
  have g := h x (by omega) (by omega)
  exact ⟨⟨g.1.1, by omega, g.2.1, Nat.zero_testBit _⟩, fun y y0 y1 e => g.2.2 y (by omega) (by omega) e⟩
theorem gPA_co {c π σ : Int → Int} (h : gPA c π) (g : gPA c σ) : gPA c (fun x => σ (π x)) := gPA_mk (fun x x0 x1 => by
  have a := gPA_at h x0 x1
  have b := gPA_at g a.1.1 a.1.2
  refine ⟨b.1, ?_, fun y y0 y1 e => a.2.2 y y0 y1 (b.2.2 (π y) (gPA_at h y0 y1).1.1 (gPA_at h y0 y1).1.2 e)⟩
  show σ (π x) = x ∨ cAlike c x (σ (π x)) = true
  rcases a.2.1 with z | z
  · rcases b.2.1 with y | y
    · exact Or.inl (y.trans z)
    · rw [z] at y ⊢; exact Or.inr y
  · rcases b.2.1 with y | y
    · rw [y]; exact Or.inr z
    · exact Or.inr (alike_tr z y))
theorem gPA_on {c π : Int → Int} (h : gPA c π) {y : Int} (y0 : 0 ≤ y) (y1 : y < c 2) : ∃ x : Int, 0 ≤ x ∧ x < c 2 ∧ π x = y := by
  apply Classical.byContradiction
  intro hn
  have e1 : zsum (fun x => zsum (fun v => zb (v = π x)) (c 2).toNat 0) (c 2).toNat 0 = zsum (fun _ => 1) (c 2).toNat 0 := zsum_congr (fun x x0 x1 => zsum_ind (gPA_at h x0 (by omega)).1.1 (by have := (gPA_at h x0 (by omega)).1.2; omega))
  rw [zsum_swap (fun x v => zb (v = π x)), zsum_k1] at e1
  have e2 : zsum (fun v => zsum (fun x => zb (v = π x)) (c 2).toNat 0) (c 2).toNat 0 ≤ zsum (fun v => 1 - zb (v = y)) (c 2).toNat 0 := zsum_le (fun v v0 v1 => by
    by_cases z : ∃ x : Int, 0 ≤ x ∧ x < c 2 ∧ π x = v
    · obtain ⟨x, x0, x1, ex⟩ := z
      have : zsum (fun x => zb (v = π x)) (c 2).toNat 0 = zsum (fun u => zb (u = x)) (c 2).toNat 0 := zsum_congr (fun u u0 u1 => zb_congr ⟨fun e => (gPA_at h u0 (by omega)).2.2 x x0 x1 (by rw [← e, ex]), fun e => by rw [e, ex]⟩)
      rw [this, zsum_ind x0 (by omega), zb_f (fun e => hn ⟨x, x0, x1, by rw [ex, e]⟩)]
      decide
    · rw [zsum_z (fun u u0 u1 => zb_f (fun e => z ⟨u, u0, by omega, e.symm⟩))]
      have := zb01 (v = y)
      omega)
  rw [zsum_sub (fun _ => 1), zsum_k1, zsum_ind y0 (by omega)] at e2
  omega
theorem gPA_iv {c π : Int → Int} (h : gPA c π) : ∃ σ, gPA c σ ∧ ∀ x : Int, 0 ≤ x → x < c 2 → σ (π x) = x := by
  have key : ∀ y : Int, ∃ x : Int, 0 ≤ y → y < c 2 → 0 ≤ x ∧ x < c 2 ∧ π x = y := fun y => by
    by_cases z : 0 ≤ y ∧ y < c 2
    · obtain ⟨x, hx⟩ := gPA_on h z.1 z.2
      exact ⟨x, fun _ _ => hx⟩
    · exact ⟨0, fun a b => absurd ⟨a, b⟩ z⟩
  refine ⟨fun y => Classical.choose (key y), gPA_mk (fun y y0 y1 => ?_), fun x x0 x1 => ?_⟩
  · have g := Classical.choose_spec (key y) y0 y1
    have a := gPA_at h g.1 g.2.1
    refine ⟨⟨g.1, g.2.1⟩, ?_, fun z z0 z1 e => ?_⟩
    · rcases a.2.1 with q | q
      · exact Or.inl (q.symm.trans g.2.2)
      · rw [g.2.2] at q
        exact Or.inr (alike_sy q)
    · have g2 := Classical.choose_spec (key z) z0 z1
      rw [← g.2.2, ← g2.2.2]
      exact congrArg π e
  · have b := gPA_at h x0 x1
    have g := Classical.choose_spec (key (π x)) b.1.1 b.1.2
    exact (gPA_at h g.1 g.2.1).2.2 x x0 x1 g.2.2
theorem cImg_co {c π σ : Int → Int} {co : Int} (hw : wfC c) (h : cCodeOk c co = true) (hπ : ∀ x : Int, 0 ≤ x → x < c 2 → 0 ≤ π x ∧ π x < c 2) (hσ : ∀ x : Int, 0 ≤ x → x < c 2 → 0 ≤ σ x ∧ σ x < c 2) : cImg c σ (cImg c π co) = cImg c (fun x => σ (π x)) co := by
  have hr := cCodeOk_rg hw h
  have hc2 := hw.2.2.1
  have p1 := hπ (co / 100) (by omega) hr.2.1
  have p2 := hπ (co / 10 % 10) (by omega) hr.2.2.1
  have s1 := hσ _ p1.1 p1.2
  have s2 := hσ _ p2.1 p2.2
  by_cases hs : co % 10 < 6 ∧ c (4 + 3 * (co % 10) + 1) ≠ 1
  · by_cases ht : π (co / 10 % 10) < π (co / 100)
    · have e : cImg c π co = 100 * π (co / 10 % 10) + 10 * π (co / 100) + co % 10 := if_pos ⟨ht, hs⟩
      rw [e]
      have d1 : (100 * π (co / 10 % 10) + 10 * π (co / 100) + co % 10) / 100 = π (co / 10 % 10) := by omega
      have d2 : (100 * π (co / 10 % 10) + 10 * π (co / 100) + co % 10) / 10 % 10 = π (co / 100) := by omega
      have d3 : (100 * π (co / 10 % 10) + 10 * π (co / 100) + co % 10) % 10 = co % 10 := by omega
      unfold cImg
      dsimp only
      rw [d1, d2, d3]
      rcases Int.lt_trichotomy (σ (π (co / 10 % 10))) (σ (π (co / 100))) with z | z | z
      · rw [if_neg (fun q => by omega), if_pos ⟨z, hs⟩]
      · rw [if_neg (fun q => by omega), if_neg (fun q => by have := q.1; omega), z]
      · rw [if_pos ⟨z, hs⟩, if_neg (fun q => by have := q.1; omega)]
    · have e : cImg c π co = 100 * π (co / 100) + 10 * π (co / 10 % 10) + co % 10 := if_neg (fun q => ht q.1)
      rw [e]
      have d1 : (100 * π (co / 100) + 10 * π (co / 10 % 10) + co % 10) / 100 = π (co / 100) := by omega
      have d2 : (100 * π (co / 100) + 10 * π (co / 10 % 10) + co % 10) / 10 % 10 = π (co / 10 % 10) := by omega
      have d3 : (100 * π (co / 100) + 10 * π (co / 10 % 10) + co % 10) % 10 = co % 10 := by omega
      unfold cImg
      rw [d1, d2, d3]
  · have e : cImg c π co = 100 * π (co / 100) + 10 * π (co / 10 % 10) + co % 10 := if_neg (fun q => hs q.2)
    rw [e]
    have d1 : (100 * π (co / 100) + 10 * π (co / 10 % 10) + co % 10) / 100 = π (co / 100) := by omega
    have d2 : (100 * π (co / 100) + 10 * π (co / 10 % 10) + co % 10) / 10 % 10 = π (co / 10 % 10) := by omega
    have d3 : (100 * π (co / 100) + 10 * π (co / 10 % 10) + co % 10) % 10 = co % 10 := by omega
    unfold cImg
    rw [d1, d2, d3]
theorem cImg_id {c : Int → Int} {co : Int} (h : cCodeOk c co = true) : cImg c (fun x => x) co = co := by
  have hi := cCodeOk_iff.mp h
  unfold cImg
  show (if co / 10 % 10 < co / 100 ∧ (co % 10 < 6 ∧ c (4 + 3 * (co % 10) + 1) ≠ 1) then 100 * (co / 10 % 10) + 10 * (co / 100) + co % 10 else 100 * (co / 100) + 10 * (co / 10 % 10) + co % 10) = co
  rw [if_neg (fun q => by
    have g := hi.2.2.2
    rw [if_neg (by omega)] at g
    rcases g.2 with z | z
    · exact q.2.2 z
    · omega)]
  omega
theorem pm_map {f g : Int → Int} {n : Nat} (φ : Int → Int) (h : pm f g n) : pm (fun k => φ (f k)) (fun k => φ (g k)) n := fun P => h (fun x => P (φ x))
theorem sKey_pm {f g : Int → Int} {n : Nat} (h : pm f g n) : sKey f n = sKey g n := by
  obtain ⟨r, r1, r2⟩ := srt_exists f n
  rw [sKey_eq r1 r2, sKey_eq r1 (pm_tr r2 h)]
/-- the way of a row under a change, and on -/
theorem sV_co2 {c g g' π σ : Int → Int} {h : Nat} (hw : wfC c) (hr : cRow c g h) (hπ : gPA c π) (hσ : gPA c σ) (hg : pm g' (fun k => cImg c π (g k)) h) : sV c g' h σ = sV c g h (fun x => σ (π x)) := by
  unfold sV
  rw [sKey_pm (pm_map (cImg c σ) hg)]
  exact sKey_congr (fun i i0 i1 => cImg_co hw (hr.1 i i0 i1) (gPA_rg hw hπ) (gPA_rg hw hσ))
theorem sV_id {c g : Int → Int} {h : Nat} (hr : cRow c g h) : sV c g h (fun x => x) = sPk g h := by
  unfold sV
  rw [sKey_congr (g := g) (fun i i0 i1 => cImg_id (hr.1 i i0 i1))]
  exact sKey_eq hr.2 pm_rf
theorem sV_row2 {c g π : Int → Int} {h : Nat} (hw : wfC c) (hr : cRow c g h) (hπ : gPA c π) : ∃ g', sV c g h π = sPk g' h ∧ cRow c g' h ∧ pm g' (fun k => cImg c π (g k)) h := sKey_row (fun i i0 i1 => cImg_ok hw (hr.1 i i0 i1) (gPA_rg hw hπ))
theorem sPk_inj {g g' : Int → Int} {h : Nat} (h1 : ∀ i : Int, 0 ≤ i → i < h → 0 ≤ g i ∧ g i < 1024) (h2 : ∀ i : Int, 0 ≤ i → i < h → 0 ≤ g' i ∧ g' i < 1024) (e : sPk g h = sPk g' h) : ∀ i : Int, 0 ≤ i → i < h → g i = g' i := fun i i0 i1 => by
  rw [← uF_eq h1 i0 i1, ← uF_eq h2 i0 i1, e]
/-- what a row can become has the same name -/
theorem orb_to {c g g2 π : Int → Int} {h : Nat} (hw : wfC c) (hr : cRow c g h) (hr2 : cRow c g2 h) (hπ : gPA c π) (e : sPk g2 h = sV c g h π) : (∀ σ, gPA c σ → ∃ τ, gPA c τ ∧ sV c g2 h σ = sV c g h τ) ∧ ∃ τ, gPA c τ ∧ sPk g h = sV c g2 h τ := by
  obtain ⟨g', e1, r1, p1⟩ := sV_row2 hw hr hπ
  have eg : ∀ i : Int, 0 ≤ i → i < h → g2 i = g' i := sPk_inj (cRow_rg hw hr2) (cRow_rg hw r1) (by rw [e, e1])
  have p2 : pm g2 (fun k => cImg c π (g k)) h := pm_tr (pm_eq eg) p1
  refine ⟨fun σ hσ => ⟨_, gPA_co hπ hσ, sV_co2 hw hr hπ hσ p2⟩, ?_⟩
  obtain ⟨σ, hσ, hi⟩ := gPA_iv hπ
  refine ⟨σ, hσ, ?_⟩
  rw [sV_co2 hw hr hπ hσ p2, ← sV_id hr]
  unfold sV
  refine sKey_congr (fun i i0 i1 => ?_)
  have hg := cCodeOk_rg hw (hr.1 i i0 i1)
  exact cImg_congr (hi _ (by omega) hg.2.1).symm (hi _ (by omega) hg.2.2.1).symm
theorem orb_nm {c g g2 π : Int → Int} {h : Nat} (hw : wfC c) (hr : cRow c g h) (hr2 : cRow c g2 h) (hπ : gPA c π) (e : sPk g2 h = sV c g h π) : sNM c h (sPk g2 h) = sNM c h (sPk g h) := by
  obtain ⟨⟨a, a1, a2⟩, a3⟩ := sNM_is hw hr
  obtain ⟨⟨b, b1, b2⟩, b3⟩ := sNM_is hw hr2
  have f := orb_to hw hr hr2 hπ e
  obtain ⟨τ, t1, t2⟩ := f.2
  have f2 := orb_to hw hr2 hr t1 t2
  obtain ⟨u, u1, u2⟩ := f.1 b b1
  obtain ⟨v, v1, v2⟩ := f2.1 a a1
  have k1 := a3 u u1
  have k2 := b3 v v1
  rw [← u2, ← b2] at k1
  rw [← v2, ← a2] at k2
  omega
theorem orb_fr {c g g2 : Int → Int} {h : Nat} (hw : wfC c) (hr : cRow c g h) (hr2 : cRow c g2 h) (e : sNM c h (sPk g2 h) = sNM c h (sPk g h)) : ∃ π, gPA c π ∧ sPk g2 h = sV c g h π := by
  obtain ⟨⟨a, a1, a2⟩, -⟩ := sNM_is hw hr
  obtain ⟨⟨b, b1, b2⟩, -⟩ := sNM_is hw hr2
  obtain ⟨gN, n1, n2, -⟩ := sV_row2 hw hr2 b1
  obtain ⟨τ, t1, t2⟩ := (orb_to hw hr2 n2 b1 n1.symm).2
  obtain ⟨u, u1, u2⟩ := (orb_to hw hr n2 a1 (by rw [← n1, ← b2, e, a2])).1 τ t1
  exact ⟨u, u1, by rw [t2, u2]⟩
