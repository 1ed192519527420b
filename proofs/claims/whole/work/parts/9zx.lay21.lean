/-! a change of places takes letters to letters -/
theorem zsum_bij {σ τ G : Int → Int} {n : Nat} (h : ∀ x : Int, 0 ≤ x → x < n → (0 ≤ σ x ∧ σ x < n) ∧ τ (σ x) = x) (g : ∀ x : Int, 0 ≤ x → x < n → (0 ≤ τ x ∧ τ x < n) ∧ σ (τ x) = x) : zsum (fun i => G (σ i)) n 0 = zsum G n 0 := by
  have e1 : zsum (fun i => G (σ i)) n 0 = zsum (fun i => zsum (fun v => zb (v = σ i) * G v) n 0) n 0 := zsum_congr (fun i q0 q1 => (zsum_pick (h i q0 (by omega)).1.1 (h i q0 (by omega)).1.2).symm)
  rw [e1, zsum_swap]
  refine zsum_congr (fun v q0 q1 => ?_)
  have hv := g v q0 (by omega)
  have e2 : zsum (fun i => zb (v = σ i) * G v) n 0 = zsum (fun i => zb (i = τ v) * G v) n 0 := zsum_congr (fun i i0 i1 => by
    have hi := h i i0 (by omega)
    by_cases e : i = τ v
    · rw [zb_t e, zb_t (by rw [e, hv.2])]
    · rw [zb_f e, zb_f (fun z => e (by rw [z, hi.2]))])
  rw [e2, zsum_mul, zsum_ind hv.1.1 (by omega), Int.one_mul]
/-- where a letter goes -/
def lm (c q π : Int → Int) (i : Int) : Int := cPre c (π (q i)).toNat + (i - cPre c (q i).toNat)
theorem lt_at {c w q : Int → Int} {n i : Int} (hw : wfC c) (hf : isFlat c w q n) (h0 : 0 ≤ i) (h1 : i < n) : ∃ p k : Nat, (p : Int) < c 2 ∧ (k : Int) < c (32 + 9 * p) ∧ i = cPre c p + k ∧ w i = c (32 + 9 * p + 3 + k) ∧ q i = p := by
  have hc2 := hw.2.2.1
  obtain ⟨p, k, a1, a2, a3⟩ := cPre_find hw (c 2).toNat i (by omega) h0 (by rw [← hf.1]; exact h1)
  have := hf.2 p k (by omega) a2
  rw [← a3] at this
  exact ⟨p, k, by omega, a2, a3, this.1, this.2⟩
theorem sz_eq {c π : Int → Int} (h : gPA c π) {p : Int} (p0 : 0 ≤ p) (p1 : p < c 2) : c (32 + 9 * π p) = c (32 + 9 * p) ∧ (c (32 + 9 * π p + 2) = 1 ↔ c (32 + 9 * p + 2) = 1) ∧ ∀ k : Int, 0 ≤ k → k < c (32 + 9 * p) → c (32 + 9 * π p + 3 + k) = c (32 + 9 * p + 3 + k) := by
  rcases (gPA_at h p0 p1).2.1 with z | z
  · rw [z]; exact ⟨rfl, Iff.rfl, fun _ _ _ => rfl⟩
  · have e := alike_eq z
    rw [cAlike_iff] at z
    exact ⟨z.1.2.2.1.symm, z.1.2.2.2.symm, fun k k0 k1 => (e k k0 k1).symm⟩
theorem lm_at {c w q π : Int → Int} {n i : Int} (hw : wfC c) (hf : isFlat c w q n) (hπ : gPA c π) (h0 : 0 ≤ i) (h1 : i < n) : (0 ≤ lm c q π i ∧ lm c q π i < n) ∧ w (lm c q π i) = w i ∧ q (lm c q π i) = π (q i) ∧ (0 ≤ q i ∧ q i < c 2) ∧ lm c q π i - cPre c (π (q i)).toNat = i - cPre c (q i).toNat := by
  have hc2 := hw.2.2.1
  obtain ⟨p, k, a1, a2, a3, a4, a5⟩ := lt_at hw hf h0 h1
  have hp := (gPA_at hπ (show (0 : Int) ≤ (p : Int) by omega) a1).1
  have hs := sz_eq hπ (show (0 : Int) ≤ (p : Int) by omega) a1
  obtain ⟨p', ep⟩ := Int.eq_ofNat_of_zero_le hp.1
  have e : lm c q π i = cPre c p' + k := by
    unfold lm
    rw [a5, ep, Int.toNat_natCast, Int.toNat_natCast, a3]
    omega
  rw [ep] at hs hp
  have hk : (k : Int) < c (32 + 9 * (p' : Int)) := by rw [hs.1]; exact a2
  have hfl := hf.2 p' k hp.2 hk
  rw [← e] at hfl
  have b1 := cPre_mono hw (a := 0) (b := p') (by omega) (by omega)
  have b2 := cPre_mono hw (a := p' + 1) (b := (c 2).toNat) (by omega) (by omega)
  rw [cPre_s] at b2
  have b0 : cPre c 0 = 0 := rfl
  have hn := hf.1
  refine ⟨⟨by omega, by omega⟩, ?_, ?_, by omega, ?_⟩
  · rw [hfl.1, a4]; exact hs.2.2 k (by omega) a2
  · rw [hfl.2, a5, ep]
  · unfold lm; omega
theorem lm_iv {c w q π σ : Int → Int} {n i : Int} (hw : wfC c) (hf : isFlat c w q n) (hπ : gPA c π) (hi : ∀ x : Int, 0 ≤ x → x < c 2 → σ (π x) = x) (h0 : 0 ≤ i) (h1 : i < n) : lm c q σ (lm c q π i) = i := by
  have a := lm_at hw hf hπ h0 h1
  show cPre c (σ (q (lm c q π i))).toNat + (lm c q π i - cPre c (q (lm c q π i)).toNat) = i
  rw [a.2.2.1, hi _ a.2.2.2.1.1 a.2.2.2.1.2, a.2.2.2.2]
  omega
theorem may_lm {c w q π : Int → Int} {n i j : Int} (hw : wfC c) (hf : isFlat c w q n) (hπ : gPA c π) (i0 : 0 ≤ i) (i1 : i < n) (j0 : 0 ≤ j) (j1 : j < n) : cMay c w q (lm c q π i) (lm c q π j) = cMay c w q i j := by
  have a := lm_at hw hf hπ i0 i1
  have b := lm_at hw hf hπ j0 j1
  obtain ⟨σ, hσ, hi⟩ := gPA_iv hπ
  have eij : lm c q π i = lm c q π j ↔ i = j := ⟨fun e => by rw [← lm_iv hw hf hπ hi i0 i1, e, lm_iv hw hf hπ hi j0 j1], fun e => by rw [e]⟩
  have eq : π (q i) = π (q j) ↔ q i = q j := ⟨fun e => (gPA_at hπ a.2.2.2.1.1 a.2.2.2.1.2).2.2 _ b.2.2.2.1.1 b.2.2.2.1.2 e, fun e => by rw [e]⟩
  have es := (sz_eq hπ a.2.2.2.1.1 a.2.2.2.1.2).2.1
  unfold cMay
  rw [a.2.1, b.2.1, a.2.2.1, b.2.2.1]
  refine decide_eq_decide.mpr ?_
  rw [eij, eq, es]
theorem code_lm {c w q π : Int → Int} {n i j : Int} (hw : wfC c) (hf : isFlat c w q n) (hl : wfL c w q n) (hπ : gPA c π) (i0 : 0 ≤ i) (i1 : i < n) (j0 : 0 ≤ j) (j1 : j < n) (hm : cMay c w q i j = true) : cCode c w q (lm c q π i) (lm c q π j) = cImg c π (cCode c w q i j) := by
  have a := lm_at hw hf hπ i0 i1
  have b := lm_at hw hf hπ j0 j1
  have hc0 := hw.1
  have hc1 := hw.2.1
  have hc2 := hw.2.2.1
  have wi := (hl.2 i i0 i1).1
  have img : ∀ x y s : Int, 0 ≤ x → x < 8 → 0 ≤ y → y < 8 → 0 ≤ s → s < 10 → cImg c π (100 * x + 10 * y + s) = if π y < π x ∧ (s < 6 ∧ c (4 + 3 * s + 1) ≠ 1) then 100 * π y + 10 * π x + s else 100 * π x + 10 * π y + s := fun x y s x0 x1 y0 y1 s0 s1 => by
    unfold cImg
    rw [show (100 * x + 10 * y + s) / 10 % 10 = y by omega, show (100 * x + 10 * y + s) / 100 = x by omega, show (100 * x + 10 * y + s) % 10 = s by omega]
  have qi := a.2.2.2.1
  have qj := b.2.2.2.1
  unfold cCode
  rw [a.2.1, b.2.1, a.2.2.1, b.2.2.1]
  by_cases e1 : w i / 2 = w j / 2
  · rw [if_pos e1, if_pos e1]
    by_cases e2 : c (4 + 3 * (w i / 2) + 1) = 1
    · rw [if_pos e2, if_pos e2]
      by_cases e3 : w i % 2 = 0
      · rw [if_pos e3, if_pos e3, img _ _ _ (by omega) (by omega) (by omega) (by omega) (by omega) (by omega), if_neg (fun z => z.2.2 e2)]
      · rw [if_neg e3, if_neg e3, img _ _ _ (by omega) (by omega) (by omega) (by omega) (by omega) (by omega), if_neg (fun z => z.2.2 e2)]
    · rw [if_neg e2, if_neg e2]
      have hs : w i / 2 < 6 ∧ c (4 + 3 * (w i / 2) + 1) ≠ 1 := ⟨by omega, e2⟩
      by_cases e3 : q i < q j
      · rw [if_pos e3, img _ _ _ (by omega) (by omega) (by omega) (by omega) (by omega) (by omega)]
        rcases Int.lt_trichotomy (π (q i)) (π (q j)) with z | z | z
        · rw [if_pos z, if_neg (fun y => by have := y.1; omega)]
        · rw [if_neg (by omega), if_neg (fun y => by have := y.1; omega), z]
        · rw [if_neg (by omega), if_pos ⟨z, hs⟩]
      · rw [if_neg e3, img _ _ _ (by omega) (by omega) (by omega) (by omega) (by omega) (by omega)]
        rcases Int.lt_trichotomy (π (q i)) (π (q j)) with z | z | z
        · rw [if_pos z, if_pos ⟨z, hs⟩]
        · rw [if_neg (by omega), if_neg (fun y => by have := y.1; omega)]
        · rw [if_neg (by omega), if_neg (fun y => by have := y.1; omega)]
  · rw [if_neg e1, if_neg e1]
    have hmx : 0 ≤ cMix c (w i / 2) (w j / 2) ∧ cMix c (w i / 2) (w j / 2) < 4 := by
      unfold cMay at hm
      have hm := of_decide_eq_true hm
      rw [if_neg e1] at hm
      have h0 := hm.2.2.2
      have := zfst_rg (p := cMixP c (w i / 2) (w j / 2)) (c 1).toNat
      unfold cMix at h0 ⊢
      omega
    by_cases e2 : c (24 + 2 * cMix c (w i / 2) (w j / 2)) = w i / 2
    · rw [if_pos e2, if_pos e2, show 100 * q i + 10 * q j + 6 + cMix c (w i / 2) (w j / 2) = 100 * q i + 10 * q j + (6 + cMix c (w i / 2) (w j / 2)) by omega, img _ _ _ (by omega) (by omega) (by omega) (by omega) (by omega) (by omega), if_neg (fun z => by omega)]
      omega
    · rw [if_neg e2, if_neg e2, show 100 * q j + 10 * q i + 6 + cMix c (w i / 2) (w j / 2) = 100 * q j + 10 * q i + (6 + cMix c (w i / 2) (w j / 2)) by omega, img _ _ _ (by omega) (by omega) (by omega) (by omega) (by omega) (by omega), if_neg (fun z => by omega)]
      omega
