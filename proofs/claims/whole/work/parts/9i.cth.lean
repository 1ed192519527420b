/-! the class's theory at t: shapes, pointers, what it holds -/
def shT (E : zE) (t : Int) : Prop := E.1 t = (13, 16) ∧ E.1 (t + 1) = (1, 6) ∧ E.1 (t + 2) = (4, 6) ∧ E.1 (t + 3) = (4, 6) ∧ E.1 (t + 4) = (1, 4) ∧ E.1 (t + 5) = (1, 4) ∧ E.1 (t + 6) = (5, 8) ∧ E.1 (t + 7) = (1, 12) ∧ E.1 (t + 8) = (1, 12) ∧ E.1 (t + 9) = (1, 12) ∧ E.1 (t + 10) = (1, 144) ∧ E.1 (t + 11) = (1, 800) ∧ ∀ i : Int, 0 ≤ i → i < 8 → E.1 (t + 12 + 2 * i) = (11, 4) ∧ E.1 (t + 13 + 2 * i) = (1, 6)
def ptT (m : zM) (t : Int) : Prop := (m t 0 = t + 1 ∧ m t 1 = t + 2 ∧ m t 2 = t + 3 ∧ m t 3 = t + 4 ∧ m t 4 = t + 5 ∧ m t 5 = t + 6 ∧ m t 6 = t + 7 ∧ m t 7 = t + 8 ∧ m t 8 = t + 9 ∧ m t 9 = t + 10 ∧ m t 10 = t + 11) ∧ (∀ i : Int, 0 ≤ i → i < 8 → m (t + 12 + 2 * i) 0 = t + 13 + 2 * i) ∧ (∀ p : Int, 0 ≤ p → p < 8 → ∃ i : Int, 0 ≤ i ∧ i < 8 ∧ m (t + 6) p = t + 12 + 2 * i) ∧ ∀ p q : Int, 0 ≤ p → p < 8 → 0 ≤ q → q < 8 → m (t + 6) p = m (t + 6) q → p = q
theorem sT0 {E : zE} {t : Int} (h : shT E t) : E.1 t = (13, 16) := h.1
theorem sT1 {E : zE} {t : Int} (h : shT E t) : E.1 (t + 1) = (1, 6) := h.2.1
theorem sT2 {E : zE} {t : Int} (h : shT E t) : E.1 (t + 2) = (4, 6) := h.2.2.1
theorem sT3 {E : zE} {t : Int} (h : shT E t) : E.1 (t + 3) = (4, 6) := h.2.2.2.1
theorem sT4 {E : zE} {t : Int} (h : shT E t) : E.1 (t + 4) = (1, 4) := h.2.2.2.2.1
theorem sT5 {E : zE} {t : Int} (h : shT E t) : E.1 (t + 5) = (1, 4) := h.2.2.2.2.2.1
theorem sT6 {E : zE} {t : Int} (h : shT E t) : E.1 (t + 6) = (5, 8) := h.2.2.2.2.2.2.1
theorem sT7 {E : zE} {t : Int} (h : shT E t) : E.1 (t + 7) = (1, 12) := h.2.2.2.2.2.2.2.1
theorem sT8 {E : zE} {t : Int} (h : shT E t) : E.1 (t + 8) = (1, 12) := h.2.2.2.2.2.2.2.2.1
theorem sT9 {E : zE} {t : Int} (h : shT E t) : E.1 (t + 9) = (1, 12) := h.2.2.2.2.2.2.2.2.2.1
theorem sT10 {E : zE} {t : Int} (h : shT E t) : E.1 (t + 10) = (1, 144) := h.2.2.2.2.2.2.2.2.2.2.1
theorem sT11 {E : zE} {t : Int} (h : shT E t) : E.1 (t + 11) = (1, 800) := h.2.2.2.2.2.2.2.2.2.2.2.1
theorem pT0 {m : zM} {t : Int} (h : ptT m t) : m t 0 = t + 1 := h.1.1
theorem pT1 {m : zM} {t : Int} (h : ptT m t) : m t 1 = t + 2 := h.1.2.1
theorem pT2 {m : zM} {t : Int} (h : ptT m t) : m t 2 = t + 3 := h.1.2.2.1
theorem pT3 {m : zM} {t : Int} (h : ptT m t) : m t 3 = t + 4 := h.1.2.2.2.1
theorem pT4 {m : zM} {t : Int} (h : ptT m t) : m t 4 = t + 5 := h.1.2.2.2.2.1
theorem pT5 {m : zM} {t : Int} (h : ptT m t) : m t 5 = t + 6 := h.1.2.2.2.2.2.1
theorem pT6 {m : zM} {t : Int} (h : ptT m t) : m t 6 = t + 7 := h.1.2.2.2.2.2.2.1
theorem pT7 {m : zM} {t : Int} (h : ptT m t) : m t 7 = t + 8 := h.1.2.2.2.2.2.2.2.1
theorem pT8 {m : zM} {t : Int} (h : ptT m t) : m t 8 = t + 9 := h.1.2.2.2.2.2.2.2.2.1
theorem pT9 {m : zM} {t : Int} (h : ptT m t) : m t 9 = t + 10 := h.1.2.2.2.2.2.2.2.2.2.1
theorem pT10 {m : zM} {t : Int} (h : ptT m t) : m t 10 = t + 11 := h.1.2.2.2.2.2.2.2.2.2.2
/-- a point of the class at o: the p-th of the table c -/
def cPt (m : zM) (o : Int) (c : Int → Int) (p : Int) : Prop := m o 1 = c (32 + 9 * p) ∧ m o 2 = c (32 + 9 * p + 1) ∧ m o 3 = c (32 + 9 * p + 2) ∧ ∀ k, 0 ≤ k → k < c (32 + 9 * p) → m (o + 1) k = c (32 + 9 * p + 3 + k)
/-- the class's theory holds the table c -/
def cTh (m : zM) (t : Int) (c : Int → Int) : Prop := m t 11 = c 0 ∧ m t 12 = c 1 ∧ m t 13 = c 2 ∧ (∀ f, 0 ≤ f → f < c 0 → m (t + 1) f = c (4 + 3 * f) ∧ m (t + 2) f = c (4 + 3 * f + 1) ∧ m (t + 3) f = c (4 + 3 * f + 2)) ∧ (∀ k, 0 ≤ k → k < c 1 → m (t + 4) k = c (24 + 2 * k) ∧ m (t + 5) k = c (24 + 2 * k + 1)) ∧ ∀ p, 0 ≤ p → p < c 2 → cPt m (m (t + 6) p) c p
/-- and its letters -/
def cFl (m : zM) (t : Int) (c w q : Int → Int) (n : Int) : Prop := m t 14 = n ∧ (∀ i, 0 ≤ i → i < n → m (t + 7) i = w i ∧ m (t + 8) i = q i ∧ m (t + 9) i = ((zmask (fun j => cMay c w q i (j : Int)) n.toNat : Nat) : Int)) ∧ (∀ i j, 0 ≤ i → i < n → 0 ≤ j → j < n → cMay c w q i j = true → m (t + 10) (12 * i + j) = cCode c w q i j) ∧ m t 15 = ((zmask (fun i => cOd c w (i : Int)) n.toNat : Nat) : Int)
/-- counts and places of a theory that is being read -/
def wfD (c : Int → Int) : Prop := (0 ≤ c 0 ∧ c 0 ≤ 6) ∧ (0 ≤ c 1 ∧ c 1 ≤ 4) ∧ (0 ≤ c 2 ∧ c 2 ≤ 8) ∧
  (∀ f, 0 ≤ f → f < c 0 → (1 ≤ c (4 + 3 * f) ∧ c (4 + 3 * f) ≤ 26) ∧ (c (4 + 3 * f + 1) = 0 ∨ c (4 + 3 * f + 1) = 1) ∧ (c (4 + 3 * f + 2) = 0 ∨ c (4 + 3 * f + 2) = 1)) ∧
  (∀ k, 0 ≤ k → k < c 1 → (0 ≤ c (24 + 2 * k) ∧ c (24 + 2 * k) < c 0) ∧ (0 ≤ c (24 + 2 * k + 1) ∧ c (24 + 2 * k + 1) < c 0)) ∧
  (∀ p, 0 ≤ p → p < c 2 → (0 ≤ c (32 + 9 * p) ∧ c (32 + 9 * p) ≤ 6) ∧ (c (32 + 9 * p + 1) = 0 ∨ c (32 + 9 * p + 1) = 1) ∧ (c (32 + 9 * p + 2) = 0 ∨ c (32 + 9 * p + 2) = 1) ∧ ∀ k, 0 ≤ k → k < c (32 + 9 * p) → 0 ≤ c (32 + 9 * p + 3 + k) ∧ c (32 + 9 * p + 3 + k) < 2 * c 0)
theorem wfD_of {c : Int → Int} (h : wfC c) : wfD c := by
  obtain ⟨h1, h2, h3, h4, h5, h6⟩ := h
  exact ⟨h1, h2, h3, h4, h5, fun p q0 q1 => ⟨by have := (h6 p q0 q1).1; omega, (h6 p q0 q1).2⟩⟩
/-- mixes are of two fields, neither a pair -/
def cMz (c : Int → Int) : Prop := ∀ k, 0 ≤ k → k < c 1 → c (24 + 2 * k) ≠ c (24 + 2 * k + 1) ∧ c (4 + 3 * c (24 + 2 * k) + 1) ≠ 1 ∧ c (4 + 3 * c (24 + 2 * k + 1) + 1) ≠ 1
theorem tAll_ltD {c : Int → Int} (hw : wfD c) : tAll c < 256 := by
  have := hw.2.2.1
  unfold tAll
  have : 2 ^ (c 2).toNat ≤ 2 ^ 8 := Nat.pow_le_pow_right (by decide) (by omega)
  omega
theorem cCodeOk_rgD {c : Int → Int} {co : Int} (hw : wfD c) (h : cCodeOk c co = true) : 0 ≤ co ∧ co / 100 < c 2 ∧ co / 10 % 10 < c 2 ∧ co < 800 := by
  have h := cCodeOk_iff.mp h
  have := hw.2.2.1
  omega
theorem cPre_monoD {c : Int → Int} (hw : wfD c) : ∀ {b a : Nat}, a ≤ b → (b : Int) ≤ c 2 → cPre c a ≤ cPre c b
  | 0, a, h, _ => by rw [show a = 0 by omega]; exact Int.le_refl _
  | b + 1, a, h, hb => by
    by_cases e : a = b + 1
    · rw [e]; exact Int.le_refl _
    · have h1 := cPre_monoD hw (a := a) (b := b) (by omega) (by omega)
      have h2 := (hw.2.2.2.2.2 b (by omega) (by omega)).1
      rw [cPre_s]; omega
theorem cPre_findD {c : Int → Int} (hw : wfD c) : ∀ (b : Nat) (i : Int), (b : Int) ≤ c 2 → 0 ≤ i → i < cPre c b → ∃ p k : Nat, p < b ∧ (k : Int) < c (32 + 9 * p) ∧ i = cPre c p + k
  | 0, i, _, h0, h => by simp [cPre, zsum] at h; omega
  | b + 1, i, hb, h0, h => by
    by_cases e : i < cPre c b
    · obtain ⟨p, k, h1, h2, h3⟩ := cPre_findD hw b i (by omega) h0 e
      exact ⟨p, k, by omega, h2, h3⟩
    · rw [cPre_s] at h
      exact ⟨b, (i - cPre c b).toNat, by omega, by omega, by omega⟩
theorem cPre_injD {c : Int → Int} (hw : wfD c) {p k p' k' : Nat} (hp : (p : Int) < c 2) (hp' : (p' : Int) < c 2) (hk : (k : Int) < c (32 + 9 * p)) (hk' : (k' : Int) < c (32 + 9 * p')) (e : cPre c p + k = cPre c p' + k') : p = p' ∧ k = k' := by
  have h : p = p' := by
    rcases Nat.lt_trichotomy p p' with h | h | h
    · have h1 := cPre_monoD hw (a := p + 1) (b := p') (by omega) (by omega)
      rw [cPre_s] at h1; omega
    · exact h
    · have h1 := cPre_monoD hw (a := p' + 1) (b := p) (by omega) (by omega)
      rw [cPre_s] at h1; omega
  subst h
  exact ⟨rfl, by omega⟩
theorem cPre_nn {c : Int → Int} (hw : wfD c) {a : Nat} (h : (a : Int) ≤ c 2) : 0 ≤ cPre c a := by
  have := cPre_monoD hw (a := 0) (b := a) (by omega) h
  simpa [cPre, zsum] using this
theorem flat_wfLD {c w q : Int → Int} {n : Int} (hw : wfD c) (h : isFlat c w q n) (hn : n ≤ 12) : wfL c w q n := by
  obtain ⟨h1, h2⟩ := h
  have hb := hw.2.2.1
  refine ⟨⟨?_, hn⟩, fun i h0 hi => ?_⟩
  · rw [h1]; exact cPre_nn hw (by omega)
  · rw [h1] at hi
    obtain ⟨p, k, h3, h4, rfl⟩ := cPre_findD hw _ i (by omega) h0 hi
    have h5 := h2 p k (by omega) h4
    have h6 := hw.2.2.2.2.2 p (by omega) (by omega)
    rw [h5.1, h5.2]
    exact ⟨h6.2.2.2 k (by omega) h4, by omega, by omega⟩
theorem flat_ex {c : Int → Int} (hw : wfD c) : ∃ w q, isFlat c w q (cPre c (c 2).toNat) := by
  have hb := hw.2.2.1
  have key : ∀ i : Int, ∃ v : Int × Int, ∀ p k : Nat, (p : Int) < c 2 → (k : Int) < c (32 + 9 * p) → i = cPre c p + k → v = (c (32 + 9 * p + 3 + k), (p : Int)) := by
    intro i
    by_cases h : ∃ p k : Nat, (p : Int) < c 2 ∧ (k : Int) < c (32 + 9 * p) ∧ i = cPre c p + k
    · obtain ⟨p, k, h1, h2, h3⟩ := h
      refine ⟨(c (32 + 9 * p + 3 + k), (p : Int)), fun p' k' h4 h5 h6 => ?_⟩
      obtain ⟨e1, e2⟩ := cPre_injD hw h1 h4 h2 h5 (h3 ▸ h6)
      rw [e1, e2]
    · exact ⟨(0, 0), fun p k h1 h2 h3 => absurd ⟨p, k, h1, h2, h3⟩ h⟩
  refine ⟨fun i => (Classical.choose (key i)).1, fun i => (Classical.choose (key i)).2, rfl, fun p k h1 h2 => ?_⟩
  have := Classical.choose_spec (key (cPre c p + k)) p k h1 h2 rfl
  show (Classical.choose (key (cPre c p + k))).1 = _ ∧ (Classical.choose (key (cPre c p + k))).2 = _
  rw [this]
  exact ⟨rfl, rfl⟩
