/-! the class's theory at t: shapes, pointers, what it holds -/
def shT (E : zE) (t : Int) : Prop := E.1 t = (13, 16) ∧ E.1 (t + 1) = (1, 6) ∧ E.1 (t + 2) = (4, 6) ∧ E.1 (t + 3) = (4, 6) ∧ E.1 (t + 4) = (1, 4) ∧ E.1 (t + 5) = (1, 4) ∧ E.1 (t + 6) = (5, 8) ∧ E.1 (t + 7) = (1, 12) ∧ E.1 (t + 8) = (1, 12) ∧ E.1 (t + 9) = (1, 12) ∧ E.1 (t + 10) = (1, 144) ∧ E.1 (t + 11) = (1, 800) ∧ ∀ i : Int, 0 ≤ i → i < 8 → E.1 (t + 12 + 2 * i) = (11, 4) ∧ E.1 (t + 13 + 2 * i) = (1, 6)
def ptT (m : zM) (t : Int) : Prop := (m t 0 = t + 1 ∧ m t 1 = t + 2 ∧ m t 2 = t + 3 ∧ m t 3 = t + 4 ∧ m t 4 = t + 5 ∧ m t 5 = t + 6 ∧ m t 6 = t + 7 ∧ m t 7 = t + 8 ∧ m t 8 = t + 9 ∧ m t 9 = t + 10 ∧ m t 10 = t + 11) ∧ (∀ i : Int, 0 ≤ i → i < 8 → m (t + 12 + 2 * i) 0 = t + 13 + 2 * i) ∧ (∀ p : Int, 0 ≤ p → p < 8 → ∃ i : Int, 0 ≤ i ∧ i < 8 ∧ m (t + 6) p = t + 12 + 2 * i) ∧ ∀ p q : Int, 0 ≤ p → p < 8 → 0 ≤ q → q < 8 → m (t + 6) p = m (t + 6) q → p = q
theorem sT0 {E : zE} {t : Int} (h : shT E t) : E.1 t = (13, 16) := h.1
theorem sT1 {E : zE} {t : Int} (h : shT E t) : E.1 (t + 1) = (1, 6) := h.2.1
theorem sT2 {E : zE} {t : Int} (h : shT E t) : E.1 (t + 2) = (4, 6) := h.2.2.1
theorem sT3 {E : zE} {t : Int} (h : shT E t) : E.1 (t + 3) = (4, 6) := h.2.2.2.1
theorem sT4 {E : zE} {t : Int} (h : shT E t) : E.1 (t + 4) = (1, 4) := h.2.2.2.2.1
theorem sT5 {E : zE} {t : Int} (h : shT E t) : E.1 (t + 5) = (1, 4) := h.2.2.2.2.2.1
theorem sT6 {E : zE} {t : Int} (h : shT E t) : E.1 (t + 6) = (5, 8) := h.2.2.2.2.2.2.1
theorem sT7 {E : zE} {t : Int} (h : shT E t) : E.1 (t + 7) = (1, 12) := h.2.2.2.2.2.2.2.1
theorem sT8 {E : zE} {t : Int} (h : shT E t) : E.1 (t + 8) = (1, 12) := h.2.2.2.2.2.2.2.2.1
theorem sT9 {E : zE} {t : Int} (h : shT E t) : E.1 (t + 9) = (1, 12) := h.2.2.2.2.2.2.2.2.2.1
theorem sT10 {E : zE} {t : Int} (h : shT E t) : E.1 (t + 10) = (1, 144) := h.2.2.2.2.2.2.2.2.2.2.1
theorem sT11 {E : zE} {t : Int} (h : shT E t) : E.1 (t + 11) = (1, 800) := h.2.2.2.2.2.2.2.2.2.2.2.1
theorem pT0 {m : zM} {t : Int} (h : ptT m t) : m t 0 = t + 1 := h.1.1
theorem pT1 {m : zM} {t : Int} (h : ptT m t) : m t 1 = t + 2 := h.1.2.1
theorem pT2 {m : zM} {t : Int} (h : ptT m t) : m t 2 = t + 3 := h.1.2.2.1
theorem pT3 {m : zM} {t : Int} (h : ptT m t) : m t 3 = t + 4 := h.1.2.2.2.1
theorem pT4 {m : zM} {t : Int} (h : ptT m t) : m t 4 = t + 5 := h.1.2.2.2.2.1
theorem pT5 {m : zM} {t : Int} (h : ptT m t) : m t 5 = t + 6 := h.1.2.2.2.2.2.1
theorem pT6 {m : zM} {t : Int} (h : ptT m t) : m t 6 = t + 7 := h.1.2.2.2.2.2.2.1
theorem pT7 {m : zM} {t : Int} (h : ptT m t) : m t 7 = t + 8 := h.1.2.2.2.2.2.2.2.1
theorem pT8 {m : zM} {t : Int} (h : ptT m t) : m t 8 = t + 9 := h.1.2.2.2.2.2.2.2.2.1
theorem pT9 {m : zM} {t : Int} (h : ptT m t) : m t 9 = t + 10 := h.1.2.2.2.2.2.2.2.2.2.1
theorem pT10 {m : zM} {t : Int} (h : ptT m t) : m t 10 = t + 11 := h.1.2.2.2.2.2.2.2.2.2.2
/-- a point of the class at o: the p-th of the table c -/
def cPt (m : zM) (o : Int) (c : Int → Int) (p : Int) : Prop := m o 1 = c (32 + 9 * p) ∧ m o 2 = c (32 + 9 * p + 1) ∧ m o 3 = c (32 + 9 * p + 2) ∧ ∀ k, 0 ≤ k → k < c (32 + 9 * p) → m (o + 1) k = c (32 + 9 * p + 3 + k)
/-- the class's theory holds the table c -/
def cTh (m : zM) (t : Int) (c : Int → Int) : Prop := m t 11 = c 0 ∧ m t 12 = c 1 ∧ m t 13 = c 2 ∧ (∀ f, 0 ≤ f → f < c 0 → m (t + 1) f = c (4 + 3 * f) ∧ m (t + 2) f = c (4 + 3 * f + 1) ∧ m (t + 3) f = c (4 + 3 * f + 2)) ∧ (∀ k, 0 ≤ k → k < c 1 → m (t + 4) k = c (24 + 2 * k) ∧ m (t + 5) k = c (24 + 2 * k + 1)) ∧ ∀ p, 0 ≤ p → p < c 2 → cPt m (m (t + 6) p) c p
/-- and its letters -/
def cFl (m : zM) (t : Int) (c w q : Int → Int) (n : Int) : Prop := m t 14 = n ∧ (∀ i, 0 ≤ i → i < n → m (t + 7) i = w i ∧ m (t + 8) i = q i ∧ m (t + 9) i = ((zmask (fun j => cMay c w q i (j : Int)) n.toNat : Nat) : Int)) ∧ (∀ i j, 0 ≤ i → i < n → 0 ≤ j → j < n → cMay c w q i j = true → m (t + 10) (12 * i + j) = cCode c w q i j) ∧ m t 15 = ((zmask (fun i => cOd c w (i : Int)) n.toNat : Nat) : Int)
