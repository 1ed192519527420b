/-! what the model's plain readers say, over the row c of its theory -/
def cMixP (c : Int → Int) (f g k : Int) : Bool := decide ((c (24 + 2 * k) = f ∧ c (24 + 2 * k + 1) = g) ∨ (c (24 + 2 * k) = g ∧ c (24 + 2 * k + 1) = f))
def cMix (c : Int → Int) (f g : Int) : Int := zfst (cMixP c f g) (c 1).toNat 0
/-- letters, by their kinds w and points q: may i and j be paired -/
def cMay (c w q : Int → Int) (i j : Int) : Bool := decide (¬ (i = j ∨ (q i = q j ∧ c (32 + 9 * q i + 2) = 1)) ∧
  (if w i / 2 = w j / 2 then (c (4 + 3 * (w i / 2) + 1) ≠ 1 ∨ w i ≠ w j) else (c (4 + 3 * (w i / 2) + 1) ≠ 1 ∧ c (4 + 3 * (w j / 2) + 1) ≠ 1 ∧ 0 ≤ cMix c (w i / 2) (w j / 2))))
def cCode (c w q : Int → Int) (i j : Int) : Int :=
  if w i / 2 = w j / 2 then
    (if c (4 + 3 * (w i / 2) + 1) = 1 then (if w i % 2 = 0 then 100 * q i + 10 * q j + w i / 2 else 100 * q j + 10 * q i + w i / 2)
     else if q i < q j then 100 * q i + 10 * q j + w i / 2 else 100 * q j + 10 * q i + w i / 2)
  else if c (24 + 2 * cMix c (w i / 2) (w j / 2)) = w i / 2 then 100 * q i + 10 * q j + 6 + cMix c (w i / 2) (w j / 2) else 100 * q j + 10 * q i + 6 + cMix c (w i / 2) (w j / 2)
/-- alike vertices -/
def cAlike (c : Int → Int) (p q : Int) : Bool := decide (c (32 + 9 * p + 1) = 1 ∧ c (32 + 9 * q + 1) = 1 ∧ c (32 + 9 * p) = c (32 + 9 * q) ∧ (c (32 + 9 * p + 2) = 1 ↔ c (32 + 9 * q + 2) = 1)) && decide (zfst (fun k => decide (c (32 + 9 * p + 3 + k) ≠ c (32 + 9 * q + 3 + k))) (c (32 + 9 * p)).toNat 0 = -1)
/-- counts and places of a theory's row are what they may be -/
def wfC (c : Int → Int) : Prop := (0 ≤ c 0 ∧ c 0 ≤ 6) ∧ (0 ≤ c 1 ∧ c 1 ≤ 4) ∧ (0 ≤ c 2 ∧ c 2 ≤ 8) ∧
  (∀ f, 0 ≤ f → f < c 0 → (1 ≤ c (4 + 3 * f) ∧ c (4 + 3 * f) ≤ 26) ∧ (c (4 + 3 * f + 1) = 0 ∨ c (4 + 3 * f + 1) = 1) ∧ (c (4 + 3 * f + 2) = 0 ∨ c (4 + 3 * f + 2) = 1)) ∧
  (∀ k, 0 ≤ k → k < c 1 → (0 ≤ c (24 + 2 * k) ∧ c (24 + 2 * k) < c 0) ∧ (0 ≤ c (24 + 2 * k + 1) ∧ c (24 + 2 * k + 1) < c 0)) ∧
  (∀ p, 0 ≤ p → p < c 2 → (1 ≤ c (32 + 9 * p) ∧ c (32 + 9 * p) ≤ 6) ∧ (c (32 + 9 * p + 1) = 0 ∨ c (32 + 9 * p + 1) = 1) ∧ (c (32 + 9 * p + 2) = 0 ∨ c (32 + 9 * p + 2) = 1) ∧ ∀ k, 0 ≤ k → k < c (32 + 9 * p) → 0 ≤ c (32 + 9 * p + 3 + k) ∧ c (32 + 9 * p + 3 + k) < 2 * c 0)
/-- n letters of kinds w at points q -/
def wfL (c w q : Int → Int) (n : Int) : Prop := (0 ≤ n ∧ n ≤ 12) ∧ ∀ i, 0 ≤ i → i < n → (0 ≤ w i ∧ w i < 2 * c 0) ∧ (0 ≤ q i ∧ q i < c 2)
