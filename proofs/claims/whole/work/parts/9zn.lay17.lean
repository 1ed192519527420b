/-! a heap, and sinking into it -/
def swp (V : Int → Int) (i j : Int) : Int → Int := fun x => if x = i then V j else if x = j then V i else V x
def heap (K V : Int → Int) (root e : Nat) : Prop := ∀ c : Nat, c < e → 0 < c → root ≤ (c - 1) / 2 → K (V (c : Int)) ≤ K (V (((c - 1) / 2 : Nat) : Int))
def hpI (K V : Int → Int) (root h e : Nat) : Prop := (∀ c : Nat, c < e → 0 < c → root ≤ (c - 1) / 2 → (c - 1) / 2 ≠ h → K (V (c : Int)) ≤ K (V (((c - 1) / 2 : Nat) : Int))) ∧ root ≤ h ∧ (h ≠ root → root ≤ (h - 1) / 2 ∧ 0 < h ∧ ∀ c : Nat, c < e → 0 < c → (c - 1) / 2 = h → K (V (c : Int)) ≤ K (V (((h - 1) / 2 : Nat) : Int)))
theorem swp_l {V : Int → Int} {i j : Int} : swp V i j i = V j := if_pos rfl
theorem swp_r {V : Int → Int} {i j : Int} (h : j ≠ i) : swp V i j j = V i := by unfold swp; rw [if_neg h, if_pos rfl]
theorem swp_o {V : Int → Int} {i j x : Int} (h1 : x ≠ i) (h2 : x ≠ j) : swp V i j x = V x := by unfold swp; rw [if_neg h1, if_neg h2]
theorem hp_start {K V : Int → Int} {root e : Nat} (h : heap K V (root + 1) e) : hpI K V root root e := ⟨fun c h1 h2 h3 h4 => h c h1 h2 (by omega), Nat.le_refl _, fun z => absurd rfl z⟩
theorem hp_end {K V : Int → Int} {root h e : Nat} (g : hpI K V root h e) (hc : ∀ c : Nat, c < e → 0 < c → (c - 1) / 2 = h → K (V (c : Int)) ≤ K (V (h : Int))) : heap K V root e := fun c h1 h2 h3 => by
  by_cases z : (c - 1) / 2 = h
  · rw [z]; exact hc c h1 h2 z
  · exact g.1 c h1 h2 h3 z
theorem hp_step {K V : Int → Int} {root h e c : Nat} (g : hpI K V root h e) (hc : c < e) (h0 : 0 < c) (hp : (c - 1) / 2 = h) (hb : ∀ x : Nat, x < e → 0 < x → (x - 1) / 2 = h → K (V (x : Int)) ≤ K (V (c : Int))) (hl : K (V (h : Int)) < K (V (c : Int))) : hpI K (swp V (h : Int) (c : Int)) root c e := by
  obtain ⟨g1, g2, g3⟩ := g
  refine ⟨fun x x1 x2 x3 x4 => ?_, by omega, fun _ => ⟨by omega, h0, fun x x1 x2 x3 => ?_⟩⟩
  · by_cases z : (x - 1) / 2 = h
    · rw [z, swp_l]
      by_cases y : x = c
      · rw [y, swp_r (by omega)]; omega
      · rw [swp_o (by omega) (by omega)]
        exact hb x x1 x2 z
    · rw [swp_o (x := (((x - 1) / 2 : Nat) : Int)) (by omega) (by omega)]
      by_cases y : x = h
      · rw [y, swp_l]
        have := (g3 (fun q => by rw [← y] at q; omega)).2.2 c hc h0 hp
        exact this
      · by_cases y2 : x = c
        · exact absurd (by rw [y2]; exact hp) z
        · rw [swp_o (by omega) (by omega)]
          exact g1 x x1 x2 x3 z
  · rw [hp, swp_l, swp_o (by omega) (by omega)]
    have := g1 x x1 x2 (by omega) (by omega)
    rw [x3] at this
    exact this
/-- what lies in the first e places is changed about among them only -/
def kept (Q : (Int → Int) → Prop) (e : Nat) : Prop := ∀ (V : Int → Int) (i j : Nat), i < e → j < e → Q V → Q (swp V (i : Int) (j : Int))
/-- each place once -/
def pmI (V : Int → Int) (s : Nat) : Prop := (∀ x : Nat, x < s → 0 ≤ V (x : Int) ∧ V (x : Int) < s) ∧ ∀ x y : Nat, x < s → y < s → V (x : Int) = V (y : Int) → x = y
theorem pmI_kept {s e : Nat} (he : e ≤ s) : kept (fun V => pmI V s) e := by
  intro V i j hi hj ⟨h1, h2⟩
  have val : ∀ x : Nat, x < s → ∃ y : Nat, y < s ∧ swp V (i : Int) (j : Int) (x : Int) = V (y : Int) ∧ (x = i → y = j) ∧ (x = j → y = i) ∧ (x ≠ i → x ≠ j → y = x) := fun x hx => by
    by_cases a : x = i
    · refine ⟨j, by omega, by rw [a, swp_l], fun _ => rfl, fun b => by omega, fun b => absurd a b⟩
    · by_cases b : x = j
      · exact ⟨i, by omega, by rw [b, swp_r (by omega)], fun q => absurd q a, fun _ => rfl, fun _ q => absurd b q⟩
      · exact ⟨x, hx, swp_o (by omega) (by omega), fun q => absurd q a, fun q => absurd q b, fun _ _ => rfl⟩
  refine ⟨fun x hx => ?_, fun x y hx hy e => ?_⟩
  · obtain ⟨z, z1, z2, -⟩ := val x hx
    rw [z2]
    exact h1 z z1
  · obtain ⟨z, z1, z2, z3, z4, z5⟩ := val x hx
    obtain ⟨w, w1, w2, w3, w4, w5⟩ := val y hy
    rw [z2, w2] at e
    have := h2 z w z1 w1 e
    by_cases a : x = i
    · by_cases b : y = i
      · omega
      · by_cases b2 : y = j
        · have := z3 a; have := w4 b2; omega
        · have := z3 a; have := w5 b b2; omega
    · by_cases a2 : x = j
      · by_cases b : y = i
        · have := z4 a2; have := w3 b; omega
        · by_cases b2 : y = j
          · omega
          · have := z4 a2; have := w5 b b2; omega
      · by_cases b : y = i
        · have := z5 a a2; have := w3 b; omega
        · by_cases b2 : y = j
          · have := z5 a a2; have := w4 b2; omega
          · have := z5 a a2; have := w5 b b2; omega
/-- the greatest lies first -/
theorem heap_top {K V : Int → Int} {e : Nat} (h : heap K V 0 e) : ∀ c : Nat, c < e → K (V (c : Int)) ≤ K (V 0) := by
  intro c
  induction c using Nat.strongRecOn with
  | ind c ih =>
    intro hc
    by_cases z : c = 0
    · rw [z]; exact Int.le_refl _
    · have h1 := h c hc (by omega) (by omega)
      have h2 := ih ((c - 1) / 2) (by omega) (by omega)
      omega
