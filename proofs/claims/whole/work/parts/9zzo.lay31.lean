/-! what a told table keeps besides -/
/-- mixes join fields alike in oddness; a bar stands on a pair's letter only -/
def cIn2 (c : Int → Int) : Prop := (∀ k : Int, 0 ≤ k → k < c 1 → c (4 + 3 * c (24 + 2 * k) + 2) = c (4 + 3 * c (24 + 2 * k + 1) + 2)) ∧ ∀ p k : Int, 0 ≤ p → p < c 2 → 0 ≤ k → k < c (32 + 9 * p) → c (32 + 9 * p + 3 + k) % 2 = 1 → c (4 + 3 * (c (32 + 9 * p + 3 + k) / 2) + 1) = 1
theorem bar_of {c w q : Int → Int} {n : Int} (hw : wfC c) (hf : isFlat c w q n) (h : cIn2 c) : ∀ x : Int, 0 ≤ x → x < n → w x % 2 = 1 → c (4 + 3 * (w x / 2) + 1) = 1 := fun x x0 x1 hx => by
  obtain ⟨p, k, a1, a2, a3, a4, a5⟩ := lt_at hw hf x0 x1
  rw [a4] at hx ⊢
  exact h.2 (p : Int) (k : Int) (by omega) a1 (by omega) a2 hx
theorem odd_of {T : zT} (h : cIn2 T.1) : tOdd T := fun x y x0 x1 y0 y1 hm => by
  unfold cMay at hm
  have hm := of_decide_eq_true hm
  have key : T.1 (4 + 3 * (T.2.1 x / 2) + 2) = T.1 (4 + 3 * (T.2.1 y / 2) + 2) := by
    by_cases e : T.2.1 x / 2 = T.2.1 y / 2
    · rw [e]
    · have h2 := hm.2
      rw [if_neg e] at h2
      have h0 := h2.2.2
      have hlt : cMix T.1 (T.2.1 x / 2) (T.2.1 y / 2) < T.1 1 := by
        have := zfst_rg (p := cMixP T.1 (T.2.1 x / 2) (T.2.1 y / 2)) (T.1 1).toNat
        unfold cMix at h0 ⊢
        omega
      have hk := h.1 _ h0 hlt
      rcases mix_at h0 with z | z
      · rw [z.1, z.2] at hk
        exact hk
      · rw [z.1, z.2] at hk
        exact hk.symm
  unfold cOd
  rw [key]
