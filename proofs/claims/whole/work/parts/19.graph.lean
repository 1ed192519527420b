/-! lines between points; what hangs together -/
def gFr (co : Int → Int) (k : Nat) : Nat := (co k / 100).toNat
def gTo (co : Int → Int) (k : Nat) : Nat := (co k / 10 % 10).toNat
/-- lines that are left out -/
def gSk (co : Int → Int) (wl wp : Int) (k : Nat) : Bool := decide ((k : Int) = wl ∨ ((gFr co k : Nat) : Int) = wp ∨ ((gTo co k : Nat) : Int) = wp)
def gSub (a b : Nat) : Prop := ∀ v, a.testBit v = true → b.testBit v = true
def gClosed (L : Nat) (fr to' : Nat → Nat) (sk : Nat → Bool) (S : Nat) : Prop := ∀ k, k < L → sk k = false → S.testBit (fr k) = S.testBit (to' k)
/-- the least set that has p and with an end of a line the other one -/
def gReach (L : Nat) (fr to' : Nat → Nat) (sk : Nat → Bool) (p S : Nat) : Prop := S < 256 ∧ S.testBit p = true ∧ gClosed L fr to' sk S ∧ ∀ T, T.testBit p = true → gClosed L fr to' sk T → gSub S T
theorem gReach_uniq {L : Nat} {fr to' : Nat → Nat} {sk : Nat → Bool} {p S T : Nat} (h1 : gReach L fr to' sk p S) (h2 : gReach L fr to' sk p T) : S = T := by
  refine zset_ext (fun v => ?_)
  have a := h1.2.2.2 T h2.2.1 h2.2.2.1 v
  have b := h2.2.2.2 S h1.2.1 h1.2.2.1 v
  cases hS : S.testBit v <;> cases hT : T.testBit v <;> simp_all
noncomputable def gR (L : Nat) (fr to' : Nat → Nat) (sk : Nat → Bool) (p : Nat) : Nat := @dite _ (∃ S, gReach L fr to' sk p S) (Classical.propDecidable _) (fun h => Classical.choose h) (fun _ => 0)
theorem gR_eq {L : Nat} {fr to' : Nat → Nat} {sk : Nat → Bool} {p S : Nat} (h : gReach L fr to' sk p S) : gR L fr to' sk p = S := by
  have he : ∃ S, gReach L fr to' sk p S := ⟨S, h⟩
  unfold gR
  rw [dif_pos he]
  exact gReach_uniq (Classical.choose_spec he) h
/-- what holds while lines are gone through, k of them done -/
def gInv (L : Nat) (fr to' : Nat → Nat) (sk : Nat → Bool) (p old k S : Nat) : Prop := gSub old S ∧ S < 256 ∧ S.testBit p = true ∧ (∀ T, T.testBit p = true → gClosed L fr to' sk T → gSub S T) ∧ (S = old → ∀ x, x < k → sk x = false → S.testBit (fr x) = S.testBit (to' x))
theorem gInv_keep {L : Nat} {fr to' : Nat → Nat} {sk : Nat → Bool} {p old k S : Nat} (h : gInv L fr to' sk p old k S) (hk : sk k = false → S.testBit (fr k) = S.testBit (to' k)) : gInv L fr to' sk p old (k + 1) S := by
  refine ⟨h.1, h.2.1, h.2.2.1, h.2.2.2.1, fun e x hx hs => ?_⟩
  by_cases e2 : x = k
  · rw [e2] at hs ⊢; exact hk hs
  · exact h.2.2.2.2 e x (by omega) hs
theorem gInv_add {L : Nat} {fr to' : Nat → Nat} {sk : Nat → Bool} {p old k S : Nat} (h : gInv L fr to' sk p old k S) (hk : k < L) (hs : sk k = false) (hf : fr k < 8) (ht : to' k < 8) (he : S.testBit (fr k) = true ∨ S.testBit (to' k) = true) : gInv L fr to' sk p old (k + 1) (S ||| (2 ^ fr k ||| 2 ^ to' k)) := by
  have e : ∀ v, (S ||| (2 ^ fr k ||| 2 ^ to' k)).testBit v = (S.testBit v || (decide (fr k = v) || decide (to' k = v))) := fun v => by rw [Nat.testBit_or, Nat.testBit_or, Nat.testBit_two_pow, Nat.testBit_two_pow]
  have hsub : gSub S (S ||| (2 ^ fr k ||| 2 ^ to' k)) := fun v hv => by rw [e, hv]; rfl
  refine ⟨fun v hv => hsub v (h.1 v hv), ?_, hsub p h.2.2.1, fun T hT hc v hv => ?_, fun eq x hx hsx => ?_⟩
  · exact Nat.or_lt_two_pow (n := 8) h.2.1 (Nat.or_lt_two_pow (n := 8) (Nat.pow_lt_pow_right (by omega) hf) (Nat.pow_lt_pow_right (by omega) ht))
  · have hST := h.2.2.2.1 T hT hc
    have hcl := hc k hk hs
    rw [e] at hv
    simp only [Bool.or_eq_true, decide_eq_true_eq] at hv
    have hboth : T.testBit (fr k) = true ∧ T.testBit (to' k) = true := by
      rcases he with he | he
      · have := hST _ he; exact ⟨this, by rw [← hcl]; exact this⟩
      · have := hST _ he; exact ⟨by rw [hcl]; exact this, this⟩
    rcases hv with hv | hv | hv
    · exact hST v hv
    · rw [← hv]; exact hboth.1
    · rw [← hv]; exact hboth.2
  · have hSold : S = old := by
      refine zset_ext (fun v => ?_)
      have a := hsub v
      rw [eq] at a
      have b := h.1 v
      cases h1 : S.testBit v <;> cases h2 : old.testBit v <;> simp_all
    rw [eq, ← hSold]
    by_cases e2 : x = k
    · rw [e2]
      have h1 : S.testBit (fr k) = true := by rw [hSold, ← eq, e]; simp
      have h2 : S.testBit (to' k) = true := by rw [hSold, ← eq, e]; simp
      rw [h1, h2]
    · exact h.2.2.2.2 hSold x (by omega) hsx
theorem sUn_mono {a b : Nat} (h : gSub a b) : ∀ n, sUn b n ≤ sUn a n
  | 0 => Nat.le_refl _
  | n + 1 => by
    have := sUn_mono h n
    have h1 := h n
    simp only [sUn]
    cases ha : a.testBit n <;> cases hb : b.testBit n <;> simp_all <;> omega
theorem sUn_lt {a b : Nat} (h : gSub a b) {v : Nat} (h1 : a.testBit v = false) (h2 : b.testBit v = true) : ∀ n, v < n → sUn b n < sUn a n
  | 0, hn => by omega
  | n + 1, hn => by
    have h3 := h n
    have h4 := sUn_mono h n
    simp only [sUn]
    by_cases e : v = n
    · subst e; rw [h1, h2]; simp; omega
    · have := sUn_lt h h1 h2 n (by omega)
      cases ha : a.testBit n <;> cases hb : b.testBit n <;> simp_all <;> omega
theorem sUn_grow {a b : Nat} (h : gSub a b) (hb : b < 256) (hne : b ≠ a) : sUn b 8 < sUn a 8 := by
  have : ∃ v, a.testBit v = false ∧ b.testBit v = true := by
    apply Classical.byContradiction
    intro hn
    apply hne
    refine zset_ext (fun v => ?_)
    have h1 := h v
    cases ha : a.testBit v <;> cases hbv : b.testBit v <;> simp_all
  obtain ⟨v, h1, h2⟩ := this
  have hv : v < 8 := by
    apply Classical.byContradiction
    intro hn
    have : b.testBit v = false := Nat.testBit_lt_two_pow (Nat.lt_of_lt_of_le hb (Nat.pow_le_pow_right (n := 2) (i := 8) (by omega) (by omega)))
    rw [this] at h2; cases h2
  exact sUn_lt h h1 h2 8 hv
theorem gFr_eq {co : Int → Int} {k : Nat} (h : 0 ≤ co k) : co k / 100 = ((gFr co k : Nat) : Int) := by unfold gFr; omega
theorem gTo_eq {co : Int → Int} {k : Nat} (h : 0 ≤ co k) : co k / 10 % 10 = ((gTo co k : Nat) : Int) := by unfold gTo; omega
