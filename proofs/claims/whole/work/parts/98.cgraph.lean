/-! the class's graphs: what lies next, what is reached -/
theorem zb_0 {p : Prop} [Decidable p] : zb p = 0 ↔ ¬ p := by unfold zb; split <;> simp [*]
def gUn (N : Nat → Nat) (S : Nat) : Nat → Nat
  | 0 => 0
  | p + 1 => if S.testBit p = true then gUn N S p ||| N p else gUn N S p
theorem gUn_bit (N : Nat → Nat) (S q : Nat) : ∀ n, (gUn N S n).testBit q = true ↔ ∃ p, p < n ∧ S.testBit p = true ∧ (N p).testBit q = true
  | 0 => by simp [gUn]
  | n + 1 => by
    have ih := gUn_bit N S q n
    unfold gUn
    by_cases h : S.testBit n = true
    · rw [if_pos h, Nat.testBit_or, Bool.or_eq_true, ih]
      constructor
      · rintro (⟨p, h1, h2⟩ | h1)
        · exact ⟨p, by omega, h2⟩
        · exact ⟨n, by omega, h, h1⟩
      · rintro ⟨p, h1, h2, h3⟩
        by_cases e : p = n
        · right; rw [← e]; exact h3
        · exact Or.inl ⟨p, by omega, h2, h3⟩
    · rw [if_neg h, ih]
      constructor
      · rintro ⟨p, h1, h2⟩; exact ⟨p, by omega, h2⟩
      · rintro ⟨p, h1, h2, h3⟩
        by_cases e : p = n
        · rw [e] at h2; exact absurd h2 h
        · exact ⟨p, by omega, h2, h3⟩
theorem gUn_lt {N : Nat → Nat} (hN : ∀ p, p < 8 → N p < 256) (S : Nat) : ∀ n, n ≤ 8 → gUn N S n < 256
  | 0, _ => by simp [gUn]
  | n + 1, h => by
    unfold gUn
    split
    · exact Nat.or_lt_two_pow (n := 8) (gUn_lt hN S n (by omega)) (hN n (by omega))
    · exact gUn_lt hN S n (by omega)
/-- closed under what lies next, within a set -/
def gCl (N : Nat → Nat) (W S : Nat) : Prop := ∀ v q, v < 8 → S.testBit v = true → (N v).testBit q = true → W.testBit q = true → S.testBit q = true
/-- what is reached from seeds within a set -/
def gRe (N : Nat → Nat) (W A S : Nat) : Prop := S < 256 ∧ gSub (A &&& W) S ∧ gSub S W ∧ gCl N W S ∧ ∀ T, gSub (A &&& W) T → gCl N W T → gSub S T
theorem gRe_uniq {N : Nat → Nat} {W A S T : Nat} (h1 : gRe N W A S) (h2 : gRe N W A T) : S = T := by
  refine zset_ext (fun i => ?_)
  have a := h1.2.2.2.2 T h2.2.1 h2.2.2.2.1 i
  have b := h2.2.2.2.2 S h1.2.1 h1.2.2.2.1 i
  cases hs : S.testBit i <;> cases ht : T.testBit i <;> simp_all
/-- the reader's state: seen, fresh -/
def gSt (N : Nat → Nat) (W A S F : Nat) : Prop := S < 256 ∧ F < 256 ∧ gSub F S ∧ gSub (A &&& W) S ∧ gSub S W ∧ (∀ v q, v < 8 → S.testBit v = true → F.testBit v = false → (N v).testBit q = true → W.testBit q = true → S.testBit q = true) ∧ ∀ T, gSub (A &&& W) T → gCl N W T → gSub S T
theorem gSt_end {N : Nat → Nat} {W A S F : Nat} (h : gSt N W A S F) (hF : F = 0) : gRe N W A S := by
  obtain ⟨h1, h2, h3, h4, h5, h6, h7⟩ := h
  exact ⟨h1, h4, h5, fun v q q0 q1 q2 q3 => h6 v q q0 q1 (by rw [hF, Nat.zero_testBit]) q2 q3, h7⟩
theorem andn_bit {a b i : Nat} : (a ^^^ (a &&& b)).testBit i = (a.testBit i && !b.testBit i) := by
  rw [Nat.testBit_xor, Nat.testBit_and]
  cases a.testBit i <;> cases b.testBit i <;> rfl
theorem gSt_step {N : Nat → Nat} {W A S F : Nat} (hN : ∀ p, p < 8 → N p < 256) (h : gSt N W A S F) : gSt N W A (S ||| ((gUn N F 8 &&& W) ^^^ ((gUn N F 8 &&& W) &&& S))) ((gUn N F 8 &&& W) ^^^ ((gUn N F 8 &&& W) &&& S)) := by
  obtain ⟨h1, h2, h3, h4, h5, h6, h7⟩ := h
  have hG : gUn N F 8 &&& W < 256 := Nat.lt_of_le_of_lt Nat.and_le_left (gUn_lt hN F 8 (Nat.le_refl _))
  have hF : ((gUn N F 8 &&& W) ^^^ ((gUn N F 8 &&& W) &&& S)) < 256 := Nat.xor_lt_two_pow (n := 8) hG (Nat.lt_of_le_of_lt Nat.and_le_left hG)
  have hb : ∀ i, ((gUn N F 8 &&& W) ^^^ ((gUn N F 8 &&& W) &&& S)).testBit i = true ↔ ((gUn N F 8).testBit i = true ∧ W.testBit i = true) ∧ S.testBit i = false := fun i => by
    rw [andn_bit, Nat.testBit_and, Bool.and_eq_true, Bool.and_eq_true]
    simp
  refine ⟨Nat.or_lt_two_pow (n := 8) h1 hF, hF, fun v hv => by rw [Nat.testBit_or, hv, Bool.or_true], fun v hv => by rw [Nat.testBit_or, h4 v hv, Bool.true_or], fun v hv => ?_, fun v q q0 q1 q2 q3 q4 => ?_, fun T t1 t2 v hv => ?_⟩
  · rw [Nat.testBit_or, Bool.or_eq_true] at hv
    rcases hv with hv | hv
    · exact h5 v hv
    · exact ((hb v).mp hv).1.2
  · rw [Nat.testBit_or, q2, Bool.or_false] at q1
    rw [Nat.testBit_or, Bool.or_eq_true]
    cases hfv : F.testBit v with
    | false => exact Or.inl (h6 v q q0 q1 hfv q3 q4)
    | true =>
      cases hsq : S.testBit q with
      | true => exact Or.inl rfl
      | false => exact Or.inr ((hb q).mpr ⟨⟨(gUn_bit N F q 8).mpr ⟨v, q0, hfv, q3⟩, q4⟩, hsq⟩)
  · rw [Nat.testBit_or, Bool.or_eq_true] at hv
    rcases hv with hv | hv
    · exact h7 T t1 t2 v hv
    · obtain ⟨⟨g1, g2⟩, _⟩ := (hb v).mp hv
      obtain ⟨p, p1, p2, p3⟩ := (gUn_bit N F v 8).mp g1
      exact t2 p v p1 (h7 T t1 t2 p (h3 p p2)) p3 g2
theorem gSt_fresh {N : Nat → Nat} {W S F : Nat} (hz : ((gUn N F 8 &&& W) ^^^ ((gUn N F 8 &&& W) &&& S)) ≠ 0) (h1 : S < 256) (hN : ∀ p, p < 8 → N p < 256) : sUn (S ||| ((gUn N F 8 &&& W) ^^^ ((gUn N F 8 &&& W) &&& S))) 8 < sUn S 8 := by
  have hG : gUn N F 8 &&& W < 256 := Nat.lt_of_le_of_lt Nat.and_le_left (gUn_lt hN F 8 (Nat.le_refl _))
  have hF : ((gUn N F 8 &&& W) ^^^ ((gUn N F 8 &&& W) &&& S)) < 256 := Nat.xor_lt_two_pow (n := 8) hG (Nat.lt_of_le_of_lt Nat.and_le_left hG)
  refine sUn_grow (fun v hv => by rw [Nat.testBit_or, hv, Bool.true_or]) (Nat.or_lt_two_pow (n := 8) h1 hF) (fun e => ?_)
  obtain ⟨x, x1, x2⟩ := nbit_ex hz hF
  have h2 := x2
  rw [andn_bit, Bool.and_eq_true] at h2
  have h3 : (S ||| ((gUn N F 8 &&& W) ^^^ ((gUn N F 8 &&& W) &&& S))).testBit x = true := by rw [Nat.testBit_or, x2, Bool.or_true]
  rw [e] at h3
  rw [h3] at h2
  simp at h2
noncomputable def gRs (N : Nat → Nat) (W A : Nat) : Nat := @dite _ (∃ S, gRe N W A S) (Classical.propDecidable _) (fun h => Classical.choose h) (fun _ => 0)
theorem gRs_eq {N : Nat → Nat} {W A S : Nat} (h : gRe N W A S) : gRs N W A = S := by
  unfold gRs
  have he : ∃ S, gRe N W A S := ⟨S, h⟩
  rw [dif_pos he]
  exact gRe_uniq (Classical.choose_spec he) h
