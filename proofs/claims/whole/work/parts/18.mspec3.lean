/-! the letters of a theory, one behind the other; all its pairings -/
def cPre (c : Int → Int) (p : Nat) : Int := zsum (fun q => c (32 + 9 * q)) p 0
theorem cPre_s (c : Int → Int) (p : Nat) : cPre c (p + 1) = cPre c p + c (32 + 9 * p) := by
  unfold cPre
  rw [zsum_app, zsum_s, zsum_0, Int.zero_add, Int.add_zero]
theorem cPre_mono {c : Int → Int} (hw : wfC c) : ∀ {b a : Nat}, a ≤ b → (b : Int) ≤ c 2 → cPre c a ≤ cPre c b
  | 0, a, h, _ => by rw [show a = 0 by omega]; exact Int.le_refl _
  | b + 1, a, h, hb => by
    by_cases e : a = b + 1
    · rw [e]; exact Int.le_refl _
    · have h1 := cPre_mono hw (a := a) (b := b) (by omega) (by omega)
      have h2 := (hw.2.2.2.2.2 b (by omega) (by omega)).1
      rw [cPre_s]; omega
/-- letters of kinds w at points q, as the theory c has them -/
def isFlat (c w q : Int → Int) (n : Int) : Prop := n = cPre c (c 2).toNat ∧ ∀ p k : Nat, (p : Int) < c 2 → (k : Int) < c (32 + 9 * p) → w (cPre c p + k) = c (32 + 9 * p + 3 + k) ∧ q (cPre c p + k) = p
theorem cPre_find {c : Int → Int} (hw : wfC c) : ∀ (b : Nat) (i : Int), (b : Int) ≤ c 2 → 0 ≤ i → i < cPre c b → ∃ p k : Nat, p < b ∧ (k : Int) < c (32 + 9 * p) ∧ i = cPre c p + k
  | 0, i, _, h0, h => by simp [cPre, zsum] at h; omega
  | b + 1, i, hb, h0, h => by
    by_cases e : i < cPre c b
    · obtain ⟨p, k, h1, h2, h3⟩ := cPre_find hw b i (by omega) h0 e
      exact ⟨p, k, by omega, h2, h3⟩
    · rw [cPre_s] at h
      exact ⟨b, (i - cPre c b).toNat, by omega, by omega, by omega⟩
theorem cPre_inj {c : Int → Int} (hw : wfC c) {p k p' k' : Nat} (hp : (p : Int) < c 2) (hp' : (p' : Int) < c 2) (hk : (k : Int) < c (32 + 9 * p)) (hk' : (k' : Int) < c (32 + 9 * p')) (e : cPre c p + k = cPre c p' + k') : p = p' ∧ k = k' := by
  have h : p = p' := by
    rcases Nat.lt_trichotomy p p' with h | h | h
    · have h1 := cPre_mono hw (a := p + 1) (b := p') (by omega) (by omega)
      rw [cPre_s] at h1; omega
    · exact h
    · have h1 := cPre_mono hw (a := p' + 1) (b := p) (by omega) (by omega)
      rw [cPre_s] at h1; omega
  subst h
  exact ⟨rfl, by omega⟩
theorem flat_wfL {c w q : Int → Int} {n : Int} (hw : wfC c) (h : isFlat c w q n) (hn : n ≤ 12) : wfL c w q n := by
  obtain ⟨h1, h2⟩ := h
  have hb := hw.2.2.1
  refine ⟨⟨?_, hn⟩, fun i h0 hi => ?_⟩
  · have := cPre_mono hw (a := 0) (b := (c 2).toNat) (by omega) (by omega)
    rw [h1]; simpa [cPre, zsum] using this
  · rw [h1] at hi
    obtain ⟨p, k, h3, h4, rfl⟩ := cPre_find hw _ i (by omega) h0 hi
    have h5 := h2 p k (by omega) h4
    have h6 := hw.2.2.2.2.2 p (by omega) (by omega)
    rw [h5.1, h5.2]
    exact ⟨h6.2.2.2 k (by omega) h4, by omega, by omega⟩
/-- letters are numbered from 0 to 11; nothing is there beyond -/
def mt0 : Int → Int := fun x => if 0 ≤ x ∧ x < 12 then -1 else 0
theorem sFr_mt0 {n : Nat} (hn : n ≤ 12) : sFr mt0 n = n := by
  unfold sFr
  have e : zsum (fun i => zb (mt0 i < 0)) n 0 = zsum (fun _ => 1) n 0 := zsum_congr (fun i q1 q2 => zb_t (by unfold mt0; rw [if_pos (by omega)]; omega))
  rw [e]
  have key : ∀ (j : Nat) (k : Int), zsum (fun _ => 1) j k = j := by
    intro j
    induction j with
    | zero => intro k; rfl
    | succ j ih => intro k; rw [zsum_s, ih]; omega
  exact key n 0
/-- all pairings of a theory, in their order -/
def sPair (c w q : Int → Int) (n : Int) : List (Int → Int) := sLay n.toNat (cMay c w q) 6 mt0
