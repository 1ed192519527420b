/-! what a laid pairing is like -/
def sOp (mt : Int → Int) (n : Nat) : Int := zsum (fun i => zb (i < mt i)) n 0
/-- a pairing as far as it goes -/
def sPart (n : Nat) (may : Int → Int → Bool) (mt : Int → Int) : Prop := ∀ i : Int, 0 ≤ i → i < n → 0 ≤ mt i → mt i < n ∧ mt i ≠ i ∧ mt (mt i) = i ∧ (i < mt i → may i (mt i) = true)
theorem sPart_up {n : Nat} {may : Int → Int → Bool} {mt : Int → Int} {i j : Int} (h : sPart n may mt) (hi : 0 ≤ i) (hij : i < j) (hj : j < n) (h1 : mt i < 0) (h2 : mt j < 0) (hm : may i j = true) : sPart n may (sUp mt i j) := by
  intro x q1 q2 q3
  unfold sUp at q3 ⊢
  by_cases e1 : x = j
  · rw [if_pos e1, if_neg (by omega), if_pos rfl]
    exact ⟨by omega, by omega, by omega, fun q => by omega⟩
  · rw [if_neg e1] at q3 ⊢
    by_cases e2 : x = i
    · rw [if_pos e2, if_pos rfl]
      exact ⟨hj, by omega, e2.symm, fun _ => by rw [e2]; exact hm⟩
    · rw [if_neg e2] at q3 ⊢
      have hx := h x q1 q2 q3
      have n1 : mt x ≠ j := fun e => by have := hx.2.2.1; rw [e] at this; omega
      have n2 : mt x ≠ i := fun e => by have := hx.2.2.1; rw [e] at this; omega
      rw [if_neg n1, if_neg n2]
      exact hx
theorem sOp_up {mt : Int → Int} {n : Nat} {i j : Int} (hi : 0 ≤ i) (hij : i < j) (hj : j < n) (h1 : mt i < 0) (h2 : mt j < 0) : sOp (sUp mt i j) n = sOp mt n + 1 := by
  unfold sOp
  have e : zsum (fun x => zb (x < mt x)) n 0 = zsum (fun x => zb (x < sUp mt i j x) - zb (x = i)) n 0 := by
    apply zsum_congr
    intro x q1 q2
    by_cases e1 : x = j
    · have hv : sUp mt i j x = i := if_pos e1
      rw [zb_f (show ¬ x < mt x by rw [e1]; omega), zb_f (show ¬ x < sUp mt i j x by rw [hv]; omega), zb_f (show ¬ x = i by omega)]; rfl
    · by_cases e2 : x = i
      · have hv : sUp mt i j x = j := by unfold sUp; rw [if_neg e1, if_pos e2]
        rw [zb_f (show ¬ x < mt x by rw [e2]; omega), zb_t (show x < sUp mt i j x by rw [hv]; omega), zb_t e2]; rfl
      · have hv : sUp mt i j x = mt x := by unfold sUp; rw [if_neg e1, if_neg e2]
        rw [zb_f e2]
        by_cases hx : x < mt x
        · rw [zb_t hx, zb_t (show x < sUp mt i j x by rw [hv]; exact hx)]; rfl
        · rw [zb_f hx, zb_f (show ¬ x < sUp mt i j x by rw [hv]; exact hx)]; rfl
  rw [e, zsum_sub, zsum_ind hi (by omega)]
  omega
theorem sCat_mem {α : Type} {g : Int → List α} : ∀ {s : Nat} {k : Int} {x : α}, x ∈ sCat g s k → ∃ j : Int, k ≤ j ∧ j < k + s ∧ x ∈ g j
  | 0, _, _, h => by simp [sCat] at h
  | s + 1, k, x, h => by
    rw [sCat_s] at h
    rcases List.mem_append.mp h with h | h
    · exact ⟨k, by omega, by omega, h⟩
    · obtain ⟨j, h1, h2, h3⟩ := sCat_mem h
      exact ⟨j, by omega, by omega, h3⟩
/-- a whole pairing -/
def sFull (n : Nat) (may : Int → Int → Bool) (mt : Int → Int) : Prop := (∀ i : Int, 0 ≤ i → i < n → 0 ≤ mt i ∧ mt i < n ∧ mt i ≠ i ∧ mt (mt i) = i ∧ (i < mt i → may i (mt i) = true)) ∧ 2 * sOp mt n = n
theorem sLay_full {n : Nat} {may : Int → Int → Bool} : ∀ (u : Nat) (mt : Int → Int), sPart n may mt → 2 * sOp mt n + sFr mt n = n → ∀ r ∈ sLay n may u mt, sFull n may r := by
  have fin : ∀ mt, sPart n may mt → 2 * sOp mt n + sFr mt n = n → sFst mt n < 0 → sFull n may mt := by
    intro mt hp hc hf
    have hz : sFr mt n = 0 := zsum_z (fun i q1 q2 => zb_f (sFst_no hf i q1 (by omega)))
    refine ⟨fun i q1 q2 => ?_, by omega⟩
    have h0 : 0 ≤ mt i := by have := sFst_no hf i q1 q2; omega
    have := hp i q1 q2 h0
    exact ⟨h0, this⟩
  intro u
  induction u with
  | zero =>
    intro mt hp hc r hr
    unfold sLay at hr
    split at hr
    · rename_i h; simp at hr; subst hr; exact fin _ hp hc h
    · simp at hr
  | succ u ih =>
    intro mt hp hc r hr
    unfold sLay at hr
    split at hr
    · rename_i h; simp at hr; subst hr; exact fin _ hp hc h
    · rename_i h
      obtain ⟨h1, h2, h3, -⟩ := sFst_lt h
      obtain ⟨j, a1, a2, a3⟩ := sCat_mem hr
      split at a3
      · rename_i hj
        refine ih _ (sPart_up hp h1 (by omega) (by omega) h3 hj.1 hj.2) ?_ r a3
        rw [sOp_up h1 (by omega) (by omega) h3 hj.1, sFr_up h1 h2 (by omega) (by omega) (by omega) h3 hj.1]
        omega
      · simp at a3
theorem sPair_full {c w q : Int → Int} {n : Int} (h0 : 0 ≤ n) (hn : n ≤ 12) : ∀ r ∈ sPair c w q n, sFull n.toNat (cMay c w q) r := by
  refine sLay_full 6 mt0 (fun i q1 q2 q3 => ?_) ?_
  · have : mt0 i = -1 := by unfold mt0; rw [if_pos (by omega)]
    omega
  · rw [sFr_mt0 (by omega)]
    have : sOp mt0 n.toNat = 0 := zsum_z (fun i q1 q2 => zb_f (by unfold mt0; rw [if_pos (by omega)]; omega))
    omega
/-- the codes of a pairing's lines, by their lesser letters -/
def sCL (n : Nat) (code : Int → Int → Int) (mt : Int → Int) : Nat → Int → List Int := fun s k => sCat (fun i => if mt i < i then [] else [code i (mt i)]) s k
def lf (l : List Int) : Int → Int := fun x => l.getD x.toNat 0
theorem cCode_rg {c w q : Int → Int} {n i j : Int} (hw : wfC c) (hl : wfL c w q n) (hi0 : 0 ≤ i) (hi : i < n) (hj0 : 0 ≤ j) (hj : j < n) (hm : cMay c w q i j = true) : 0 ≤ cCode c w q i j ∧ cCode c w q i j / 100 < c 2 ∧ cCode c w q i j / 10 % 10 < c 2 ∧ cCode c w q i j < 800 := by
  have b2 := hl.2 i hi0 hi
  have b3 := hl.2 j hj0 hj
  have b4 := hw.1
  have b5 := hw.2.2.1
  have b6 := hw.2.1
  have b7 : w i / 2 ≠ w j / 2 → 0 ≤ cMix c (w i / 2) (w j / 2) := fun h => by simp only [cMay, decide_eq_true_eq, if_neg h] at hm; exact hm.2.2.2
  have b8 : cMix c (w i / 2) (w j / 2) < c 1 := cMix_lt hw
  unfold cCode
  repeat' split
  all_goals omega
