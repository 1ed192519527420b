/-! every row can be sorted; names out of keys -/
theorem pCnt_list (P : Int → Bool) (f : Int → Int) : ∀ n : Nat, pCnt P f n = ((((List.range n).map (fun i : Nat => f i)).countP P : Nat) : Int)
  | 0 => rfl
  | n + 1 => by
    have ih := pCnt_list P f n
    unfold pCnt at ih ⊢
    rw [zsum_app, ih, zsum_s, zsum_0, Int.zero_add, Int.add_zero, List.range_succ, List.map_append, List.countP_append]
    simp only [List.map_cons, List.map_nil, List.countP_cons, List.countP_nil, Nat.zero_add]
    cases h : P (f n) <;> simp [zb]
theorem lf_list {l : List Int} : (List.range l.length).map (fun i : Nat => lf l i) = l := by
  apply List.ext_getElem?
  intro i
  by_cases h : i < l.length
  · simp [lf, h]
  · rw [List.getElem?_eq_none (by simpa using h), List.getElem?_eq_none (by omega)]
theorem srt_exists (f : Int → Int) (n : Nat) : ∃ g, srt g n ∧ pm g f n := by
  have hlen : (List.mergeSort ((List.range n).map (fun i : Nat => f i)) (fun a b => decide (a ≤ b))).length = n := by simp
  have hp := List.mergeSort_perm ((List.range n).map (fun i : Nat => f i)) (fun a b => decide (a ≤ b))
  have hs := List.pairwise_mergeSort (le := fun a b : Int => decide (a ≤ b)) (fun a b c h1 h2 => by simp at *; omega) (fun a b => by simp; omega) ((List.range n).map (fun i : Nat => f i))
  generalize List.mergeSort ((List.range n).map (fun i : Nat => f i)) (fun a b => decide (a ≤ b)) = l at hlen hp hs
  refine ⟨lf l, fun i j h0 hij hj => ?_, fun P => ?_⟩
  · by_cases e : i = j
    · rw [e]; exact Int.le_refl _
    · have h1 := List.pairwise_iff_getElem.mp hs i.toNat j.toNat (by omega) (by omega) (by omega)
      simp only [decide_eq_true_eq] at h1
      unfold lf
      rw [List.getD_eq_getElem?_getD, List.getD_eq_getElem?_getD, List.getElem?_eq_getElem (by omega), List.getElem?_eq_getElem (by omega)]
      exact h1
  · rw [pCnt_list, pCnt_list, ← hlen, lf_list, hlen, hp.countP_eq]
/-- the codes of a name -/
def uF (key : Int) (h : Nat) : Int → Int := fun k => key / 1024 ^ (h - 1 - k.toNat) % 1024
theorem uF_eq {g : Int → Int} {h : Nat} (hr : ∀ i : Int, 0 ≤ i → i < h → 0 ≤ g i ∧ g i < 1024) {i : Int} (h0 : 0 ≤ i) (hi : i < h) : uF (sPk g h) h i = g i := by
  unfold uF
  have := sPk_at hr i.toNat (by omega)
  rw [show ((i.toNat : Nat) : Int) = i by omega] at this
  exact this
theorem sV_co {c co co' : Int → Int} {L : Nat} (h : ∀ i : Int, 0 ≤ i → i < L → co i = co' i) : sV c co L = sV c co' L := by
  funext pl
  unfold sV
  exact sKey_congr (fun i q1 q2 => by rw [h i q1 q2])
/-- the name of the diagram that a key is of -/
noncomputable def sNM (c : Int → Int) (h : Nat) (key : Int) : Int := sLeast (-1) (sPlc (c 2).toNat (cAlike c) (sV c (uF key h) h) (c 2).toNat 0 0 (fun _ => 0))
/-- a key as sorted codes -/
theorem sKeyOf_row {c w q : Int → Int} {n : Int} {mt : Int → Int} (hw : wfC c) (hl : wfL c w q n) (hf : sFull n.toNat (cMay c w q) mt) : ∃ g, sKeyOf c w q n mt = sPk g (n / 2).toNat ∧ ∀ i : Int, 0 ≤ i → i < (n / 2).toNat → 0 ≤ g i ∧ g i / 100 < c 2 ∧ g i / 10 % 10 < c 2 ∧ g i < 800 := by
  have hlen := sCL_len (code := cCode c w q) hf (k := n.toNat) (Nat.le_refl _)
  have hop := hf.2
  have hb := hl.1
  unfold sOp at hop
  obtain ⟨g, h1, h2⟩ := srt_exists (lf (sCL n.toNat (cCode c w q) mt n.toNat 0)) (n / 2).toNat
  refine ⟨g, sKey_eq h1 h2, pm_all (P := fun v => 0 ≤ v ∧ v / 100 < c 2 ∧ v / 10 % 10 < c 2 ∧ v < 800) (pm_sy h2) (fun i q1 q2 => lf_code hw hl hf q1 (by omega))⟩
