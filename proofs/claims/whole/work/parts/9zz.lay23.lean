/-! all changes of a row's key, and where they lie -/
theorem pl_gPA {c π : Int → Int} : isPl (c 2).toNat (cAlike c) 0 0 π ↔ gPA c π := by
  constructor
  · intro h
    refine gPA_mk (fun x x0 x1 => ?_)
    have a := h.1 x.toNat (by omega) (by omega)
    rw [show ((x.toNat : Nat) : Int) = x by omega] at a
    refine ⟨⟨a.1.1, by omega⟩, a.2.1, fun y y0 y1 e => ?_⟩
    have := h.2 x.toNat y.toNat (by omega) (by omega) (by omega) (by omega) (by rw [show ((x.toNat : Nat) : Int) = x by omega, show ((y.toNat : Nat) : Int) = y by omega]; exact e)
    omega
  · intro h
    refine ⟨fun x _ x1 => ?_, fun x y _ x1 _ y1 e => ?_⟩
    · have a := gPA_at h (show (0 : Int) ≤ (x : Int) by omega) (by omega)
      exact ⟨⟨a.1.1, by omega⟩, a.2.1, Nat.zero_testBit _⟩
    · have := (gPA_at h (show (0 : Int) ≤ (x : Int) by omega) (by omega)).2.2 (y : Int) (by omega) (by omega) e
      omega
def allCh (c : Int → Int) : List Nat := sCh (c 2).toNat (cAlike c) (c 2).toNat 0 0 0
theorem allCh_in {c : Int → Int} (hw : wfC c) {ch : Nat} (h : ch ∈ allCh c) : gPA c (chP ch) ∧ ch < 16777216 := by
  have hc2 := hw.2.2.1
  have := sCh_mem (by omega) (c 2).toNat 0 0 0 ch (by omega) (by decide) h
  have h24 : 2 ^ (3 * (c 2).toNat) ≤ 2 ^ 24 := Nat.pow_le_pow_right (by decide) (by omega)
  exact ⟨pl_gPA.mp this.2.1, by omega⟩
theorem vs_mem {c g : Int → Int} {h : Nat} {v : Int} (hw : wfC c) (hr : ∀ i : Int, 0 ≤ i → i < h → cCodeOk c (g i) = true) : v ∈ (allCh c).map (fun ch => sV c g h (chP ch)) ↔ ∃ π, gPA c π ∧ v = sV c g h π := by
  have hc2 := hw.2.2.1
  rw [List.mem_map]
  constructor
  · rintro ⟨ch, h1, h2⟩
    exact ⟨chP ch, (allCh_in hw h1).1, h2.symm⟩
  · rintro ⟨π, h1, h2⟩
    obtain ⟨ch, m1, m2⟩ := sCh_all (al := cAlike c) (nP := (c 2).toNat) (by omega) (π := π) (c 2).toNat 0 0 0 (by omega) (by decide) (pl_gPA.mpr h1)
    refine ⟨ch, m1, ?_⟩
    rw [h2]
    unfold sV
    refine sKey_congr (fun i i0 i1 => ?_)
    have hg := cCodeOk_rg hw (hr i i0 i1)
    have e : ∀ x : Int, 0 ≤ x → x < c 2 → chP ch x = π x := fun x x0 x1 => by
      have := m2 x.toNat (by omega) (by omega)
      rw [show ((x.toNat : Nat) : Int) = x by omega] at this
      exact this
    exact cImg_congr (e _ (by omega) hg.2.1) (e _ (by omega) hg.2.2.1)
theorem allCh_len {c : Int → Int} (hv : zsum (fun p => zb (c (32 + 9 * p + 1) = 1)) (c 2).toNat 0 ≤ 5) : (allCh c).length ≤ 120 := by
  have h := sCh_len (nP := (c 2).toNat) (al := cAlike c) (vx := fun p => decide (c (32 + 9 * p + 1) = 1)) (fun p q e => by
    rw [cAlike_iff] at e
    exact ⟨decide_eq_true e.1.1, decide_eq_true e.1.2.1⟩) (c 2).toNat 0 0 0 (by omega)
  have e : vfr (c 2).toNat (fun p => decide (c (32 + 9 * p + 1) = 1)) 0 = zsum (fun p => zb (c (32 + 9 * p + 1) = 1)) (c 2).toNat 0 := zsum_congr (fun p _ _ => zb_congr ⟨fun z => of_decide_eq_true z.1, fun z => ⟨decide_eq_true z, Nat.zero_testBit _⟩⟩)
  rw [e] at h
  have h5 := fac_m (show (zsum (fun p => zb (c (32 + 9 * p + 1) = 1)) (c 2).toNat 0).toNat ≤ 5 by omega)
  have e5 : fac 5 = 120 := by decide
  have h6 : ((allCh c).length : Int) ≤ 120 := Int.le_trans h (by rw [← e5]; exact h5)
  omega
/-- every row of the table is a full pairing -/
theorem tP_full {T : zT} (hn : T.2.2.2.toNat ≤ 12) {r : Int → Int} (h : r ∈ tPairs T) : sFull T.2.2.2.toNat (cMay T.1 T.2.1 T.2.2.1) r := by
  refine sLay_full 6 mt0 (fun i i0 i1 z => ?_) ?_ r h
  · unfold mt0 at z
    rw [if_pos (by omega)] at z
    omega
  · have hz : ∀ i : Int, 0 ≤ i → i < T.2.2.2.toNat → mt0 i = -1 := fun i i0 i1 => by unfold mt0; rw [if_pos (by omega)]
    have e1 : sOp mt0 T.2.2.2.toNat = 0 := zsum_z (fun i i0 i1 => zb_f (by rw [hz i i0 (by omega)]; omega))
    have e2 : sFr mt0 T.2.2.2.toNat = zsum (fun _ => 1) T.2.2.2.toNat 0 := zsum_congr (fun i i0 i1 => zb_t (by rw [hz i i0 (by omega)]; decide))
    rw [zsum_k1] at e2
    omega
theorem tP_all {T : zT} (hn : T.2.2.2.toNat ≤ 12) {r : Int → Int} (h : sFull T.2.2.2.toNat (cMay T.1 T.2.1 T.2.2.1) r) : ∃ s ∈ tPairs T, agF T.2.2.2.toNat s r := by
  have hz : ∀ i : Int, 0 ≤ i → i < T.2.2.2.toNat → mt0 i = -1 := fun i i0 i1 => by unfold mt0; rw [if_pos (by omega)]
  refine sLay_all h 6 mt0 (fun x x0 x1 x2 => by rw [hz x x0 x1] at x2; omega) (fun x x0 x1 x2 => by rw [hz x x0 x1] at x2; omega) ?_
  have := sFr_nn mt0 T.2.2.2.toNat
  omega
/-- an image of a row's key is a row's key -/
theorem img_key {c w q π : Int → Int} {n : Int} {r : Int → Int} (hw : wfC c) (hf : isFlat c w q n) (hn : n ≤ 12) (hπ : gPA c π) (h : r ∈ tPairs (c, w, q, n)) : ∃ s ∈ tPairs (c, w, q, n), sKeyOf c w q n s = sV c (lf (sCL n.toNat (cCode c w q) r n.toNat 0)) (n / 2).toNat π := by
  have h12 : n.toNat ≤ 12 := by omega
  obtain ⟨r', a1, a2⟩ := lm_pair hw hf hn hπ (tP_full (T := (c, w, q, n)) h12 h)
  obtain ⟨s, b1, b2⟩ := tP_all (T := (c, w, q, n)) h12 a1
  refine ⟨s, b1, ?_⟩
  rw [← a2]
  unfold sKeyOf
  rw [sCL_cg b2]
