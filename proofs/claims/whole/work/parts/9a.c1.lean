def shG (E : zE) (g : Int) : Prop := E.1 g = (7, 5) ∧ E.1 (g + 1) = (1, 8) ∧ E.1 (g + 2) = (1, 6) ∧ E.1 (g + 3) = (1, 6)
def ptG (m : zM) (g : Int) : Prop := m g 0 = g + 1 ∧ m g 1 = g + 2 ∧ m g 2 = g + 3
theorem l_nextTo (d : Nat) {E : zE} {m : zM} {P : Option zV → zM → Prop} (g : Int) (g0 : 0 < g) (sG : shG E g) (pG : ptG m g) (N : Nat → Nat) (hN : ∀ p, p < 8 → N p < 256) (hn : ∀ p : Nat, p < 8 → m (g + 1) (p : Int) = ((N p : Nat) : Int)) (S : Nat) (hS : S < 256) : ∀ (j : Nat) (p : Nat), (p + j = 8) → (P (some (zI (gUn N S 8 : Nat))) m) → zA zX1_nextTo (d) E E P 4 [zP g, zI (S : Nat), zI (gUn N S p : Nat), zI (p : Nat)] [] m E := by
  intro j
  induction j with
  | zero =>
    intro p hp hP
    have hlt := gUn_lt hN S p (by omega)
    refine z_iload_n dX1_nextTo_4 rfl ?_
    refine z_bipush dX1_nextTo_5 rfl (by decide) ?_
    refine z_icmp_ge (tgt := 33) dX1_nextTo_7 rfl (fun h7 => ?_) (fun h => absurd (by omega) h)
    refine z_iload_n dX1_nextTo_33 rfl ?_
    refine z_iret dX1_nextTo_34 rfl rfl ?_
    rw [show (8 : Nat) = p by omega] at hP
    exact hP
  | succ j ih =>
    intro p hp hP
    have hlt := gUn_lt hN S p (by omega)
    have hNp := hN p (by omega)
    refine z_iload_n dX1_nextTo_4 rfl ?_
    refine z_bipush dX1_nextTo_5 rfl (by decide) ?_
    refine z_icmp_ge (tgt := 33) dX1_nextTo_7 rfl (fun h => absurd h (by omega)) (fun h7 => ?_)
    refine z_iload_n dX1_nextTo_10 rfl ?_
    refine z_iload_n dX1_nextTo_11 rfl ?_
    refine z_ishr dX1_nextTo_12 ?_
    refine z_iconst dX1_nextTo_13 (by decide) ?_
    refine z_iand dX1_nextTo_14 ?_
    rw [zbit (by omega) (by omega)]
    refine z_if_eq (tgt := 27) dX1_nextTo_15 rfl (fun h15 => ?_) (fun h15 => ?_)
    · refine z_inc dX1_nextTo_27 rfl (by omega) ?_
      refine z_goto (tgt := 4) dX1_nextTo_30 rfl ?_
      try dsimp only [zs0, zsI, zsP, zsN, zsJ, zsS, zst2, Nat.reduceAdd]
      rw [show (p : Int) + 1 = ((p + 1 : Nat) : Int) by omega]
      have e : gUn N S (p + 1) = gUn N S p := by show (if _ then _ else _) = _; exact if_neg (zb_0.mp h15)
      rw [← e]
      exact ih (p + 1) (by omega) hP
    · refine z_iload_n dX1_nextTo_18 rfl ?_
      refine z_aload_n dX1_nextTo_19 rfl ?_
      refine z_gP 0 rfl (r := (g + 1)) flX1_9 dX1_nextTo_20 sG.1 rfl pG.1 (by omega) ?_
      refine z_iload_n dX1_nextTo_23 rfl ?_
      refine z_ialv dX1_nextTo_24 sG.2.1 (by omega) (by omega) (hn p (by omega)) ?_
      refine z_ior dX1_nextTo_25 ?_
      rw [zor_N (by omega) (by omega)]
      refine z_ist 2 dX1_nextTo_26 rfl (Nat.le_of_ble_eq_true rfl) ?_
      refine z_inc dX1_nextTo_27 rfl (by omega) ?_
      refine z_goto (tgt := 4) dX1_nextTo_30 rfl ?_
      try dsimp only [zs0, zsI, zsP, zsN, zsJ, zsS, zst2, Nat.reduceAdd]
      rw [show (p : Int) + 1 = ((p + 1 : Nat) : Int) by omega]
      have e : gUn N S (p + 1) = gUn N S p ||| N p := by show (if _ then _ else _) = _; exact if_pos (Classical.byContradiction (fun h => h15 (zb_f h)))
      rw [← e]
      exact ih (p + 1) (by omega) hP

theorem c_nextTo (d : Nat) {E : zE} {m : zM} (g : Int) (g0 : 0 < g) (sG : shG E g) (pG : ptG m g) (N : Nat → Nat) (hN : ∀ p, p < 8 → N p < 256) (hn : ∀ p : Nat, p < 8 → m (g + 1) (p : Int) = ((N p : Nat) : Int)) (S : Nat) (hS : S < 256) : zR zX1_nextTo (d) [zP g, zI (S : Nat)] m E E (fun r m' => r = some (zI (gUn N S 8 : Nat)) ∧ m = m') := by
  refine zR_go [zP g, zI (S : Nat), zN, zN] (by decide +kernel) (Nat.le_of_ble_eq_true rfl) rfl rfl ?_
  refine z_iconst dX1_nextTo_0 (by decide) ?_
  refine z_ist 2 dX1_nextTo_1 rfl (Nat.le_of_ble_eq_true rfl) ?_
  refine z_iconst dX1_nextTo_2 (by decide) ?_
  refine z_ist 3 dX1_nextTo_3 rfl (Nat.le_of_ble_eq_true rfl) ?_
  try dsimp only [zs0, zsI, zsP, zsN, zsJ, zsS, zst2, Nat.reduceAdd]
  exact l_nextTo d g g0 sG pG N hN hn S hS 8 0 (by omega) ⟨rfl, rfl⟩

theorem l_reach (d : Nat) {E : zE} {m : zM} {P : Option zV → zM → Prop} (g : Int) (g0 : 0 < g) (sG : shG E g) (pG : ptG m g) (N : Nat → Nat) (hN : ∀ p, p < 8 → N p < 256) (hn : ∀ p : Nat, p < 8 → m (g + 1) (p : Int) = ((N p : Nat) : Int)) (A W : Nat) (hW : W < 256) : ∀ (j : Nat) (k S F : Nat), (k + j = 8) → (gSt N W A S F) → (F ≠ 0 → k + sUn S 8 ≤ 7) → (∀ S, gRe N W A S → P (some (zI (S : Nat))) m) → zA zX1_reach (d + 1) E E P 10 [zP g, zI (A : Nat), zI (W : Nat), zI (S : Nat), zI (F : Nat), zI (k : Nat)] [] m E := by
  intro j
  induction j with
  | zero =>
    intro k S F hk hs hu hP
    have hS := hs.1
    have hF := hs.2.1
    have hG := gUn_lt hN F 8 (Nat.le_refl _)
    have hGW : gUn N F 8 &&& W < 256 := Nat.lt_of_le_of_lt Nat.and_le_left hG
    have hFr : ((gUn N F 8 &&& W) ^^^ ((gUn N F 8 &&& W) &&& S)) < 256 := Nat.xor_lt_two_pow (n := 8) hGW (Nat.lt_of_le_of_lt Nat.and_le_left hGW)
    refine z_iload dX1_reach_10 rfl ?_
    refine z_bipush dX1_reach_12 rfl (by decide) ?_
    refine z_icmp_ge (tgt := 47) dX1_reach_14 rfl (fun h14 => ?_) (fun h => absurd (by omega) h)
    refine z_iload_n dX1_reach_47 rfl ?_
    refine z_iret dX1_reach_48 rfl rfl ?_
    exact hP S (gSt_end hs (Classical.byContradiction (fun h => by have := hu h; omega)))
  | succ j ih =>
    intro k S F hk hs hu hP
    have hS := hs.1
    have hF := hs.2.1
    have hG := gUn_lt hN F 8 (Nat.le_refl _)
    have hGW : gUn N F 8 &&& W < 256 := Nat.lt_of_le_of_lt Nat.and_le_left hG
    have hFr : ((gUn N F 8 &&& W) ^^^ ((gUn N F 8 &&& W) &&& S)) < 256 := Nat.xor_lt_two_pow (n := 8) hGW (Nat.lt_of_le_of_lt Nat.and_le_left hGW)
    refine z_iload dX1_reach_10 rfl ?_
    refine z_bipush dX1_reach_12 rfl (by decide) ?_
    refine z_icmp_ge (tgt := 47) dX1_reach_14 rfl (fun h => absurd h (by omega)) (fun h14 => ?_)
    refine z_iload dX1_reach_17 rfl ?_
    refine z_if_eq (tgt := 47) dX1_reach_19 rfl (fun h19 => ?_) (fun h19 => ?_)
    · refine z_iload_n dX1_reach_47 rfl ?_
      refine z_iret dX1_reach_48 rfl rfl ?_
      exact hP S (gSt_end hs (by omega))
    · refine z_aload_n dX1_reach_22 rfl ?_
      refine z_iload dX1_reach_23 rfl ?_
      refine z_callV mlX1_41 dX1_reach_25 sG.1 (av := [_]) rfl rfl (Nat.le_of_ble_eq_true rfl) (c_nextTo _ g g0 sG pG N hN hn F hs.2.1) (Nat.le_refl _) (Nat.le_refl _) (Nat.le_refl _) (Nat.le_refl _) ?_
      rintro _ _ ⟨rfl, rfl⟩
      refine z_iload_n dX1_reach_28 rfl ?_
      refine z_iand dX1_reach_29 ?_
      rw [zand_N (by omega)]
      refine z_iload_n dX1_reach_30 rfl ?_
      refine z_iconst dX1_reach_31 (by decide) ?_
      refine z_ixor dX1_reach_32 ?_
      refine z_iand dX1_reach_33 ?_
      rw [zandn_N (by omega) (by omega)]
      refine z_istore dX1_reach_34 (Nat.le_of_ble_eq_true rfl) ?_
      refine z_iload_n dX1_reach_36 rfl ?_
      refine z_iload dX1_reach_37 rfl ?_
      refine z_ior dX1_reach_39 ?_
      rw [zor_N (by omega) (by omega)]
      refine z_ist 3 dX1_reach_40 rfl (Nat.le_of_ble_eq_true rfl) ?_
      refine z_inc dX1_reach_41 rfl (by omega) ?_
      refine z_goto (tgt := 10) dX1_reach_44 rfl ?_
      try dsimp only [zs0, zsI, zsP, zsN, zsJ, zsS, zst2, Nat.reduceAdd]
      rw [show (k : Int) + 1 = ((k + 1 : Nat) : Int) by omega]
      exact ih (k + 1) _ _ (by omega) (gSt_step hN hs) (fun hz => by have := gSt_fresh hz hs.1 hN; have := hu (by omega); omega) hP

theorem c_reach (d : Nat) {E : zE} {m : zM} (g : Int) (g0 : 0 < g) (sG : shG E g) (pG : ptG m g) (N : Nat → Nat) (hN : ∀ p, p < 8 → N p < 256) (hn : ∀ p : Nat, p < 8 → m (g + 1) (p : Int) = ((N p : Nat) : Int)) (A W : Nat) (hA : A < 256) (hW : W < 256) : zR zX1_reach (d + 1) [zP g, zI (A : Nat), zI (W : Nat)] m E E (fun r m' => r = some (zI (gRs N W A : Nat)) ∧ m = m') := by
  refine zR_go [zP g, zI (A : Nat), zI (W : Nat), zN, zN, zN] (by decide +kernel) (Nat.le_of_ble_eq_true rfl) rfl rfl ?_
  refine z_iload_n dX1_reach_0 rfl ?_
  refine z_iload_n dX1_reach_1 rfl ?_
  refine z_iand dX1_reach_2 ?_
  rw [zand_N (by omega)]
  refine z_ist 3 dX1_reach_3 rfl (Nat.le_of_ble_eq_true rfl) ?_
  refine z_iload_n dX1_reach_4 rfl ?_
  refine z_istore dX1_reach_5 (Nat.le_of_ble_eq_true rfl) ?_
  refine z_iconst dX1_reach_7 (by decide) ?_
  refine z_istore dX1_reach_8 (Nat.le_of_ble_eq_true rfl) ?_
  try dsimp only [zs0, zsI, zsP, zsN, zsJ, zsS, zst2, Nat.reduceAdd]
  refine l_reach d g g0 sG pG N hN hn A W hW 8 0 (A &&& W) (A &&& W) (by omega) ?_ (fun hz => ?_) (fun S h => ⟨by rw [gRs_eq h], rfl⟩)
  · refine ⟨Nat.lt_of_le_of_lt Nat.and_le_left hA, Nat.lt_of_le_of_lt Nat.and_le_left hA, fun v hv => hv, fun v hv => hv, (fun v hv => by rw [Nat.testBit_and, Bool.and_eq_true] at hv; exact hv.2), (fun v q q0 q1 q2 => by rw [q1] at q2; cases q2), fun T t1 t2 => t1⟩
  · obtain ⟨x, x1, x2⟩ := nbit_ex hz (Nat.lt_of_le_of_lt Nat.and_le_left hA)
    have := sUn_lt (a := 0) (b := A &&& W) (fun v hv => by rw [Nat.zero_testBit] at hv; cases hv) (v := x) (Nat.zero_testBit x) x2 8 x1
    have h8 : sUn 0 8 = 8 := by decide
    omega
